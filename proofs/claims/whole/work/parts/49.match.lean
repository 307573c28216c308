
/-! ===== worthOfWedding, match ===== -/
theorem cs_set {I : Nat → Nat → Int32} {c n p : Nat} {S : Nat → Int32} {K Dt Wl : Nat → Nat} (s : Int32) (hv : cs_v I c n S K Dt Wl) : cs_v (ab_u I (c + 1) p s) c n (va_up S p s) K Dt Wl := by
  obtain ⟨v1, v2, v3⟩ := hv
  refine ⟨by rw [ab_u_ne (by omega)]; exact v1, v2, fun q hq => ?_⟩
  obtain ⟨x1, x2, x3, x4, x5⟩ := v3 q hq
  rw [ab_u_ne (show c + 2 ≠ c + 1 by omega), ab_u_ne (show c + 3 ≠ c + 1 by omega), ab_u_ne (show c + 4 ≠ c + 1 by omega)]
  refine ⟨?_, x2, x3, x4, x5⟩
  by_cases e : q = p
  · subst e; rw [ab_u_at, va_up_at]
  · rw [ab_u_j e, va_up_n e]; exact x1
theorem wow_mem {b : Bool} {j k : Nat} {d : Ld} {S : Nat → Int32} {K D W : Nat → Nat} (h : ab_H) (M : ab_M) (hj : j < d.2.1.length) (hk : k < d.2.1.length) (ejk : ¬ j = k) (hg : pr_Ld h M.2.2 (tB b + 1)) (hd : ld_v M.1 (tB b + 1) d) (h62 : pr_Nm h M.2.2 62) (hc : pr_Cs h M.2.2 49) (hcv : cs_v M.1 49 d.2.1.length S K D W) (c20 : (d_pn d j).2.2.2.length + (d_pn d k).2.2.2.length ≤ 20) : ∃ I1 : Nat → Nat → Int32, pr_C pX2_join [.ref 62, .ref (tB b + 1 + 3 + 3 * j + 1), .ref (tB b + 1 + 3 + 3 * k + 1)] h M (some (.int (pr_b true))) h (I1, M.2.1, M.2.2) ∧ (I1 50 j = S j ∧ I1 50 k = S k) ∧ pr_C pX1_sumOf [.ref (tB b + 1), .ref 62, .int (nI (d_pn d j).1)] h (I1, M.2.1, M.2.2) (some (.int (wJ d j k j))) h (I1, M.2.1, M.2.2) ∧ pr_C pX1_sumOf [.ref (tB b + 1), .ref 62, .int (nI (d_pn d k).1)] h (ab_u I1 50 j (wJ d j k j), M.2.1, M.2.2) (some (.int (wJ d j k k))) h (ab_u I1 50 j (wJ d j k j), M.2.1, M.2.2) ∧ (I1 (tB b + 1 + 3 + 3 * j) 1 = nI (d_pn d j).1 ∧ ab_u I1 50 j (wJ d j k j) (tB b + 1 + 3 + 3 * k) 1 = nI (d_pn d k).1) ∧ pr_C pX0_worthHaving [.ref 49, .int (nI j)] h (ab_u (ab_u I1 50 j (wJ d j k j)) 50 k (wJ d j k k), M.2.1, M.2.2) (some (.int (a_wh (al (wS d S j k) K j) W D d.2.1.length))) h (ab_u (ab_u I1 50 j (wJ d j k j)) 50 k (wJ d j k k), M.2.1, M.2.2) ∧ cs_v (ab_u (ab_u (ab_u (ab_u I1 50 j (wJ d j k j)) 50 k (wJ d j k k)) 50 j (S j)) 50 k (S k)) 49 d.2.1.length S K D W ∧ cl_same M.1 (ab_u (ab_u (ab_u (ab_u I1 50 j (wJ d j k j)) 50 k (wJ d j k k)) 50 j (S j)) 50 k (S k)) := by
  have hb : 63 < tB b + 1 ∨ tB b + 28 ≤ 49 := by cases b <;> decide
  have d8 := hd.2.2.2.2.2.2.2
  have d2 := hd.2.1
  have hon := hg.2.2.2.2.2.2.2
  obtain ⟨-, -, -, -, o4⟩ := hon j (by omega)
  obtain ⟨-, -, -, -, o4'⟩ := hon k (by omega)
  obtain ⟨u1, u2, u3, u4, u5, u6, u7⟩ := d8 j _ (d_pn_at hj)
  obtain ⟨u1', u2', u3', u4', u5', u6', u7'⟩ := d8 k _ (d_pn_at hk)
  have hjn := c_join h M h62 o4 o4' (by omega) (by omega) u7 u7'
  rw [decide_eq_true c20, if_pos c20] at hjn
  have hjv := nm_v_app (n := 62) (o := tB b + 1 + 3 + 3 * k + 1) (by omega) (nm_v_cp (n := 62) (by omega) u7) (nm_v_congr (nm_cp_far (by omega) (by omega)) (nm_cp_far (by omega) (by omega)) u7') c20
  have far1 : ∀ a, a ≠ 62 → a ≠ 62 + 1 → nm_app (nm_cp M.1 62 (tB b + 1 + 3 + 3 * j + 1) (d_pn d j).2.2.2.length) 62 (d_pn d j).2.2.2.length (tB b + 1 + 3 + 3 * k + 1) (d_pn d k).2.2.2.length a = M.1 a := fun a a1 a2 => nm_app_farN a1 a2
  generalize nm_app (nm_cp M.1 62 (tB b + 1 + 3 + 3 * j + 1) (d_pn d j).2.2.2.length) 62 (d_pn d j).2.2.2.length (tB b + 1 + 3 + 3 * k + 1) (d_pn d k).2.2.2.length = I1 at hjn hjv far1
  have hd1 : ld_v I1 (tB b + 1) d := ld_v_congr (fun a _ _ => far1 a (by omega) (by omega)) hd
  have hs1 := c_sumOf (kind := (d_pn d j).1) h (I1, M.2.1, M.2.2) hg hd1 h62 hjv (by omega)
  have hd2 : ld_v (ab_u I1 50 j (wJ d j k j)) (tB b + 1) d := ld_v_congr (fun a _ _ => ab_u_ne (by omega)) hd1
  have hjv2 : nm_v (ab_u I1 50 j (wJ d j k j)) 62 ((d_pn d j).2.2.2 ++ (d_pn d k).2.2.2) := nm_v_congr (ab_u_ne (by omega)) (ab_u_ne (by omega)) hjv
  have hs2 := c_sumOf (kind := (d_pn d k).1) h (ab_u I1 50 j (wJ d j k j), M.2.1, M.2.2) hg hd2 h62 hjv2 (by omega)
  have cv1 : cs_v I1 49 d.2.1.length S K D W := cs_v_congr (fun a _ _ => far1 a (by omega) (by omega)) hcv
  have cv2 := cs_set (p := k) (wJ d j k k) (cs_set (p := j) (wJ d j k j) cv1)
  have hwh := c_worthHaving h (ab_u (ab_u I1 50 j (wJ d j k j)) 50 k (wJ d j k k), M.2.1, M.2.2) hc cv2 hj
  have cv3 := cs_set (p := k) (S k) (cs_set (p := j) (S j) cv2)
  refine ⟨I1, hjn, ⟨(cv1.2.2 j hj).1, (cv1.2.2 k hk).1⟩, hs1, hs2, ⟨by rw [far1 _ (by omega) (by omega)]; exact u1, by rw [ab_u_ne (by omega), far1 _ (by omega) (by omega)]; exact u1'⟩, hwh, cs_v_ext cv3 (fun p hp => ⟨?_, rfl, rfl, rfl⟩), fun a ha => ?_⟩
  · by_cases e1 : p = k
    · subst e1; rw [va_up_at]
    · rw [va_up_n e1]
      by_cases e2 : p = j
      · subst e2; rw [va_up_at]
      · rw [va_up_n e2, va_up_n e1, va_up_n e2]
  · rw [ab_u_ne (by omega), ab_u_ne (by omega), ab_u_ne (by omega), ab_u_ne (by omega), far1 _ (by omega) (by omega)]
set_option maxHeartbeats 4000000 in
theorem c_wow {b : Bool} {X : St} {j k : Nat} (h : ab_H) (M : ab_M) (hl : Lay h M.2.2 b) (hv : cl_v M.1 b X) (hcv : cs_v M.1 49 (x_n X) (x_S X) (x_K X) (x_D X) (x_W X)) (hj : j < x_n X) (hk : k < x_n X) : pr_X pX10_worthOfWedding [.ref 1, .int (nI j), .int (nI k)] h M (fun r M' => r = some (.int (wv X j k)) ∧ M'.2 = M.2 ∧ cs_v M'.1 49 (x_n X) (x_S X) (x_K X) (x_D X) (x_W X) ∧ cl_same M.1 M'.1) := by
  obtain ⟨k1, q0, q1, rc, q3, q4, q5, q6, q7, q8, r9⟩ := id hl.1
  have ht := ly_told hl
  obtain ⟨t0, t1, r0, r1, r2, r3, hg, ⟨ka, kb⟩, ⟨kc, kd⟩, ⟨ke, kf⟩, hnm⟩ := id ht
  obtain ⟨g0, g1, s1, s2, m1, m2, ⟨m3, m4⟩, hon⟩ := id hg
  obtain ⟨hT, hIm, hSh, hTp, hFa, hTo⟩ := id hv
  obtain ⟨hd, v2, v3, v4, v5, v6, v7⟩ := id hT
  obtain ⟨d1, d2, d3, d4, d5, d6, d7, d8⟩ := id hd
  have b0 := tB_ne b
  have hc := hl.2.2.2.2.2.1
  have hb : 49 + 5 < tB b + 1 ∨ tB b + 1 + 27 ≤ 49 := by cases b <;> decide
  have hb2 : 63 < tB b ∧ tB b + 43 ≤ 110 ∨ 5 < tB b ∧ tB b + 43 ≤ 49 := by cases b <;> decide
  have c1 := hc.2.1
  have hj : j < X.1.1.2.1.length := hj
  have hk : k < X.1.1.2.1.length := hk
  have e3 : (nI j).toNatClampNeg = j := nI_clamp (by omega)
  have e4 : (nI k).toNatClampNeg = k := nI_clamp (by omega)
  obtain ⟨y1, y2⟩ := hon j (by omega)
  obtain ⟨o1, o2, o3, o4⟩ := id y2
  obtain ⟨y1', y2'⟩ := hon k (by omega)
  obtain ⟨o1', o2', o3', o4'⟩ := id y2'
  have n1 := o4.2.1
  have n1' := o4'.2.1
  have h62 := hl.2.2.2.2.2.2.2.2
  have n62 := h62.2.1
  have n620 : (62 : Nat) ≠ 0 := by decide
  obtain ⟨u1, u2, u3, u4, u5, u6, u7⟩ := d8 j _ (d_pn_at hj)
  obtain ⟨u1', u2', u3', u4', u5', u6', u7'⟩ := d8 k _ (d_pn_at hk)
  have vi : (24 ≤ ab_k h (tB b + 1 + 2) ∧ ab_k h (tB b + 1 + 2) ≤ 27) ∧ vp_in (nI j) (ab_n h (tB b + 1 + 2)) := ⟨by rw [m3]; decide, by rw [m4]; exact vp_in_nI (by omega) (by decide)⟩
  have vk : (24 ≤ ab_k h (tB b + 1 + 2) ∧ ab_k h (tB b + 1 + 2) ≤ 27) ∧ vp_in (nI k) (ab_n h (tB b + 1 + 2)) := ⟨by rw [m3]; decide, by rw [m4]; exact vp_in_nI (by omega) (by decide)⟩
  obtain ⟨c0, -, cr0, -, -, -, -, ⟨ca, cb⟩, -⟩ := id hc
  have cr0 : M.2.2 49 0 = 50 := cr0
  have ca : ab_k h 50 = 20 := ca
  have wi : vp_in (nI j) (ab_n h 50) := by rw [show ab_n h 50 = 28 from cb]; exact vp_in_nI (by omega) (by decide)
  have wk : vp_in (nI k) (ab_n h 50) := by rw [show ab_n h 50 = 28 from cb]; exact vp_in_nI (by omega) (by decide)
  have hjn := c_join h M h62 o4 o4' (by omega) (by omega) u7 u7'
  unfold wv
  show pr_X _ _ h M (fun r M' => r = some (.int (if j = k ∨ (d_pn X.1.1 j).1 = 1 ∨ (d_pn X.1.1 k).1 = 1 then -4 else _)) ∧ _)
  by_cases ejk : j = k
  · subst ejk
    rw [if_pos (Or.inl rfl)]
    refine pr_seqT (pc' := 29) 16 rfl ⟨⟨⟨⟨⟨⟨⟨⟨⟨⟨⟨⟨⟨⟨⟨⟨trivial, (by first | assumption | (simp only [r9, r0, r1, r2, r3, s1, s2, q0, q1, rc, q3, q4, q5, q6, q7, q8, e3, y1, pr_8_m4, pr_i_1]; first | assumption | decide | exact ⟨by assumption, by assumption⟩ | exact ⟨Or.inl (by assumption), by assumption⟩ | omega) | decide | exact ⟨Or.inl (by assumption), by assumption⟩ | exact ⟨by assumption, by assumption⟩ | omega)⟩, (by first | assumption | (simp only [r9, r0, r1, r2, r3, s1, s2, q0, q1, rc, q3, q4, q5, q6, q7, q8, e3, y1, pr_8_m4, pr_i_1]; first | assumption | decide | exact ⟨by assumption, by assumption⟩ | exact ⟨Or.inl (by assumption), by assumption⟩ | omega) | decide | exact ⟨Or.inl (by assumption), by assumption⟩ | exact ⟨by assumption, by assumption⟩ | omega)⟩, (by first | assumption | (simp only [r9, r0, r1, r2, r3, s1, s2, q0, q1, rc, q3, q4, q5, q6, q7, q8, e3, y1, pr_8_m4, pr_i_1]; first | assumption | decide | exact ⟨by assumption, by assumption⟩ | exact ⟨Or.inl (by assumption), by assumption⟩ | omega) | decide | exact ⟨Or.inl (by assumption), by assumption⟩ | exact ⟨by assumption, by assumption⟩ | omega)⟩, (by first | assumption | (simp only [r9, r0, r1, r2, r3, s1, s2, q0, q1, rc, q3, q4, q5, q6, q7, q8, e3, y1, pr_8_m4, pr_i_1]; first | assumption | decide | exact ⟨by assumption, by assumption⟩ | exact ⟨Or.inl (by assumption), by assumption⟩ | omega) | decide | exact ⟨Or.inl (by assumption), by assumption⟩ | exact ⟨by assumption, by assumption⟩ | omega)⟩, trivial⟩, (by first | assumption | (simp only [r9, r0, r1, r2, r3, s1, s2, q0, q1, rc, q3, q4, q5, q6, q7, q8, e3, y1, pr_8_m4, pr_i_1]; first | assumption | decide | exact ⟨by assumption, by assumption⟩ | exact ⟨Or.inl (by assumption), by assumption⟩ | omega) | decide | exact ⟨Or.inl (by assumption), by assumption⟩ | exact ⟨by assumption, by assumption⟩ | omega)⟩, (by first | assumption | (simp only [r9, r0, r1, r2, r3, s1, s2, q0, q1, rc, q3, q4, q5, q6, q7, q8, e3, y1, pr_8_m4, pr_i_1]; first | assumption | decide | exact ⟨by assumption, by assumption⟩ | exact ⟨Or.inl (by assumption), by assumption⟩ | omega) | decide | exact ⟨Or.inl (by assumption), by assumption⟩ | exact ⟨by assumption, by assumption⟩ | omega)⟩, (by first | assumption | (simp only [r9, r0, r1, r2, r3, s1, s2, q0, q1, rc, q3, q4, q5, q6, q7, q8, e3, y1, pr_8_m4, pr_i_1]; first | assumption | decide | exact ⟨by assumption, by assumption⟩ | exact ⟨Or.inl (by assumption), by assumption⟩ | omega) | decide | exact ⟨Or.inl (by assumption), by assumption⟩ | exact ⟨by assumption, by assumption⟩ | omega)⟩, (by first | assumption | (simp only [r9, r0, r1, r2, r3, s1, s2, q0, q1, rc, q3, q4, q5, q6, q7, q8, e3, y1, pr_8_m4, pr_i_1]; first | assumption | decide | exact ⟨by assumption, by assumption⟩ | exact ⟨Or.inl (by assumption), by assumption⟩ | omega) | decide | exact ⟨Or.inl (by assumption), by assumption⟩ | exact ⟨by assumption, by assumption⟩ | omega)⟩, (by first | assumption | (simp only [r9, r0, r1, r2, r3, s1, s2, q0, q1, rc, q3, q4, q5, q6, q7, q8, e3, y1, pr_8_m4, pr_i_1]; first | assumption | decide | exact ⟨by assumption, by assumption⟩ | exact ⟨Or.inl (by assumption), by assumption⟩ | omega) | decide | exact ⟨Or.inl (by assumption), by assumption⟩ | exact ⟨by assumption, by assumption⟩ | omega)⟩, (by first | assumption | (simp only [r9, r0, r1, r2, r3, s1, s2, q0, q1, rc, q3, q4, q5, q6, q7, q8, e3, y1, pr_8_m4, pr_i_1]; first | assumption | decide | exact ⟨by assumption, by assumption⟩ | exact ⟨Or.inl (by assumption), by assumption⟩ | omega) | decide | exact ⟨Or.inl (by assumption), by assumption⟩ | exact ⟨by assumption, by assumption⟩ | omega)⟩, trivial⟩, (by first | assumption | (simp only [r9, r0, r1, r2, r3, s1, s2, q0, q1, rc, q3, q4, q5, q6, q7, q8, e3, y1, pr_8_m4, pr_i_1]; first | assumption | decide | exact ⟨by assumption, by assumption⟩ | exact ⟨Or.inl (by assumption), by assumption⟩ | omega) | decide | exact ⟨Or.inl (by assumption), by assumption⟩ | exact ⟨by assumption, by assumption⟩ | omega)⟩, (by first | assumption | (simp only [r9, r0, r1, r2, r3, s1, s2, q0, q1, rc, q3, q4, q5, q6, q7, q8, e3, y1, pr_8_m4, pr_i_1]; first | assumption | decide | exact ⟨by assumption, by assumption⟩ | exact ⟨Or.inl (by assumption), by assumption⟩ | omega) | decide | exact ⟨Or.inl (by assumption), by assumption⟩ | exact ⟨by assumption, by assumption⟩ | omega)⟩, trivial⟩, trivial⟩ ?_
    try simp only [r9, r0, r1, r2, r3, s1, s2, q0, q1, rc, q3, q4, q5, q6, q7, q8, e3, y1, pr_8_m4, pr_i_1]
    refine pr_icT rfl (fun h29 => ?_) (fun h29 => ?_)
    · simp only [ab_cmp, pr_8_m4, pr_i_1] at h29
      first
      | contradiction
      | exact absurd trivial h29
      | exact absurd h29 (by decide)
      | exact absurd (Classical.not_not.mp h29) (by decide)
      | exact absurd rfl h29
      | skip
        refine pr_seqT (pc' := 70) 1 rfl ⟨trivial, trivial⟩ ?_
        try simp only [r9, r0, r1, r2, r3, s1, s2, q0, q1, rc, q3, q4, q5, q6, q7, q8, e3, y1, pr_8_m4, pr_i_1]
        exact pr_irT rfl trivial (by exact ⟨rfl, rfl, hcv, fun _ _ => rfl⟩)
    · simp only [ab_cmp, pr_8_m4, pr_i_1] at h29
      first
      | contradiction
      | exact absurd trivial h29
      | exact absurd h29 (by decide)
      | exact absurd (Classical.not_not.mp h29) (by decide)
      | exact absurd rfl h29
      | skip
        refine pr_seqT (pc' := 37) 3 rfl ⟨⟨⟨trivial, (by first | assumption | (simp only [r9, r0, r1, r2, r3, s1, s2, q0, q1, rc, q3, q4, q5, q6, q7, q8, e3, y1, pr_8_m4, pr_i_1]; first | assumption | decide | exact ⟨by assumption, by assumption⟩ | exact ⟨Or.inl (by assumption), by assumption⟩ | omega) | decide | exact ⟨Or.inl (by assumption), by assumption⟩ | exact ⟨by assumption, by assumption⟩ | omega)⟩, (by first | assumption | (simp only [r9, r0, r1, r2, r3, s1, s2, q0, q1, rc, q3, q4, q5, q6, q7, q8, e3, y1, pr_8_m4, pr_i_1]; first | assumption | decide | exact ⟨by assumption, by assumption⟩ | exact ⟨Or.inl (by assumption), by assumption⟩ | omega) | decide | exact ⟨Or.inl (by assumption), by assumption⟩ | exact ⟨by assumption, by assumption⟩ | omega)⟩, trivial⟩ ?_
        try simp only [r9, r0, r1, r2, r3, s1, s2, q0, q1, rc, q3, q4, q5, q6, q7, q8, e3, y1, pr_8_m4, pr_i_1]
        refine pr_icT rfl (fun h37 => ?_) (fun h37 => ?_)
        · simp only [ab_cmp, pr_8_m4, pr_i_1] at h37
          first
          | contradiction
          | exact absurd trivial h37
          | exact absurd h37 (by decide)
          | exact absurd (Classical.not_not.mp h37) (by decide)
          | exact absurd rfl h37
          | skip
            refine pr_seqT (pc' := 70) 1 rfl ⟨trivial, trivial⟩ ?_
            try simp only [r9, r0, r1, r2, r3, s1, s2, q0, q1, rc, q3, q4, q5, q6, q7, q8, e3, y1, pr_8_m4, pr_i_1]
            exact pr_irT rfl trivial (by exact ⟨rfl, rfl, hcv, fun _ _ => rfl⟩)
        · simp only [ab_cmp, pr_8_m4, pr_i_1] at h37
          first
          | contradiction
          | exact absurd trivial h37
          | exact absurd h37 (by decide)
          | exact absurd (Classical.not_not.mp h37) (by decide)
          | exact absurd rfl h37
          | skip
            refine pr_seqT (pc' := 46) 3 rfl ⟨⟨⟨trivial, (by first | assumption | (simp only [r9, r0, r1, r2, r3, s1, s2, q0, q1, rc, q3, q4, q5, q6, q7, q8, e3, y1, pr_8_m4, pr_i_1]; first | assumption | decide | exact ⟨by assumption, by assumption⟩ | exact ⟨Or.inl (by assumption), by assumption⟩ | omega) | decide | exact ⟨Or.inl (by assumption), by assumption⟩ | exact ⟨by assumption, by assumption⟩ | omega)⟩, (by first | assumption | (simp only [r9, r0, r1, r2, r3, s1, s2, q0, q1, rc, q3, q4, q5, q6, q7, q8, e3, y1, pr_8_m4, pr_i_1]; first | assumption | decide | exact ⟨by assumption, by assumption⟩ | exact ⟨Or.inl (by assumption), by assumption⟩ | omega) | decide | exact ⟨Or.inl (by assumption), by assumption⟩ | exact ⟨by assumption, by assumption⟩ | omega)⟩, trivial⟩ ?_
            try simp only [r9, r0, r1, r2, r3, s1, s2, q0, q1, rc, q3, q4, q5, q6, q7, q8, e3, y1, pr_8_m4, pr_i_1]
            refine pr_icT rfl (fun h46 => ?_) (fun h46 => ?_)
            · simp only [ab_cmp, pr_8_m4, pr_i_1] at h46
              first
              | contradiction
              | exact absurd trivial h46
              | exact absurd h46 (by decide)
              | exact absurd (Classical.not_not.mp h46) (by decide)
              | exact absurd rfl h46
              | skip
                refine pr_seqT (pc' := 70) 1 rfl ⟨trivial, trivial⟩ ?_
                try simp only [r9, r0, r1, r2, r3, s1, s2, q0, q1, rc, q3, q4, q5, q6, q7, q8, e3, y1, pr_8_m4, pr_i_1]
                exact pr_irT rfl trivial (by exact ⟨rfl, rfl, hcv, fun _ _ => rfl⟩)
            · simp only [ab_cmp, pr_8_m4, pr_i_1] at h46
              first
              | contradiction
              | exact absurd trivial h46
              | exact absurd h46 (by decide)
              | exact absurd (Classical.not_not.mp h46) (by decide)
              | exact absurd rfl h46
              | skip
                refine pr_seqT (pc' := 62) 6 rfl ⟨⟨⟨⟨⟨⟨trivial, (by first | assumption | (simp only [r9, r0, r1, r2, r3, s1, s2, q0, q1, rc, q3, q4, q5, q6, q7, q8, e3, y1, pr_8_m4, pr_i_1]; first | assumption | decide | exact ⟨by assumption, by assumption⟩ | exact ⟨Or.inl (by assumption), by assumption⟩ | omega) | decide | exact ⟨Or.inl (by assumption), by assumption⟩ | exact ⟨by assumption, by assumption⟩ | omega)⟩, (by first | assumption | (simp only [r9, r0, r1, r2, r3, s1, s2, q0, q1, rc, q3, q4, q5, q6, q7, q8, e3, y1, pr_8_m4, pr_i_1]; first | assumption | decide | exact ⟨by assumption, by assumption⟩ | exact ⟨Or.inl (by assumption), by assumption⟩ | omega) | decide | exact ⟨Or.inl (by assumption), by assumption⟩ | exact ⟨by assumption, by assumption⟩ | omega)⟩, (by first | assumption | (simp only [r9, r0, r1, r2, r3, s1, s2, q0, q1, rc, q3, q4, q5, q6, q7, q8, e3, y1, pr_8_m4, pr_i_1]; first | assumption | decide | exact ⟨by assumption, by assumption⟩ | exact ⟨Or.inl (by assumption), by assumption⟩ | omega) | decide | exact ⟨Or.inl (by assumption), by assumption⟩ | exact ⟨by assumption, by assumption⟩ | omega)⟩, (by first | assumption | (simp only [r9, r0, r1, r2, r3, s1, s2, q0, q1, rc, q3, q4, q5, q6, q7, q8, e3, y1, pr_8_m4, pr_i_1]; first | assumption | decide | exact ⟨by assumption, by assumption⟩ | exact ⟨Or.inl (by assumption), by assumption⟩ | omega) | decide | exact ⟨Or.inl (by assumption), by assumption⟩ | exact ⟨by assumption, by assumption⟩ | omega)⟩, (by first | assumption | (simp only [r9, r0, r1, r2, r3, s1, s2, q0, q1, rc, q3, q4, q5, q6, q7, q8, e3, y1, pr_8_m4, pr_i_1]; first | assumption | decide | exact ⟨by assumption, by assumption⟩ | exact ⟨Or.inl (by assumption), by assumption⟩ | omega) | decide | exact ⟨Or.inl (by assumption), by assumption⟩ | exact ⟨by assumption, by assumption⟩ | omega)⟩, (by first | assumption | (simp only [r9, r0, r1, r2, r3, s1, s2, q0, q1, rc, q3, q4, q5, q6, q7, q8, e3, y1, pr_8_m4, pr_i_1]; first | assumption | decide | exact ⟨by assumption, by assumption⟩ | exact ⟨Or.inl (by assumption), by assumption⟩ | omega) | decide | exact ⟨Or.inl (by assumption), by assumption⟩ | exact ⟨by assumption, by assumption⟩ | omega)⟩ ?_
                try simp only [r9, r0, r1, r2, r3, s1, s2, q0, q1, rc, q3, q4, q5, q6, q7, q8, e3, y1, pr_8_m4, pr_i_1]
                fail "no call@62 yX2_join"
  · have njk : ¬ nI j = nI k := nI_ne ejk (by omega) (by omega)
    by_cases cj : (d_pn X.1.1 j).1 = 1
    · rw [if_pos (Or.inr (Or.inl cj))]
      rw [cj] at u1
      have u1 : M.1 (tB b + 1 + 3 + 3 * j) 1 = 1 := u1
      refine pr_seqT (pc' := 29) 16 rfl ⟨⟨⟨⟨⟨⟨⟨⟨⟨⟨⟨⟨⟨⟨⟨⟨trivial, (by first | assumption | (simp only [r9, r0, r1, r2, r3, s1, s2, q0, q1, rc, q3, q4, q5, q6, q7, q8, e3, e4, y1, y1', u1, pr_8_m4, pr_i_1]; first | assumption | decide | exact ⟨by assumption, by assumption⟩ | exact ⟨Or.inl (by assumption), by assumption⟩ | omega) | decide | exact ⟨Or.inl (by assumption), by assumption⟩ | exact ⟨by assumption, by assumption⟩ | omega)⟩, (by first | assumption | (simp only [r9, r0, r1, r2, r3, s1, s2, q0, q1, rc, q3, q4, q5, q6, q7, q8, e3, e4, y1, y1', u1, pr_8_m4, pr_i_1]; first | assumption | decide | exact ⟨by assumption, by assumption⟩ | exact ⟨Or.inl (by assumption), by assumption⟩ | omega) | decide | exact ⟨Or.inl (by assumption), by assumption⟩ | exact ⟨by assumption, by assumption⟩ | omega)⟩, (by first | assumption | (simp only [r9, r0, r1, r2, r3, s1, s2, q0, q1, rc, q3, q4, q5, q6, q7, q8, e3, e4, y1, y1', u1, pr_8_m4, pr_i_1]; first | assumption | decide | exact ⟨by assumption, by assumption⟩ | exact ⟨Or.inl (by assumption), by assumption⟩ | omega) | decide | exact ⟨Or.inl (by assumption), by assumption⟩ | exact ⟨by assumption, by assumption⟩ | omega)⟩, (by first | assumption | (simp only [r9, r0, r1, r2, r3, s1, s2, q0, q1, rc, q3, q4, q5, q6, q7, q8, e3, e4, y1, y1', u1, pr_8_m4, pr_i_1]; first | assumption | decide | exact ⟨by assumption, by assumption⟩ | exact ⟨Or.inl (by assumption), by assumption⟩ | omega) | decide | exact ⟨Or.inl (by assumption), by assumption⟩ | exact ⟨by assumption, by assumption⟩ | omega)⟩, trivial⟩, (by first | assumption | (simp only [r9, r0, r1, r2, r3, s1, s2, q0, q1, rc, q3, q4, q5, q6, q7, q8, e3, e4, y1, y1', u1, pr_8_m4, pr_i_1]; first | assumption | decide | exact ⟨by assumption, by assumption⟩ | exact ⟨Or.inl (by assumption), by assumption⟩ | omega) | decide | exact ⟨Or.inl (by assumption), by assumption⟩ | exact ⟨by assumption, by assumption⟩ | omega)⟩, (by first | assumption | (simp only [r9, r0, r1, r2, r3, s1, s2, q0, q1, rc, q3, q4, q5, q6, q7, q8, e3, e4, y1, y1', u1, pr_8_m4, pr_i_1]; first | assumption | decide | exact ⟨by assumption, by assumption⟩ | exact ⟨Or.inl (by assumption), by assumption⟩ | omega) | decide | exact ⟨Or.inl (by assumption), by assumption⟩ | exact ⟨by assumption, by assumption⟩ | omega)⟩, (by first | assumption | (simp only [r9, r0, r1, r2, r3, s1, s2, q0, q1, rc, q3, q4, q5, q6, q7, q8, e3, e4, y1, y1', u1, pr_8_m4, pr_i_1]; first | assumption | decide | exact ⟨by assumption, by assumption⟩ | exact ⟨Or.inl (by assumption), by assumption⟩ | omega) | decide | exact ⟨Or.inl (by assumption), by assumption⟩ | exact ⟨by assumption, by assumption⟩ | omega)⟩, (by first | assumption | (simp only [r9, r0, r1, r2, r3, s1, s2, q0, q1, rc, q3, q4, q5, q6, q7, q8, e3, e4, y1, y1', u1, pr_8_m4, pr_i_1]; first | assumption | decide | exact ⟨by assumption, by assumption⟩ | exact ⟨Or.inl (by assumption), by assumption⟩ | omega) | decide | exact ⟨Or.inl (by assumption), by assumption⟩ | exact ⟨by assumption, by assumption⟩ | omega)⟩, (by first | assumption | (simp only [r9, r0, r1, r2, r3, s1, s2, q0, q1, rc, q3, q4, q5, q6, q7, q8, e3, e4, y1, y1', u1, pr_8_m4, pr_i_1]; first | assumption | decide | exact ⟨by assumption, by assumption⟩ | exact ⟨Or.inl (by assumption), by assumption⟩ | omega) | decide | exact ⟨Or.inl (by assumption), by assumption⟩ | exact ⟨by assumption, by assumption⟩ | omega)⟩, (by first | assumption | (simp only [r9, r0, r1, r2, r3, s1, s2, q0, q1, rc, q3, q4, q5, q6, q7, q8, e3, e4, y1, y1', u1, pr_8_m4, pr_i_1]; first | assumption | decide | exact ⟨by assumption, by assumption⟩ | exact ⟨Or.inl (by assumption), by assumption⟩ | omega) | decide | exact ⟨Or.inl (by assumption), by assumption⟩ | exact ⟨by assumption, by assumption⟩ | omega)⟩, trivial⟩, (by first | assumption | (simp only [r9, r0, r1, r2, r3, s1, s2, q0, q1, rc, q3, q4, q5, q6, q7, q8, e3, e4, y1, y1', u1, pr_8_m4, pr_i_1]; first | assumption | decide | exact ⟨by assumption, by assumption⟩ | exact ⟨Or.inl (by assumption), by assumption⟩ | omega) | decide | exact ⟨Or.inl (by assumption), by assumption⟩ | exact ⟨by assumption, by assumption⟩ | omega)⟩, (by first | assumption | (simp only [r9, r0, r1, r2, r3, s1, s2, q0, q1, rc, q3, q4, q5, q6, q7, q8, e3, e4, y1, y1', u1, pr_8_m4, pr_i_1]; first | assumption | decide | exact ⟨by assumption, by assumption⟩ | exact ⟨Or.inl (by assumption), by assumption⟩ | omega) | decide | exact ⟨Or.inl (by assumption), by assumption⟩ | exact ⟨by assumption, by assumption⟩ | omega)⟩, trivial⟩, trivial⟩ ?_
      try simp only [r9, r0, r1, r2, r3, s1, s2, q0, q1, rc, q3, q4, q5, q6, q7, q8, e3, e4, y1, y1', u1, pr_8_m4, pr_i_1]
      refine pr_icT rfl (fun h29 => ?_) (fun h29 => ?_)
      · simp only [ab_cmp, pr_8_m4, pr_i_1] at h29
        first
        | contradiction
        | exact absurd trivial h29
        | exact absurd h29 (by decide)
        | exact absurd (Classical.not_not.mp h29) (by decide)
        | skip
          refine pr_seqT (pc' := 70) 1 rfl ⟨trivial, trivial⟩ ?_
          try simp only [r9, r0, r1, r2, r3, s1, s2, q0, q1, rc, q3, q4, q5, q6, q7, q8, e3, e4, y1, y1', u1, pr_8_m4, pr_i_1]
          exact pr_irT rfl trivial (by exact ⟨rfl, rfl, hcv, fun _ _ => rfl⟩)
      · simp only [ab_cmp, pr_8_m4, pr_i_1] at h29
        first
        | contradiction
        | exact absurd trivial h29
        | exact absurd h29 (by decide)
        | exact absurd (Classical.not_not.mp h29) (by decide)
        | skip
          refine pr_seqT (pc' := 37) 3 rfl ⟨⟨⟨trivial, (by first | assumption | (simp only [r9, r0, r1, r2, r3, s1, s2, q0, q1, rc, q3, q4, q5, q6, q7, q8, e3, e4, y1, y1', u1, pr_8_m4, pr_i_1]; first | assumption | decide | exact ⟨by assumption, by assumption⟩ | exact ⟨Or.inl (by assumption), by assumption⟩ | omega) | decide | exact ⟨Or.inl (by assumption), by assumption⟩ | exact ⟨by assumption, by assumption⟩ | omega)⟩, (by first | assumption | (simp only [r9, r0, r1, r2, r3, s1, s2, q0, q1, rc, q3, q4, q5, q6, q7, q8, e3, e4, y1, y1', u1, pr_8_m4, pr_i_1]; first | assumption | decide | exact ⟨by assumption, by assumption⟩ | exact ⟨Or.inl (by assumption), by assumption⟩ | omega) | decide | exact ⟨Or.inl (by assumption), by assumption⟩ | exact ⟨by assumption, by assumption⟩ | omega)⟩, trivial⟩ ?_
          try simp only [r9, r0, r1, r2, r3, s1, s2, q0, q1, rc, q3, q4, q5, q6, q7, q8, e3, e4, y1, y1', u1, pr_8_m4, pr_i_1]
          refine pr_icT rfl (fun h37 => ?_) (fun h37 => ?_)
          · simp only [ab_cmp, pr_8_m4, pr_i_1] at h37
            first
            | contradiction
            | exact absurd trivial h37
            | exact absurd h37 (by decide)
            | exact absurd (Classical.not_not.mp h37) (by decide)
            | skip
              refine pr_seqT (pc' := 70) 1 rfl ⟨trivial, trivial⟩ ?_
              try simp only [r9, r0, r1, r2, r3, s1, s2, q0, q1, rc, q3, q4, q5, q6, q7, q8, e3, e4, y1, y1', u1, pr_8_m4, pr_i_1]
              exact pr_irT rfl trivial (by exact ⟨rfl, rfl, hcv, fun _ _ => rfl⟩)
          · simp only [ab_cmp, pr_8_m4, pr_i_1] at h37
            first
            | contradiction
            | exact absurd trivial h37
            | exact absurd h37 (by decide)
            | exact absurd (Classical.not_not.mp h37) (by decide)
            | skip
              refine pr_seqT (pc' := 46) 3 rfl ⟨⟨⟨trivial, (by first | assumption | (simp only [r9, r0, r1, r2, r3, s1, s2, q0, q1, rc, q3, q4, q5, q6, q7, q8, e3, e4, y1, y1', u1, pr_8_m4, pr_i_1]; first | assumption | decide | exact ⟨by assumption, by assumption⟩ | exact ⟨Or.inl (by assumption), by assumption⟩ | omega) | decide | exact ⟨Or.inl (by assumption), by assumption⟩ | exact ⟨by assumption, by assumption⟩ | omega)⟩, (by first | assumption | (simp only [r9, r0, r1, r2, r3, s1, s2, q0, q1, rc, q3, q4, q5, q6, q7, q8, e3, e4, y1, y1', u1, pr_8_m4, pr_i_1]; first | assumption | decide | exact ⟨by assumption, by assumption⟩ | exact ⟨Or.inl (by assumption), by assumption⟩ | omega) | decide | exact ⟨Or.inl (by assumption), by assumption⟩ | exact ⟨by assumption, by assumption⟩ | omega)⟩, trivial⟩ ?_
              try simp only [r9, r0, r1, r2, r3, s1, s2, q0, q1, rc, q3, q4, q5, q6, q7, q8, e3, e4, y1, y1', u1, pr_8_m4, pr_i_1]
              refine pr_icT rfl (fun h46 => ?_) (fun h46 => ?_)
              · simp only [ab_cmp, pr_8_m4, pr_i_1] at h46
                first
                | contradiction
                | exact absurd trivial h46
                | exact absurd h46 (by decide)
                | exact absurd (Classical.not_not.mp h46) (by decide)
                | skip
                  refine pr_seqT (pc' := 70) 1 rfl ⟨trivial, trivial⟩ ?_
                  try simp only [r9, r0, r1, r2, r3, s1, s2, q0, q1, rc, q3, q4, q5, q6, q7, q8, e3, e4, y1, y1', u1, pr_8_m4, pr_i_1]
                  exact pr_irT rfl trivial (by exact ⟨rfl, rfl, hcv, fun _ _ => rfl⟩)
              · simp only [ab_cmp, pr_8_m4, pr_i_1] at h46
                first
                | contradiction
                | exact absurd trivial h46
                | exact absurd h46 (by decide)
                | exact absurd (Classical.not_not.mp h46) (by decide)
                | skip
                  refine pr_seqT (pc' := 62) 6 rfl ⟨⟨⟨⟨⟨⟨trivial, (by first | assumption | (simp only [r9, r0, r1, r2, r3, s1, s2, q0, q1, rc, q3, q4, q5, q6, q7, q8, e3, e4, y1, y1', u1, pr_8_m4, pr_i_1]; first | assumption | decide | exact ⟨by assumption, by assumption⟩ | exact ⟨Or.inl (by assumption), by assumption⟩ | omega) | decide | exact ⟨Or.inl (by assumption), by assumption⟩ | exact ⟨by assumption, by assumption⟩ | omega)⟩, (by first | assumption | (simp only [r9, r0, r1, r2, r3, s1, s2, q0, q1, rc, q3, q4, q5, q6, q7, q8, e3, e4, y1, y1', u1, pr_8_m4, pr_i_1]; first | assumption | decide | exact ⟨by assumption, by assumption⟩ | exact ⟨Or.inl (by assumption), by assumption⟩ | omega) | decide | exact ⟨Or.inl (by assumption), by assumption⟩ | exact ⟨by assumption, by assumption⟩ | omega)⟩, (by first | assumption | (simp only [r9, r0, r1, r2, r3, s1, s2, q0, q1, rc, q3, q4, q5, q6, q7, q8, e3, e4, y1, y1', u1, pr_8_m4, pr_i_1]; first | assumption | decide | exact ⟨by assumption, by assumption⟩ | exact ⟨Or.inl (by assumption), by assumption⟩ | omega) | decide | exact ⟨Or.inl (by assumption), by assumption⟩ | exact ⟨by assumption, by assumption⟩ | omega)⟩, (by first | assumption | (simp only [r9, r0, r1, r2, r3, s1, s2, q0, q1, rc, q3, q4, q5, q6, q7, q8, e3, e4, y1, y1', u1, pr_8_m4, pr_i_1]; first | assumption | decide | exact ⟨by assumption, by assumption⟩ | exact ⟨Or.inl (by assumption), by assumption⟩ | omega) | decide | exact ⟨Or.inl (by assumption), by assumption⟩ | exact ⟨by assumption, by assumption⟩ | omega)⟩, (by first | assumption | (simp only [r9, r0, r1, r2, r3, s1, s2, q0, q1, rc, q3, q4, q5, q6, q7, q8, e3, e4, y1, y1', u1, pr_8_m4, pr_i_1]; first | assumption | decide | exact ⟨by assumption, by assumption⟩ | exact ⟨Or.inl (by assumption), by assumption⟩ | omega) | decide | exact ⟨Or.inl (by assumption), by assumption⟩ | exact ⟨by assumption, by assumption⟩ | omega)⟩, (by first | assumption | (simp only [r9, r0, r1, r2, r3, s1, s2, q0, q1, rc, q3, q4, q5, q6, q7, q8, e3, e4, y1, y1', u1, pr_8_m4, pr_i_1]; first | assumption | decide | exact ⟨by assumption, by assumption⟩ | exact ⟨Or.inl (by assumption), by assumption⟩ | omega) | decide | exact ⟨Or.inl (by assumption), by assumption⟩ | exact ⟨by assumption, by assumption⟩ | omega)⟩ ?_
                  try simp only [r9, r0, r1, r2, r3, s1, s2, q0, q1, rc, q3, q4, q5, q6, q7, q8, e3, e4, y1, y1', u1, pr_8_m4, pr_i_1]
                  fail "no call@62 yX2_join"
    · have cj' : ¬ nI (d_pn X.1.1 j).1 = 1 := nI_ne (b := 1) cj (by omega) (by decide)
      by_cases ck : (d_pn X.1.1 k).1 = 1
      · rw [if_pos (Or.inr (Or.inr ck))]
        rw [ck] at u1'
        have u1' : M.1 (tB b + 1 + 3 + 3 * k) 1 = 1 := u1'
        refine pr_seqT (pc' := 29) 16 rfl ⟨⟨⟨⟨⟨⟨⟨⟨⟨⟨⟨⟨⟨⟨⟨⟨trivial, (by first | assumption | (simp only [r9, r0, r1, r2, r3, s1, s2, q0, q1, rc, q3, q4, q5, q6, q7, q8, e3, e4, y1, y1', u1, u1', pr_8_m4, pr_i_1]; first | assumption | decide | exact ⟨by assumption, by assumption⟩ | exact ⟨Or.inl (by assumption), by assumption⟩ | omega) | decide | exact ⟨Or.inl (by assumption), by assumption⟩ | exact ⟨by assumption, by assumption⟩ | omega)⟩, (by first | assumption | (simp only [r9, r0, r1, r2, r3, s1, s2, q0, q1, rc, q3, q4, q5, q6, q7, q8, e3, e4, y1, y1', u1, u1', pr_8_m4, pr_i_1]; first | assumption | decide | exact ⟨by assumption, by assumption⟩ | exact ⟨Or.inl (by assumption), by assumption⟩ | omega) | decide | exact ⟨Or.inl (by assumption), by assumption⟩ | exact ⟨by assumption, by assumption⟩ | omega)⟩, (by first | assumption | (simp only [r9, r0, r1, r2, r3, s1, s2, q0, q1, rc, q3, q4, q5, q6, q7, q8, e3, e4, y1, y1', u1, u1', pr_8_m4, pr_i_1]; first | assumption | decide | exact ⟨by assumption, by assumption⟩ | exact ⟨Or.inl (by assumption), by assumption⟩ | omega) | decide | exact ⟨Or.inl (by assumption), by assumption⟩ | exact ⟨by assumption, by assumption⟩ | omega)⟩, (by first | assumption | (simp only [r9, r0, r1, r2, r3, s1, s2, q0, q1, rc, q3, q4, q5, q6, q7, q8, e3, e4, y1, y1', u1, u1', pr_8_m4, pr_i_1]; first | assumption | decide | exact ⟨by assumption, by assumption⟩ | exact ⟨Or.inl (by assumption), by assumption⟩ | omega) | decide | exact ⟨Or.inl (by assumption), by assumption⟩ | exact ⟨by assumption, by assumption⟩ | omega)⟩, trivial⟩, (by first | assumption | (simp only [r9, r0, r1, r2, r3, s1, s2, q0, q1, rc, q3, q4, q5, q6, q7, q8, e3, e4, y1, y1', u1, u1', pr_8_m4, pr_i_1]; first | assumption | decide | exact ⟨by assumption, by assumption⟩ | exact ⟨Or.inl (by assumption), by assumption⟩ | omega) | decide | exact ⟨Or.inl (by assumption), by assumption⟩ | exact ⟨by assumption, by assumption⟩ | omega)⟩, (by first | assumption | (simp only [r9, r0, r1, r2, r3, s1, s2, q0, q1, rc, q3, q4, q5, q6, q7, q8, e3, e4, y1, y1', u1, u1', pr_8_m4, pr_i_1]; first | assumption | decide | exact ⟨by assumption, by assumption⟩ | exact ⟨Or.inl (by assumption), by assumption⟩ | omega) | decide | exact ⟨Or.inl (by assumption), by assumption⟩ | exact ⟨by assumption, by assumption⟩ | omega)⟩, (by first | assumption | (simp only [r9, r0, r1, r2, r3, s1, s2, q0, q1, rc, q3, q4, q5, q6, q7, q8, e3, e4, y1, y1', u1, u1', pr_8_m4, pr_i_1]; first | assumption | decide | exact ⟨by assumption, by assumption⟩ | exact ⟨Or.inl (by assumption), by assumption⟩ | omega) | decide | exact ⟨Or.inl (by assumption), by assumption⟩ | exact ⟨by assumption, by assumption⟩ | omega)⟩, (by first | assumption | (simp only [r9, r0, r1, r2, r3, s1, s2, q0, q1, rc, q3, q4, q5, q6, q7, q8, e3, e4, y1, y1', u1, u1', pr_8_m4, pr_i_1]; first | assumption | decide | exact ⟨by assumption, by assumption⟩ | exact ⟨Or.inl (by assumption), by assumption⟩ | omega) | decide | exact ⟨Or.inl (by assumption), by assumption⟩ | exact ⟨by assumption, by assumption⟩ | omega)⟩, (by first | assumption | (simp only [r9, r0, r1, r2, r3, s1, s2, q0, q1, rc, q3, q4, q5, q6, q7, q8, e3, e4, y1, y1', u1, u1', pr_8_m4, pr_i_1]; first | assumption | decide | exact ⟨by assumption, by assumption⟩ | exact ⟨Or.inl (by assumption), by assumption⟩ | omega) | decide | exact ⟨Or.inl (by assumption), by assumption⟩ | exact ⟨by assumption, by assumption⟩ | omega)⟩, (by first | assumption | (simp only [r9, r0, r1, r2, r3, s1, s2, q0, q1, rc, q3, q4, q5, q6, q7, q8, e3, e4, y1, y1', u1, u1', pr_8_m4, pr_i_1]; first | assumption | decide | exact ⟨by assumption, by assumption⟩ | exact ⟨Or.inl (by assumption), by assumption⟩ | omega) | decide | exact ⟨Or.inl (by assumption), by assumption⟩ | exact ⟨by assumption, by assumption⟩ | omega)⟩, trivial⟩, (by first | assumption | (simp only [r9, r0, r1, r2, r3, s1, s2, q0, q1, rc, q3, q4, q5, q6, q7, q8, e3, e4, y1, y1', u1, u1', pr_8_m4, pr_i_1]; first | assumption | decide | exact ⟨by assumption, by assumption⟩ | exact ⟨Or.inl (by assumption), by assumption⟩ | omega) | decide | exact ⟨Or.inl (by assumption), by assumption⟩ | exact ⟨by assumption, by assumption⟩ | omega)⟩, (by first | assumption | (simp only [r9, r0, r1, r2, r3, s1, s2, q0, q1, rc, q3, q4, q5, q6, q7, q8, e3, e4, y1, y1', u1, u1', pr_8_m4, pr_i_1]; first | assumption | decide | exact ⟨by assumption, by assumption⟩ | exact ⟨Or.inl (by assumption), by assumption⟩ | omega) | decide | exact ⟨Or.inl (by assumption), by assumption⟩ | exact ⟨by assumption, by assumption⟩ | omega)⟩, trivial⟩, trivial⟩ ?_
        try simp only [r9, r0, r1, r2, r3, s1, s2, q0, q1, rc, q3, q4, q5, q6, q7, q8, e3, e4, y1, y1', u1, u1', pr_8_m4, pr_i_1]
        refine pr_icT rfl (fun h29 => ?_) (fun h29 => ?_)
        · simp only [ab_cmp, pr_8_m4, pr_i_1] at h29
          first
          | contradiction
          | exact absurd trivial h29
          | exact absurd h29 (by decide)
          | exact absurd (Classical.not_not.mp h29) (by decide)
          | skip
            refine pr_seqT (pc' := 70) 1 rfl ⟨trivial, trivial⟩ ?_
            try simp only [r9, r0, r1, r2, r3, s1, s2, q0, q1, rc, q3, q4, q5, q6, q7, q8, e3, e4, y1, y1', u1, u1', pr_8_m4, pr_i_1]
            exact pr_irT rfl trivial (by exact ⟨rfl, rfl, hcv, fun _ _ => rfl⟩)
        · simp only [ab_cmp, pr_8_m4, pr_i_1] at h29
          first
          | contradiction
          | exact absurd trivial h29
          | exact absurd h29 (by decide)
          | exact absurd (Classical.not_not.mp h29) (by decide)
          | skip
            refine pr_seqT (pc' := 37) 3 rfl ⟨⟨⟨trivial, (by first | assumption | (simp only [r9, r0, r1, r2, r3, s1, s2, q0, q1, rc, q3, q4, q5, q6, q7, q8, e3, e4, y1, y1', u1, u1', pr_8_m4, pr_i_1]; first | assumption | decide | exact ⟨by assumption, by assumption⟩ | exact ⟨Or.inl (by assumption), by assumption⟩ | omega) | decide | exact ⟨Or.inl (by assumption), by assumption⟩ | exact ⟨by assumption, by assumption⟩ | omega)⟩, (by first | assumption | (simp only [r9, r0, r1, r2, r3, s1, s2, q0, q1, rc, q3, q4, q5, q6, q7, q8, e3, e4, y1, y1', u1, u1', pr_8_m4, pr_i_1]; first | assumption | decide | exact ⟨by assumption, by assumption⟩ | exact ⟨Or.inl (by assumption), by assumption⟩ | omega) | decide | exact ⟨Or.inl (by assumption), by assumption⟩ | exact ⟨by assumption, by assumption⟩ | omega)⟩, trivial⟩ ?_
            try simp only [r9, r0, r1, r2, r3, s1, s2, q0, q1, rc, q3, q4, q5, q6, q7, q8, e3, e4, y1, y1', u1, u1', pr_8_m4, pr_i_1]
            refine pr_icT rfl (fun h37 => ?_) (fun h37 => ?_)
            · simp only [ab_cmp, pr_8_m4, pr_i_1] at h37
              first
              | contradiction
              | exact absurd trivial h37
              | exact absurd h37 (by decide)
              | exact absurd (Classical.not_not.mp h37) (by decide)
              | skip
                refine pr_seqT (pc' := 70) 1 rfl ⟨trivial, trivial⟩ ?_
                try simp only [r9, r0, r1, r2, r3, s1, s2, q0, q1, rc, q3, q4, q5, q6, q7, q8, e3, e4, y1, y1', u1, u1', pr_8_m4, pr_i_1]
                exact pr_irT rfl trivial (by exact ⟨rfl, rfl, hcv, fun _ _ => rfl⟩)
            · simp only [ab_cmp, pr_8_m4, pr_i_1] at h37
              first
              | contradiction
              | exact absurd trivial h37
              | exact absurd h37 (by decide)
              | exact absurd (Classical.not_not.mp h37) (by decide)
              | skip
                refine pr_seqT (pc' := 46) 3 rfl ⟨⟨⟨trivial, (by first | assumption | (simp only [r9, r0, r1, r2, r3, s1, s2, q0, q1, rc, q3, q4, q5, q6, q7, q8, e3, e4, y1, y1', u1, u1', pr_8_m4, pr_i_1]; first | assumption | decide | exact ⟨by assumption, by assumption⟩ | exact ⟨Or.inl (by assumption), by assumption⟩ | omega) | decide | exact ⟨Or.inl (by assumption), by assumption⟩ | exact ⟨by assumption, by assumption⟩ | omega)⟩, (by first | assumption | (simp only [r9, r0, r1, r2, r3, s1, s2, q0, q1, rc, q3, q4, q5, q6, q7, q8, e3, e4, y1, y1', u1, u1', pr_8_m4, pr_i_1]; first | assumption | decide | exact ⟨by assumption, by assumption⟩ | exact ⟨Or.inl (by assumption), by assumption⟩ | omega) | decide | exact ⟨Or.inl (by assumption), by assumption⟩ | exact ⟨by assumption, by assumption⟩ | omega)⟩, trivial⟩ ?_
                try simp only [r9, r0, r1, r2, r3, s1, s2, q0, q1, rc, q3, q4, q5, q6, q7, q8, e3, e4, y1, y1', u1, u1', pr_8_m4, pr_i_1]
                refine pr_icT rfl (fun h46 => ?_) (fun h46 => ?_)
                · simp only [ab_cmp, pr_8_m4, pr_i_1] at h46
                  first
                  | contradiction
                  | exact absurd trivial h46
                  | exact absurd h46 (by decide)
                  | exact absurd (Classical.not_not.mp h46) (by decide)
                  | skip
                    refine pr_seqT (pc' := 70) 1 rfl ⟨trivial, trivial⟩ ?_
                    try simp only [r9, r0, r1, r2, r3, s1, s2, q0, q1, rc, q3, q4, q5, q6, q7, q8, e3, e4, y1, y1', u1, u1', pr_8_m4, pr_i_1]
                    exact pr_irT rfl trivial (by exact ⟨rfl, rfl, hcv, fun _ _ => rfl⟩)
                · simp only [ab_cmp, pr_8_m4, pr_i_1] at h46
                  first
                  | contradiction
                  | exact absurd trivial h46
                  | exact absurd h46 (by decide)
                  | exact absurd (Classical.not_not.mp h46) (by decide)
                  | skip
                    refine pr_seqT (pc' := 62) 6 rfl ⟨⟨⟨⟨⟨⟨trivial, (by first | assumption | (simp only [r9, r0, r1, r2, r3, s1, s2, q0, q1, rc, q3, q4, q5, q6, q7, q8, e3, e4, y1, y1', u1, u1', pr_8_m4, pr_i_1]; first | assumption | decide | exact ⟨by assumption, by assumption⟩ | exact ⟨Or.inl (by assumption), by assumption⟩ | omega) | decide | exact ⟨Or.inl (by assumption), by assumption⟩ | exact ⟨by assumption, by assumption⟩ | omega)⟩, (by first | assumption | (simp only [r9, r0, r1, r2, r3, s1, s2, q0, q1, rc, q3, q4, q5, q6, q7, q8, e3, e4, y1, y1', u1, u1', pr_8_m4, pr_i_1]; first | assumption | decide | exact ⟨by assumption, by assumption⟩ | exact ⟨Or.inl (by assumption), by assumption⟩ | omega) | decide | exact ⟨Or.inl (by assumption), by assumption⟩ | exact ⟨by assumption, by assumption⟩ | omega)⟩, (by first | assumption | (simp only [r9, r0, r1, r2, r3, s1, s2, q0, q1, rc, q3, q4, q5, q6, q7, q8, e3, e4, y1, y1', u1, u1', pr_8_m4, pr_i_1]; first | assumption | decide | exact ⟨by assumption, by assumption⟩ | exact ⟨Or.inl (by assumption), by assumption⟩ | omega) | decide | exact ⟨Or.inl (by assumption), by assumption⟩ | exact ⟨by assumption, by assumption⟩ | omega)⟩, (by first | assumption | (simp only [r9, r0, r1, r2, r3, s1, s2, q0, q1, rc, q3, q4, q5, q6, q7, q8, e3, e4, y1, y1', u1, u1', pr_8_m4, pr_i_1]; first | assumption | decide | exact ⟨by assumption, by assumption⟩ | exact ⟨Or.inl (by assumption), by assumption⟩ | omega) | decide | exact ⟨Or.inl (by assumption), by assumption⟩ | exact ⟨by assumption, by assumption⟩ | omega)⟩, (by first | assumption | (simp only [r9, r0, r1, r2, r3, s1, s2, q0, q1, rc, q3, q4, q5, q6, q7, q8, e3, e4, y1, y1', u1, u1', pr_8_m4, pr_i_1]; first | assumption | decide | exact ⟨by assumption, by assumption⟩ | exact ⟨Or.inl (by assumption), by assumption⟩ | omega) | decide | exact ⟨Or.inl (by assumption), by assumption⟩ | exact ⟨by assumption, by assumption⟩ | omega)⟩, (by first | assumption | (simp only [r9, r0, r1, r2, r3, s1, s2, q0, q1, rc, q3, q4, q5, q6, q7, q8, e3, e4, y1, y1', u1, u1', pr_8_m4, pr_i_1]; first | assumption | decide | exact ⟨by assumption, by assumption⟩ | exact ⟨Or.inl (by assumption), by assumption⟩ | omega) | decide | exact ⟨Or.inl (by assumption), by assumption⟩ | exact ⟨by assumption, by assumption⟩ | omega)⟩ ?_
                    try simp only [r9, r0, r1, r2, r3, s1, s2, q0, q1, rc, q3, q4, q5, q6, q7, q8, e3, e4, y1, y1', u1, u1', pr_8_m4, pr_i_1]
                    fail "no call@62 yX2_join"
      · have ck' : ¬ nI (d_pn X.1.1 k).1 = 1 := nI_ne (b := 1) ck (by omega) (by decide)
        rw [if_neg (by omega)]
        by_cases c20 : (d_pn X.1.1 j).2.2.2.length + (d_pn X.1.1 k).2.2.2.length ≤ 20
        · rw [if_pos c20]
          obtain ⟨I1, hj1, ⟨s1', s2'⟩, hs1, hs2, ⟨z1, z2⟩, hwh, cv4, sm4⟩ := wow_mem (b := b) h M hj hk ejk hg hd h62 hc hcv c20
          refine pr_seqT (pc' := 29) 16 rfl ⟨⟨⟨⟨⟨⟨⟨⟨⟨⟨⟨⟨⟨⟨⟨⟨trivial, (by first | assumption | (simp only [r9, r0, r1, r2, r3, s1, s2, q0, q1, rc, q3, q4, q5, q6, q7, q8, e3, e4, y1, y1', o3, o3', u1, u1', cr0, s1', s2', z1, z2, pr_8_m4, pr_i_1]; first | assumption | decide | exact ⟨by assumption, by assumption⟩ | exact ⟨Or.inl (by assumption), by assumption⟩ | omega) | decide | exact ⟨Or.inl (by assumption), by assumption⟩ | exact ⟨by assumption, by assumption⟩ | omega)⟩, (by first | assumption | (simp only [r9, r0, r1, r2, r3, s1, s2, q0, q1, rc, q3, q4, q5, q6, q7, q8, e3, e4, y1, y1', o3, o3', u1, u1', cr0, s1', s2', z1, z2, pr_8_m4, pr_i_1]; first | assumption | decide | exact ⟨by assumption, by assumption⟩ | exact ⟨Or.inl (by assumption), by assumption⟩ | omega) | decide | exact ⟨Or.inl (by assumption), by assumption⟩ | exact ⟨by assumption, by assumption⟩ | omega)⟩, (by first | assumption | (simp only [r9, r0, r1, r2, r3, s1, s2, q0, q1, rc, q3, q4, q5, q6, q7, q8, e3, e4, y1, y1', o3, o3', u1, u1', cr0, s1', s2', z1, z2, pr_8_m4, pr_i_1]; first | assumption | decide | exact ⟨by assumption, by assumption⟩ | exact ⟨Or.inl (by assumption), by assumption⟩ | omega) | decide | exact ⟨Or.inl (by assumption), by assumption⟩ | exact ⟨by assumption, by assumption⟩ | omega)⟩, (by first | assumption | (simp only [r9, r0, r1, r2, r3, s1, s2, q0, q1, rc, q3, q4, q5, q6, q7, q8, e3, e4, y1, y1', o3, o3', u1, u1', cr0, s1', s2', z1, z2, pr_8_m4, pr_i_1]; first | assumption | decide | exact ⟨by assumption, by assumption⟩ | exact ⟨Or.inl (by assumption), by assumption⟩ | omega) | decide | exact ⟨Or.inl (by assumption), by assumption⟩ | exact ⟨by assumption, by assumption⟩ | omega)⟩, trivial⟩, (by first | assumption | (simp only [r9, r0, r1, r2, r3, s1, s2, q0, q1, rc, q3, q4, q5, q6, q7, q8, e3, e4, y1, y1', o3, o3', u1, u1', cr0, s1', s2', z1, z2, pr_8_m4, pr_i_1]; first | assumption | decide | exact ⟨by assumption, by assumption⟩ | exact ⟨Or.inl (by assumption), by assumption⟩ | omega) | decide | exact ⟨Or.inl (by assumption), by assumption⟩ | exact ⟨by assumption, by assumption⟩ | omega)⟩, (by first | assumption | (simp only [r9, r0, r1, r2, r3, s1, s2, q0, q1, rc, q3, q4, q5, q6, q7, q8, e3, e4, y1, y1', o3, o3', u1, u1', cr0, s1', s2', z1, z2, pr_8_m4, pr_i_1]; first | assumption | decide | exact ⟨by assumption, by assumption⟩ | exact ⟨Or.inl (by assumption), by assumption⟩ | omega) | decide | exact ⟨Or.inl (by assumption), by assumption⟩ | exact ⟨by assumption, by assumption⟩ | omega)⟩, (by first | assumption | (simp only [r9, r0, r1, r2, r3, s1, s2, q0, q1, rc, q3, q4, q5, q6, q7, q8, e3, e4, y1, y1', o3, o3', u1, u1', cr0, s1', s2', z1, z2, pr_8_m4, pr_i_1]; first | assumption | decide | exact ⟨by assumption, by assumption⟩ | exact ⟨Or.inl (by assumption), by assumption⟩ | omega) | decide | exact ⟨Or.inl (by assumption), by assumption⟩ | exact ⟨by assumption, by assumption⟩ | omega)⟩, (by first | assumption | (simp only [r9, r0, r1, r2, r3, s1, s2, q0, q1, rc, q3, q4, q5, q6, q7, q8, e3, e4, y1, y1', o3, o3', u1, u1', cr0, s1', s2', z1, z2, pr_8_m4, pr_i_1]; first | assumption | decide | exact ⟨by assumption, by assumption⟩ | exact ⟨Or.inl (by assumption), by assumption⟩ | omega) | decide | exact ⟨Or.inl (by assumption), by assumption⟩ | exact ⟨by assumption, by assumption⟩ | omega)⟩, (by first | assumption | (simp only [r9, r0, r1, r2, r3, s1, s2, q0, q1, rc, q3, q4, q5, q6, q7, q8, e3, e4, y1, y1', o3, o3', u1, u1', cr0, s1', s2', z1, z2, pr_8_m4, pr_i_1]; first | assumption | decide | exact ⟨by assumption, by assumption⟩ | exact ⟨Or.inl (by assumption), by assumption⟩ | omega) | decide | exact ⟨Or.inl (by assumption), by assumption⟩ | exact ⟨by assumption, by assumption⟩ | omega)⟩, (by first | assumption | (simp only [r9, r0, r1, r2, r3, s1, s2, q0, q1, rc, q3, q4, q5, q6, q7, q8, e3, e4, y1, y1', o3, o3', u1, u1', cr0, s1', s2', z1, z2, pr_8_m4, pr_i_1]; first | assumption | decide | exact ⟨by assumption, by assumption⟩ | exact ⟨Or.inl (by assumption), by assumption⟩ | omega) | decide | exact ⟨Or.inl (by assumption), by assumption⟩ | exact ⟨by assumption, by assumption⟩ | omega)⟩, trivial⟩, (by first | assumption | (simp only [r9, r0, r1, r2, r3, s1, s2, q0, q1, rc, q3, q4, q5, q6, q7, q8, e3, e4, y1, y1', o3, o3', u1, u1', cr0, s1', s2', z1, z2, pr_8_m4, pr_i_1]; first | assumption | decide | exact ⟨by assumption, by assumption⟩ | exact ⟨Or.inl (by assumption), by assumption⟩ | omega) | decide | exact ⟨Or.inl (by assumption), by assumption⟩ | exact ⟨by assumption, by assumption⟩ | omega)⟩, (by first | assumption | (simp only [r9, r0, r1, r2, r3, s1, s2, q0, q1, rc, q3, q4, q5, q6, q7, q8, e3, e4, y1, y1', o3, o3', u1, u1', cr0, s1', s2', z1, z2, pr_8_m4, pr_i_1]; first | assumption | decide | exact ⟨by assumption, by assumption⟩ | exact ⟨Or.inl (by assumption), by assumption⟩ | omega) | decide | exact ⟨Or.inl (by assumption), by assumption⟩ | exact ⟨by assumption, by assumption⟩ | omega)⟩, trivial⟩, trivial⟩ ?_
          try simp only [r9, r0, r1, r2, r3, s1, s2, q0, q1, rc, q3, q4, q5, q6, q7, q8, e3, e4, y1, y1', o3, o3', u1, u1', cr0, s1', s2', z1, z2, pr_8_m4, pr_i_1]
          refine pr_icT rfl (fun h29 => ?_) (fun h29 => ?_)
          · simp only [ab_cmp, pr_8_m4, pr_i_1] at h29
            first
            | contradiction
            | exact absurd trivial h29
            | exact absurd h29 (by decide)
            | exact absurd (Classical.not_not.mp h29) (by decide)
            | skip
              refine pr_seqT (pc' := 70) 1 rfl ⟨trivial, trivial⟩ ?_
              try simp only [r9, r0, r1, r2, r3, s1, s2, q0, q1, rc, q3, q4, q5, q6, q7, q8, e3, e4, y1, y1', o3, o3', u1, u1', cr0, s1', s2', z1, z2, pr_8_m4, pr_i_1]
              exact pr_irT rfl trivial (by first | rfl | (simp only [r9, r0, r1, r2, r3, s1, s2, q0, q1, rc, q3, q4, q5, q6, q7, q8, e3, e4, y1, y1', o3, o3', u1, u1', cr0, s1', s2', z1, z2, pr_8_m4, pr_i_1]; done) | (simp [pr_b, pr_8_m4, pr_i_1, *]; done) | (simp_all [pr_b, pr_8_m4, pr_i_1]; done))
          · simp only [ab_cmp, pr_8_m4, pr_i_1] at h29
            first
            | contradiction
            | exact absurd trivial h29
            | exact absurd h29 (by decide)
            | exact absurd (Classical.not_not.mp h29) (by decide)
            | skip
              refine pr_seqT (pc' := 37) 3 rfl ⟨⟨⟨trivial, (by first | assumption | (simp only [r9, r0, r1, r2, r3, s1, s2, q0, q1, rc, q3, q4, q5, q6, q7, q8, e3, e4, y1, y1', o3, o3', u1, u1', cr0, s1', s2', z1, z2, pr_8_m4, pr_i_1]; first | assumption | decide | exact ⟨by assumption, by assumption⟩ | exact ⟨Or.inl (by assumption), by assumption⟩ | omega) | decide | exact ⟨Or.inl (by assumption), by assumption⟩ | exact ⟨by assumption, by assumption⟩ | omega)⟩, (by first | assumption | (simp only [r9, r0, r1, r2, r3, s1, s2, q0, q1, rc, q3, q4, q5, q6, q7, q8, e3, e4, y1, y1', o3, o3', u1, u1', cr0, s1', s2', z1, z2, pr_8_m4, pr_i_1]; first | assumption | decide | exact ⟨by assumption, by assumption⟩ | exact ⟨Or.inl (by assumption), by assumption⟩ | omega) | decide | exact ⟨Or.inl (by assumption), by assumption⟩ | exact ⟨by assumption, by assumption⟩ | omega)⟩, trivial⟩ ?_
              try simp only [r9, r0, r1, r2, r3, s1, s2, q0, q1, rc, q3, q4, q5, q6, q7, q8, e3, e4, y1, y1', o3, o3', u1, u1', cr0, s1', s2', z1, z2, pr_8_m4, pr_i_1]
              refine pr_icT rfl (fun h37 => ?_) (fun h37 => ?_)
              · simp only [ab_cmp, pr_8_m4, pr_i_1] at h37
                first
                | contradiction
                | exact absurd trivial h37
                | exact absurd h37 (by decide)
                | exact absurd (Classical.not_not.mp h37) (by decide)
                | skip
                  refine pr_seqT (pc' := 70) 1 rfl ⟨trivial, trivial⟩ ?_
                  try simp only [r9, r0, r1, r2, r3, s1, s2, q0, q1, rc, q3, q4, q5, q6, q7, q8, e3, e4, y1, y1', o3, o3', u1, u1', cr0, s1', s2', z1, z2, pr_8_m4, pr_i_1]
                  exact pr_irT rfl trivial (by first | rfl | (simp only [r9, r0, r1, r2, r3, s1, s2, q0, q1, rc, q3, q4, q5, q6, q7, q8, e3, e4, y1, y1', o3, o3', u1, u1', cr0, s1', s2', z1, z2, pr_8_m4, pr_i_1]; done) | (simp [pr_b, pr_8_m4, pr_i_1, *]; done) | (simp_all [pr_b, pr_8_m4, pr_i_1]; done))
              · simp only [ab_cmp, pr_8_m4, pr_i_1] at h37
                first
                | contradiction
                | exact absurd trivial h37
                | exact absurd h37 (by decide)
                | exact absurd (Classical.not_not.mp h37) (by decide)
                | skip
                  refine pr_seqT (pc' := 46) 3 rfl ⟨⟨⟨trivial, (by first | assumption | (simp only [r9, r0, r1, r2, r3, s1, s2, q0, q1, rc, q3, q4, q5, q6, q7, q8, e3, e4, y1, y1', o3, o3', u1, u1', cr0, s1', s2', z1, z2, pr_8_m4, pr_i_1]; first | assumption | decide | exact ⟨by assumption, by assumption⟩ | exact ⟨Or.inl (by assumption), by assumption⟩ | omega) | decide | exact ⟨Or.inl (by assumption), by assumption⟩ | exact ⟨by assumption, by assumption⟩ | omega)⟩, (by first | assumption | (simp only [r9, r0, r1, r2, r3, s1, s2, q0, q1, rc, q3, q4, q5, q6, q7, q8, e3, e4, y1, y1', o3, o3', u1, u1', cr0, s1', s2', z1, z2, pr_8_m4, pr_i_1]; first | assumption | decide | exact ⟨by assumption, by assumption⟩ | exact ⟨Or.inl (by assumption), by assumption⟩ | omega) | decide | exact ⟨Or.inl (by assumption), by assumption⟩ | exact ⟨by assumption, by assumption⟩ | omega)⟩, trivial⟩ ?_
                  try simp only [r9, r0, r1, r2, r3, s1, s2, q0, q1, rc, q3, q4, q5, q6, q7, q8, e3, e4, y1, y1', o3, o3', u1, u1', cr0, s1', s2', z1, z2, pr_8_m4, pr_i_1]
                  refine pr_icT rfl (fun h46 => ?_) (fun h46 => ?_)
                  · simp only [ab_cmp, pr_8_m4, pr_i_1] at h46
                    first
                    | contradiction
                    | exact absurd trivial h46
                    | exact absurd h46 (by decide)
                    | exact absurd (Classical.not_not.mp h46) (by decide)
                    | skip
                      refine pr_seqT (pc' := 70) 1 rfl ⟨trivial, trivial⟩ ?_
                      try simp only [r9, r0, r1, r2, r3, s1, s2, q0, q1, rc, q3, q4, q5, q6, q7, q8, e3, e4, y1, y1', o3, o3', u1, u1', cr0, s1', s2', z1, z2, pr_8_m4, pr_i_1]
                      exact pr_irT rfl trivial (by first | rfl | (simp only [r9, r0, r1, r2, r3, s1, s2, q0, q1, rc, q3, q4, q5, q6, q7, q8, e3, e4, y1, y1', o3, o3', u1, u1', cr0, s1', s2', z1, z2, pr_8_m4, pr_i_1]; done) | (simp [pr_b, pr_8_m4, pr_i_1, *]; done) | (simp_all [pr_b, pr_8_m4, pr_i_1]; done))
                  · simp only [ab_cmp, pr_8_m4, pr_i_1] at h46
                    first
                    | contradiction
                    | exact absurd trivial h46
                    | exact absurd h46 (by decide)
                    | exact absurd (Classical.not_not.mp h46) (by decide)
                    | skip
                      refine pr_seqT (pc' := 62) 6 rfl ⟨⟨⟨⟨⟨⟨trivial, (by first | assumption | (simp only [r9, r0, r1, r2, r3, s1, s2, q0, q1, rc, q3, q4, q5, q6, q7, q8, e3, e4, y1, y1', o3, o3', u1, u1', cr0, s1', s2', z1, z2, pr_8_m4, pr_i_1]; first | assumption | decide | exact ⟨by assumption, by assumption⟩ | exact ⟨Or.inl (by assumption), by assumption⟩ | omega) | decide | exact ⟨Or.inl (by assumption), by assumption⟩ | exact ⟨by assumption, by assumption⟩ | omega)⟩, (by first | assumption | (simp only [r9, r0, r1, r2, r3, s1, s2, q0, q1, rc, q3, q4, q5, q6, q7, q8, e3, e4, y1, y1', o3, o3', u1, u1', cr0, s1', s2', z1, z2, pr_8_m4, pr_i_1]; first | assumption | decide | exact ⟨by assumption, by assumption⟩ | exact ⟨Or.inl (by assumption), by assumption⟩ | omega) | decide | exact ⟨Or.inl (by assumption), by assumption⟩ | exact ⟨by assumption, by assumption⟩ | omega)⟩, (by first | assumption | (simp only [r9, r0, r1, r2, r3, s1, s2, q0, q1, rc, q3, q4, q5, q6, q7, q8, e3, e4, y1, y1', o3, o3', u1, u1', cr0, s1', s2', z1, z2, pr_8_m4, pr_i_1]; first | assumption | decide | exact ⟨by assumption, by assumption⟩ | exact ⟨Or.inl (by assumption), by assumption⟩ | omega) | decide | exact ⟨Or.inl (by assumption), by assumption⟩ | exact ⟨by assumption, by assumption⟩ | omega)⟩, (by first | assumption | (simp only [r9, r0, r1, r2, r3, s1, s2, q0, q1, rc, q3, q4, q5, q6, q7, q8, e3, e4, y1, y1', o3, o3', u1, u1', cr0, s1', s2', z1, z2, pr_8_m4, pr_i_1]; first | assumption | decide | exact ⟨by assumption, by assumption⟩ | exact ⟨Or.inl (by assumption), by assumption⟩ | omega) | decide | exact ⟨Or.inl (by assumption), by assumption⟩ | exact ⟨by assumption, by assumption⟩ | omega)⟩, (by first | assumption | (simp only [r9, r0, r1, r2, r3, s1, s2, q0, q1, rc, q3, q4, q5, q6, q7, q8, e3, e4, y1, y1', o3, o3', u1, u1', cr0, s1', s2', z1, z2, pr_8_m4, pr_i_1]; first | assumption | decide | exact ⟨by assumption, by assumption⟩ | exact ⟨Or.inl (by assumption), by assumption⟩ | omega) | decide | exact ⟨Or.inl (by assumption), by assumption⟩ | exact ⟨by assumption, by assumption⟩ | omega)⟩, (by first | assumption | (simp only [r9, r0, r1, r2, r3, s1, s2, q0, q1, rc, q3, q4, q5, q6, q7, q8, e3, e4, y1, y1', o3, o3', u1, u1', cr0, s1', s2', z1, z2, pr_8_m4, pr_i_1]; first | assumption | decide | exact ⟨by assumption, by assumption⟩ | exact ⟨Or.inl (by assumption), by assumption⟩ | omega) | decide | exact ⟨Or.inl (by assumption), by assumption⟩ | exact ⟨by assumption, by assumption⟩ | omega)⟩ ?_
                      try simp only [r9, r0, r1, r2, r3, s1, s2, q0, q1, rc, q3, q4, q5, q6, q7, q8, e3, e4, y1, y1', o3, o3', u1, u1', cr0, s1', s2', z1, z2, pr_8_m4, pr_i_1]
                      refine pr_cvT [_, _] rfl rfl rfl rfl rfl (Nat.le_of_ble_eq_true rfl) (by first | assumption | (simp only [r9, r0, r1, r2, r3, s1, s2, q0, q1, rc, q3, q4, q5, q6, q7, q8, e3, e4, y1, y1', o3, o3', u1, u1', cr0, s1', s2', z1, z2, pr_8_m4, pr_i_1]; first | assumption | decide | exact ⟨by assumption, by assumption⟩ | exact ⟨Or.inl (by assumption), by assumption⟩ | omega) | decide | exact ⟨Or.inl (by assumption), by assumption⟩ | exact ⟨by assumption, by assumption⟩ | omega) (Nat.le_of_ble_eq_true rfl) (hj1) ?_
                      refine pr_ifT rfl (fun h65 => ?_) (fun h65 => ?_)
                      · simp only [ab_cmp, pr_8_m4, pr_i_1] at h65
                        first
                        | contradiction
                        | exact absurd trivial h65
                        | exact absurd h65 (by decide)
                        | exact absurd (Classical.not_not.mp h65) (by decide)
                        | skip
                          refine pr_seqT (pc' := 116) 23 rfl ⟨⟨⟨⟨⟨⟨⟨⟨⟨⟨⟨⟨⟨⟨⟨⟨⟨⟨⟨⟨⟨⟨⟨trivial, (by first | assumption | (simp only [r9, r0, r1, r2, r3, s1, s2, q0, q1, rc, q3, q4, q5, q6, q7, q8, e3, e4, y1, y1', o3, o3', u1, u1', cr0, s1', s2', z1, z2, pr_8_m4, pr_i_1]; first | assumption | decide | exact ⟨by assumption, by assumption⟩ | exact ⟨Or.inl (by assumption), by assumption⟩ | omega) | decide | exact ⟨Or.inl (by assumption), by assumption⟩ | exact ⟨by assumption, by assumption⟩ | omega)⟩, (by first | assumption | (simp only [r9, r0, r1, r2, r3, s1, s2, q0, q1, rc, q3, q4, q5, q6, q7, q8, e3, e4, y1, y1', o3, o3', u1, u1', cr0, s1', s2', z1, z2, pr_8_m4, pr_i_1]; first | assumption | decide | exact ⟨by assumption, by assumption⟩ | exact ⟨Or.inl (by assumption), by assumption⟩ | omega) | decide | exact ⟨Or.inl (by assumption), by assumption⟩ | exact ⟨by assumption, by assumption⟩ | omega)⟩, (by first | assumption | (simp only [r9, r0, r1, r2, r3, s1, s2, q0, q1, rc, q3, q4, q5, q6, q7, q8, e3, e4, y1, y1', o3, o3', u1, u1', cr0, s1', s2', z1, z2, pr_8_m4, pr_i_1]; first | assumption | decide | exact ⟨by assumption, by assumption⟩ | exact ⟨Or.inl (by assumption), by assumption⟩ | omega) | decide | exact ⟨Or.inl (by assumption), by assumption⟩ | exact ⟨by assumption, by assumption⟩ | omega)⟩, trivial⟩, (by first | assumption | (simp only [r9, r0, r1, r2, r3, s1, s2, q0, q1, rc, q3, q4, q5, q6, q7, q8, e3, e4, y1, y1', o3, o3', u1, u1', cr0, s1', s2', z1, z2, pr_8_m4, pr_i_1]; first | assumption | decide | exact ⟨by assumption, by assumption⟩ | exact ⟨Or.inl (by assumption), by assumption⟩ | omega) | decide | exact ⟨Or.inl (by assumption), by assumption⟩ | exact ⟨by assumption, by assumption⟩ | omega)⟩, trivial⟩, (by first | assumption | (simp only [r9, r0, r1, r2, r3, s1, s2, q0, q1, rc, q3, q4, q5, q6, q7, q8, e3, e4, y1, y1', o3, o3', u1, u1', cr0, s1', s2', z1, z2, pr_8_m4, pr_i_1]; first | assumption | decide | exact ⟨by assumption, by assumption⟩ | exact ⟨Or.inl (by assumption), by assumption⟩ | omega) | decide | exact ⟨Or.inl (by assumption), by assumption⟩ | exact ⟨by assumption, by assumption⟩ | omega)⟩, (by first | assumption | (simp only [r9, r0, r1, r2, r3, s1, s2, q0, q1, rc, q3, q4, q5, q6, q7, q8, e3, e4, y1, y1', o3, o3', u1, u1', cr0, s1', s2', z1, z2, pr_8_m4, pr_i_1]; first | assumption | decide | exact ⟨by assumption, by assumption⟩ | exact ⟨Or.inl (by assumption), by assumption⟩ | omega) | decide | exact ⟨Or.inl (by assumption), by assumption⟩ | exact ⟨by assumption, by assumption⟩ | omega)⟩, (by first | assumption | (simp only [r9, r0, r1, r2, r3, s1, s2, q0, q1, rc, q3, q4, q5, q6, q7, q8, e3, e4, y1, y1', o3, o3', u1, u1', cr0, s1', s2', z1, z2, pr_8_m4, pr_i_1]; first | assumption | decide | exact ⟨by assumption, by assumption⟩ | exact ⟨Or.inl (by assumption), by assumption⟩ | omega) | decide | exact ⟨Or.inl (by assumption), by assumption⟩ | exact ⟨by assumption, by assumption⟩ | omega)⟩, trivial⟩, (by first | assumption | (simp only [r9, r0, r1, r2, r3, s1, s2, q0, q1, rc, q3, q4, q5, q6, q7, q8, e3, e4, y1, y1', o3, o3', u1, u1', cr0, s1', s2', z1, z2, pr_8_m4, pr_i_1]; first | assumption | decide | exact ⟨by assumption, by assumption⟩ | exact ⟨Or.inl (by assumption), by assumption⟩ | omega) | decide | exact ⟨Or.inl (by assumption), by assumption⟩ | exact ⟨by assumption, by assumption⟩ | omega)⟩, trivial⟩, (by first | assumption | (simp only [r9, r0, r1, r2, r3, s1, s2, q0, q1, rc, q3, q4, q5, q6, q7, q8, e3, e4, y1, y1', o3, o3', u1, u1', cr0, s1', s2', z1, z2, pr_8_m4, pr_i_1]; first | assumption | decide | exact ⟨by assumption, by assumption⟩ | exact ⟨Or.inl (by assumption), by assumption⟩ | omega) | decide | exact ⟨Or.inl (by assumption), by assumption⟩ | exact ⟨by assumption, by assumption⟩ | omega)⟩, (by first | assumption | (simp only [r9, r0, r1, r2, r3, s1, s2, q0, q1, rc, q3, q4, q5, q6, q7, q8, e3, e4, y1, y1', o3, o3', u1, u1', cr0, s1', s2', z1, z2, pr_8_m4, pr_i_1]; first | assumption | decide | exact ⟨by assumption, by assumption⟩ | exact ⟨Or.inl (by assumption), by assumption⟩ | omega) | decide | exact ⟨Or.inl (by assumption), by assumption⟩ | exact ⟨by assumption, by assumption⟩ | omega)⟩, (by first | assumption | (simp only [r9, r0, r1, r2, r3, s1, s2, q0, q1, rc, q3, q4, q5, q6, q7, q8, e3, e4, y1, y1', o3, o3', u1, u1', cr0, s1', s2', z1, z2, pr_8_m4, pr_i_1]; first | assumption | decide | exact ⟨by assumption, by assumption⟩ | exact ⟨Or.inl (by assumption), by assumption⟩ | omega) | decide | exact ⟨Or.inl (by assumption), by assumption⟩ | exact ⟨by assumption, by assumption⟩ | omega)⟩, trivial⟩, (by first | assumption | (simp only [r9, r0, r1, r2, r3, s1, s2, q0, q1, rc, q3, q4, q5, q6, q7, q8, e3, e4, y1, y1', o3, o3', u1, u1', cr0, s1', s2', z1, z2, pr_8_m4, pr_i_1]; first | assumption | decide | exact ⟨by assumption, by assumption⟩ | exact ⟨Or.inl (by assumption), by assumption⟩ | omega) | decide | exact ⟨Or.inl (by assumption), by assumption⟩ | exact ⟨by assumption, by assumption⟩ | omega)⟩, (by first | assumption | (simp only [r9, r0, r1, r2, r3, s1, s2, q0, q1, rc, q3, q4, q5, q6, q7, q8, e3, e4, y1, y1', o3, o3', u1, u1', cr0, s1', s2', z1, z2, pr_8_m4, pr_i_1]; first | assumption | decide | exact ⟨by assumption, by assumption⟩ | exact ⟨Or.inl (by assumption), by assumption⟩ | omega) | decide | exact ⟨Or.inl (by assumption), by assumption⟩ | exact ⟨by assumption, by assumption⟩ | omega)⟩, (by first | assumption | (simp only [r9, r0, r1, r2, r3, s1, s2, q0, q1, rc, q3, q4, q5, q6, q7, q8, e3, e4, y1, y1', o3, o3', u1, u1', cr0, s1', s2', z1, z2, pr_8_m4, pr_i_1]; first | assumption | decide | exact ⟨by assumption, by assumption⟩ | exact ⟨Or.inl (by assumption), by assumption⟩ | omega) | decide | exact ⟨Or.inl (by assumption), by assumption⟩ | exact ⟨by assumption, by assumption⟩ | omega)⟩, (by first | assumption | (simp only [r9, r0, r1, r2, r3, s1, s2, q0, q1, rc, q3, q4, q5, q6, q7, q8, e3, e4, y1, y1', o3, o3', u1, u1', cr0, s1', s2', z1, z2, pr_8_m4, pr_i_1]; first | assumption | decide | exact ⟨by assumption, by assumption⟩ | exact ⟨Or.inl (by assumption), by assumption⟩ | omega) | decide | exact ⟨Or.inl (by assumption), by assumption⟩ | exact ⟨by assumption, by assumption⟩ | omega)⟩, (by first | assumption | (simp only [r9, r0, r1, r2, r3, s1, s2, q0, q1, rc, q3, q4, q5, q6, q7, q8, e3, e4, y1, y1', o3, o3', u1, u1', cr0, s1', s2', z1, z2, pr_8_m4, pr_i_1]; first | assumption | decide | exact ⟨by assumption, by assumption⟩ | exact ⟨Or.inl (by assumption), by assumption⟩ | omega) | decide | exact ⟨Or.inl (by assumption), by assumption⟩ | exact ⟨by assumption, by assumption⟩ | omega)⟩, (by first | assumption | (simp only [r9, r0, r1, r2, r3, s1, s2, q0, q1, rc, q3, q4, q5, q6, q7, q8, e3, e4, y1, y1', o3, o3', u1, u1', cr0, s1', s2', z1, z2, pr_8_m4, pr_i_1]; first | assumption | decide | exact ⟨by assumption, by assumption⟩ | exact ⟨Or.inl (by assumption), by assumption⟩ | omega) | decide | exact ⟨Or.inl (by assumption), by assumption⟩ | exact ⟨by assumption, by assumption⟩ | omega)⟩, (by first | assumption | (simp only [r9, r0, r1, r2, r3, s1, s2, q0, q1, rc, q3, q4, q5, q6, q7, q8, e3, e4, y1, y1', o3, o3', u1, u1', cr0, s1', s2', z1, z2, pr_8_m4, pr_i_1]; first | assumption | decide | exact ⟨by assumption, by assumption⟩ | exact ⟨Or.inl (by assumption), by assumption⟩ | omega) | decide | exact ⟨Or.inl (by assumption), by assumption⟩ | exact ⟨by assumption, by assumption⟩ | omega)⟩ ?_
                          try simp only [r9, r0, r1, r2, r3, s1, s2, q0, q1, rc, q3, q4, q5, q6, q7, q8, e3, e4, y1, y1', o3, o3', u1, u1', cr0, s1', s2', z1, z2, pr_8_m4, pr_i_1]
                          refine pr_cvT [_, _] rfl rfl rfl rfl rfl (Nat.le_of_ble_eq_true rfl) (by first | assumption | (simp only [r9, r0, r1, r2, r3, s1, s2, q0, q1, rc, q3, q4, q5, q6, q7, q8, e3, e4, y1, y1', o3, o3', u1, u1', cr0, s1', s2', z1, z2, pr_8_m4, pr_i_1]; first | assumption | decide | exact ⟨by assumption, by assumption⟩ | exact ⟨Or.inl (by assumption), by assumption⟩ | omega) | decide | exact ⟨Or.inl (by assumption), by assumption⟩ | exact ⟨by assumption, by assumption⟩ | omega) (Nat.le_of_ble_eq_true rfl) (hs1) ?_
                          refine pr_seqT (pc' := 144) 12 rfl ⟨⟨⟨⟨⟨⟨⟨⟨⟨⟨⟨⟨trivial, (by first | assumption | (simp only [r9, r0, r1, r2, r3, s1, s2, q0, q1, rc, q3, q4, q5, q6, q7, q8, e3, e4, y1, y1', o3, o3', u1, u1', cr0, s1', s2', z1, z2, pr_8_m4, pr_i_1]; first | assumption | decide | exact ⟨by assumption, by assumption⟩ | exact ⟨Or.inl (by assumption), by assumption⟩ | omega) | decide | exact ⟨Or.inl (by assumption), by assumption⟩ | exact ⟨by assumption, by assumption⟩ | omega)⟩, (by first | assumption | (simp only [r9, r0, r1, r2, r3, s1, s2, q0, q1, rc, q3, q4, q5, q6, q7, q8, e3, e4, y1, y1', o3, o3', u1, u1', cr0, s1', s2', z1, z2, pr_8_m4, pr_i_1]; first | assumption | decide | exact ⟨by assumption, by assumption⟩ | exact ⟨Or.inl (by assumption), by assumption⟩ | omega) | decide | exact ⟨Or.inl (by assumption), by assumption⟩ | exact ⟨by assumption, by assumption⟩ | omega)⟩, (by first | assumption | (simp only [r9, r0, r1, r2, r3, s1, s2, q0, q1, rc, q3, q4, q5, q6, q7, q8, e3, e4, y1, y1', o3, o3', u1, u1', cr0, s1', s2', z1, z2, pr_8_m4, pr_i_1]; first | assumption | decide | exact ⟨by assumption, by assumption⟩ | exact ⟨Or.inl (by assumption), by assumption⟩ | omega) | decide | exact ⟨Or.inl (by assumption), by assumption⟩ | exact ⟨by assumption, by assumption⟩ | omega)⟩, (by first | assumption | (simp only [r9, r0, r1, r2, r3, s1, s2, q0, q1, rc, q3, q4, q5, q6, q7, q8, e3, e4, y1, y1', o3, o3', u1, u1', cr0, s1', s2', z1, z2, pr_8_m4, pr_i_1]; first | assumption | decide | exact ⟨by assumption, by assumption⟩ | exact ⟨Or.inl (by assumption), by assumption⟩ | omega) | decide | exact ⟨Or.inl (by assumption), by assumption⟩ | exact ⟨by assumption, by assumption⟩ | omega)⟩, trivial⟩, (by first | assumption | (simp only [r9, r0, r1, r2, r3, s1, s2, q0, q1, rc, q3, q4, q5, q6, q7, q8, e3, e4, y1, y1', o3, o3', u1, u1', cr0, s1', s2', z1, z2, pr_8_m4, pr_i_1]; first | assumption | decide | exact ⟨by assumption, by assumption⟩ | exact ⟨Or.inl (by assumption), by assumption⟩ | omega) | decide | exact ⟨Or.inl (by assumption), by assumption⟩ | exact ⟨by assumption, by assumption⟩ | omega)⟩, (by first | assumption | (simp only [r9, r0, r1, r2, r3, s1, s2, q0, q1, rc, q3, q4, q5, q6, q7, q8, e3, e4, y1, y1', o3, o3', u1, u1', cr0, s1', s2', z1, z2, pr_8_m4, pr_i_1]; first | assumption | decide | exact ⟨by assumption, by assumption⟩ | exact ⟨Or.inl (by assumption), by assumption⟩ | omega) | decide | exact ⟨Or.inl (by assumption), by assumption⟩ | exact ⟨by assumption, by assumption⟩ | omega)⟩, (by first | assumption | (simp only [r9, r0, r1, r2, r3, s1, s2, q0, q1, rc, q3, q4, q5, q6, q7, q8, e3, e4, y1, y1', o3, o3', u1, u1', cr0, s1', s2', z1, z2, pr_8_m4, pr_i_1]; first | assumption | decide | exact ⟨by assumption, by assumption⟩ | exact ⟨Or.inl (by assumption), by assumption⟩ | omega) | decide | exact ⟨Or.inl (by assumption), by assumption⟩ | exact ⟨by assumption, by assumption⟩ | omega)⟩, (by first | assumption | (simp only [r9, r0, r1, r2, r3, s1, s2, q0, q1, rc, q3, q4, q5, q6, q7, q8, e3, e4, y1, y1', o3, o3', u1, u1', cr0, s1', s2', z1, z2, pr_8_m4, pr_i_1]; first | assumption | decide | exact ⟨by assumption, by assumption⟩ | exact ⟨Or.inl (by assumption), by assumption⟩ | omega) | decide | exact ⟨Or.inl (by assumption), by assumption⟩ | exact ⟨by assumption, by assumption⟩ | omega)⟩, (by first | assumption | (simp only [r9, r0, r1, r2, r3, s1, s2, q0, q1, rc, q3, q4, q5, q6, q7, q8, e3, e4, y1, y1', o3, o3', u1, u1', cr0, s1', s2', z1, z2, pr_8_m4, pr_i_1]; first | assumption | decide | exact ⟨by assumption, by assumption⟩ | exact ⟨Or.inl (by assumption), by assumption⟩ | omega) | decide | exact ⟨Or.inl (by assumption), by assumption⟩ | exact ⟨by assumption, by assumption⟩ | omega)⟩, (by first | assumption | (simp only [r9, r0, r1, r2, r3, s1, s2, q0, q1, rc, q3, q4, q5, q6, q7, q8, e3, e4, y1, y1', o3, o3', u1, u1', cr0, s1', s2', z1, z2, pr_8_m4, pr_i_1]; first | assumption | decide | exact ⟨by assumption, by assumption⟩ | exact ⟨Or.inl (by assumption), by assumption⟩ | omega) | decide | exact ⟨Or.inl (by assumption), by assumption⟩ | exact ⟨by assumption, by assumption⟩ | omega)⟩, (by first | assumption | (simp only [r9, r0, r1, r2, r3, s1, s2, q0, q1, rc, q3, q4, q5, q6, q7, q8, e3, e4, y1, y1', o3, o3', u1, u1', cr0, s1', s2', z1, z2, pr_8_m4, pr_i_1]; first | assumption | decide | exact ⟨by assumption, by assumption⟩ | exact ⟨Or.inl (by assumption), by assumption⟩ | omega) | decide | exact ⟨Or.inl (by assumption), by assumption⟩ | exact ⟨by assumption, by assumption⟩ | omega)⟩ ?_
                          try simp only [r9, r0, r1, r2, r3, s1, s2, q0, q1, rc, q3, q4, q5, q6, q7, q8, e3, e4, y1, y1', o3, o3', u1, u1', cr0, s1', s2', z1, z2, pr_8_m4, pr_i_1]
                          refine pr_cvT [_, _] rfl rfl rfl rfl rfl (Nat.le_of_ble_eq_true rfl) (by first | assumption | (simp only [r9, r0, r1, r2, r3, s1, s2, q0, q1, rc, q3, q4, q5, q6, q7, q8, e3, e4, y1, y1', o3, o3', u1, u1', cr0, s1', s2', z1, z2, pr_8_m4, pr_i_1]; first | assumption | decide | exact ⟨by assumption, by assumption⟩ | exact ⟨Or.inl (by assumption), by assumption⟩ | omega) | decide | exact ⟨Or.inl (by assumption), by assumption⟩ | exact ⟨by assumption, by assumption⟩ | omega) (Nat.le_of_ble_eq_true rfl) (hs2) ?_
                          refine pr_seqT (pc' := 153) 4 rfl ⟨⟨⟨⟨trivial, (by first | assumption | (simp only [r9, r0, r1, r2, r3, s1, s2, q0, q1, rc, q3, q4, q5, q6, q7, q8, e3, e4, y1, y1', o3, o3', u1, u1', cr0, s1', s2', z1, z2, pr_8_m4, pr_i_1]; first | assumption | decide | exact ⟨by assumption, by assumption⟩ | exact ⟨Or.inl (by assumption), by assumption⟩ | omega) | decide | exact ⟨Or.inl (by assumption), by assumption⟩ | exact ⟨by assumption, by assumption⟩ | omega)⟩, (by first | assumption | (simp only [r9, r0, r1, r2, r3, s1, s2, q0, q1, rc, q3, q4, q5, q6, q7, q8, e3, e4, y1, y1', o3, o3', u1, u1', cr0, s1', s2', z1, z2, pr_8_m4, pr_i_1]; first | assumption | decide | exact ⟨by assumption, by assumption⟩ | exact ⟨Or.inl (by assumption), by assumption⟩ | omega) | decide | exact ⟨Or.inl (by assumption), by assumption⟩ | exact ⟨by assumption, by assumption⟩ | omega)⟩, (by first | assumption | (simp only [r9, r0, r1, r2, r3, s1, s2, q0, q1, rc, q3, q4, q5, q6, q7, q8, e3, e4, y1, y1', o3, o3', u1, u1', cr0, s1', s2', z1, z2, pr_8_m4, pr_i_1]; first | assumption | decide | exact ⟨by assumption, by assumption⟩ | exact ⟨Or.inl (by assumption), by assumption⟩ | omega) | decide | exact ⟨Or.inl (by assumption), by assumption⟩ | exact ⟨by assumption, by assumption⟩ | omega)⟩, trivial⟩ ?_
                          try simp only [r9, r0, r1, r2, r3, s1, s2, q0, q1, rc, q3, q4, q5, q6, q7, q8, e3, e4, y1, y1', o3, o3', u1, u1', cr0, s1', s2', z1, z2, pr_8_m4, pr_i_1]
                          refine pr_cvT [_] rfl rfl rfl rfl rfl (Nat.le_of_ble_eq_true rfl) (by first | assumption | (simp only [r9, r0, r1, r2, r3, s1, s2, q0, q1, rc, q3, q4, q5, q6, q7, q8, e3, e4, y1, y1', o3, o3', u1, u1', cr0, s1', s2', z1, z2, pr_8_m4, pr_i_1]; first | assumption | decide | exact ⟨by assumption, by assumption⟩ | exact ⟨Or.inl (by assumption), by assumption⟩ | omega) | decide | exact ⟨Or.inl (by assumption), by assumption⟩ | exact ⟨by assumption, by assumption⟩ | omega) (Nat.le_of_ble_eq_true rfl) (hwh) ?_
                          refine pr_seqT (pc' := 182) 14 rfl ⟨⟨⟨⟨⟨⟨⟨⟨⟨⟨⟨⟨⟨⟨trivial, trivial⟩, (by first | assumption | (simp only [r9, r0, r1, r2, r3, s1, s2, q0, q1, rc, q3, q4, q5, q6, q7, q8, e3, e4, y1, y1', o3, o3', u1, u1', cr0, s1', s2', z1, z2, pr_8_m4, pr_i_1]; first | assumption | decide | exact ⟨by assumption, by assumption⟩ | exact ⟨Or.inl (by assumption), by assumption⟩ | omega) | decide | exact ⟨Or.inl (by assumption), by assumption⟩ | exact ⟨by assumption, by assumption⟩ | omega)⟩, (by first | assumption | (simp only [r9, r0, r1, r2, r3, s1, s2, q0, q1, rc, q3, q4, q5, q6, q7, q8, e3, e4, y1, y1', o3, o3', u1, u1', cr0, s1', s2', z1, z2, pr_8_m4, pr_i_1]; first | assumption | decide | exact ⟨by assumption, by assumption⟩ | exact ⟨Or.inl (by assumption), by assumption⟩ | omega) | decide | exact ⟨Or.inl (by assumption), by assumption⟩ | exact ⟨by assumption, by assumption⟩ | omega)⟩, (by first | assumption | (simp only [r9, r0, r1, r2, r3, s1, s2, q0, q1, rc, q3, q4, q5, q6, q7, q8, e3, e4, y1, y1', o3, o3', u1, u1', cr0, s1', s2', z1, z2, pr_8_m4, pr_i_1]; first | assumption | decide | exact ⟨by assumption, by assumption⟩ | exact ⟨Or.inl (by assumption), by assumption⟩ | omega) | decide | exact ⟨Or.inl (by assumption), by assumption⟩ | exact ⟨by assumption, by assumption⟩ | omega)⟩, trivial⟩, trivial⟩, (by first | assumption | (simp only [r9, r0, r1, r2, r3, s1, s2, q0, q1, rc, q3, q4, q5, q6, q7, q8, e3, e4, y1, y1', o3, o3', u1, u1', cr0, s1', s2', z1, z2, pr_8_m4, pr_i_1]; first | assumption | decide | exact ⟨by assumption, by assumption⟩ | exact ⟨Or.inl (by assumption), by assumption⟩ | omega) | decide | exact ⟨Or.inl (by assumption), by assumption⟩ | exact ⟨by assumption, by assumption⟩ | omega)⟩, (by first | assumption | (simp only [r9, r0, r1, r2, r3, s1, s2, q0, q1, rc, q3, q4, q5, q6, q7, q8, e3, e4, y1, y1', o3, o3', u1, u1', cr0, s1', s2', z1, z2, pr_8_m4, pr_i_1]; first | assumption | decide | exact ⟨by assumption, by assumption⟩ | exact ⟨Or.inl (by assumption), by assumption⟩ | omega) | decide | exact ⟨Or.inl (by assumption), by assumption⟩ | exact ⟨by assumption, by assumption⟩ | omega)⟩, (by first | assumption | (simp only [r9, r0, r1, r2, r3, s1, s2, q0, q1, rc, q3, q4, q5, q6, q7, q8, e3, e4, y1, y1', o3, o3', u1, u1', cr0, s1', s2', z1, z2, pr_8_m4, pr_i_1]; first | assumption | decide | exact ⟨by assumption, by assumption⟩ | exact ⟨Or.inl (by assumption), by assumption⟩ | omega) | decide | exact ⟨Or.inl (by assumption), by assumption⟩ | exact ⟨by assumption, by assumption⟩ | omega)⟩, (by first | assumption | (simp only [r9, r0, r1, r2, r3, s1, s2, q0, q1, rc, q3, q4, q5, q6, q7, q8, e3, e4, y1, y1', o3, o3', u1, u1', cr0, s1', s2', z1, z2, pr_8_m4, pr_i_1]; first | assumption | decide | exact ⟨by assumption, by assumption⟩ | exact ⟨Or.inl (by assumption), by assumption⟩ | omega) | decide | exact ⟨Or.inl (by assumption), by assumption⟩ | exact ⟨by assumption, by assumption⟩ | omega)⟩, trivial⟩, trivial⟩, (by first | assumption | (simp only [r9, r0, r1, r2, r3, s1, s2, q0, q1, rc, q3, q4, q5, q6, q7, q8, e3, e4, y1, y1', o3, o3', u1, u1', cr0, s1', s2', z1, z2, pr_8_m4, pr_i_1]; first | assumption | decide | exact ⟨by assumption, by assumption⟩ | exact ⟨Or.inl (by assumption), by assumption⟩ | omega) | decide | exact ⟨Or.inl (by assumption), by assumption⟩ | exact ⟨by assumption, by assumption⟩ | omega)⟩, trivial⟩ ?_
                          try simp only [r9, r0, r1, r2, r3, s1, s2, q0, q1, rc, q3, q4, q5, q6, q7, q8, e3, e4, y1, y1', o3, o3', u1, u1', cr0, s1', s2', z1, z2, pr_8_m4, pr_i_1]
                          exact pr_irT rfl trivial ⟨rfl, rfl, cv4, sm4⟩
                      · simp only [ab_cmp, pr_8_m4, pr_i_1] at h65
                        first
                        | contradiction
                        | exact absurd trivial h65
                        | exact absurd h65 (by decide)
                        | exact absurd (Classical.not_not.mp h65) (by decide)
                        | skip
                          refine pr_seqT (pc' := 70) 1 rfl ⟨trivial, trivial⟩ ?_
                          try simp only [r9, r0, r1, r2, r3, s1, s2, q0, q1, rc, q3, q4, q5, q6, q7, q8, e3, e4, y1, y1', o3, o3', u1, u1', cr0, s1', s2', z1, z2, pr_8_m4, pr_i_1]
                          exact pr_irT rfl trivial (by first | rfl | (simp only [r9, r0, r1, r2, r3, s1, s2, q0, q1, rc, q3, q4, q5, q6, q7, q8, e3, e4, y1, y1', o3, o3', u1, u1', cr0, s1', s2', z1, z2, pr_8_m4, pr_i_1]; done) | (simp [pr_b, pr_8_m4, pr_i_1, *]; done) | (simp_all [pr_b, pr_8_m4, pr_i_1]; done))
        · rw [if_neg c20]
          rw [decide_eq_false c20, if_neg c20] at hjn
          refine pr_seqT (pc' := 29) 16 rfl ⟨⟨⟨⟨⟨⟨⟨⟨⟨⟨⟨⟨⟨⟨⟨⟨trivial, (by first | assumption | (simp only [r9, r0, r1, r2, r3, s1, s2, q0, q1, rc, q3, q4, q5, q6, q7, q8, e3, e4, y1, y1', o3, o3', u1, u1', pr_8_m4, pr_i_1]; first | assumption | decide | exact ⟨by assumption, by assumption⟩ | exact ⟨Or.inl (by assumption), by assumption⟩ | omega) | decide | exact ⟨Or.inl (by assumption), by assumption⟩ | exact ⟨by assumption, by assumption⟩ | omega)⟩, (by first | assumption | (simp only [r9, r0, r1, r2, r3, s1, s2, q0, q1, rc, q3, q4, q5, q6, q7, q8, e3, e4, y1, y1', o3, o3', u1, u1', pr_8_m4, pr_i_1]; first | assumption | decide | exact ⟨by assumption, by assumption⟩ | exact ⟨Or.inl (by assumption), by assumption⟩ | omega) | decide | exact ⟨Or.inl (by assumption), by assumption⟩ | exact ⟨by assumption, by assumption⟩ | omega)⟩, (by first | assumption | (simp only [r9, r0, r1, r2, r3, s1, s2, q0, q1, rc, q3, q4, q5, q6, q7, q8, e3, e4, y1, y1', o3, o3', u1, u1', pr_8_m4, pr_i_1]; first | assumption | decide | exact ⟨by assumption, by assumption⟩ | exact ⟨Or.inl (by assumption), by assumption⟩ | omega) | decide | exact ⟨Or.inl (by assumption), by assumption⟩ | exact ⟨by assumption, by assumption⟩ | omega)⟩, (by first | assumption | (simp only [r9, r0, r1, r2, r3, s1, s2, q0, q1, rc, q3, q4, q5, q6, q7, q8, e3, e4, y1, y1', o3, o3', u1, u1', pr_8_m4, pr_i_1]; first | assumption | decide | exact ⟨by assumption, by assumption⟩ | exact ⟨Or.inl (by assumption), by assumption⟩ | omega) | decide | exact ⟨Or.inl (by assumption), by assumption⟩ | exact ⟨by assumption, by assumption⟩ | omega)⟩, trivial⟩, (by first | assumption | (simp only [r9, r0, r1, r2, r3, s1, s2, q0, q1, rc, q3, q4, q5, q6, q7, q8, e3, e4, y1, y1', o3, o3', u1, u1', pr_8_m4, pr_i_1]; first | assumption | decide | exact ⟨by assumption, by assumption⟩ | exact ⟨Or.inl (by assumption), by assumption⟩ | omega) | decide | exact ⟨Or.inl (by assumption), by assumption⟩ | exact ⟨by assumption, by assumption⟩ | omega)⟩, (by first | assumption | (simp only [r9, r0, r1, r2, r3, s1, s2, q0, q1, rc, q3, q4, q5, q6, q7, q8, e3, e4, y1, y1', o3, o3', u1, u1', pr_8_m4, pr_i_1]; first | assumption | decide | exact ⟨by assumption, by assumption⟩ | exact ⟨Or.inl (by assumption), by assumption⟩ | omega) | decide | exact ⟨Or.inl (by assumption), by assumption⟩ | exact ⟨by assumption, by assumption⟩ | omega)⟩, (by first | assumption | (simp only [r9, r0, r1, r2, r3, s1, s2, q0, q1, rc, q3, q4, q5, q6, q7, q8, e3, e4, y1, y1', o3, o3', u1, u1', pr_8_m4, pr_i_1]; first | assumption | decide | exact ⟨by assumption, by assumption⟩ | exact ⟨Or.inl (by assumption), by assumption⟩ | omega) | decide | exact ⟨Or.inl (by assumption), by assumption⟩ | exact ⟨by assumption, by assumption⟩ | omega)⟩, (by first | assumption | (simp only [r9, r0, r1, r2, r3, s1, s2, q0, q1, rc, q3, q4, q5, q6, q7, q8, e3, e4, y1, y1', o3, o3', u1, u1', pr_8_m4, pr_i_1]; first | assumption | decide | exact ⟨by assumption, by assumption⟩ | exact ⟨Or.inl (by assumption), by assumption⟩ | omega) | decide | exact ⟨Or.inl (by assumption), by assumption⟩ | exact ⟨by assumption, by assumption⟩ | omega)⟩, (by first | assumption | (simp only [r9, r0, r1, r2, r3, s1, s2, q0, q1, rc, q3, q4, q5, q6, q7, q8, e3, e4, y1, y1', o3, o3', u1, u1', pr_8_m4, pr_i_1]; first | assumption | decide | exact ⟨by assumption, by assumption⟩ | exact ⟨Or.inl (by assumption), by assumption⟩ | omega) | decide | exact ⟨Or.inl (by assumption), by assumption⟩ | exact ⟨by assumption, by assumption⟩ | omega)⟩, (by first | assumption | (simp only [r9, r0, r1, r2, r3, s1, s2, q0, q1, rc, q3, q4, q5, q6, q7, q8, e3, e4, y1, y1', o3, o3', u1, u1', pr_8_m4, pr_i_1]; first | assumption | decide | exact ⟨by assumption, by assumption⟩ | exact ⟨Or.inl (by assumption), by assumption⟩ | omega) | decide | exact ⟨Or.inl (by assumption), by assumption⟩ | exact ⟨by assumption, by assumption⟩ | omega)⟩, trivial⟩, (by first | assumption | (simp only [r9, r0, r1, r2, r3, s1, s2, q0, q1, rc, q3, q4, q5, q6, q7, q8, e3, e4, y1, y1', o3, o3', u1, u1', pr_8_m4, pr_i_1]; first | assumption | decide | exact ⟨by assumption, by assumption⟩ | exact ⟨Or.inl (by assumption), by assumption⟩ | omega) | decide | exact ⟨Or.inl (by assumption), by assumption⟩ | exact ⟨by assumption, by assumption⟩ | omega)⟩, (by first | assumption | (simp only [r9, r0, r1, r2, r3, s1, s2, q0, q1, rc, q3, q4, q5, q6, q7, q8, e3, e4, y1, y1', o3, o3', u1, u1', pr_8_m4, pr_i_1]; first | assumption | decide | exact ⟨by assumption, by assumption⟩ | exact ⟨Or.inl (by assumption), by assumption⟩ | omega) | decide | exact ⟨Or.inl (by assumption), by assumption⟩ | exact ⟨by assumption, by assumption⟩ | omega)⟩, trivial⟩, trivial⟩ ?_
          try simp only [r9, r0, r1, r2, r3, s1, s2, q0, q1, rc, q3, q4, q5, q6, q7, q8, e3, e4, y1, y1', o3, o3', u1, u1', pr_8_m4, pr_i_1]
          refine pr_icT rfl (fun h29 => ?_) (fun h29 => ?_)
          · simp only [ab_cmp, pr_8_m4, pr_i_1] at h29
            first
            | contradiction
            | exact absurd trivial h29
            | exact absurd h29 (by decide)
            | exact absurd (Classical.not_not.mp h29) (by decide)
            | skip
              refine pr_seqT (pc' := 70) 1 rfl ⟨trivial, trivial⟩ ?_
              try simp only [r9, r0, r1, r2, r3, s1, s2, q0, q1, rc, q3, q4, q5, q6, q7, q8, e3, e4, y1, y1', o3, o3', u1, u1', pr_8_m4, pr_i_1]
              exact pr_irT rfl trivial (by exact ⟨rfl, rfl, hcv, fun _ _ => rfl⟩)
          · simp only [ab_cmp, pr_8_m4, pr_i_1] at h29
            first
            | contradiction
            | exact absurd trivial h29
            | exact absurd h29 (by decide)
            | exact absurd (Classical.not_not.mp h29) (by decide)
            | skip
              refine pr_seqT (pc' := 37) 3 rfl ⟨⟨⟨trivial, (by first | assumption | (simp only [r9, r0, r1, r2, r3, s1, s2, q0, q1, rc, q3, q4, q5, q6, q7, q8, e3, e4, y1, y1', o3, o3', u1, u1', pr_8_m4, pr_i_1]; first | assumption | decide | exact ⟨by assumption, by assumption⟩ | exact ⟨Or.inl (by assumption), by assumption⟩ | omega) | decide | exact ⟨Or.inl (by assumption), by assumption⟩ | exact ⟨by assumption, by assumption⟩ | omega)⟩, (by first | assumption | (simp only [r9, r0, r1, r2, r3, s1, s2, q0, q1, rc, q3, q4, q5, q6, q7, q8, e3, e4, y1, y1', o3, o3', u1, u1', pr_8_m4, pr_i_1]; first | assumption | decide | exact ⟨by assumption, by assumption⟩ | exact ⟨Or.inl (by assumption), by assumption⟩ | omega) | decide | exact ⟨Or.inl (by assumption), by assumption⟩ | exact ⟨by assumption, by assumption⟩ | omega)⟩, trivial⟩ ?_
              try simp only [r9, r0, r1, r2, r3, s1, s2, q0, q1, rc, q3, q4, q5, q6, q7, q8, e3, e4, y1, y1', o3, o3', u1, u1', pr_8_m4, pr_i_1]
              refine pr_icT rfl (fun h37 => ?_) (fun h37 => ?_)
              · simp only [ab_cmp, pr_8_m4, pr_i_1] at h37
                first
                | contradiction
                | exact absurd trivial h37
                | exact absurd h37 (by decide)
                | exact absurd (Classical.not_not.mp h37) (by decide)
                | skip
                  refine pr_seqT (pc' := 70) 1 rfl ⟨trivial, trivial⟩ ?_
                  try simp only [r9, r0, r1, r2, r3, s1, s2, q0, q1, rc, q3, q4, q5, q6, q7, q8, e3, e4, y1, y1', o3, o3', u1, u1', pr_8_m4, pr_i_1]
                  exact pr_irT rfl trivial (by exact ⟨rfl, rfl, hcv, fun _ _ => rfl⟩)
              · simp only [ab_cmp, pr_8_m4, pr_i_1] at h37
                first
                | contradiction
                | exact absurd trivial h37
                | exact absurd h37 (by decide)
                | exact absurd (Classical.not_not.mp h37) (by decide)
                | skip
                  refine pr_seqT (pc' := 46) 3 rfl ⟨⟨⟨trivial, (by first | assumption | (simp only [r9, r0, r1, r2, r3, s1, s2, q0, q1, rc, q3, q4, q5, q6, q7, q8, e3, e4, y1, y1', o3, o3', u1, u1', pr_8_m4, pr_i_1]; first | assumption | decide | exact ⟨by assumption, by assumption⟩ | exact ⟨Or.inl (by assumption), by assumption⟩ | omega) | decide | exact ⟨Or.inl (by assumption), by assumption⟩ | exact ⟨by assumption, by assumption⟩ | omega)⟩, (by first | assumption | (simp only [r9, r0, r1, r2, r3, s1, s2, q0, q1, rc, q3, q4, q5, q6, q7, q8, e3, e4, y1, y1', o3, o3', u1, u1', pr_8_m4, pr_i_1]; first | assumption | decide | exact ⟨by assumption, by assumption⟩ | exact ⟨Or.inl (by assumption), by assumption⟩ | omega) | decide | exact ⟨Or.inl (by assumption), by assumption⟩ | exact ⟨by assumption, by assumption⟩ | omega)⟩, trivial⟩ ?_
                  try simp only [r9, r0, r1, r2, r3, s1, s2, q0, q1, rc, q3, q4, q5, q6, q7, q8, e3, e4, y1, y1', o3, o3', u1, u1', pr_8_m4, pr_i_1]
                  refine pr_icT rfl (fun h46 => ?_) (fun h46 => ?_)
                  · simp only [ab_cmp, pr_8_m4, pr_i_1] at h46
                    first
                    | contradiction
                    | exact absurd trivial h46
                    | exact absurd h46 (by decide)
                    | exact absurd (Classical.not_not.mp h46) (by decide)
                    | skip
                      refine pr_seqT (pc' := 70) 1 rfl ⟨trivial, trivial⟩ ?_
                      try simp only [r9, r0, r1, r2, r3, s1, s2, q0, q1, rc, q3, q4, q5, q6, q7, q8, e3, e4, y1, y1', o3, o3', u1, u1', pr_8_m4, pr_i_1]
                      exact pr_irT rfl trivial (by exact ⟨rfl, rfl, hcv, fun _ _ => rfl⟩)
                  · simp only [ab_cmp, pr_8_m4, pr_i_1] at h46
                    first
                    | contradiction
                    | exact absurd trivial h46
                    | exact absurd h46 (by decide)
                    | exact absurd (Classical.not_not.mp h46) (by decide)
                    | skip
                      refine pr_seqT (pc' := 62) 6 rfl ⟨⟨⟨⟨⟨⟨trivial, (by first | assumption | (simp only [r9, r0, r1, r2, r3, s1, s2, q0, q1, rc, q3, q4, q5, q6, q7, q8, e3, e4, y1, y1', o3, o3', u1, u1', pr_8_m4, pr_i_1]; first | assumption | decide | exact ⟨by assumption, by assumption⟩ | exact ⟨Or.inl (by assumption), by assumption⟩ | omega) | decide | exact ⟨Or.inl (by assumption), by assumption⟩ | exact ⟨by assumption, by assumption⟩ | omega)⟩, (by first | assumption | (simp only [r9, r0, r1, r2, r3, s1, s2, q0, q1, rc, q3, q4, q5, q6, q7, q8, e3, e4, y1, y1', o3, o3', u1, u1', pr_8_m4, pr_i_1]; first | assumption | decide | exact ⟨by assumption, by assumption⟩ | exact ⟨Or.inl (by assumption), by assumption⟩ | omega) | decide | exact ⟨Or.inl (by assumption), by assumption⟩ | exact ⟨by assumption, by assumption⟩ | omega)⟩, (by first | assumption | (simp only [r9, r0, r1, r2, r3, s1, s2, q0, q1, rc, q3, q4, q5, q6, q7, q8, e3, e4, y1, y1', o3, o3', u1, u1', pr_8_m4, pr_i_1]; first | assumption | decide | exact ⟨by assumption, by assumption⟩ | exact ⟨Or.inl (by assumption), by assumption⟩ | omega) | decide | exact ⟨Or.inl (by assumption), by assumption⟩ | exact ⟨by assumption, by assumption⟩ | omega)⟩, (by first | assumption | (simp only [r9, r0, r1, r2, r3, s1, s2, q0, q1, rc, q3, q4, q5, q6, q7, q8, e3, e4, y1, y1', o3, o3', u1, u1', pr_8_m4, pr_i_1]; first | assumption | decide | exact ⟨by assumption, by assumption⟩ | exact ⟨Or.inl (by assumption), by assumption⟩ | omega) | decide | exact ⟨Or.inl (by assumption), by assumption⟩ | exact ⟨by assumption, by assumption⟩ | omega)⟩, (by first | assumption | (simp only [r9, r0, r1, r2, r3, s1, s2, q0, q1, rc, q3, q4, q5, q6, q7, q8, e3, e4, y1, y1', o3, o3', u1, u1', pr_8_m4, pr_i_1]; first | assumption | decide | exact ⟨by assumption, by assumption⟩ | exact ⟨Or.inl (by assumption), by assumption⟩ | omega) | decide | exact ⟨Or.inl (by assumption), by assumption⟩ | exact ⟨by assumption, by assumption⟩ | omega)⟩, (by first | assumption | (simp only [r9, r0, r1, r2, r3, s1, s2, q0, q1, rc, q3, q4, q5, q6, q7, q8, e3, e4, y1, y1', o3, o3', u1, u1', pr_8_m4, pr_i_1]; first | assumption | decide | exact ⟨by assumption, by assumption⟩ | exact ⟨Or.inl (by assumption), by assumption⟩ | omega) | decide | exact ⟨Or.inl (by assumption), by assumption⟩ | exact ⟨by assumption, by assumption⟩ | omega)⟩ ?_
                      try simp only [r9, r0, r1, r2, r3, s1, s2, q0, q1, rc, q3, q4, q5, q6, q7, q8, e3, e4, y1, y1', o3, o3', u1, u1', pr_8_m4, pr_i_1]
                      refine pr_cvT [_, _] rfl rfl rfl rfl rfl (Nat.le_of_ble_eq_true rfl) (by first | assumption | (simp only [r9, r0, r1, r2, r3, s1, s2, q0, q1, rc, q3, q4, q5, q6, q7, q8, e3, e4, y1, y1', o3, o3', u1, u1', pr_8_m4, pr_i_1]; first | assumption | decide | exact ⟨by assumption, by assumption⟩ | exact ⟨Or.inl (by assumption), by assumption⟩ | omega) | decide | exact ⟨Or.inl (by assumption), by assumption⟩ | exact ⟨by assumption, by assumption⟩ | omega) (Nat.le_of_ble_eq_true rfl) (hjn) ?_
                      refine pr_ifT rfl (fun h65 => ?_) (fun h65 => ?_)
                      · simp only [ab_cmp, pr_8_m4, pr_i_1] at h65
                        first
                        | contradiction
                        | exact absurd trivial h65
                        | exact absurd h65 (by decide)
                        | exact absurd (Classical.not_not.mp h65) (by decide)
                        | skip
                          refine pr_seqT (pc' := 116) 23 rfl ⟨⟨⟨⟨⟨⟨⟨⟨⟨⟨⟨⟨⟨⟨⟨⟨⟨⟨⟨⟨⟨⟨⟨trivial, (by first | assumption | (simp only [r9, r0, r1, r2, r3, s1, s2, q0, q1, rc, q3, q4, q5, q6, q7, q8, e3, e4, y1, y1', o3, o3', u1, u1', pr_8_m4, pr_i_1]; first | assumption | decide | exact ⟨by assumption, by assumption⟩ | exact ⟨Or.inl (by assumption), by assumption⟩ | omega) | decide | exact ⟨Or.inl (by assumption), by assumption⟩ | exact ⟨by assumption, by assumption⟩ | omega)⟩, (by first | assumption | (simp only [r9, r0, r1, r2, r3, s1, s2, q0, q1, rc, q3, q4, q5, q6, q7, q8, e3, e4, y1, y1', o3, o3', u1, u1', pr_8_m4, pr_i_1]; first | assumption | decide | exact ⟨by assumption, by assumption⟩ | exact ⟨Or.inl (by assumption), by assumption⟩ | omega) | decide | exact ⟨Or.inl (by assumption), by assumption⟩ | exact ⟨by assumption, by assumption⟩ | omega)⟩, (by first | assumption | (simp only [r9, r0, r1, r2, r3, s1, s2, q0, q1, rc, q3, q4, q5, q6, q7, q8, e3, e4, y1, y1', o3, o3', u1, u1', pr_8_m4, pr_i_1]; first | assumption | decide | exact ⟨by assumption, by assumption⟩ | exact ⟨Or.inl (by assumption), by assumption⟩ | omega) | decide | exact ⟨Or.inl (by assumption), by assumption⟩ | exact ⟨by assumption, by assumption⟩ | omega)⟩, trivial⟩, (by first | assumption | (simp only [r9, r0, r1, r2, r3, s1, s2, q0, q1, rc, q3, q4, q5, q6, q7, q8, e3, e4, y1, y1', o3, o3', u1, u1', pr_8_m4, pr_i_1]; first | assumption | decide | exact ⟨by assumption, by assumption⟩ | exact ⟨Or.inl (by assumption), by assumption⟩ | omega) | decide | exact ⟨Or.inl (by assumption), by assumption⟩ | exact ⟨by assumption, by assumption⟩ | omega)⟩, trivial⟩, (by first | assumption | (simp only [r9, r0, r1, r2, r3, s1, s2, q0, q1, rc, q3, q4, q5, q6, q7, q8, e3, e4, y1, y1', o3, o3', u1, u1', pr_8_m4, pr_i_1]; first | assumption | decide | exact ⟨by assumption, by assumption⟩ | exact ⟨Or.inl (by assumption), by assumption⟩ | omega) | decide | exact ⟨Or.inl (by assumption), by assumption⟩ | exact ⟨by assumption, by assumption⟩ | omega)⟩, (by first | assumption | (simp only [r9, r0, r1, r2, r3, s1, s2, q0, q1, rc, q3, q4, q5, q6, q7, q8, e3, e4, y1, y1', o3, o3', u1, u1', pr_8_m4, pr_i_1]; first | assumption | decide | exact ⟨by assumption, by assumption⟩ | exact ⟨Or.inl (by assumption), by assumption⟩ | omega) | decide | exact ⟨Or.inl (by assumption), by assumption⟩ | exact ⟨by assumption, by assumption⟩ | omega)⟩, (by first | assumption | (simp only [r9, r0, r1, r2, r3, s1, s2, q0, q1, rc, q3, q4, q5, q6, q7, q8, e3, e4, y1, y1', o3, o3', u1, u1', pr_8_m4, pr_i_1]; first | assumption | decide | exact ⟨by assumption, by assumption⟩ | exact ⟨Or.inl (by assumption), by assumption⟩ | omega) | decide | exact ⟨Or.inl (by assumption), by assumption⟩ | exact ⟨by assumption, by assumption⟩ | omega)⟩, trivial⟩, (by first | assumption | (simp only [r9, r0, r1, r2, r3, s1, s2, q0, q1, rc, q3, q4, q5, q6, q7, q8, e3, e4, y1, y1', o3, o3', u1, u1', pr_8_m4, pr_i_1]; first | assumption | decide | exact ⟨by assumption, by assumption⟩ | exact ⟨Or.inl (by assumption), by assumption⟩ | omega) | decide | exact ⟨Or.inl (by assumption), by assumption⟩ | exact ⟨by assumption, by assumption⟩ | omega)⟩, trivial⟩, (by first | assumption | (simp only [r9, r0, r1, r2, r3, s1, s2, q0, q1, rc, q3, q4, q5, q6, q7, q8, e3, e4, y1, y1', o3, o3', u1, u1', pr_8_m4, pr_i_1]; first | assumption | decide | exact ⟨by assumption, by assumption⟩ | exact ⟨Or.inl (by assumption), by assumption⟩ | omega) | decide | exact ⟨Or.inl (by assumption), by assumption⟩ | exact ⟨by assumption, by assumption⟩ | omega)⟩, (by first | assumption | (simp only [r9, r0, r1, r2, r3, s1, s2, q0, q1, rc, q3, q4, q5, q6, q7, q8, e3, e4, y1, y1', o3, o3', u1, u1', pr_8_m4, pr_i_1]; first | assumption | decide | exact ⟨by assumption, by assumption⟩ | exact ⟨Or.inl (by assumption), by assumption⟩ | omega) | decide | exact ⟨Or.inl (by assumption), by assumption⟩ | exact ⟨by assumption, by assumption⟩ | omega)⟩, (by first | assumption | (simp only [r9, r0, r1, r2, r3, s1, s2, q0, q1, rc, q3, q4, q5, q6, q7, q8, e3, e4, y1, y1', o3, o3', u1, u1', pr_8_m4, pr_i_1]; first | assumption | decide | exact ⟨by assumption, by assumption⟩ | exact ⟨Or.inl (by assumption), by assumption⟩ | omega) | decide | exact ⟨Or.inl (by assumption), by assumption⟩ | exact ⟨by assumption, by assumption⟩ | omega)⟩, trivial⟩, (by first | assumption | (simp only [r9, r0, r1, r2, r3, s1, s2, q0, q1, rc, q3, q4, q5, q6, q7, q8, e3, e4, y1, y1', o3, o3', u1, u1', pr_8_m4, pr_i_1]; first | assumption | decide | exact ⟨by assumption, by assumption⟩ | exact ⟨Or.inl (by assumption), by assumption⟩ | omega) | decide | exact ⟨Or.inl (by assumption), by assumption⟩ | exact ⟨by assumption, by assumption⟩ | omega)⟩, (by first | assumption | (simp only [r9, r0, r1, r2, r3, s1, s2, q0, q1, rc, q3, q4, q5, q6, q7, q8, e3, e4, y1, y1', o3, o3', u1, u1', pr_8_m4, pr_i_1]; first | assumption | decide | exact ⟨by assumption, by assumption⟩ | exact ⟨Or.inl (by assumption), by assumption⟩ | omega) | decide | exact ⟨Or.inl (by assumption), by assumption⟩ | exact ⟨by assumption, by assumption⟩ | omega)⟩, (by first | assumption | (simp only [r9, r0, r1, r2, r3, s1, s2, q0, q1, rc, q3, q4, q5, q6, q7, q8, e3, e4, y1, y1', o3, o3', u1, u1', pr_8_m4, pr_i_1]; first | assumption | decide | exact ⟨by assumption, by assumption⟩ | exact ⟨Or.inl (by assumption), by assumption⟩ | omega) | decide | exact ⟨Or.inl (by assumption), by assumption⟩ | exact ⟨by assumption, by assumption⟩ | omega)⟩, (by first | assumption | (simp only [r9, r0, r1, r2, r3, s1, s2, q0, q1, rc, q3, q4, q5, q6, q7, q8, e3, e4, y1, y1', o3, o3', u1, u1', pr_8_m4, pr_i_1]; first | assumption | decide | exact ⟨by assumption, by assumption⟩ | exact ⟨Or.inl (by assumption), by assumption⟩ | omega) | decide | exact ⟨Or.inl (by assumption), by assumption⟩ | exact ⟨by assumption, by assumption⟩ | omega)⟩, (by first | assumption | (simp only [r9, r0, r1, r2, r3, s1, s2, q0, q1, rc, q3, q4, q5, q6, q7, q8, e3, e4, y1, y1', o3, o3', u1, u1', pr_8_m4, pr_i_1]; first | assumption | decide | exact ⟨by assumption, by assumption⟩ | exact ⟨Or.inl (by assumption), by assumption⟩ | omega) | decide | exact ⟨Or.inl (by assumption), by assumption⟩ | exact ⟨by assumption, by assumption⟩ | omega)⟩, (by first | assumption | (simp only [r9, r0, r1, r2, r3, s1, s2, q0, q1, rc, q3, q4, q5, q6, q7, q8, e3, e4, y1, y1', o3, o3', u1, u1', pr_8_m4, pr_i_1]; first | assumption | decide | exact ⟨by assumption, by assumption⟩ | exact ⟨Or.inl (by assumption), by assumption⟩ | omega) | decide | exact ⟨Or.inl (by assumption), by assumption⟩ | exact ⟨by assumption, by assumption⟩ | omega)⟩, (by first | assumption | (simp only [r9, r0, r1, r2, r3, s1, s2, q0, q1, rc, q3, q4, q5, q6, q7, q8, e3, e4, y1, y1', o3, o3', u1, u1', pr_8_m4, pr_i_1]; first | assumption | decide | exact ⟨by assumption, by assumption⟩ | exact ⟨Or.inl (by assumption), by assumption⟩ | omega) | decide | exact ⟨Or.inl (by assumption), by assumption⟩ | exact ⟨by assumption, by assumption⟩ | omega)⟩ ?_
                          try simp only [r9, r0, r1, r2, r3, s1, s2, q0, q1, rc, q3, q4, q5, q6, q7, q8, e3, e4, y1, y1', o3, o3', u1, u1', pr_8_m4, pr_i_1]
                          fail "no call@116 yX1_sumOf"
                      · simp only [ab_cmp, pr_8_m4, pr_i_1] at h65
                        first
                        | contradiction
                        | exact absurd trivial h65
                        | exact absurd h65 (by decide)
                        | exact absurd (Classical.not_not.mp h65) (by decide)
                        | skip
                          refine pr_seqT (pc' := 70) 1 rfl ⟨trivial, trivial⟩ ?_
                          try simp only [r9, r0, r1, r2, r3, s1, s2, q0, q1, rc, q3, q4, q5, q6, q7, q8, e3, e4, y1, y1', o3, o3', u1, u1', pr_8_m4, pr_i_1]
                          exact pr_irT rfl trivial (by exact ⟨rfl, rfl, hcv, fun _ _ => rfl⟩)
theorem mtc_skip (n : Nat) (v : Nat → Nat → Int32) (a : Nat) : ∀ d, (∀ k, a ≤ k → k < a + d → ¬ (k / 8 < n ∧ k % 8 < n)) → mtc n v (a + d) = mtc n v a
  | 0, _ => rfl
  | d + 1, h => by
    rw [show a + (d + 1) = (a + d) + 1 by omega, mtc, if_neg (fun q => h (a + d) (by omega) (by omega) ⟨q.1, q.2.1⟩)]
    exact mtc_skip n v a d (fun k h1 h2 => h k h1 (by omega))
theorem p_match {b : Bool} {X : St} (x : Int32) (h : ab_H) (M : ab_M) (hl : Lay h M.2.2 b) (hv : cl_v M.1 b X) : pr_X pX10_match [.ref 1, .int x] h M (cp h M (f_match X x, X)) := by
  obtain ⟨k1, q0, q1, rc, q3, q4, q5, q6, q7, q8, r9⟩ := id hl.1
  have ht := ly_told hl
  obtain ⟨t0, t1, r0, r1, r2, r3, hg, ⟨ka, kb⟩, ⟨kc, kd⟩, ⟨ke, kf⟩, hnm⟩ := id ht
  obtain ⟨g0, g1, s1, s2, m1, m2, ⟨m3, m4⟩, hon⟩ := id hg
  obtain ⟨hT, hIm, hSh, hTp, hFa, hTo⟩ := id hv
  obtain ⟨hd, v2, v3, v4, v5, v6, v7⟩ := id hT
  obtain ⟨d1, d2, d3, d4, d5, d6, d7, d8⟩ := id hd
  have b0 := tB_ne b
  have hc := hl.2.2.2.2.2.1
  have hb : 49 + 5 < tB b + 1 ∨ tB b + 1 + 27 ≤ 49 := by cases b <;> decide
  have hb2 : 63 < tB b ∧ tB b + 43 ≤ 110 ∨ 5 < tB b ∧ tB b + 43 ≤ 49 := by cases b <;> decide
  have c1 := hc.2.1
  unfold f_match
  have hp := c_within x 0 1 h M
  rcases pr_rg x 1 1 rfl (by decide) with q | ⟨k, hk, rfl, q⟩
  · rw [q] at hp ⊢
    refine pr_seqT (pc' := 3) 3 rfl ⟨⟨⟨trivial, trivial⟩, trivial⟩, trivial⟩ ?_
    try simp only [r9, r0, r1, r2, r3, s1, s2, q0, q1, rc, q3, q4, q5, q6, q7, q8, pr_8_10, pr_8_m4, pr_i_0, pr_i_1, pr_i_m1]
    refine pr_csT [_, _, _] rfl rfl rfl rfl rfl (Nat.le_of_ble_eq_true rfl) (Nat.le_of_ble_eq_true rfl) (hp) ?_
    refine pr_ifT rfl (fun h6 => ?_) (fun h6 => ?_)
    · simp only [ab_cmp, pr_8_10, pr_8_m4, pr_i_0, pr_i_1, pr_i_m1] at h6
      first
      | contradiction
      | exact absurd trivial h6
      | exact absurd h6 (by decide)
      | exact absurd (Classical.not_not.mp h6) (by decide)
      | skip
        refine pr_seqT (pc' := 22) 5 rfl ⟨⟨⟨⟨⟨trivial, (by first | assumption | (simp only [r9, r0, r1, r2, r3, s1, s2, q0, q1, rc, q3, q4, q5, q6, q7, q8, pr_8_10, pr_8_m4, pr_i_0, pr_i_1, pr_i_m1]; first | assumption | decide | exact ⟨by assumption, by assumption⟩ | exact ⟨Or.inl (by assumption), by assumption⟩ | omega) | decide | exact ⟨Or.inl (by assumption), by assumption⟩ | exact ⟨by assumption, by assumption⟩ | omega)⟩, (by first | assumption | (simp only [r9, r0, r1, r2, r3, s1, s2, q0, q1, rc, q3, q4, q5, q6, q7, q8, pr_8_10, pr_8_m4, pr_i_0, pr_i_1, pr_i_m1]; first | assumption | decide | exact ⟨by assumption, by assumption⟩ | exact ⟨Or.inl (by assumption), by assumption⟩ | omega) | decide | exact ⟨Or.inl (by assumption), by assumption⟩ | exact ⟨by assumption, by assumption⟩ | omega)⟩, (by first | assumption | (simp only [r9, r0, r1, r2, r3, s1, s2, q0, q1, rc, q3, q4, q5, q6, q7, q8, pr_8_10, pr_8_m4, pr_i_0, pr_i_1, pr_i_m1]; first | assumption | decide | exact ⟨by assumption, by assumption⟩ | exact ⟨Or.inl (by assumption), by assumption⟩ | omega) | decide | exact ⟨Or.inl (by assumption), by assumption⟩ | exact ⟨by assumption, by assumption⟩ | omega)⟩, (by first | assumption | (simp only [r9, r0, r1, r2, r3, s1, s2, q0, q1, rc, q3, q4, q5, q6, q7, q8, pr_8_10, pr_8_m4, pr_i_0, pr_i_1, pr_i_m1]; first | assumption | decide | exact ⟨by assumption, by assumption⟩ | exact ⟨Or.inl (by assumption), by assumption⟩ | omega) | decide | exact ⟨Or.inl (by assumption), by assumption⟩ | exact ⟨by assumption, by assumption⟩ | omega)⟩, (by first | assumption | (simp only [r9, r0, r1, r2, r3, s1, s2, q0, q1, rc, q3, q4, q5, q6, q7, q8, pr_8_10, pr_8_m4, pr_i_0, pr_i_1, pr_i_m1]; first | assumption | decide | exact ⟨by assumption, by assumption⟩ | exact ⟨Or.inl (by assumption), by assumption⟩ | omega) | decide | exact ⟨Or.inl (by assumption), by assumption⟩ | exact ⟨by assumption, by assumption⟩ | omega)⟩ ?_
        try simp only [r9, r0, r1, r2, r3, s1, s2, q0, q1, rc, q3, q4, q5, q6, q7, q8, pr_8_10, pr_8_m4, pr_i_0, pr_i_1, pr_i_m1]
        fail "no call@22 yX0_take"
    · simp only [ab_cmp, pr_8_10, pr_8_m4, pr_i_0, pr_i_1, pr_i_m1] at h6
      first
      | contradiction
      | exact absurd trivial h6
      | exact absurd h6 (by decide)
      | exact absurd (Classical.not_not.mp h6) (by decide)
      | skip
        refine pr_seqT (pc' := 10) 1 rfl ⟨trivial, trivial⟩ ?_
        try simp only [r9, r0, r1, r2, r3, s1, s2, q0, q1, rc, q3, q4, q5, q6, q7, q8, pr_8_10, pr_8_m4, pr_i_0, pr_i_1, pr_i_m1]
        exact pr_irT rfl trivial (by exact cp_s hl hv)
  · rw [q] at hp ⊢
    rw [if_pos rfl]
    have hn8 : x_n X ≤ 8 := d2
    have out : ∀ dp p, p + dp = x_n X → ∀ (I : Nat → Nat → Int32) (o5 o6 : Option Value), cl_same M.1 I → cs_v I 49 (x_n X) (x_S X) (x_K X) (x_D X) (x_W X) → pr_T pX10_match 34 [some (.ref 1), some (.int (nI k)), some (.int (mtc (x_n X) (wv X) (8 * p)).1), some (.int (mtc (x_n X) (wv X) (8 * p)).2), some (.int (nI p)), o5, o6] [] h (I, M.2) (cp h M (if nI k = 0 then (mtc (x_n X) (wv X) 64).1 else (mtc (x_n X) (wv X) 64).2, X)) := by
      intro dp
      induction dp with
      | zero =>
        intro p hp I o5 o6 hs hcv
        obtain rfl : p = x_n X := by omega
        have em : mtc (x_n X) (wv X) 64 = mtc (x_n X) (wv X) (8 * x_n X) := by
          have := mtc_skip (x_n X) (wv X) (8 * x_n X) (64 - 8 * x_n X) (fun k a1 a2 => by omega)
          rw [show 8 * x_n X + (64 - 8 * x_n X) = 64 by omega] at this
          exact this
        rw [em]
        have d1' : I (tB b + 1) 2 = nI (x_n X) := by rw [hs _ (by omega)]; exact d1
        have e1 : nI (x_n X) ≤ nI (x_n X) := nI_le (Nat.le_refl _) (by omega)
        rcases (show k = 0 ∨ k = 1 by omega) with rfl | rfl
        · rw [if_pos (show nI 0 = 0 from rfl)]
          refine pr_seqT (pc' := 46) 5 rfl ⟨⟨⟨⟨⟨trivial, trivial⟩, (by first | assumption | (simp only [r9, r0, r1, r2, r3, s1, s2, q0, q1, rc, q3, q4, q5, q6, q7, q8, d1', pr_8_10, pr_8_m4, pr_i_0, pr_i_1, pr_i_m1]; first | assumption | decide | exact ⟨by assumption, by assumption⟩ | exact ⟨Or.inl (by assumption), by assumption⟩ | omega) | decide | exact ⟨Or.inl (by assumption), by assumption⟩ | exact ⟨by assumption, by assumption⟩ | omega)⟩, (by first | assumption | (simp only [r9, r0, r1, r2, r3, s1, s2, q0, q1, rc, q3, q4, q5, q6, q7, q8, d1', pr_8_10, pr_8_m4, pr_i_0, pr_i_1, pr_i_m1]; first | assumption | decide | exact ⟨by assumption, by assumption⟩ | exact ⟨Or.inl (by assumption), by assumption⟩ | omega) | decide | exact ⟨Or.inl (by assumption), by assumption⟩ | exact ⟨by assumption, by assumption⟩ | omega)⟩, (by first | assumption | (simp only [r9, r0, r1, r2, r3, s1, s2, q0, q1, rc, q3, q4, q5, q6, q7, q8, d1', pr_8_10, pr_8_m4, pr_i_0, pr_i_1, pr_i_m1]; first | assumption | decide | exact ⟨by assumption, by assumption⟩ | exact ⟨Or.inl (by assumption), by assumption⟩ | omega) | decide | exact ⟨Or.inl (by assumption), by assumption⟩ | exact ⟨by assumption, by assumption⟩ | omega)⟩, (by first | assumption | (simp only [r9, r0, r1, r2, r3, s1, s2, q0, q1, rc, q3, q4, q5, q6, q7, q8, d1', pr_8_10, pr_8_m4, pr_i_0, pr_i_1, pr_i_m1]; first | assumption | decide | exact ⟨by assumption, by assumption⟩ | exact ⟨Or.inl (by assumption), by assumption⟩ | omega) | decide | exact ⟨Or.inl (by assumption), by assumption⟩ | exact ⟨by assumption, by assumption⟩ | omega)⟩ ?_
          try simp only [r9, r0, r1, r2, r3, s1, s2, q0, q1, rc, q3, q4, q5, q6, q7, q8, d1', pr_8_10, pr_8_m4, pr_i_0, pr_i_1, pr_i_m1]
          refine pr_icT rfl (fun h46 => ?_) (fun h46 => ?_)
          · simp only [ab_cmp, pr_8_10, pr_8_m4, pr_i_0, pr_i_1, pr_i_m1] at h46
            first
            | contradiction
            | exact absurd trivial h46
            | exact absurd h46 (by decide)
            | exact absurd (Classical.not_not.mp h46) (by decide)
            | exact absurd rfl h46
            | skip
              refine pr_seqT (pc' := 108) 1 rfl ⟨trivial, trivial⟩ ?_
              try simp only [r9, r0, r1, r2, r3, s1, s2, q0, q1, rc, q3, q4, q5, q6, q7, q8, d1', pr_8_10, pr_8_m4, pr_i_0, pr_i_1, pr_i_m1]
              refine pr_ifT rfl (fun h108 => ?_) (fun h108 => ?_)
              · simp only [ab_cmp, pr_8_10, pr_8_m4, pr_i_0, pr_i_1, pr_i_m1] at h108
                first
                | contradiction
                | exact absurd trivial h108
                | exact absurd h108 (by decide)
                | exact absurd (Classical.not_not.mp h108) (by decide)
                | exact absurd rfl h108
                | skip
                  refine pr_seqT (pc' := 116) 1 rfl ⟨trivial, trivial⟩ ?_
                  try simp only [r9, r0, r1, r2, r3, s1, s2, q0, q1, rc, q3, q4, q5, q6, q7, q8, d1', pr_8_10, pr_8_m4, pr_i_0, pr_i_1, pr_i_m1]
                  exact pr_irT rfl trivial (cp_q hl hv rfl hs)
              · simp only [ab_cmp, pr_8_10, pr_8_m4, pr_i_0, pr_i_1, pr_i_m1] at h108
                first
                | contradiction
                | exact absurd trivial h108
                | exact absurd h108 (by decide)
                | exact absurd (Classical.not_not.mp h108) (by decide)
                | exact absurd rfl h108
                | skip
                  refine pr_seqT (pc' := 116) 2 rfl ⟨⟨trivial, trivial⟩, trivial⟩ ?_
                  try simp only [r9, r0, r1, r2, r3, s1, s2, q0, q1, rc, q3, q4, q5, q6, q7, q8, d1', pr_8_10, pr_8_m4, pr_i_0, pr_i_1, pr_i_m1]
                  exact pr_irT rfl trivial (cp_q hl hv rfl hs)
          · simp only [ab_cmp, pr_8_10, pr_8_m4, pr_i_0, pr_i_1, pr_i_m1] at h46
            first
            | contradiction
            | exact absurd trivial h46
            | exact absurd h46 (by decide)
            | exact absurd (Classical.not_not.mp h46) (by decide)
            | exact absurd rfl h46
            | skip
              fail
        · rw [if_neg (show ¬ nI 1 = 0 by decide)]
          refine pr_seqT (pc' := 46) 5 rfl ⟨⟨⟨⟨⟨trivial, trivial⟩, (by first | assumption | (simp only [r9, r0, r1, r2, r3, s1, s2, q0, q1, rc, q3, q4, q5, q6, q7, q8, d1', pr_8_10, pr_8_m4, pr_i_0, pr_i_1, pr_i_m1]; first | assumption | decide | exact ⟨by assumption, by assumption⟩ | exact ⟨Or.inl (by assumption), by assumption⟩ | omega) | decide | exact ⟨Or.inl (by assumption), by assumption⟩ | exact ⟨by assumption, by assumption⟩ | omega)⟩, (by first | assumption | (simp only [r9, r0, r1, r2, r3, s1, s2, q0, q1, rc, q3, q4, q5, q6, q7, q8, d1', pr_8_10, pr_8_m4, pr_i_0, pr_i_1, pr_i_m1]; first | assumption | decide | exact ⟨by assumption, by assumption⟩ | exact ⟨Or.inl (by assumption), by assumption⟩ | omega) | decide | exact ⟨Or.inl (by assumption), by assumption⟩ | exact ⟨by assumption, by assumption⟩ | omega)⟩, (by first | assumption | (simp only [r9, r0, r1, r2, r3, s1, s2, q0, q1, rc, q3, q4, q5, q6, q7, q8, d1', pr_8_10, pr_8_m4, pr_i_0, pr_i_1, pr_i_m1]; first | assumption | decide | exact ⟨by assumption, by assumption⟩ | exact ⟨Or.inl (by assumption), by assumption⟩ | omega) | decide | exact ⟨Or.inl (by assumption), by assumption⟩ | exact ⟨by assumption, by assumption⟩ | omega)⟩, (by first | assumption | (simp only [r9, r0, r1, r2, r3, s1, s2, q0, q1, rc, q3, q4, q5, q6, q7, q8, d1', pr_8_10, pr_8_m4, pr_i_0, pr_i_1, pr_i_m1]; first | assumption | decide | exact ⟨by assumption, by assumption⟩ | exact ⟨Or.inl (by assumption), by assumption⟩ | omega) | decide | exact ⟨Or.inl (by assumption), by assumption⟩ | exact ⟨by assumption, by assumption⟩ | omega)⟩ ?_
          try simp only [r9, r0, r1, r2, r3, s1, s2, q0, q1, rc, q3, q4, q5, q6, q7, q8, d1', pr_8_10, pr_8_m4, pr_i_0, pr_i_1, pr_i_m1]
          refine pr_icT rfl (fun h46 => ?_) (fun h46 => ?_)
          · simp only [ab_cmp, pr_8_10, pr_8_m4, pr_i_0, pr_i_1, pr_i_m1] at h46
            first
            | contradiction
            | exact absurd trivial h46
            | exact absurd h46 (by decide)
            | exact absurd (Classical.not_not.mp h46) (by decide)
            | skip
              refine pr_seqT (pc' := 108) 1 rfl ⟨trivial, trivial⟩ ?_
              try simp only [r9, r0, r1, r2, r3, s1, s2, q0, q1, rc, q3, q4, q5, q6, q7, q8, d1', pr_8_10, pr_8_m4, pr_i_0, pr_i_1, pr_i_m1]
              refine pr_ifT rfl (fun h108 => ?_) (fun h108 => ?_)
              · simp only [ab_cmp, pr_8_10, pr_8_m4, pr_i_0, pr_i_1, pr_i_m1] at h108
                first
                | contradiction
                | exact absurd trivial h108
                | exact absurd h108 (by decide)
                | exact absurd (Classical.not_not.mp h108) (by decide)
                | skip
                  refine pr_seqT (pc' := 116) 1 rfl ⟨trivial, trivial⟩ ?_
                  try simp only [r9, r0, r1, r2, r3, s1, s2, q0, q1, rc, q3, q4, q5, q6, q7, q8, d1', pr_8_10, pr_8_m4, pr_i_0, pr_i_1, pr_i_m1]
                  exact pr_irT rfl trivial (cp_q hl hv rfl hs)
              · simp only [ab_cmp, pr_8_10, pr_8_m4, pr_i_0, pr_i_1, pr_i_m1] at h108
                first
                | contradiction
                | exact absurd trivial h108
                | exact absurd h108 (by decide)
                | exact absurd (Classical.not_not.mp h108) (by decide)
                | skip
                  refine pr_seqT (pc' := 116) 2 rfl ⟨⟨trivial, trivial⟩, trivial⟩ ?_
                  try simp only [r9, r0, r1, r2, r3, s1, s2, q0, q1, rc, q3, q4, q5, q6, q7, q8, d1', pr_8_10, pr_8_m4, pr_i_0, pr_i_1, pr_i_m1]
                  exact pr_irT rfl trivial (cp_q hl hv rfl hs)
          · simp only [ab_cmp, pr_8_10, pr_8_m4, pr_i_0, pr_i_1, pr_i_m1] at h46
            first
            | contradiction
            | exact absurd trivial h46
            | exact absurd h46 (by decide)
            | exact absurd (Classical.not_not.mp h46) (by decide)
            | skip
              fail
      | succ dp iho =>
        intro p hp I o5 o6 hs hcv
        have inn : ∀ dq q, q + dq = x_n X → ∀ (I : Nat → Nat → Int32) (o6 : Option Value), cl_same M.1 I → cs_v I 49 (x_n X) (x_S X) (x_K X) (x_D X) (x_W X) → pr_T pX10_match 52 [some (.ref 1), some (.int (nI k)), some (.int (mtc (x_n X) (wv X) (8 * p + q)).1), some (.int (mtc (x_n X) (wv X) (8 * p + q)).2), some (.int (nI p)), some (.int (nI q)), o6] [] h (I, M.2) (cp h M (if nI k = 0 then (mtc (x_n X) (wv X) 64).1 else (mtc (x_n X) (wv X) 64).2, X)) := by
          intro dq
          induction dq with
          | zero =>
            intro q hq I o6 hs hcv
            obtain rfl : q = x_n X := by omega
            have d1' : I (tB b + 1) 2 = nI (x_n X) := by rw [hs _ (by omega)]; exact d1
            have e1 : nI (x_n X) ≤ nI (x_n X) := nI_le (Nat.le_refl _) (by omega)
            have hh := iho (p + 1) (by omega) I (some (.int (nI (x_n X)))) o6 hs hcv
            have em := mtc_skip (x_n X) (wv X) (8 * p + x_n X) (8 - x_n X) (fun k a1 a2 => by omega)
            rw [show 8 * p + x_n X + (8 - x_n X) = 8 * (p + 1) by omega] at em
            rw [em, ← nI_1] at hh
            refine pr_seqT (pc' := 64) 5 rfl ⟨⟨⟨⟨⟨trivial, trivial⟩, (by first | assumption | (simp only [r9, r0, r1, r2, r3, s1, s2, q0, q1, rc, q3, q4, q5, q6, q7, q8, d1', pr_8_10, pr_8_m4, pr_i_0, pr_i_1, pr_i_m1]; first | assumption | decide | exact ⟨by assumption, by assumption⟩ | exact ⟨Or.inl (by assumption), by assumption⟩ | omega) | decide | exact ⟨Or.inl (by assumption), by assumption⟩ | exact ⟨by assumption, by assumption⟩ | omega)⟩, (by first | assumption | (simp only [r9, r0, r1, r2, r3, s1, s2, q0, q1, rc, q3, q4, q5, q6, q7, q8, d1', pr_8_10, pr_8_m4, pr_i_0, pr_i_1, pr_i_m1]; first | assumption | decide | exact ⟨by assumption, by assumption⟩ | exact ⟨Or.inl (by assumption), by assumption⟩ | omega) | decide | exact ⟨Or.inl (by assumption), by assumption⟩ | exact ⟨by assumption, by assumption⟩ | omega)⟩, (by first | assumption | (simp only [r9, r0, r1, r2, r3, s1, s2, q0, q1, rc, q3, q4, q5, q6, q7, q8, d1', pr_8_10, pr_8_m4, pr_i_0, pr_i_1, pr_i_m1]; first | assumption | decide | exact ⟨by assumption, by assumption⟩ | exact ⟨Or.inl (by assumption), by assumption⟩ | omega) | decide | exact ⟨Or.inl (by assumption), by assumption⟩ | exact ⟨by assumption, by assumption⟩ | omega)⟩, (by first | assumption | (simp only [r9, r0, r1, r2, r3, s1, s2, q0, q1, rc, q3, q4, q5, q6, q7, q8, d1', pr_8_10, pr_8_m4, pr_i_0, pr_i_1, pr_i_m1]; first | assumption | decide | exact ⟨by assumption, by assumption⟩ | exact ⟨Or.inl (by assumption), by assumption⟩ | omega) | decide | exact ⟨Or.inl (by assumption), by assumption⟩ | exact ⟨by assumption, by assumption⟩ | omega)⟩ ?_
            try simp only [r9, r0, r1, r2, r3, s1, s2, q0, q1, rc, q3, q4, q5, q6, q7, q8, d1', pr_8_10, pr_8_m4, pr_i_0, pr_i_1, pr_i_m1]
            refine pr_icT rfl (fun h64 => ?_) (fun h64 => ?_)
            · simp only [ab_cmp, pr_8_10, pr_8_m4, pr_i_0, pr_i_1, pr_i_m1] at h64
              first
              | contradiction
              | exact absurd trivial h64
              | exact absurd h64 (by decide)
              | exact absurd (Classical.not_not.mp h64) (by decide)
              | skip
                refine pr_seqT (pc' := 34) 2 rfl ⟨⟨trivial, trivial⟩, trivial⟩ ?_
                try simp only [r9, r0, r1, r2, r3, s1, s2, q0, q1, rc, q3, q4, q5, q6, q7, q8, d1', pr_8_10, pr_8_m4, pr_i_0, pr_i_1, pr_i_m1]
                exact hh
            · simp only [ab_cmp, pr_8_10, pr_8_m4, pr_i_0, pr_i_1, pr_i_m1] at h64
              first
              | contradiction
              | exact absurd trivial h64
              | exact absurd h64 (by decide)
              | exact absurd (Classical.not_not.mp h64) (by decide)
              | skip
                fail
          | succ dq ihi =>
            intro q hq I o6 hs hcv
            have d1' : I (tB b + 1) 2 = nI (x_n X) := by rw [hs _ (by omega)]; exact d1
            have e1 : ¬ nI (x_n X) ≤ nI q := nI_ge (by omega) (by omega)
            have hw := c_wow (j := p) (k := q) h (I, M.2) hl (cl_v_same hs hv) hcv (by omega) (by omega)
            have hh := fun I' h1 h2 => ihi (q + 1) (by omega) I' (some (.int (wv X p q))) h1 h2
            have em : mtc (x_n X) (wv X) (8 * p + (q + 1)) = if (mtc (x_n X) (wv X) (8 * p + q)).1 < wv X p q then (wv X p q, 10 * nI p + nI q) else mtc (x_n X) (wv X) (8 * p + q) := by
              have e8 : (8 * p + q) / 8 = p ∧ (8 * p + q) % 8 = q := by omega
              rw [show 8 * p + (q + 1) = 8 * p + q + 1 by omega, mtc, e8.1, e8.2]
              by_cases c : (mtc (x_n X) (wv X) (8 * p + q)).1 < wv X p q
              · rw [if_pos ⟨by omega, by omega, c⟩, if_pos c]
              · rw [if_neg (fun z => c z.2.2), if_neg c]
            rw [← nI_1] at hh
            by_cases c : (mtc (x_n X) (wv X) (8 * p + q)).1 < wv X p q
            · have c3 : ¬ wv X p q ≤ (mtc (x_n X) (wv X) (8 * p + q)).1 := Int32.not_le.mpr c
              rw [em, if_pos c] at hh
              refine pr_seqT (pc' := 64) 5 rfl ⟨⟨⟨⟨⟨trivial, trivial⟩, (by first | assumption | (simp only [r9, r0, r1, r2, r3, s1, s2, q0, q1, rc, q3, q4, q5, q6, q7, q8, d1', pr_8_10, pr_8_m4, pr_i_0, pr_i_1, pr_i_m1]; first | assumption | decide | exact ⟨by assumption, by assumption⟩ | exact ⟨Or.inl (by assumption), by assumption⟩ | omega) | decide | exact ⟨Or.inl (by assumption), by assumption⟩ | exact ⟨by assumption, by assumption⟩ | omega)⟩, (by first | assumption | (simp only [r9, r0, r1, r2, r3, s1, s2, q0, q1, rc, q3, q4, q5, q6, q7, q8, d1', pr_8_10, pr_8_m4, pr_i_0, pr_i_1, pr_i_m1]; first | assumption | decide | exact ⟨by assumption, by assumption⟩ | exact ⟨Or.inl (by assumption), by assumption⟩ | omega) | decide | exact ⟨Or.inl (by assumption), by assumption⟩ | exact ⟨by assumption, by assumption⟩ | omega)⟩, (by first | assumption | (simp only [r9, r0, r1, r2, r3, s1, s2, q0, q1, rc, q3, q4, q5, q6, q7, q8, d1', pr_8_10, pr_8_m4, pr_i_0, pr_i_1, pr_i_m1]; first | assumption | decide | exact ⟨by assumption, by assumption⟩ | exact ⟨Or.inl (by assumption), by assumption⟩ | omega) | decide | exact ⟨Or.inl (by assumption), by assumption⟩ | exact ⟨by assumption, by assumption⟩ | omega)⟩, (by first | assumption | (simp only [r9, r0, r1, r2, r3, s1, s2, q0, q1, rc, q3, q4, q5, q6, q7, q8, d1', pr_8_10, pr_8_m4, pr_i_0, pr_i_1, pr_i_m1]; first | assumption | decide | exact ⟨by assumption, by assumption⟩ | exact ⟨Or.inl (by assumption), by assumption⟩ | omega) | decide | exact ⟨Or.inl (by assumption), by assumption⟩ | exact ⟨by assumption, by assumption⟩ | omega)⟩ ?_
              try simp only [r9, r0, r1, r2, r3, s1, s2, q0, q1, rc, q3, q4, q5, q6, q7, q8, d1', pr_8_10, pr_8_m4, pr_i_0, pr_i_1, pr_i_m1]
              refine pr_icT rfl (fun h64 => ?_) (fun h64 => ?_)
              · simp only [ab_cmp, pr_8_10, pr_8_m4, pr_i_0, pr_i_1, pr_i_m1] at h64
                first
                | contradiction
                | exact absurd trivial h64
                | exact absurd h64 (by decide)
                | exact absurd (Classical.not_not.mp h64) (by decide)
                | skip
                  fail
              · simp only [ab_cmp, pr_8_10, pr_8_m4, pr_i_0, pr_i_1, pr_i_m1] at h64
                first
                | contradiction
                | exact absurd trivial h64
                | exact absurd h64 (by decide)
                | exact absurd (Classical.not_not.mp h64) (by decide)
                | skip
                  refine pr_seqT (pc' := 72) 3 rfl ⟨⟨⟨trivial, (by first | assumption | (simp only [r9, r0, r1, r2, r3, s1, s2, q0, q1, rc, q3, q4, q5, q6, q7, q8, d1', pr_8_10, pr_8_m4, pr_i_0, pr_i_1, pr_i_m1]; first | assumption | decide | exact ⟨by assumption, by assumption⟩ | exact ⟨Or.inl (by assumption), by assumption⟩ | omega) | decide | exact ⟨Or.inl (by assumption), by assumption⟩ | exact ⟨by assumption, by assumption⟩ | omega)⟩, trivial⟩, trivial⟩ ?_
                  try simp only [r9, r0, r1, r2, r3, s1, s2, q0, q1, rc, q3, q4, q5, q6, q7, q8, d1', pr_8_10, pr_8_m4, pr_i_0, pr_i_1, pr_i_m1]
                  refine pr_cvX [_, _] rfl rfl rfl rfl rfl (Nat.le_of_ble_eq_true rfl) (by first | assumption | (simp only [r9, r0, r1, r2, r3, s1, s2, q0, q1, rc, q3, q4, q5, q6, q7, q8, d1', pr_8_10, pr_8_m4, pr_i_0, pr_i_1, pr_i_m1]; first | assumption | decide | exact ⟨by assumption, by assumption⟩ | exact ⟨Or.inl (by assumption), by assumption⟩ | omega) | decide | exact ⟨Or.inl (by assumption), by assumption⟩ | exact ⟨by assumption, by assumption⟩ | omega) (Nat.le_of_ble_eq_true rfl) (hw) (fun v72 M72 q72 => ?_)
                  obtain ⟨rfl, e2, e3, e4⟩ := q72
                  obtain ⟨I1, Z1⟩ := M72
                  dsimp only at e2 e3 e4
                  subst e2
                  have hs1 : cl_same M.1 I1 := fun a ha => by rw [e4 a ha]; exact hs a ha
                  refine pr_seqT (pc' := 80) 3 rfl ⟨⟨⟨trivial, trivial⟩, trivial⟩, trivial⟩ ?_
                  try simp only [r9, r0, r1, r2, r3, s1, s2, q0, q1, rc, q3, q4, q5, q6, q7, q8, d1', pr_8_10, pr_8_m4, pr_i_0, pr_i_1, pr_i_m1]
                  refine pr_icT rfl (fun h80 => ?_) (fun h80 => ?_)
                  · simp only [ab_cmp, pr_8_10, pr_8_m4, pr_i_0, pr_i_1, pr_i_m1] at h80
                    first
                    | contradiction
                    | exact absurd trivial h80
                    | exact absurd h80 (by decide)
                    | exact absurd (Classical.not_not.mp h80) (by decide)
                    | skip
                      refine pr_seqT (pc' := 52) 2 rfl ⟨⟨trivial, trivial⟩, trivial⟩ ?_
                      try simp only [r9, r0, r1, r2, r3, s1, s2, q0, q1, rc, q3, q4, q5, q6, q7, q8, d1', pr_8_10, pr_8_m4, pr_i_0, pr_i_1, pr_i_m1]
                      exact hh I1 hs1 e3
                  · simp only [ab_cmp, pr_8_10, pr_8_m4, pr_i_0, pr_i_1, pr_i_m1] at h80
                    first
                    | contradiction
                    | exact absurd trivial h80
                    | exact absurd h80 (by decide)
                    | exact absurd (Classical.not_not.mp h80) (by decide)
                    | skip
                      refine pr_seqT (pc' := 52) 10 rfl ⟨⟨⟨⟨⟨⟨⟨⟨⟨⟨trivial, trivial⟩, trivial⟩, trivial⟩, trivial⟩, trivial⟩, trivial⟩, trivial⟩, trivial⟩, trivial⟩, trivial⟩ ?_
                      try simp only [r9, r0, r1, r2, r3, s1, s2, q0, q1, rc, q3, q4, q5, q6, q7, q8, d1', pr_8_10, pr_8_m4, pr_i_0, pr_i_1, pr_i_m1]
                      exact hh I1 hs1 e3
            · have c3 : wv X p q ≤ (mtc (x_n X) (wv X) (8 * p + q)).1 := Int32.not_lt.mp c
              rw [em, if_neg c] at hh
              refine pr_seqT (pc' := 64) 5 rfl ⟨⟨⟨⟨⟨trivial, trivial⟩, (by first | assumption | (simp only [r9, r0, r1, r2, r3, s1, s2, q0, q1, rc, q3, q4, q5, q6, q7, q8, d1', pr_8_10, pr_8_m4, pr_i_0, pr_i_1, pr_i_m1]; first | assumption | decide | exact ⟨by assumption, by assumption⟩ | exact ⟨Or.inl (by assumption), by assumption⟩ | omega) | decide | exact ⟨Or.inl (by assumption), by assumption⟩ | exact ⟨by assumption, by assumption⟩ | omega)⟩, (by first | assumption | (simp only [r9, r0, r1, r2, r3, s1, s2, q0, q1, rc, q3, q4, q5, q6, q7, q8, d1', pr_8_10, pr_8_m4, pr_i_0, pr_i_1, pr_i_m1]; first | assumption | decide | exact ⟨by assumption, by assumption⟩ | exact ⟨Or.inl (by assumption), by assumption⟩ | omega) | decide | exact ⟨Or.inl (by assumption), by assumption⟩ | exact ⟨by assumption, by assumption⟩ | omega)⟩, (by first | assumption | (simp only [r9, r0, r1, r2, r3, s1, s2, q0, q1, rc, q3, q4, q5, q6, q7, q8, d1', pr_8_10, pr_8_m4, pr_i_0, pr_i_1, pr_i_m1]; first | assumption | decide | exact ⟨by assumption, by assumption⟩ | exact ⟨Or.inl (by assumption), by assumption⟩ | omega) | decide | exact ⟨Or.inl (by assumption), by assumption⟩ | exact ⟨by assumption, by assumption⟩ | omega)⟩, (by first | assumption | (simp only [r9, r0, r1, r2, r3, s1, s2, q0, q1, rc, q3, q4, q5, q6, q7, q8, d1', pr_8_10, pr_8_m4, pr_i_0, pr_i_1, pr_i_m1]; first | assumption | decide | exact ⟨by assumption, by assumption⟩ | exact ⟨Or.inl (by assumption), by assumption⟩ | omega) | decide | exact ⟨Or.inl (by assumption), by assumption⟩ | exact ⟨by assumption, by assumption⟩ | omega)⟩ ?_
              try simp only [r9, r0, r1, r2, r3, s1, s2, q0, q1, rc, q3, q4, q5, q6, q7, q8, d1', pr_8_10, pr_8_m4, pr_i_0, pr_i_1, pr_i_m1]
              refine pr_icT rfl (fun h64 => ?_) (fun h64 => ?_)
              · simp only [ab_cmp, pr_8_10, pr_8_m4, pr_i_0, pr_i_1, pr_i_m1] at h64
                first
                | contradiction
                | exact absurd trivial h64
                | exact absurd h64 (by decide)
                | exact absurd (Classical.not_not.mp h64) (by decide)
                | skip
                  fail
              · simp only [ab_cmp, pr_8_10, pr_8_m4, pr_i_0, pr_i_1, pr_i_m1] at h64
                first
                | contradiction
                | exact absurd trivial h64
                | exact absurd h64 (by decide)
                | exact absurd (Classical.not_not.mp h64) (by decide)
                | skip
                  refine pr_seqT (pc' := 72) 3 rfl ⟨⟨⟨trivial, (by first | assumption | (simp only [r9, r0, r1, r2, r3, s1, s2, q0, q1, rc, q3, q4, q5, q6, q7, q8, d1', pr_8_10, pr_8_m4, pr_i_0, pr_i_1, pr_i_m1]; first | assumption | decide | exact ⟨by assumption, by assumption⟩ | exact ⟨Or.inl (by assumption), by assumption⟩ | omega) | decide | exact ⟨Or.inl (by assumption), by assumption⟩ | exact ⟨by assumption, by assumption⟩ | omega)⟩, trivial⟩, trivial⟩ ?_
                  try simp only [r9, r0, r1, r2, r3, s1, s2, q0, q1, rc, q3, q4, q5, q6, q7, q8, d1', pr_8_10, pr_8_m4, pr_i_0, pr_i_1, pr_i_m1]
                  refine pr_cvX [_, _] rfl rfl rfl rfl rfl (Nat.le_of_ble_eq_true rfl) (by first | assumption | (simp only [r9, r0, r1, r2, r3, s1, s2, q0, q1, rc, q3, q4, q5, q6, q7, q8, d1', pr_8_10, pr_8_m4, pr_i_0, pr_i_1, pr_i_m1]; first | assumption | decide | exact ⟨by assumption, by assumption⟩ | exact ⟨Or.inl (by assumption), by assumption⟩ | omega) | decide | exact ⟨Or.inl (by assumption), by assumption⟩ | exact ⟨by assumption, by assumption⟩ | omega) (Nat.le_of_ble_eq_true rfl) (hw) (fun v72 M72 q72 => ?_)
                  obtain ⟨rfl, e2, e3, e4⟩ := q72
                  obtain ⟨I1, Z1⟩ := M72
                  dsimp only at e2 e3 e4
                  subst e2
                  have hs1 : cl_same M.1 I1 := fun a ha => by rw [e4 a ha]; exact hs a ha
                  refine pr_seqT (pc' := 80) 3 rfl ⟨⟨⟨trivial, trivial⟩, trivial⟩, trivial⟩ ?_
                  try simp only [r9, r0, r1, r2, r3, s1, s2, q0, q1, rc, q3, q4, q5, q6, q7, q8, d1', pr_8_10, pr_8_m4, pr_i_0, pr_i_1, pr_i_m1]
                  refine pr_icT rfl (fun h80 => ?_) (fun h80 => ?_)
                  · simp only [ab_cmp, pr_8_10, pr_8_m4, pr_i_0, pr_i_1, pr_i_m1] at h80
                    first
                    | contradiction
                    | exact absurd trivial h80
                    | exact absurd h80 (by decide)
                    | exact absurd (Classical.not_not.mp h80) (by decide)
                    | skip
                      refine pr_seqT (pc' := 52) 2 rfl ⟨⟨trivial, trivial⟩, trivial⟩ ?_
                      try simp only [r9, r0, r1, r2, r3, s1, s2, q0, q1, rc, q3, q4, q5, q6, q7, q8, d1', pr_8_10, pr_8_m4, pr_i_0, pr_i_1, pr_i_m1]
                      exact hh I1 hs1 e3
                  · simp only [ab_cmp, pr_8_10, pr_8_m4, pr_i_0, pr_i_1, pr_i_m1] at h80
                    first
                    | contradiction
                    | exact absurd trivial h80
                    | exact absurd h80 (by decide)
                    | exact absurd (Classical.not_not.mp h80) (by decide)
                    | skip
                      refine pr_seqT (pc' := 52) 10 rfl ⟨⟨⟨⟨⟨⟨⟨⟨⟨⟨trivial, trivial⟩, trivial⟩, trivial⟩, trivial⟩, trivial⟩, trivial⟩, trivial⟩, trivial⟩, trivial⟩, trivial⟩ ?_
                      try simp only [r9, r0, r1, r2, r3, s1, s2, q0, q1, rc, q3, q4, q5, q6, q7, q8, d1', pr_8_10, pr_8_m4, pr_i_0, pr_i_1, pr_i_m1]
                      exact hh I1 hs1 e3
        have d1' : I (tB b + 1) 2 = nI (x_n X) := by rw [hs _ (by omega)]; exact d1
        have e1 : ¬ nI (x_n X) ≤ nI p := nI_ge (by omega) (by omega)
        have h0 := inn (x_n X) 0 (by omega) I o6 hs hcv
        refine pr_seqT (pc' := 46) 5 rfl ⟨⟨⟨⟨⟨trivial, trivial⟩, (by first | assumption | (simp only [r9, r0, r1, r2, r3, s1, s2, q0, q1, rc, q3, q4, q5, q6, q7, q8, d1', pr_8_10, pr_8_m4, pr_i_0, pr_i_1, pr_i_m1]; first | assumption | decide | exact ⟨by assumption, by assumption⟩ | exact ⟨Or.inl (by assumption), by assumption⟩ | omega) | decide | exact ⟨Or.inl (by assumption), by assumption⟩ | exact ⟨by assumption, by assumption⟩ | omega)⟩, (by first | assumption | (simp only [r9, r0, r1, r2, r3, s1, s2, q0, q1, rc, q3, q4, q5, q6, q7, q8, d1', pr_8_10, pr_8_m4, pr_i_0, pr_i_1, pr_i_m1]; first | assumption | decide | exact ⟨by assumption, by assumption⟩ | exact ⟨Or.inl (by assumption), by assumption⟩ | omega) | decide | exact ⟨Or.inl (by assumption), by assumption⟩ | exact ⟨by assumption, by assumption⟩ | omega)⟩, (by first | assumption | (simp only [r9, r0, r1, r2, r3, s1, s2, q0, q1, rc, q3, q4, q5, q6, q7, q8, d1', pr_8_10, pr_8_m4, pr_i_0, pr_i_1, pr_i_m1]; first | assumption | decide | exact ⟨by assumption, by assumption⟩ | exact ⟨Or.inl (by assumption), by assumption⟩ | omega) | decide | exact ⟨Or.inl (by assumption), by assumption⟩ | exact ⟨by assumption, by assumption⟩ | omega)⟩, (by first | assumption | (simp only [r9, r0, r1, r2, r3, s1, s2, q0, q1, rc, q3, q4, q5, q6, q7, q8, d1', pr_8_10, pr_8_m4, pr_i_0, pr_i_1, pr_i_m1]; first | assumption | decide | exact ⟨by assumption, by assumption⟩ | exact ⟨Or.inl (by assumption), by assumption⟩ | omega) | decide | exact ⟨Or.inl (by assumption), by assumption⟩ | exact ⟨by assumption, by assumption⟩ | omega)⟩ ?_
        try simp only [r9, r0, r1, r2, r3, s1, s2, q0, q1, rc, q3, q4, q5, q6, q7, q8, d1', pr_8_10, pr_8_m4, pr_i_0, pr_i_1, pr_i_m1]
        refine pr_icT rfl (fun h46 => ?_) (fun h46 => ?_)
        · simp only [ab_cmp, pr_8_10, pr_8_m4, pr_i_0, pr_i_1, pr_i_m1] at h46
          first
          | contradiction
          | exact absurd trivial h46
          | exact absurd h46 (by decide)
          | exact absurd (Classical.not_not.mp h46) (by decide)
          | skip
            fail
        · simp only [ab_cmp, pr_8_10, pr_8_m4, pr_i_0, pr_i_1, pr_i_m1] at h46
          first
          | contradiction
          | exact absurd trivial h46
          | exact absurd h46 (by decide)
          | exact absurd (Classical.not_not.mp h46) (by decide)
          | skip
            refine pr_seqT (pc' := 52) 2 rfl ⟨⟨trivial, trivial⟩, trivial⟩ ?_
            try simp only [r9, r0, r1, r2, r3, s1, s2, q0, q1, rc, q3, q4, q5, q6, q7, q8, d1', pr_8_10, pr_8_m4, pr_i_0, pr_i_1, pr_i_m1]
            exact h0
    refine pr_seqT (pc' := 3) 3 rfl ⟨⟨⟨trivial, trivial⟩, trivial⟩, trivial⟩ ?_
    try simp only [r9, r0, r1, r2, r3, s1, s2, q0, q1, rc, q3, q4, q5, q6, q7, q8, pr_8_10, pr_8_m4, pr_i_0, pr_i_1, pr_i_m1]
    refine pr_csT [_, _, _] rfl rfl rfl rfl rfl (Nat.le_of_ble_eq_true rfl) (Nat.le_of_ble_eq_true rfl) (hp) ?_
    refine pr_ifT rfl (fun h6 => ?_) (fun h6 => ?_)
    · simp only [ab_cmp, pr_8_10, pr_8_m4, pr_i_0, pr_i_1, pr_i_m1] at h6
      first
      | contradiction
      | exact absurd trivial h6
      | exact absurd h6 (by decide)
      | exact absurd (Classical.not_not.mp h6) (by decide)
      | skip
        refine pr_seqT (pc' := 22) 5 rfl ⟨⟨⟨⟨⟨trivial, (by first | assumption | (simp only [r9, r0, r1, r2, r3, s1, s2, q0, q1, rc, q3, q4, q5, q6, q7, q8, pr_8_10, pr_8_m4, pr_i_0, pr_i_1, pr_i_m1]; first | assumption | decide | exact ⟨by assumption, by assumption⟩ | exact ⟨Or.inl (by assumption), by assumption⟩ | omega) | decide | exact ⟨Or.inl (by assumption), by assumption⟩ | exact ⟨by assumption, by assumption⟩ | omega)⟩, (by first | assumption | (simp only [r9, r0, r1, r2, r3, s1, s2, q0, q1, rc, q3, q4, q5, q6, q7, q8, pr_8_10, pr_8_m4, pr_i_0, pr_i_1, pr_i_m1]; first | assumption | decide | exact ⟨by assumption, by assumption⟩ | exact ⟨Or.inl (by assumption), by assumption⟩ | omega) | decide | exact ⟨Or.inl (by assumption), by assumption⟩ | exact ⟨by assumption, by assumption⟩ | omega)⟩, (by first | assumption | (simp only [r9, r0, r1, r2, r3, s1, s2, q0, q1, rc, q3, q4, q5, q6, q7, q8, pr_8_10, pr_8_m4, pr_i_0, pr_i_1, pr_i_m1]; first | assumption | decide | exact ⟨by assumption, by assumption⟩ | exact ⟨Or.inl (by assumption), by assumption⟩ | omega) | decide | exact ⟨Or.inl (by assumption), by assumption⟩ | exact ⟨by assumption, by assumption⟩ | omega)⟩, (by first | assumption | (simp only [r9, r0, r1, r2, r3, s1, s2, q0, q1, rc, q3, q4, q5, q6, q7, q8, pr_8_10, pr_8_m4, pr_i_0, pr_i_1, pr_i_m1]; first | assumption | decide | exact ⟨by assumption, by assumption⟩ | exact ⟨Or.inl (by assumption), by assumption⟩ | omega) | decide | exact ⟨Or.inl (by assumption), by assumption⟩ | exact ⟨by assumption, by assumption⟩ | omega)⟩, (by first | assumption | (simp only [r9, r0, r1, r2, r3, s1, s2, q0, q1, rc, q3, q4, q5, q6, q7, q8, pr_8_10, pr_8_m4, pr_i_0, pr_i_1, pr_i_m1]; first | assumption | decide | exact ⟨by assumption, by assumption⟩ | exact ⟨Or.inl (by assumption), by assumption⟩ | omega) | decide | exact ⟨Or.inl (by assumption), by assumption⟩ | exact ⟨by assumption, by assumption⟩ | omega)⟩ ?_
        try simp only [r9, r0, r1, r2, r3, s1, s2, q0, q1, rc, q3, q4, q5, q6, q7, q8, pr_8_10, pr_8_m4, pr_i_0, pr_i_1, pr_i_m1]
        refine pr_cvX [_] rfl rfl rfl rfl rfl (Nat.le_of_ble_eq_true rfl) (by first | assumption | (simp only [r9, r0, r1, r2, r3, s1, s2, q0, q1, rc, q3, q4, q5, q6, q7, q8, pr_8_10, pr_8_m4, pr_i_0, pr_i_1, pr_i_m1]; first | assumption | decide | exact ⟨by assumption, by assumption⟩ | exact ⟨Or.inl (by assumption), by assumption⟩ | omega) | decide | exact ⟨Or.inl (by assumption), by assumption⟩ | exact ⟨by assumption, by assumption⟩ | omega) (Nat.le_of_ble_eq_true rfl) (c_take h M hc hg hb hd) (fun v22 M22 q22 => ?_)
        obtain ⟨rfl, e2, e3, e4⟩ := q22
        obtain ⟨I1, Z1⟩ := M22
        dsimp only at e2 e3 e4
        subst e2
        refine pr_seqT (pc' := 34) 6 rfl ⟨⟨⟨⟨⟨⟨trivial, trivial⟩, trivial⟩, trivial⟩, trivial⟩, trivial⟩, trivial⟩ ?_
        try simp only [r9, r0, r1, r2, r3, s1, s2, q0, q1, rc, q3, q4, q5, q6, q7, q8, pr_8_10, pr_8_m4, pr_i_0, pr_i_1, pr_i_m1]
        exact out (x_n X) 0 (by omega) I1 none none (cs_same e4) e3
    · simp only [ab_cmp, pr_8_10, pr_8_m4, pr_i_0, pr_i_1, pr_i_m1] at h6
      first
      | contradiction
      | exact absurd trivial h6
      | exact absurd h6 (by decide)
      | exact absurd (Classical.not_not.mp h6) (by decide)
      | skip
        refine pr_seqT (pc' := 10) 1 rfl ⟨trivial, trivial⟩ ?_
        try simp only [r9, r0, r1, r2, r3, s1, s2, q0, q1, rc, q3, q4, q5, q6, q7, q8, pr_8_10, pr_8_m4, pr_i_0, pr_i_1, pr_i_m1]
        exact pr_irT rfl trivial (by first | rfl | (simp only [r9, r0, r1, r2, r3, s1, s2, q0, q1, rc, q3, q4, q5, q6, q7, q8, pr_8_10, pr_8_m4, pr_i_0, pr_i_1, pr_i_m1]; done) | (simp [pr_b, pr_8_10, pr_8_m4, pr_i_0, pr_i_1, pr_i_m1, *]; done) | (simp_all [pr_b, pr_8_10, pr_8_m4, pr_i_0, pr_i_1, pr_i_m1]; done))
