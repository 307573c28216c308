
/-! ===== weddings, counts ===== -/
theorem nm_app_farN {I : Nat → Nat → Int32} {n f g u w a : Nat} (h1 : a ≠ n) (h2 : a ≠ n + 1) : nm_app (nm_cp I n f u) n u g w a = I a := by
  rw [nm_app_far h1 h2, nm_cp_far h1 h2]
theorem wed_mem {b : Bool} {j k : Nat} {d : Ld} (h : ab_H) (M : ab_M) (hj : j < d.2.1.length) (hk : k < d.2.1.length) (ejk : ¬ j = k) (hg : pr_Ld h M.2.2 (tB b + 1)) (hd : ld_v M.1 (tB b + 1) d) (h62 : pr_Nm h M.2.2 62) (c20 : (d_pn d j).2.2.2.length + (d_pn d k).2.2.2.length ≤ 20) : ∃ I1 I2 I3 : Nat → Nat → Int32, pr_C pX2_join [.ref 62, .ref (tB b + 1 + 3 + 3 * j + 1), .ref (tB b + 1 + 3 + 3 * k + 1)] h M (some (.int (pr_b true))) h (I1, M.2.1, M.2.2) ∧ pr_C pX2_copy [.ref (tB b + 1 + 3 + 3 * j + 1), .ref 62] h (I1, M.2.1, M.2.2) none h (I2, M.2.1, M.2.2) ∧ pr_C pX2_copy [.ref (tB b + 1 + 3 + 3 * k + 1), .ref 62] h (I2, M.2.1, M.2.2) none h (I3, M.2.1, M.2.2) ∧ pr_C pX1_sumOf [.ref (tB b + 1), .ref (tB b + 1 + 3 + 3 * j + 1), .int (nI (d_pn d j).1)] h (I3, M.2.1, M.2.2) (some (.int (nI (a_sum d.1 d.2.2.1 (d_pn d j).1 ((d_pn d j).2.2.2 ++ (d_pn d k).2.2.2))))) h (I3, M.2.1, M.2.2) ∧ ((∀ a, (a < tB b + 1 ∨ tB b + 28 ≤ a) → ¬ (49 ≤ a ∧ a ≤ 63) → I3 a = M.1 a) ∧ ∀ a, 172 ≤ a → I3 a = M.1 a) ∧ ld_v I3 (tB b + 1) (wOne (wOne d j ((d_pn d j).1, (d_pn d j).2.1, (d_pn d j).2.2.1, (d_pn d j).2.2.2 ++ (d_pn d k).2.2.2)) k ((d_pn d k).1, (d_pn d k).2.1, (d_pn d k).2.2.1, (d_pn d j).2.2.2 ++ (d_pn d k).2.2.2)) ∧ I3 (tB b + 1 + 3 + 3 * j) 1 = nI (d_pn d j).1 := by
  have hb : 63 < tB b + 1 ∨ tB b + 28 ≤ 62 := by cases b <;> decide
  have hbx : tB b + 28 ≤ 172 := by cases b <;> decide
  have hon := hg.2.2.2.2.2.2.2
  have d8 := hd.2.2.2.2.2.2.2
  have d2 := hd.2.1
  obtain ⟨-, -, -, -, o4⟩ := hon j (by omega)
  obtain ⟨-, -, -, -, o4'⟩ := hon k (by omega)
  obtain ⟨u1, u2, u3, u4, u5, u6, u7⟩ := d8 j _ (d_pn_at hj)
  obtain ⟨u1', u2', u3', u4', u5', u6', u7'⟩ := d8 k _ (d_pn_at hk)
  have hjk : j < k ∨ k < j := by omega
  have hj8 : j < 8 := by omega
  have hk8 : k < 8 := by omega
  clear hon d8 ejk
  generalize hG : tB b = t at *
  generalize hoj : t + 1 + 3 + 3 * j = oj at *
  generalize hok : t + 1 + 3 + 3 * k = ok at *
  have a1 : t + 3 < oj ∧ oj + 3 ≤ t + 28 := by omega
  have a2 : t + 3 < ok ∧ ok + 3 ≤ t + 28 := by omega
  have a3 : oj + 2 < ok ∨ ok + 2 < oj := by omega
  have hoj2 : ∀ a, (a < t + 1 + 3 + 3 * j ∨ t + 1 + 3 + 3 * j + 3 ≤ a) → a < oj ∨ oj + 3 ≤ a := by intro a; rw [hoj]; exact id
  have hok2 : ∀ a, (a < t + 1 + 3 + 3 * k ∨ t + 1 + 3 + 3 * k + 3 ≤ a) → a < ok ∨ ok + 3 ≤ a := by intro a; rw [hok]; exact id
  have hjn := c_join h M h62 o4 o4' (by omega) (by omega) u7 u7'
  rw [decide_eq_true c20, if_pos c20] at hjn
  have hjv := nm_v_app (n := 62) (o := ok + 1) (by omega) (nm_v_cp (n := 62) (by omega) u7) (nm_v_congr (nm_cp_far (by omega) (by omega)) (nm_cp_far (by omega) (by omega)) u7') c20
  have far1 : ∀ a, a ≠ 62 → a ≠ 62 + 1 → nm_app (nm_cp M.1 62 (oj + 1) (d_pn d j).2.2.2.length) 62 (d_pn d j).2.2.2.length (ok + 1) (d_pn d k).2.2.2.length a = M.1 a := fun a a1 a2 => nm_app_farN a1 a2
  generalize nm_app (nm_cp M.1 62 (oj + 1) (d_pn d j).2.2.2.length) 62 (d_pn d j).2.2.2.length (ok + 1) (d_pn d k).2.2.2.length = I1 at hjn hjv far1
  have hcp1 := c_ncopy (m := ((d_pn d j).2.2.2 ++ (d_pn d k).2.2.2).length) h (I1, M.2.1, M.2.2) o4 h62 (by omega) hjv.1 hjv.2.1
  have hv2 := nm_v_cp (n := oj + 1) (by omega) hjv
  have far2 : ∀ a, a ≠ oj + 1 → a ≠ oj + 1 + 1 → nm_cp I1 (oj + 1) 62 ((d_pn d j).2.2.2 ++ (d_pn d k).2.2.2).length a = I1 a := fun a a1 a2 => nm_cp_far a1 a2
  dsimp only at hcp1
  generalize nm_cp I1 (oj + 1) 62 ((d_pn d j).2.2.2 ++ (d_pn d k).2.2.2).length = I2 at hcp1 hv2 far2
  have hjv2 := nm_v_congr (far2 62 (by omega) (by omega)) (far2 63 (by omega) (by omega)) hjv
  have hcp2 := c_ncopy (m := ((d_pn d j).2.2.2 ++ (d_pn d k).2.2.2).length) h (I2, M.2.1, M.2.2) o4' h62 (by omega) hjv2.1 hjv2.2.1
  have hv3 := nm_v_cp (n := ok + 1) (by omega) hjv2
  have far3 : ∀ a, a ≠ ok + 1 → a ≠ ok + 1 + 1 → nm_cp I2 (ok + 1) 62 ((d_pn d j).2.2.2 ++ (d_pn d k).2.2.2).length a = I2 a := fun a a1 a2 => nm_cp_far a1 a2
  dsimp only at hcp2
  generalize nm_cp I2 (ok + 1) 62 ((d_pn d j).2.2.2 ++ (d_pn d k).2.2.2).length = I3 at hcp2 hv3 far3
  have w2 : ∀ a, a ≠ 62 → a ≠ 63 → a ≠ oj + 1 → a ≠ oj + 1 + 1 → I2 a = M.1 a := fun a a1 a2 a3 a4 => by rw [far2 a a3 a4, far1 a a1 a2]
  have w3 : ∀ a, a ≠ 62 → a ≠ 63 → a ≠ oj + 1 → a ≠ oj + 1 + 1 → a ≠ ok + 1 → a ≠ ok + 1 + 1 → I3 a = M.1 a := fun a a1 a2 a3 a4 a5 a6 => by rw [far3 a a5 a6, w2 a a1 a2 a3 a4]
  have L2 : ld_v I2 (t + 1) (wOne d j ((d_pn d j).1, (d_pn d j).2.1, (d_pn d j).2.2.1, (d_pn d j).2.2.2 ++ (d_pn d k).2.2.2)) := by
    refine ld_one hd (fun a a0 a1 a2 => w2 a (by omega) (by omega) (by have := hoj2 a a2; omega) (by have := hoj2 a a2; omega)) hj ?_
    have z := w2 oj (by omega) (by omega) (by omega) (by omega)
    rw [hoj]
    exact ⟨by rw [z]; exact u1, u2, by rw [z]; exact u3, u4, by rw [z]; exact u5, u6, hv2⟩
  have L3 : ld_v I3 (t + 1) (wOne (wOne d j ((d_pn d j).1, (d_pn d j).2.1, (d_pn d j).2.2.1, (d_pn d j).2.2.2 ++ (d_pn d k).2.2.2)) k ((d_pn d k).1, (d_pn d k).2.1, (d_pn d k).2.2.1, (d_pn d j).2.2.2 ++ (d_pn d k).2.2.2)) := by
    refine ld_one L2 (fun a a0 a1 a2 => far3 a (by have := hok2 a a2; omega) (by have := hok2 a a2; omega)) (by show k < (d.2.1.set j _).length; rw [List.length_set]; exact hk) ?_
    have z := w3 ok (by omega) (by omega) (by omega) (by omega) (by omega) (by omega)
    rw [hok]
    exact ⟨by rw [z]; exact u1', u2', by rw [z]; exact u3', u4', by rw [z]; exact u5', u6', hv3⟩
  have N3 : nm_v I3 (oj + 1) ((d_pn d j).2.2.2 ++ (d_pn d k).2.2.2) := nm_v_congr (far3 _ (by omega) (by omega)) (far3 _ (by omega) (by omega)) hv2
  have hsum := c_sumOf (kind := (d_pn d j).1) h (I3, M.2.1, M.2.2) hg L3 o4 N3 (by omega)
  have kj3 : I3 oj 1 = nI (d_pn d j).1 := by rw [w3 _ (by omega) (by omega) (by omega) (by omega) (by omega) (by omega)]; exact u1
  exact ⟨I1, I2, I3, hjn, hcp1, hcp2, hsum, ⟨fun a x1 x2 => w3 a (by omega) (by omega) (by omega) (by omega) (by omega) (by omega), fun a x1 => w3 a (by omega) (by omega) (by omega) (by omega) (by omega) (by omega)⟩, L3, kj3⟩
set_option maxHeartbeats 4000000 in
theorem p_wed {b : Bool} {X : St} (x y : Int32) (h : ab_H) (M : ab_M) (hl : Lay h M.2.2 b) (hv : cl_v M.1 b X) : pr_X pX10_wed [.ref 1, .int x, .int y] h M (cp h M (f_wed X x y)) := by
  obtain ⟨k1, q0, q1, rc, q3, q4, q5, q6, q7, q8, r9⟩ := id hl.1
  have ht := ly_told hl
  obtain ⟨t0, t1, r0, r1, r2, r3, hg, ⟨ka, kb⟩, ⟨kc, kd⟩, ⟨ke, kf⟩, hnm⟩ := id ht
  obtain ⟨g0, g1, s1, s2, m1, m2, ⟨m3, m4⟩, hon⟩ := id hg
  obtain ⟨hT, hIm, hSh, hTp, hFa, hTo⟩ := id hv
  obtain ⟨hd, v2, v3, v4, v5, v6, v7⟩ := id hT
  obtain ⟨d1, d2, d3, d4, d5, d6, d7, d8⟩ := id hd
  have b0 := tB_ne b
  have hc := hl.2.2.2.2.2.1
  have hb : 49 + 5 < tB b + 1 ∨ tB b + 1 + 27 ≤ 49 := by cases b <;> decide
  have hb2 : 63 < tB b ∧ tB b + 43 ≤ 110 ∨ 5 < tB b ∧ tB b + 43 ≤ 49 := by cases b <;> decide
  have c1 := hc.2.1
  unfold f_wed
  have hp := o_isOne x h M hl hv
  have hp2 := o_isOne y h M hl hv
  rcases pr_ix x (show X.1.1.2.1.length ≤ 1000000 by omega) with q | ⟨j, hj, rfl, q⟩
  · rw [q] at hp
    rw [show ixb x (x_n X) = false from q]
    refine pr_seqT (pc' := 2) 2 rfl ⟨⟨trivial, (by first | assumption | (simp only [r9, r0, r1, r2, r3, s1, s2, q0, q1, rc, q3, q4, q5, q6, q7, q8, pr_8_m2, pr_8_m3, pr_i_1, pr_i_m1]; first | assumption | decide | exact ⟨by assumption, by assumption⟩ | exact ⟨Or.inl (by assumption), by assumption⟩ | omega) | decide | exact ⟨Or.inl (by assumption), by assumption⟩ | exact ⟨by assumption, by assumption⟩ | omega)⟩, trivial⟩ ?_
    try simp only [r9, r0, r1, r2, r3, s1, s2, q0, q1, rc, q3, q4, q5, q6, q7, q8, pr_8_m2, pr_8_m3, pr_i_1, pr_i_m1]
    refine pr_cvT [_] rfl rfl rfl rfl rfl (Nat.le_of_ble_eq_true rfl) (by first | assumption | (simp only [r9, r0, r1, r2, r3, s1, s2, q0, q1, rc, q3, q4, q5, q6, q7, q8, pr_8_m2, pr_8_m3, pr_i_1, pr_i_m1]; first | assumption | decide | exact ⟨by assumption, by assumption⟩ | exact ⟨Or.inl (by assumption), by assumption⟩ | omega) | decide | exact ⟨Or.inl (by assumption), by assumption⟩ | exact ⟨by assumption, by assumption⟩ | omega) (Nat.le_of_ble_eq_true rfl) (hp) ?_
    refine pr_ifT rfl (fun h5 => ?_) (fun h5 => ?_)
    · simp only [ab_cmp, pr_8_m2, pr_8_m3, pr_i_1, pr_i_m1] at h5
      first
      | contradiction
      | exact absurd trivial h5
      | exact absurd h5 (by decide)
      | exact absurd (Classical.not_not.mp h5) (by decide)
      | skip
        refine pr_seqT (pc' := 22) 1 rfl ⟨trivial, trivial⟩ ?_
        try simp only [r9, r0, r1, r2, r3, s1, s2, q0, q1, rc, q3, q4, q5, q6, q7, q8, pr_8_m2, pr_8_m3, pr_i_1, pr_i_m1]
        exact pr_irT rfl trivial (by exact cp_s hl hv)
    · simp only [ab_cmp, pr_8_m2, pr_8_m3, pr_i_1, pr_i_m1] at h5
      first
      | contradiction
      | exact absurd trivial h5
      | exact absurd h5 (by decide)
      | exact absurd (Classical.not_not.mp h5) (by decide)
      | skip
        refine pr_seqT (pc' := 10) 2 rfl ⟨⟨trivial, (by first | assumption | (simp only [r9, r0, r1, r2, r3, s1, s2, q0, q1, rc, q3, q4, q5, q6, q7, q8, pr_8_m2, pr_8_m3, pr_i_1, pr_i_m1]; first | assumption | decide | exact ⟨by assumption, by assumption⟩ | exact ⟨Or.inl (by assumption), by assumption⟩ | omega) | decide | exact ⟨Or.inl (by assumption), by assumption⟩ | exact ⟨by assumption, by assumption⟩ | omega)⟩, trivial⟩ ?_
        try simp only [r9, r0, r1, r2, r3, s1, s2, q0, q1, rc, q3, q4, q5, q6, q7, q8, pr_8_m2, pr_8_m3, pr_i_1, pr_i_m1]
        fail "no call@10 yX10_isOne"
  · rw [q] at hp
    rw [show ixb (nI j) (x_n X) = true from q]
    rcases pr_ix y (show X.1.1.2.1.length ≤ 1000000 by omega) with q' | ⟨k, hk, rfl, q'⟩
    · rw [q'] at hp2
      rw [show ixb y (x_n X) = false from q']
      refine pr_seqT (pc' := 2) 2 rfl ⟨⟨trivial, (by first | assumption | (simp only [r9, r0, r1, r2, r3, s1, s2, q0, q1, rc, q3, q4, q5, q6, q7, q8, pr_8_m2, pr_8_m3, pr_i_1, pr_i_m1]; first | assumption | decide | exact ⟨by assumption, by assumption⟩ | exact ⟨Or.inl (by assumption), by assumption⟩ | omega) | decide | exact ⟨Or.inl (by assumption), by assumption⟩ | exact ⟨by assumption, by assumption⟩ | omega)⟩, trivial⟩ ?_
      try simp only [r9, r0, r1, r2, r3, s1, s2, q0, q1, rc, q3, q4, q5, q6, q7, q8, pr_8_m2, pr_8_m3, pr_i_1, pr_i_m1]
      refine pr_cvT [_] rfl rfl rfl rfl rfl (Nat.le_of_ble_eq_true rfl) (by first | assumption | (simp only [r9, r0, r1, r2, r3, s1, s2, q0, q1, rc, q3, q4, q5, q6, q7, q8, pr_8_m2, pr_8_m3, pr_i_1, pr_i_m1]; first | assumption | decide | exact ⟨by assumption, by assumption⟩ | exact ⟨Or.inl (by assumption), by assumption⟩ | omega) | decide | exact ⟨Or.inl (by assumption), by assumption⟩ | exact ⟨by assumption, by assumption⟩ | omega) (Nat.le_of_ble_eq_true rfl) (hp) ?_
      refine pr_ifT rfl (fun h5 => ?_) (fun h5 => ?_)
      · simp only [ab_cmp, pr_8_m2, pr_8_m3, pr_i_1, pr_i_m1] at h5
        first
        | contradiction
        | exact absurd trivial h5
        | exact absurd h5 (by decide)
        | exact absurd (Classical.not_not.mp h5) (by decide)
        | skip
          refine pr_seqT (pc' := 22) 1 rfl ⟨trivial, trivial⟩ ?_
          try simp only [r9, r0, r1, r2, r3, s1, s2, q0, q1, rc, q3, q4, q5, q6, q7, q8, pr_8_m2, pr_8_m3, pr_i_1, pr_i_m1]
          exact pr_irT rfl trivial (by exact cp_s hl hv)
      · simp only [ab_cmp, pr_8_m2, pr_8_m3, pr_i_1, pr_i_m1] at h5
        first
        | contradiction
        | exact absurd trivial h5
        | exact absurd h5 (by decide)
        | exact absurd (Classical.not_not.mp h5) (by decide)
        | skip
          refine pr_seqT (pc' := 10) 2 rfl ⟨⟨trivial, (by first | assumption | (simp only [r9, r0, r1, r2, r3, s1, s2, q0, q1, rc, q3, q4, q5, q6, q7, q8, pr_8_m2, pr_8_m3, pr_i_1, pr_i_m1]; first | assumption | decide | exact ⟨by assumption, by assumption⟩ | exact ⟨Or.inl (by assumption), by assumption⟩ | omega) | decide | exact ⟨Or.inl (by assumption), by assumption⟩ | exact ⟨by assumption, by assumption⟩ | omega)⟩, trivial⟩ ?_
          try simp only [r9, r0, r1, r2, r3, s1, s2, q0, q1, rc, q3, q4, q5, q6, q7, q8, pr_8_m2, pr_8_m3, pr_i_1, pr_i_m1]
          refine pr_cvT [_] rfl rfl rfl rfl rfl (Nat.le_of_ble_eq_true rfl) (by first | assumption | (simp only [r9, r0, r1, r2, r3, s1, s2, q0, q1, rc, q3, q4, q5, q6, q7, q8, pr_8_m2, pr_8_m3, pr_i_1, pr_i_m1]; first | assumption | decide | exact ⟨by assumption, by assumption⟩ | exact ⟨Or.inl (by assumption), by assumption⟩ | omega) | decide | exact ⟨Or.inl (by assumption), by assumption⟩ | exact ⟨by assumption, by assumption⟩ | omega) (Nat.le_of_ble_eq_true rfl) (hp2) ?_
          refine pr_ifT rfl (fun h13 => ?_) (fun h13 => ?_)
          · simp only [ab_cmp, pr_8_m2, pr_8_m3, pr_i_1, pr_i_m1] at h13
            first
            | contradiction
            | exact absurd trivial h13
            | exact absurd h13 (by decide)
            | exact absurd (Classical.not_not.mp h13) (by decide)
            | skip
              refine pr_seqT (pc' := 22) 1 rfl ⟨trivial, trivial⟩ ?_
              try simp only [r9, r0, r1, r2, r3, s1, s2, q0, q1, rc, q3, q4, q5, q6, q7, q8, pr_8_m2, pr_8_m3, pr_i_1, pr_i_m1]
              exact pr_irT rfl trivial (by exact cp_s hl hv)
          · simp only [ab_cmp, pr_8_m2, pr_8_m3, pr_i_1, pr_i_m1] at h13
            first
            | contradiction
            | exact absurd trivial h13
            | exact absurd h13 (by decide)
            | exact absurd (Classical.not_not.mp h13) (by decide)
            | skip
              refine pr_seqT (pc' := 18) 2 rfl ⟨⟨trivial, trivial⟩, trivial⟩ ?_
              try simp only [r9, r0, r1, r2, r3, s1, s2, q0, q1, rc, q3, q4, q5, q6, q7, q8, pr_8_m2, pr_8_m3, pr_i_1, pr_i_m1]
              refine pr_icT rfl (fun h18 => ?_) (fun h18 => ?_)
              · simp only [ab_cmp, pr_8_m2, pr_8_m3, pr_i_1, pr_i_m1] at h18
                first
                | contradiction
                | exact absurd trivial h18
                | exact absurd h18 (by decide)
                | exact absurd (Classical.not_not.mp h18) (by decide)
                | skip
                  refine pr_seqT (pc' := 55) 17 rfl ⟨⟨⟨⟨⟨⟨⟨⟨⟨⟨⟨⟨⟨⟨⟨⟨⟨trivial, (by first | assumption | (simp only [r9, r0, r1, r2, r3, s1, s2, q0, q1, rc, q3, q4, q5, q6, q7, q8, pr_8_m2, pr_8_m3, pr_i_1, pr_i_m1]; first | assumption | decide | exact ⟨by assumption, by assumption⟩ | exact ⟨Or.inl (by assumption), by assumption⟩ | omega) | decide | exact ⟨Or.inl (by assumption), by assumption⟩ | exact ⟨by assumption, by assumption⟩ | omega)⟩, (by first | assumption | (simp only [r9, r0, r1, r2, r3, s1, s2, q0, q1, rc, q3, q4, q5, q6, q7, q8, pr_8_m2, pr_8_m3, pr_i_1, pr_i_m1]; first | assumption | decide | exact ⟨by assumption, by assumption⟩ | exact ⟨Or.inl (by assumption), by assumption⟩ | omega) | decide | exact ⟨Or.inl (by assumption), by assumption⟩ | exact ⟨by assumption, by assumption⟩ | omega)⟩, (by first | assumption | (simp only [r9, r0, r1, r2, r3, s1, s2, q0, q1, rc, q3, q4, q5, q6, q7, q8, pr_8_m2, pr_8_m3, pr_i_1, pr_i_m1]; first | assumption | decide | exact ⟨by assumption, by assumption⟩ | exact ⟨Or.inl (by assumption), by assumption⟩ | omega) | decide | exact ⟨Or.inl (by assumption), by assumption⟩ | exact ⟨by assumption, by assumption⟩ | omega)⟩, (by first | assumption | (simp only [r9, r0, r1, r2, r3, s1, s2, q0, q1, rc, q3, q4, q5, q6, q7, q8, pr_8_m2, pr_8_m3, pr_i_1, pr_i_m1]; first | assumption | decide | exact ⟨by assumption, by assumption⟩ | exact ⟨Or.inl (by assumption), by assumption⟩ | omega) | decide | exact ⟨Or.inl (by assumption), by assumption⟩ | exact ⟨by assumption, by assumption⟩ | omega)⟩, trivial⟩, (by first | assumption | (simp only [r9, r0, r1, r2, r3, s1, s2, q0, q1, rc, q3, q4, q5, q6, q7, q8, pr_8_m2, pr_8_m3, pr_i_1, pr_i_m1]; first | assumption | decide | exact ⟨by assumption, by assumption⟩ | exact ⟨Or.inl (by assumption), by assumption⟩ | omega) | decide | exact ⟨Or.inl (by assumption), by assumption⟩ | exact ⟨by assumption, by assumption⟩ | omega)⟩, (by first | assumption | (simp only [r9, r0, r1, r2, r3, s1, s2, q0, q1, rc, q3, q4, q5, q6, q7, q8, pr_8_m2, pr_8_m3, pr_i_1, pr_i_m1]; first | assumption | decide | exact ⟨by assumption, by assumption⟩ | exact ⟨Or.inl (by assumption), by assumption⟩ | omega) | decide | exact ⟨Or.inl (by assumption), by assumption⟩ | exact ⟨by assumption, by assumption⟩ | omega)⟩, (by first | assumption | (simp only [r9, r0, r1, r2, r3, s1, s2, q0, q1, rc, q3, q4, q5, q6, q7, q8, pr_8_m2, pr_8_m3, pr_i_1, pr_i_m1]; first | assumption | decide | exact ⟨by assumption, by assumption⟩ | exact ⟨Or.inl (by assumption), by assumption⟩ | omega) | decide | exact ⟨Or.inl (by assumption), by assumption⟩ | exact ⟨by assumption, by assumption⟩ | omega)⟩, (by first | assumption | (simp only [r9, r0, r1, r2, r3, s1, s2, q0, q1, rc, q3, q4, q5, q6, q7, q8, pr_8_m2, pr_8_m3, pr_i_1, pr_i_m1]; first | assumption | decide | exact ⟨by assumption, by assumption⟩ | exact ⟨Or.inl (by assumption), by assumption⟩ | omega) | decide | exact ⟨Or.inl (by assumption), by assumption⟩ | exact ⟨by assumption, by assumption⟩ | omega)⟩, (by first | assumption | (simp only [r9, r0, r1, r2, r3, s1, s2, q0, q1, rc, q3, q4, q5, q6, q7, q8, pr_8_m2, pr_8_m3, pr_i_1, pr_i_m1]; first | assumption | decide | exact ⟨by assumption, by assumption⟩ | exact ⟨Or.inl (by assumption), by assumption⟩ | omega) | decide | exact ⟨Or.inl (by assumption), by assumption⟩ | exact ⟨by assumption, by assumption⟩ | omega)⟩, (by first | assumption | (simp only [r9, r0, r1, r2, r3, s1, s2, q0, q1, rc, q3, q4, q5, q6, q7, q8, pr_8_m2, pr_8_m3, pr_i_1, pr_i_m1]; first | assumption | decide | exact ⟨by assumption, by assumption⟩ | exact ⟨Or.inl (by assumption), by assumption⟩ | omega) | decide | exact ⟨Or.inl (by assumption), by assumption⟩ | exact ⟨by assumption, by assumption⟩ | omega)⟩, trivial⟩, (by first | assumption | (simp only [r9, r0, r1, r2, r3, s1, s2, q0, q1, rc, q3, q4, q5, q6, q7, q8, pr_8_m2, pr_8_m3, pr_i_1, pr_i_m1]; first | assumption | decide | exact ⟨by assumption, by assumption⟩ | exact ⟨Or.inl (by assumption), by assumption⟩ | omega) | decide | exact ⟨Or.inl (by assumption), by assumption⟩ | exact ⟨by assumption, by assumption⟩ | omega)⟩, (by first | assumption | (simp only [r9, r0, r1, r2, r3, s1, s2, q0, q1, rc, q3, q4, q5, q6, q7, q8, pr_8_m2, pr_8_m3, pr_i_1, pr_i_m1]; first | assumption | decide | exact ⟨by assumption, by assumption⟩ | exact ⟨Or.inl (by assumption), by assumption⟩ | omega) | decide | exact ⟨Or.inl (by assumption), by assumption⟩ | exact ⟨by assumption, by assumption⟩ | omega)⟩, (by first | assumption | (simp only [r9, r0, r1, r2, r3, s1, s2, q0, q1, rc, q3, q4, q5, q6, q7, q8, pr_8_m2, pr_8_m3, pr_i_1, pr_i_m1]; first | assumption | decide | exact ⟨by assumption, by assumption⟩ | exact ⟨Or.inl (by assumption), by assumption⟩ | omega) | decide | exact ⟨Or.inl (by assumption), by assumption⟩ | exact ⟨by assumption, by assumption⟩ | omega)⟩, (by first | assumption | (simp only [r9, r0, r1, r2, r3, s1, s2, q0, q1, rc, q3, q4, q5, q6, q7, q8, pr_8_m2, pr_8_m3, pr_i_1, pr_i_m1]; first | assumption | decide | exact ⟨by assumption, by assumption⟩ | exact ⟨Or.inl (by assumption), by assumption⟩ | omega) | decide | exact ⟨Or.inl (by assumption), by assumption⟩ | exact ⟨by assumption, by assumption⟩ | omega)⟩, trivial⟩ ?_
                  try simp only [r9, r0, r1, r2, r3, s1, s2, q0, q1, rc, q3, q4, q5, q6, q7, q8, pr_8_m2, pr_8_m3, pr_i_1, pr_i_m1]
                  refine pr_icT rfl (fun h55 => ?_) (fun h55 => ?_)
                  · simp only [ab_cmp, pr_8_m2, pr_8_m3, pr_i_1, pr_i_m1] at h55
                    first
                    | contradiction
                    | exact absurd trivial h55
                    | exact absurd h55 (by decide)
                    | exact absurd (Classical.not_not.mp h55) (by decide)
                    | skip
                      refine pr_seqT (pc' := 69) 1 rfl ⟨trivial, trivial⟩ ?_
                      try simp only [r9, r0, r1, r2, r3, s1, s2, q0, q1, rc, q3, q4, q5, q6, q7, q8, pr_8_m2, pr_8_m3, pr_i_1, pr_i_m1]
                      exact pr_irT rfl trivial (by first | rfl | (simp only [r9, r0, r1, r2, r3, s1, s2, q0, q1, rc, q3, q4, q5, q6, q7, q8, pr_8_m2, pr_8_m3, pr_i_1, pr_i_m1]; done) | (simp [pr_b, pr_8_m2, pr_8_m3, pr_i_1, pr_i_m1, *]; done) | (simp_all [pr_b, pr_8_m2, pr_8_m3, pr_i_1, pr_i_m1]; done))
                  · simp only [ab_cmp, pr_8_m2, pr_8_m3, pr_i_1, pr_i_m1] at h55
                    first
                    | contradiction
                    | exact absurd trivial h55
                    | exact absurd h55 (by decide)
                    | exact absurd (Classical.not_not.mp h55) (by decide)
                    | skip
                      refine pr_seqT (pc' := 64) 3 rfl ⟨⟨⟨trivial, (by first | assumption | (simp only [r9, r0, r1, r2, r3, s1, s2, q0, q1, rc, q3, q4, q5, q6, q7, q8, pr_8_m2, pr_8_m3, pr_i_1, pr_i_m1]; first | assumption | decide | exact ⟨by assumption, by assumption⟩ | exact ⟨Or.inl (by assumption), by assumption⟩ | omega) | decide | exact ⟨Or.inl (by assumption), by assumption⟩ | exact ⟨by assumption, by assumption⟩ | omega)⟩, (by first | assumption | (simp only [r9, r0, r1, r2, r3, s1, s2, q0, q1, rc, q3, q4, q5, q6, q7, q8, pr_8_m2, pr_8_m3, pr_i_1, pr_i_m1]; first | assumption | decide | exact ⟨by assumption, by assumption⟩ | exact ⟨Or.inl (by assumption), by assumption⟩ | omega) | decide | exact ⟨Or.inl (by assumption), by assumption⟩ | exact ⟨by assumption, by assumption⟩ | omega)⟩, trivial⟩ ?_
                      try simp only [r9, r0, r1, r2, r3, s1, s2, q0, q1, rc, q3, q4, q5, q6, q7, q8, pr_8_m2, pr_8_m3, pr_i_1, pr_i_m1]
                      refine pr_icT rfl (fun h64 => ?_) (fun h64 => ?_)
                      · simp only [ab_cmp, pr_8_m2, pr_8_m3, pr_i_1, pr_i_m1] at h64
                        first
                        | contradiction
                        | exact absurd trivial h64
                        | exact absurd h64 (by decide)
                        | exact absurd (Classical.not_not.mp h64) (by decide)
                        | skip
                          refine pr_seqT (pc' := 83) 6 rfl ⟨⟨⟨⟨⟨⟨trivial, (by first | assumption | (simp only [r9, r0, r1, r2, r3, s1, s2, q0, q1, rc, q3, q4, q5, q6, q7, q8, pr_8_m2, pr_8_m3, pr_i_1, pr_i_m1]; first | assumption | decide | exact ⟨by assumption, by assumption⟩ | exact ⟨Or.inl (by assumption), by assumption⟩ | omega) | decide | exact ⟨Or.inl (by assumption), by assumption⟩ | exact ⟨by assumption, by assumption⟩ | omega)⟩, (by first | assumption | (simp only [r9, r0, r1, r2, r3, s1, s2, q0, q1, rc, q3, q4, q5, q6, q7, q8, pr_8_m2, pr_8_m3, pr_i_1, pr_i_m1]; first | assumption | decide | exact ⟨by assumption, by assumption⟩ | exact ⟨Or.inl (by assumption), by assumption⟩ | omega) | decide | exact ⟨Or.inl (by assumption), by assumption⟩ | exact ⟨by assumption, by assumption⟩ | omega)⟩, (by first | assumption | (simp only [r9, r0, r1, r2, r3, s1, s2, q0, q1, rc, q3, q4, q5, q6, q7, q8, pr_8_m2, pr_8_m3, pr_i_1, pr_i_m1]; first | assumption | decide | exact ⟨by assumption, by assumption⟩ | exact ⟨Or.inl (by assumption), by assumption⟩ | omega) | decide | exact ⟨Or.inl (by assumption), by assumption⟩ | exact ⟨by assumption, by assumption⟩ | omega)⟩, (by first | assumption | (simp only [r9, r0, r1, r2, r3, s1, s2, q0, q1, rc, q3, q4, q5, q6, q7, q8, pr_8_m2, pr_8_m3, pr_i_1, pr_i_m1]; first | assumption | decide | exact ⟨by assumption, by assumption⟩ | exact ⟨Or.inl (by assumption), by assumption⟩ | omega) | decide | exact ⟨Or.inl (by assumption), by assumption⟩ | exact ⟨by assumption, by assumption⟩ | omega)⟩, (by first | assumption | (simp only [r9, r0, r1, r2, r3, s1, s2, q0, q1, rc, q3, q4, q5, q6, q7, q8, pr_8_m2, pr_8_m3, pr_i_1, pr_i_m1]; first | assumption | decide | exact ⟨by assumption, by assumption⟩ | exact ⟨Or.inl (by assumption), by assumption⟩ | omega) | decide | exact ⟨Or.inl (by assumption), by assumption⟩ | exact ⟨by assumption, by assumption⟩ | omega)⟩, (by first | assumption | (simp only [r9, r0, r1, r2, r3, s1, s2, q0, q1, rc, q3, q4, q5, q6, q7, q8, pr_8_m2, pr_8_m3, pr_i_1, pr_i_m1]; first | assumption | decide | exact ⟨by assumption, by assumption⟩ | exact ⟨Or.inl (by assumption), by assumption⟩ | omega) | decide | exact ⟨Or.inl (by assumption), by assumption⟩ | exact ⟨by assumption, by assumption⟩ | omega)⟩ ?_
                          try simp only [r9, r0, r1, r2, r3, s1, s2, q0, q1, rc, q3, q4, q5, q6, q7, q8, pr_8_m2, pr_8_m3, pr_i_1, pr_i_m1]
                          fail "no call@83 yX2_join"
                      · simp only [ab_cmp, pr_8_m2, pr_8_m3, pr_i_1, pr_i_m1] at h64
                        first
                        | contradiction
                        | exact absurd trivial h64
                        | exact absurd h64 (by decide)
                        | exact absurd (Classical.not_not.mp h64) (by decide)
                        | skip
                          refine pr_seqT (pc' := 69) 1 rfl ⟨trivial, trivial⟩ ?_
                          try simp only [r9, r0, r1, r2, r3, s1, s2, q0, q1, rc, q3, q4, q5, q6, q7, q8, pr_8_m2, pr_8_m3, pr_i_1, pr_i_m1]
                          exact pr_irT rfl trivial (by first | rfl | (simp only [r9, r0, r1, r2, r3, s1, s2, q0, q1, rc, q3, q4, q5, q6, q7, q8, pr_8_m2, pr_8_m3, pr_i_1, pr_i_m1]; done) | (simp [pr_b, pr_8_m2, pr_8_m3, pr_i_1, pr_i_m1, *]; done) | (simp_all [pr_b, pr_8_m2, pr_8_m3, pr_i_1, pr_i_m1]; done))
              · simp only [ab_cmp, pr_8_m2, pr_8_m3, pr_i_1, pr_i_m1] at h18
                first
                | contradiction
                | exact absurd trivial h18
                | exact absurd h18 (by decide)
                | exact absurd (Classical.not_not.mp h18) (by decide)
                | skip
                  refine pr_seqT (pc' := 22) 1 rfl ⟨trivial, trivial⟩ ?_
                  try simp only [r9, r0, r1, r2, r3, s1, s2, q0, q1, rc, q3, q4, q5, q6, q7, q8, pr_8_m2, pr_8_m3, pr_i_1, pr_i_m1]
                  exact pr_irT rfl trivial (by exact cp_s hl hv)
    · rw [q'] at hp2
      rw [show ixb (nI k) (x_n X) = true from q']
      by_cases ejk : j = k
      · subst ejk
        rw [decide_eq_false (by simp)]
        refine pr_seqT (pc' := 2) 2 rfl ⟨⟨trivial, (by first | assumption | (simp only [r9, r0, r1, r2, r3, s1, s2, q0, q1, rc, q3, q4, q5, q6, q7, q8, pr_8_m2, pr_8_m3, pr_i_1, pr_i_m1]; first | assumption | decide | exact ⟨by assumption, by assumption⟩ | exact ⟨Or.inl (by assumption), by assumption⟩ | omega) | decide | exact ⟨Or.inl (by assumption), by assumption⟩ | exact ⟨by assumption, by assumption⟩ | omega)⟩, trivial⟩ ?_
        try simp only [r9, r0, r1, r2, r3, s1, s2, q0, q1, rc, q3, q4, q5, q6, q7, q8, pr_8_m2, pr_8_m3, pr_i_1, pr_i_m1]
        refine pr_cvT [_] rfl rfl rfl rfl rfl (Nat.le_of_ble_eq_true rfl) (by first | assumption | (simp only [r9, r0, r1, r2, r3, s1, s2, q0, q1, rc, q3, q4, q5, q6, q7, q8, pr_8_m2, pr_8_m3, pr_i_1, pr_i_m1]; first | assumption | decide | exact ⟨by assumption, by assumption⟩ | exact ⟨Or.inl (by assumption), by assumption⟩ | omega) | decide | exact ⟨Or.inl (by assumption), by assumption⟩ | exact ⟨by assumption, by assumption⟩ | omega) (Nat.le_of_ble_eq_true rfl) (hp) ?_
        refine pr_ifT rfl (fun h5 => ?_) (fun h5 => ?_)
        · simp only [ab_cmp, pr_8_m2, pr_8_m3, pr_i_1, pr_i_m1] at h5
          first
          | contradiction
          | exact absurd trivial h5
          | exact absurd h5 (by decide)
          | exact absurd (Classical.not_not.mp h5) (by decide)
          | skip
            refine pr_seqT (pc' := 22) 1 rfl ⟨trivial, trivial⟩ ?_
            try simp only [r9, r0, r1, r2, r3, s1, s2, q0, q1, rc, q3, q4, q5, q6, q7, q8, pr_8_m2, pr_8_m3, pr_i_1, pr_i_m1]
            exact pr_irT rfl trivial (by exact cp_s hl hv)
        · simp only [ab_cmp, pr_8_m2, pr_8_m3, pr_i_1, pr_i_m1] at h5
          first
          | contradiction
          | exact absurd trivial h5
          | exact absurd h5 (by decide)
          | exact absurd (Classical.not_not.mp h5) (by decide)
          | skip
            refine pr_seqT (pc' := 10) 2 rfl ⟨⟨trivial, (by first | assumption | (simp only [r9, r0, r1, r2, r3, s1, s2, q0, q1, rc, q3, q4, q5, q6, q7, q8, pr_8_m2, pr_8_m3, pr_i_1, pr_i_m1]; first | assumption | decide | exact ⟨by assumption, by assumption⟩ | exact ⟨Or.inl (by assumption), by assumption⟩ | omega) | decide | exact ⟨Or.inl (by assumption), by assumption⟩ | exact ⟨by assumption, by assumption⟩ | omega)⟩, trivial⟩ ?_
            try simp only [r9, r0, r1, r2, r3, s1, s2, q0, q1, rc, q3, q4, q5, q6, q7, q8, pr_8_m2, pr_8_m3, pr_i_1, pr_i_m1]
            refine pr_cvT [_] rfl rfl rfl rfl rfl (Nat.le_of_ble_eq_true rfl) (by first | assumption | (simp only [r9, r0, r1, r2, r3, s1, s2, q0, q1, rc, q3, q4, q5, q6, q7, q8, pr_8_m2, pr_8_m3, pr_i_1, pr_i_m1]; first | assumption | decide | exact ⟨by assumption, by assumption⟩ | exact ⟨Or.inl (by assumption), by assumption⟩ | omega) | decide | exact ⟨Or.inl (by assumption), by assumption⟩ | exact ⟨by assumption, by assumption⟩ | omega) (Nat.le_of_ble_eq_true rfl) (hp2) ?_
            refine pr_ifT rfl (fun h13 => ?_) (fun h13 => ?_)
            · simp only [ab_cmp, pr_8_m2, pr_8_m3, pr_i_1, pr_i_m1] at h13
              first
              | contradiction
              | exact absurd trivial h13
              | exact absurd h13 (by decide)
              | exact absurd (Classical.not_not.mp h13) (by decide)
              | skip
                refine pr_seqT (pc' := 22) 1 rfl ⟨trivial, trivial⟩ ?_
                try simp only [r9, r0, r1, r2, r3, s1, s2, q0, q1, rc, q3, q4, q5, q6, q7, q8, pr_8_m2, pr_8_m3, pr_i_1, pr_i_m1]
                exact pr_irT rfl trivial (by exact cp_s hl hv)
            · simp only [ab_cmp, pr_8_m2, pr_8_m3, pr_i_1, pr_i_m1] at h13
              first
              | contradiction
              | exact absurd trivial h13
              | exact absurd h13 (by decide)
              | exact absurd (Classical.not_not.mp h13) (by decide)
              | skip
                refine pr_seqT (pc' := 18) 2 rfl ⟨⟨trivial, trivial⟩, trivial⟩ ?_
                try simp only [r9, r0, r1, r2, r3, s1, s2, q0, q1, rc, q3, q4, q5, q6, q7, q8, pr_8_m2, pr_8_m3, pr_i_1, pr_i_m1]
                refine pr_icT rfl (fun h18 => ?_) (fun h18 => ?_)
                · simp only [ab_cmp, pr_8_m2, pr_8_m3, pr_i_1, pr_i_m1] at h18
                  first
                  | contradiction
                  | exact absurd trivial h18
                  | exact absurd h18 (by decide)
                  | exact absurd (Classical.not_not.mp h18) (by decide)
                  | skip
                    refine pr_seqT (pc' := 55) 17 rfl ⟨⟨⟨⟨⟨⟨⟨⟨⟨⟨⟨⟨⟨⟨⟨⟨⟨trivial, (by first | assumption | (simp only [r9, r0, r1, r2, r3, s1, s2, q0, q1, rc, q3, q4, q5, q6, q7, q8, pr_8_m2, pr_8_m3, pr_i_1, pr_i_m1]; first | assumption | decide | exact ⟨by assumption, by assumption⟩ | exact ⟨Or.inl (by assumption), by assumption⟩ | omega) | decide | exact ⟨Or.inl (by assumption), by assumption⟩ | exact ⟨by assumption, by assumption⟩ | omega)⟩, (by first | assumption | (simp only [r9, r0, r1, r2, r3, s1, s2, q0, q1, rc, q3, q4, q5, q6, q7, q8, pr_8_m2, pr_8_m3, pr_i_1, pr_i_m1]; first | assumption | decide | exact ⟨by assumption, by assumption⟩ | exact ⟨Or.inl (by assumption), by assumption⟩ | omega) | decide | exact ⟨Or.inl (by assumption), by assumption⟩ | exact ⟨by assumption, by assumption⟩ | omega)⟩, (by first | assumption | (simp only [r9, r0, r1, r2, r3, s1, s2, q0, q1, rc, q3, q4, q5, q6, q7, q8, pr_8_m2, pr_8_m3, pr_i_1, pr_i_m1]; first | assumption | decide | exact ⟨by assumption, by assumption⟩ | exact ⟨Or.inl (by assumption), by assumption⟩ | omega) | decide | exact ⟨Or.inl (by assumption), by assumption⟩ | exact ⟨by assumption, by assumption⟩ | omega)⟩, (by first | assumption | (simp only [r9, r0, r1, r2, r3, s1, s2, q0, q1, rc, q3, q4, q5, q6, q7, q8, pr_8_m2, pr_8_m3, pr_i_1, pr_i_m1]; first | assumption | decide | exact ⟨by assumption, by assumption⟩ | exact ⟨Or.inl (by assumption), by assumption⟩ | omega) | decide | exact ⟨Or.inl (by assumption), by assumption⟩ | exact ⟨by assumption, by assumption⟩ | omega)⟩, trivial⟩, (by first | assumption | (simp only [r9, r0, r1, r2, r3, s1, s2, q0, q1, rc, q3, q4, q5, q6, q7, q8, pr_8_m2, pr_8_m3, pr_i_1, pr_i_m1]; first | assumption | decide | exact ⟨by assumption, by assumption⟩ | exact ⟨Or.inl (by assumption), by assumption⟩ | omega) | decide | exact ⟨Or.inl (by assumption), by assumption⟩ | exact ⟨by assumption, by assumption⟩ | omega)⟩, (by first | assumption | (simp only [r9, r0, r1, r2, r3, s1, s2, q0, q1, rc, q3, q4, q5, q6, q7, q8, pr_8_m2, pr_8_m3, pr_i_1, pr_i_m1]; first | assumption | decide | exact ⟨by assumption, by assumption⟩ | exact ⟨Or.inl (by assumption), by assumption⟩ | omega) | decide | exact ⟨Or.inl (by assumption), by assumption⟩ | exact ⟨by assumption, by assumption⟩ | omega)⟩, (by first | assumption | (simp only [r9, r0, r1, r2, r3, s1, s2, q0, q1, rc, q3, q4, q5, q6, q7, q8, pr_8_m2, pr_8_m3, pr_i_1, pr_i_m1]; first | assumption | decide | exact ⟨by assumption, by assumption⟩ | exact ⟨Or.inl (by assumption), by assumption⟩ | omega) | decide | exact ⟨Or.inl (by assumption), by assumption⟩ | exact ⟨by assumption, by assumption⟩ | omega)⟩, (by first | assumption | (simp only [r9, r0, r1, r2, r3, s1, s2, q0, q1, rc, q3, q4, q5, q6, q7, q8, pr_8_m2, pr_8_m3, pr_i_1, pr_i_m1]; first | assumption | decide | exact ⟨by assumption, by assumption⟩ | exact ⟨Or.inl (by assumption), by assumption⟩ | omega) | decide | exact ⟨Or.inl (by assumption), by assumption⟩ | exact ⟨by assumption, by assumption⟩ | omega)⟩, (by first | assumption | (simp only [r9, r0, r1, r2, r3, s1, s2, q0, q1, rc, q3, q4, q5, q6, q7, q8, pr_8_m2, pr_8_m3, pr_i_1, pr_i_m1]; first | assumption | decide | exact ⟨by assumption, by assumption⟩ | exact ⟨Or.inl (by assumption), by assumption⟩ | omega) | decide | exact ⟨Or.inl (by assumption), by assumption⟩ | exact ⟨by assumption, by assumption⟩ | omega)⟩, (by first | assumption | (simp only [r9, r0, r1, r2, r3, s1, s2, q0, q1, rc, q3, q4, q5, q6, q7, q8, pr_8_m2, pr_8_m3, pr_i_1, pr_i_m1]; first | assumption | decide | exact ⟨by assumption, by assumption⟩ | exact ⟨Or.inl (by assumption), by assumption⟩ | omega) | decide | exact ⟨Or.inl (by assumption), by assumption⟩ | exact ⟨by assumption, by assumption⟩ | omega)⟩, trivial⟩, (by first | assumption | (simp only [r9, r0, r1, r2, r3, s1, s2, q0, q1, rc, q3, q4, q5, q6, q7, q8, pr_8_m2, pr_8_m3, pr_i_1, pr_i_m1]; first | assumption | decide | exact ⟨by assumption, by assumption⟩ | exact ⟨Or.inl (by assumption), by assumption⟩ | omega) | decide | exact ⟨Or.inl (by assumption), by assumption⟩ | exact ⟨by assumption, by assumption⟩ | omega)⟩, (by first | assumption | (simp only [r9, r0, r1, r2, r3, s1, s2, q0, q1, rc, q3, q4, q5, q6, q7, q8, pr_8_m2, pr_8_m3, pr_i_1, pr_i_m1]; first | assumption | decide | exact ⟨by assumption, by assumption⟩ | exact ⟨Or.inl (by assumption), by assumption⟩ | omega) | decide | exact ⟨Or.inl (by assumption), by assumption⟩ | exact ⟨by assumption, by assumption⟩ | omega)⟩, (by first | assumption | (simp only [r9, r0, r1, r2, r3, s1, s2, q0, q1, rc, q3, q4, q5, q6, q7, q8, pr_8_m2, pr_8_m3, pr_i_1, pr_i_m1]; first | assumption | decide | exact ⟨by assumption, by assumption⟩ | exact ⟨Or.inl (by assumption), by assumption⟩ | omega) | decide | exact ⟨Or.inl (by assumption), by assumption⟩ | exact ⟨by assumption, by assumption⟩ | omega)⟩, (by first | assumption | (simp only [r9, r0, r1, r2, r3, s1, s2, q0, q1, rc, q3, q4, q5, q6, q7, q8, pr_8_m2, pr_8_m3, pr_i_1, pr_i_m1]; first | assumption | decide | exact ⟨by assumption, by assumption⟩ | exact ⟨Or.inl (by assumption), by assumption⟩ | omega) | decide | exact ⟨Or.inl (by assumption), by assumption⟩ | exact ⟨by assumption, by assumption⟩ | omega)⟩, trivial⟩ ?_
                    try simp only [r9, r0, r1, r2, r3, s1, s2, q0, q1, rc, q3, q4, q5, q6, q7, q8, pr_8_m2, pr_8_m3, pr_i_1, pr_i_m1]
                    refine pr_icT rfl (fun h55 => ?_) (fun h55 => ?_)
                    · simp only [ab_cmp, pr_8_m2, pr_8_m3, pr_i_1, pr_i_m1] at h55
                      first
                      | contradiction
                      | exact absurd trivial h55
                      | exact absurd h55 (by decide)
                      | exact absurd (Classical.not_not.mp h55) (by decide)
                      | skip
                        refine pr_seqT (pc' := 69) 1 rfl ⟨trivial, trivial⟩ ?_
                        try simp only [r9, r0, r1, r2, r3, s1, s2, q0, q1, rc, q3, q4, q5, q6, q7, q8, pr_8_m2, pr_8_m3, pr_i_1, pr_i_m1]
                        exact pr_irT rfl trivial (by first | rfl | (simp only [r9, r0, r1, r2, r3, s1, s2, q0, q1, rc, q3, q4, q5, q6, q7, q8, pr_8_m2, pr_8_m3, pr_i_1, pr_i_m1]; done) | (simp [pr_b, pr_8_m2, pr_8_m3, pr_i_1, pr_i_m1, *]; done) | (simp_all [pr_b, pr_8_m2, pr_8_m3, pr_i_1, pr_i_m1]; done))
                    · simp only [ab_cmp, pr_8_m2, pr_8_m3, pr_i_1, pr_i_m1] at h55
                      first
                      | contradiction
                      | exact absurd trivial h55
                      | exact absurd h55 (by decide)
                      | exact absurd (Classical.not_not.mp h55) (by decide)
                      | skip
                        refine pr_seqT (pc' := 64) 3 rfl ⟨⟨⟨trivial, (by first | assumption | (simp only [r9, r0, r1, r2, r3, s1, s2, q0, q1, rc, q3, q4, q5, q6, q7, q8, pr_8_m2, pr_8_m3, pr_i_1, pr_i_m1]; first | assumption | decide | exact ⟨by assumption, by assumption⟩ | exact ⟨Or.inl (by assumption), by assumption⟩ | omega) | decide | exact ⟨Or.inl (by assumption), by assumption⟩ | exact ⟨by assumption, by assumption⟩ | omega)⟩, (by first | assumption | (simp only [r9, r0, r1, r2, r3, s1, s2, q0, q1, rc, q3, q4, q5, q6, q7, q8, pr_8_m2, pr_8_m3, pr_i_1, pr_i_m1]; first | assumption | decide | exact ⟨by assumption, by assumption⟩ | exact ⟨Or.inl (by assumption), by assumption⟩ | omega) | decide | exact ⟨Or.inl (by assumption), by assumption⟩ | exact ⟨by assumption, by assumption⟩ | omega)⟩, trivial⟩ ?_
                        try simp only [r9, r0, r1, r2, r3, s1, s2, q0, q1, rc, q3, q4, q5, q6, q7, q8, pr_8_m2, pr_8_m3, pr_i_1, pr_i_m1]
                        refine pr_icT rfl (fun h64 => ?_) (fun h64 => ?_)
                        · simp only [ab_cmp, pr_8_m2, pr_8_m3, pr_i_1, pr_i_m1] at h64
                          first
                          | contradiction
                          | exact absurd trivial h64
                          | exact absurd h64 (by decide)
                          | exact absurd (Classical.not_not.mp h64) (by decide)
                          | skip
                            refine pr_seqT (pc' := 83) 6 rfl ⟨⟨⟨⟨⟨⟨trivial, (by first | assumption | (simp only [r9, r0, r1, r2, r3, s1, s2, q0, q1, rc, q3, q4, q5, q6, q7, q8, pr_8_m2, pr_8_m3, pr_i_1, pr_i_m1]; first | assumption | decide | exact ⟨by assumption, by assumption⟩ | exact ⟨Or.inl (by assumption), by assumption⟩ | omega) | decide | exact ⟨Or.inl (by assumption), by assumption⟩ | exact ⟨by assumption, by assumption⟩ | omega)⟩, (by first | assumption | (simp only [r9, r0, r1, r2, r3, s1, s2, q0, q1, rc, q3, q4, q5, q6, q7, q8, pr_8_m2, pr_8_m3, pr_i_1, pr_i_m1]; first | assumption | decide | exact ⟨by assumption, by assumption⟩ | exact ⟨Or.inl (by assumption), by assumption⟩ | omega) | decide | exact ⟨Or.inl (by assumption), by assumption⟩ | exact ⟨by assumption, by assumption⟩ | omega)⟩, (by first | assumption | (simp only [r9, r0, r1, r2, r3, s1, s2, q0, q1, rc, q3, q4, q5, q6, q7, q8, pr_8_m2, pr_8_m3, pr_i_1, pr_i_m1]; first | assumption | decide | exact ⟨by assumption, by assumption⟩ | exact ⟨Or.inl (by assumption), by assumption⟩ | omega) | decide | exact ⟨Or.inl (by assumption), by assumption⟩ | exact ⟨by assumption, by assumption⟩ | omega)⟩, (by first | assumption | (simp only [r9, r0, r1, r2, r3, s1, s2, q0, q1, rc, q3, q4, q5, q6, q7, q8, pr_8_m2, pr_8_m3, pr_i_1, pr_i_m1]; first | assumption | decide | exact ⟨by assumption, by assumption⟩ | exact ⟨Or.inl (by assumption), by assumption⟩ | omega) | decide | exact ⟨Or.inl (by assumption), by assumption⟩ | exact ⟨by assumption, by assumption⟩ | omega)⟩, (by first | assumption | (simp only [r9, r0, r1, r2, r3, s1, s2, q0, q1, rc, q3, q4, q5, q6, q7, q8, pr_8_m2, pr_8_m3, pr_i_1, pr_i_m1]; first | assumption | decide | exact ⟨by assumption, by assumption⟩ | exact ⟨Or.inl (by assumption), by assumption⟩ | omega) | decide | exact ⟨Or.inl (by assumption), by assumption⟩ | exact ⟨by assumption, by assumption⟩ | omega)⟩, (by first | assumption | (simp only [r9, r0, r1, r2, r3, s1, s2, q0, q1, rc, q3, q4, q5, q6, q7, q8, pr_8_m2, pr_8_m3, pr_i_1, pr_i_m1]; first | assumption | decide | exact ⟨by assumption, by assumption⟩ | exact ⟨Or.inl (by assumption), by assumption⟩ | omega) | decide | exact ⟨Or.inl (by assumption), by assumption⟩ | exact ⟨by assumption, by assumption⟩ | omega)⟩ ?_
                            try simp only [r9, r0, r1, r2, r3, s1, s2, q0, q1, rc, q3, q4, q5, q6, q7, q8, pr_8_m2, pr_8_m3, pr_i_1, pr_i_m1]
                            fail "no call@83 yX2_join"
                        · simp only [ab_cmp, pr_8_m2, pr_8_m3, pr_i_1, pr_i_m1] at h64
                          first
                          | contradiction
                          | exact absurd trivial h64
                          | exact absurd h64 (by decide)
                          | exact absurd (Classical.not_not.mp h64) (by decide)
                          | skip
                            refine pr_seqT (pc' := 69) 1 rfl ⟨trivial, trivial⟩ ?_
                            try simp only [r9, r0, r1, r2, r3, s1, s2, q0, q1, rc, q3, q4, q5, q6, q7, q8, pr_8_m2, pr_8_m3, pr_i_1, pr_i_m1]
                            exact pr_irT rfl trivial (by first | rfl | (simp only [r9, r0, r1, r2, r3, s1, s2, q0, q1, rc, q3, q4, q5, q6, q7, q8, pr_8_m2, pr_8_m3, pr_i_1, pr_i_m1]; done) | (simp [pr_b, pr_8_m2, pr_8_m3, pr_i_1, pr_i_m1, *]; done) | (simp_all [pr_b, pr_8_m2, pr_8_m3, pr_i_1, pr_i_m1]; done))
                · simp only [ab_cmp, pr_8_m2, pr_8_m3, pr_i_1, pr_i_m1] at h18
                  first
                  | contradiction
                  | exact absurd trivial h18
                  | exact absurd h18 (by decide)
                  | exact absurd (Classical.not_not.mp h18) (by decide)
                  | skip
                    refine pr_seqT (pc' := 22) 1 rfl ⟨trivial, trivial⟩ ?_
                    try simp only [r9, r0, r1, r2, r3, s1, s2, q0, q1, rc, q3, q4, q5, q6, q7, q8, pr_8_m2, pr_8_m3, pr_i_1, pr_i_m1]
                    exact pr_irT rfl trivial (by exact cp_s hl hv)
      · have njk : ¬ nI j = nI k := nI_ne ejk (by omega) (by omega)
        rw [decide_eq_true njk, if_pos (show (true && true && true) = true from rfl)]
        have e3 : (nI j).toNatClampNeg = j := nI_clamp (by omega)
        have e4 : (nI k).toNatClampNeg = k := nI_clamp (by omega)
        rw [e3, e4]
        obtain ⟨y1, y2⟩ := hon j (by omega)
        obtain ⟨o1, o2, o3, o4⟩ := id y2
        obtain ⟨y1', y2'⟩ := hon k (by omega)
        obtain ⟨o1', o2', o3', o4'⟩ := id y2'
        have n1 := o4.2.1
        have n1' := o4'.2.1
        have hj62 := hl.2.2.2.2.2.2.2.2
        have n62 := hj62.2.1
        have n620 : (62 : Nat) ≠ 0 := by decide
        obtain ⟨u1, u2, u3, u4, u5, u6, u7⟩ := d8 j _ (d_pn_at hj)
        obtain ⟨u1', u2', u3', u4', u5', u6', u7'⟩ := d8 k _ (d_pn_at hk)
        have vi : (24 ≤ ab_k h (tB b + 1 + 2) ∧ ab_k h (tB b + 1 + 2) ≤ 27) ∧ vp_in (nI j) (ab_n h (tB b + 1 + 2)) := ⟨by rw [m3]; decide, by rw [m4]; exact vp_in_nI (by omega) (by decide)⟩
        have vk : (24 ≤ ab_k h (tB b + 1 + 2) ∧ ab_k h (tB b + 1 + 2) ≤ 27) ∧ vp_in (nI k) (ab_n h (tB b + 1 + 2)) := ⟨by rw [m3]; decide, by rw [m4]; exact vp_in_nI (by omega) (by decide)⟩
        have hjn := c_join h M hj62 o4 o4' (by omega) (by omega) u7 u7'
        show pr_X _ _ h M (cp h M (if (d_pn X.1.1 j).1 = 1 ∨ (d_pn X.1.1 k).1 = 1 then _ else _))
        by_cases cj : (d_pn X.1.1 j).1 = 1
        · rw [if_pos (Or.inl cj)]
          rw [cj] at u1
          have u1 : M.1 (tB b + 1 + 3 + 3 * j) 1 = 1 := u1
          refine pr_seqT (pc' := 2) 2 rfl ⟨⟨trivial, (by first | assumption | (simp only [r9, r0, r1, r2, r3, s1, s2, q0, q1, rc, q3, q4, q5, q6, q7, q8, e3, e4, y1, y1', o3, o3', u1, pr_8_m2, pr_8_m3, pr_i_1, pr_i_m1]; first | assumption | decide | exact ⟨by assumption, by assumption⟩ | exact ⟨Or.inl (by assumption), by assumption⟩ | omega) | decide | exact ⟨Or.inl (by assumption), by assumption⟩ | exact ⟨by assumption, by assumption⟩ | omega)⟩, trivial⟩ ?_
          try simp only [r9, r0, r1, r2, r3, s1, s2, q0, q1, rc, q3, q4, q5, q6, q7, q8, e3, e4, y1, y1', o3, o3', u1, pr_8_m2, pr_8_m3, pr_i_1, pr_i_m1]
          refine pr_cvT [_] rfl rfl rfl rfl rfl (Nat.le_of_ble_eq_true rfl) (by first | assumption | (simp only [r9, r0, r1, r2, r3, s1, s2, q0, q1, rc, q3, q4, q5, q6, q7, q8, e3, e4, y1, y1', o3, o3', u1, pr_8_m2, pr_8_m3, pr_i_1, pr_i_m1]; first | assumption | decide | exact ⟨by assumption, by assumption⟩ | exact ⟨Or.inl (by assumption), by assumption⟩ | omega) | decide | exact ⟨Or.inl (by assumption), by assumption⟩ | exact ⟨by assumption, by assumption⟩ | omega) (Nat.le_of_ble_eq_true rfl) (hp) ?_
          refine pr_ifT rfl (fun h5 => ?_) (fun h5 => ?_)
          · simp only [ab_cmp, pr_8_m2, pr_8_m3, pr_i_1, pr_i_m1] at h5
            first
            | contradiction
            | exact absurd trivial h5
            | exact absurd h5 (by decide)
            | exact absurd (Classical.not_not.mp h5) (by decide)
            | skip
              refine pr_seqT (pc' := 22) 1 rfl ⟨trivial, trivial⟩ ?_
              try simp only [r9, r0, r1, r2, r3, s1, s2, q0, q1, rc, q3, q4, q5, q6, q7, q8, e3, e4, y1, y1', o3, o3', u1, pr_8_m2, pr_8_m3, pr_i_1, pr_i_m1]
              exact pr_irT rfl trivial (by first | rfl | (simp only [r9, r0, r1, r2, r3, s1, s2, q0, q1, rc, q3, q4, q5, q6, q7, q8, e3, e4, y1, y1', o3, o3', u1, pr_8_m2, pr_8_m3, pr_i_1, pr_i_m1]; done) | (simp [pr_b, pr_8_m2, pr_8_m3, pr_i_1, pr_i_m1, *]; done) | (simp_all [pr_b, pr_8_m2, pr_8_m3, pr_i_1, pr_i_m1]; done))
          · simp only [ab_cmp, pr_8_m2, pr_8_m3, pr_i_1, pr_i_m1] at h5
            first
            | contradiction
            | exact absurd trivial h5
            | exact absurd h5 (by decide)
            | exact absurd (Classical.not_not.mp h5) (by decide)
            | skip
              refine pr_seqT (pc' := 10) 2 rfl ⟨⟨trivial, (by first | assumption | (simp only [r9, r0, r1, r2, r3, s1, s2, q0, q1, rc, q3, q4, q5, q6, q7, q8, e3, e4, y1, y1', o3, o3', u1, pr_8_m2, pr_8_m3, pr_i_1, pr_i_m1]; first | assumption | decide | exact ⟨by assumption, by assumption⟩ | exact ⟨Or.inl (by assumption), by assumption⟩ | omega) | decide | exact ⟨Or.inl (by assumption), by assumption⟩ | exact ⟨by assumption, by assumption⟩ | omega)⟩, trivial⟩ ?_
              try simp only [r9, r0, r1, r2, r3, s1, s2, q0, q1, rc, q3, q4, q5, q6, q7, q8, e3, e4, y1, y1', o3, o3', u1, pr_8_m2, pr_8_m3, pr_i_1, pr_i_m1]
              refine pr_cvT [_] rfl rfl rfl rfl rfl (Nat.le_of_ble_eq_true rfl) (by first | assumption | (simp only [r9, r0, r1, r2, r3, s1, s2, q0, q1, rc, q3, q4, q5, q6, q7, q8, e3, e4, y1, y1', o3, o3', u1, pr_8_m2, pr_8_m3, pr_i_1, pr_i_m1]; first | assumption | decide | exact ⟨by assumption, by assumption⟩ | exact ⟨Or.inl (by assumption), by assumption⟩ | omega) | decide | exact ⟨Or.inl (by assumption), by assumption⟩ | exact ⟨by assumption, by assumption⟩ | omega) (Nat.le_of_ble_eq_true rfl) (hp2) ?_
              refine pr_ifT rfl (fun h13 => ?_) (fun h13 => ?_)
              · simp only [ab_cmp, pr_8_m2, pr_8_m3, pr_i_1, pr_i_m1] at h13
                first
                | contradiction
                | exact absurd trivial h13
                | exact absurd h13 (by decide)
                | exact absurd (Classical.not_not.mp h13) (by decide)
                | skip
                  refine pr_seqT (pc' := 22) 1 rfl ⟨trivial, trivial⟩ ?_
                  try simp only [r9, r0, r1, r2, r3, s1, s2, q0, q1, rc, q3, q4, q5, q6, q7, q8, e3, e4, y1, y1', o3, o3', u1, pr_8_m2, pr_8_m3, pr_i_1, pr_i_m1]
                  exact pr_irT rfl trivial (by first | rfl | (simp only [r9, r0, r1, r2, r3, s1, s2, q0, q1, rc, q3, q4, q5, q6, q7, q8, e3, e4, y1, y1', o3, o3', u1, pr_8_m2, pr_8_m3, pr_i_1, pr_i_m1]; done) | (simp [pr_b, pr_8_m2, pr_8_m3, pr_i_1, pr_i_m1, *]; done) | (simp_all [pr_b, pr_8_m2, pr_8_m3, pr_i_1, pr_i_m1]; done))
              · simp only [ab_cmp, pr_8_m2, pr_8_m3, pr_i_1, pr_i_m1] at h13
                first
                | contradiction
                | exact absurd trivial h13
                | exact absurd h13 (by decide)
                | exact absurd (Classical.not_not.mp h13) (by decide)
                | skip
                  refine pr_seqT (pc' := 18) 2 rfl ⟨⟨trivial, trivial⟩, trivial⟩ ?_
                  try simp only [r9, r0, r1, r2, r3, s1, s2, q0, q1, rc, q3, q4, q5, q6, q7, q8, e3, e4, y1, y1', o3, o3', u1, pr_8_m2, pr_8_m3, pr_i_1, pr_i_m1]
                  refine pr_icT rfl (fun h18 => ?_) (fun h18 => ?_)
                  · simp only [ab_cmp, pr_8_m2, pr_8_m3, pr_i_1, pr_i_m1] at h18
                    first
                    | contradiction
                    | exact absurd trivial h18
                    | exact absurd h18 (by decide)
                    | exact absurd (Classical.not_not.mp h18) (by decide)
                    | skip
                      refine pr_seqT (pc' := 55) 17 rfl ⟨⟨⟨⟨⟨⟨⟨⟨⟨⟨⟨⟨⟨⟨⟨⟨⟨trivial, (by first | assumption | (simp only [r9, r0, r1, r2, r3, s1, s2, q0, q1, rc, q3, q4, q5, q6, q7, q8, e3, e4, y1, y1', o3, o3', u1, pr_8_m2, pr_8_m3, pr_i_1, pr_i_m1]; first | assumption | decide | exact ⟨by assumption, by assumption⟩ | exact ⟨Or.inl (by assumption), by assumption⟩ | omega) | decide | exact ⟨Or.inl (by assumption), by assumption⟩ | exact ⟨by assumption, by assumption⟩ | omega)⟩, (by first | assumption | (simp only [r9, r0, r1, r2, r3, s1, s2, q0, q1, rc, q3, q4, q5, q6, q7, q8, e3, e4, y1, y1', o3, o3', u1, pr_8_m2, pr_8_m3, pr_i_1, pr_i_m1]; first | assumption | decide | exact ⟨by assumption, by assumption⟩ | exact ⟨Or.inl (by assumption), by assumption⟩ | omega) | decide | exact ⟨Or.inl (by assumption), by assumption⟩ | exact ⟨by assumption, by assumption⟩ | omega)⟩, (by first | assumption | (simp only [r9, r0, r1, r2, r3, s1, s2, q0, q1, rc, q3, q4, q5, q6, q7, q8, e3, e4, y1, y1', o3, o3', u1, pr_8_m2, pr_8_m3, pr_i_1, pr_i_m1]; first | assumption | decide | exact ⟨by assumption, by assumption⟩ | exact ⟨Or.inl (by assumption), by assumption⟩ | omega) | decide | exact ⟨Or.inl (by assumption), by assumption⟩ | exact ⟨by assumption, by assumption⟩ | omega)⟩, (by first | assumption | (simp only [r9, r0, r1, r2, r3, s1, s2, q0, q1, rc, q3, q4, q5, q6, q7, q8, e3, e4, y1, y1', o3, o3', u1, pr_8_m2, pr_8_m3, pr_i_1, pr_i_m1]; first | assumption | decide | exact ⟨by assumption, by assumption⟩ | exact ⟨Or.inl (by assumption), by assumption⟩ | omega) | decide | exact ⟨Or.inl (by assumption), by assumption⟩ | exact ⟨by assumption, by assumption⟩ | omega)⟩, trivial⟩, (by first | assumption | (simp only [r9, r0, r1, r2, r3, s1, s2, q0, q1, rc, q3, q4, q5, q6, q7, q8, e3, e4, y1, y1', o3, o3', u1, pr_8_m2, pr_8_m3, pr_i_1, pr_i_m1]; first | assumption | decide | exact ⟨by assumption, by assumption⟩ | exact ⟨Or.inl (by assumption), by assumption⟩ | omega) | decide | exact ⟨Or.inl (by assumption), by assumption⟩ | exact ⟨by assumption, by assumption⟩ | omega)⟩, (by first | assumption | (simp only [r9, r0, r1, r2, r3, s1, s2, q0, q1, rc, q3, q4, q5, q6, q7, q8, e3, e4, y1, y1', o3, o3', u1, pr_8_m2, pr_8_m3, pr_i_1, pr_i_m1]; first | assumption | decide | exact ⟨by assumption, by assumption⟩ | exact ⟨Or.inl (by assumption), by assumption⟩ | omega) | decide | exact ⟨Or.inl (by assumption), by assumption⟩ | exact ⟨by assumption, by assumption⟩ | omega)⟩, (by first | assumption | (simp only [r9, r0, r1, r2, r3, s1, s2, q0, q1, rc, q3, q4, q5, q6, q7, q8, e3, e4, y1, y1', o3, o3', u1, pr_8_m2, pr_8_m3, pr_i_1, pr_i_m1]; first | assumption | decide | exact ⟨by assumption, by assumption⟩ | exact ⟨Or.inl (by assumption), by assumption⟩ | omega) | decide | exact ⟨Or.inl (by assumption), by assumption⟩ | exact ⟨by assumption, by assumption⟩ | omega)⟩, (by first | assumption | (simp only [r9, r0, r1, r2, r3, s1, s2, q0, q1, rc, q3, q4, q5, q6, q7, q8, e3, e4, y1, y1', o3, o3', u1, pr_8_m2, pr_8_m3, pr_i_1, pr_i_m1]; first | assumption | decide | exact ⟨by assumption, by assumption⟩ | exact ⟨Or.inl (by assumption), by assumption⟩ | omega) | decide | exact ⟨Or.inl (by assumption), by assumption⟩ | exact ⟨by assumption, by assumption⟩ | omega)⟩, (by first | assumption | (simp only [r9, r0, r1, r2, r3, s1, s2, q0, q1, rc, q3, q4, q5, q6, q7, q8, e3, e4, y1, y1', o3, o3', u1, pr_8_m2, pr_8_m3, pr_i_1, pr_i_m1]; first | assumption | decide | exact ⟨by assumption, by assumption⟩ | exact ⟨Or.inl (by assumption), by assumption⟩ | omega) | decide | exact ⟨Or.inl (by assumption), by assumption⟩ | exact ⟨by assumption, by assumption⟩ | omega)⟩, (by first | assumption | (simp only [r9, r0, r1, r2, r3, s1, s2, q0, q1, rc, q3, q4, q5, q6, q7, q8, e3, e4, y1, y1', o3, o3', u1, pr_8_m2, pr_8_m3, pr_i_1, pr_i_m1]; first | assumption | decide | exact ⟨by assumption, by assumption⟩ | exact ⟨Or.inl (by assumption), by assumption⟩ | omega) | decide | exact ⟨Or.inl (by assumption), by assumption⟩ | exact ⟨by assumption, by assumption⟩ | omega)⟩, trivial⟩, (by first | assumption | (simp only [r9, r0, r1, r2, r3, s1, s2, q0, q1, rc, q3, q4, q5, q6, q7, q8, e3, e4, y1, y1', o3, o3', u1, pr_8_m2, pr_8_m3, pr_i_1, pr_i_m1]; first | assumption | decide | exact ⟨by assumption, by assumption⟩ | exact ⟨Or.inl (by assumption), by assumption⟩ | omega) | decide | exact ⟨Or.inl (by assumption), by assumption⟩ | exact ⟨by assumption, by assumption⟩ | omega)⟩, (by first | assumption | (simp only [r9, r0, r1, r2, r3, s1, s2, q0, q1, rc, q3, q4, q5, q6, q7, q8, e3, e4, y1, y1', o3, o3', u1, pr_8_m2, pr_8_m3, pr_i_1, pr_i_m1]; first | assumption | decide | exact ⟨by assumption, by assumption⟩ | exact ⟨Or.inl (by assumption), by assumption⟩ | omega) | decide | exact ⟨Or.inl (by assumption), by assumption⟩ | exact ⟨by assumption, by assumption⟩ | omega)⟩, (by first | assumption | (simp only [r9, r0, r1, r2, r3, s1, s2, q0, q1, rc, q3, q4, q5, q6, q7, q8, e3, e4, y1, y1', o3, o3', u1, pr_8_m2, pr_8_m3, pr_i_1, pr_i_m1]; first | assumption | decide | exact ⟨by assumption, by assumption⟩ | exact ⟨Or.inl (by assumption), by assumption⟩ | omega) | decide | exact ⟨Or.inl (by assumption), by assumption⟩ | exact ⟨by assumption, by assumption⟩ | omega)⟩, (by first | assumption | (simp only [r9, r0, r1, r2, r3, s1, s2, q0, q1, rc, q3, q4, q5, q6, q7, q8, e3, e4, y1, y1', o3, o3', u1, pr_8_m2, pr_8_m3, pr_i_1, pr_i_m1]; first | assumption | decide | exact ⟨by assumption, by assumption⟩ | exact ⟨Or.inl (by assumption), by assumption⟩ | omega) | decide | exact ⟨Or.inl (by assumption), by assumption⟩ | exact ⟨by assumption, by assumption⟩ | omega)⟩, trivial⟩ ?_
                      try simp only [r9, r0, r1, r2, r3, s1, s2, q0, q1, rc, q3, q4, q5, q6, q7, q8, e3, e4, y1, y1', o3, o3', u1, pr_8_m2, pr_8_m3, pr_i_1, pr_i_m1]
                      refine pr_icT rfl (fun h55 => ?_) (fun h55 => ?_)
                      · simp only [ab_cmp, pr_8_m2, pr_8_m3, pr_i_1, pr_i_m1] at h55
                        first
                        | contradiction
                        | exact absurd trivial h55
                        | exact absurd h55 (by decide)
                        | exact absurd (Classical.not_not.mp h55) (by decide)
                        | skip
                          refine pr_seqT (pc' := 69) 1 rfl ⟨trivial, trivial⟩ ?_
                          try simp only [r9, r0, r1, r2, r3, s1, s2, q0, q1, rc, q3, q4, q5, q6, q7, q8, e3, e4, y1, y1', o3, o3', u1, pr_8_m2, pr_8_m3, pr_i_1, pr_i_m1]
                          exact pr_irT rfl trivial (by exact cp_s hl hv)
                      · simp only [ab_cmp, pr_8_m2, pr_8_m3, pr_i_1, pr_i_m1] at h55
                        first
                        | contradiction
                        | exact absurd trivial h55
                        | exact absurd h55 (by decide)
                        | exact absurd (Classical.not_not.mp h55) (by decide)
                        | skip
                          refine pr_seqT (pc' := 64) 3 rfl ⟨⟨⟨trivial, (by first | assumption | (simp only [r9, r0, r1, r2, r3, s1, s2, q0, q1, rc, q3, q4, q5, q6, q7, q8, e3, e4, y1, y1', o3, o3', u1, pr_8_m2, pr_8_m3, pr_i_1, pr_i_m1]; first | assumption | decide | exact ⟨by assumption, by assumption⟩ | exact ⟨Or.inl (by assumption), by assumption⟩ | omega) | decide | exact ⟨Or.inl (by assumption), by assumption⟩ | exact ⟨by assumption, by assumption⟩ | omega)⟩, (by first | assumption | (simp only [r9, r0, r1, r2, r3, s1, s2, q0, q1, rc, q3, q4, q5, q6, q7, q8, e3, e4, y1, y1', o3, o3', u1, pr_8_m2, pr_8_m3, pr_i_1, pr_i_m1]; first | assumption | decide | exact ⟨by assumption, by assumption⟩ | exact ⟨Or.inl (by assumption), by assumption⟩ | omega) | decide | exact ⟨Or.inl (by assumption), by assumption⟩ | exact ⟨by assumption, by assumption⟩ | omega)⟩, trivial⟩ ?_
                          try simp only [r9, r0, r1, r2, r3, s1, s2, q0, q1, rc, q3, q4, q5, q6, q7, q8, e3, e4, y1, y1', o3, o3', u1, pr_8_m2, pr_8_m3, pr_i_1, pr_i_m1]
                          refine pr_icT rfl (fun h64 => ?_) (fun h64 => ?_)
                          · simp only [ab_cmp, pr_8_m2, pr_8_m3, pr_i_1, pr_i_m1] at h64
                            first
                            | contradiction
                            | exact absurd trivial h64
                            | exact absurd h64 (by decide)
                            | exact absurd (Classical.not_not.mp h64) (by decide)
                            | skip
                              refine pr_seqT (pc' := 83) 6 rfl ⟨⟨⟨⟨⟨⟨trivial, (by first | assumption | (simp only [r9, r0, r1, r2, r3, s1, s2, q0, q1, rc, q3, q4, q5, q6, q7, q8, e3, e4, y1, y1', o3, o3', u1, pr_8_m2, pr_8_m3, pr_i_1, pr_i_m1]; first | assumption | decide | exact ⟨by assumption, by assumption⟩ | exact ⟨Or.inl (by assumption), by assumption⟩ | omega) | decide | exact ⟨Or.inl (by assumption), by assumption⟩ | exact ⟨by assumption, by assumption⟩ | omega)⟩, (by first | assumption | (simp only [r9, r0, r1, r2, r3, s1, s2, q0, q1, rc, q3, q4, q5, q6, q7, q8, e3, e4, y1, y1', o3, o3', u1, pr_8_m2, pr_8_m3, pr_i_1, pr_i_m1]; first | assumption | decide | exact ⟨by assumption, by assumption⟩ | exact ⟨Or.inl (by assumption), by assumption⟩ | omega) | decide | exact ⟨Or.inl (by assumption), by assumption⟩ | exact ⟨by assumption, by assumption⟩ | omega)⟩, (by first | assumption | (simp only [r9, r0, r1, r2, r3, s1, s2, q0, q1, rc, q3, q4, q5, q6, q7, q8, e3, e4, y1, y1', o3, o3', u1, pr_8_m2, pr_8_m3, pr_i_1, pr_i_m1]; first | assumption | decide | exact ⟨by assumption, by assumption⟩ | exact ⟨Or.inl (by assumption), by assumption⟩ | omega) | decide | exact ⟨Or.inl (by assumption), by assumption⟩ | exact ⟨by assumption, by assumption⟩ | omega)⟩, (by first | assumption | (simp only [r9, r0, r1, r2, r3, s1, s2, q0, q1, rc, q3, q4, q5, q6, q7, q8, e3, e4, y1, y1', o3, o3', u1, pr_8_m2, pr_8_m3, pr_i_1, pr_i_m1]; first | assumption | decide | exact ⟨by assumption, by assumption⟩ | exact ⟨Or.inl (by assumption), by assumption⟩ | omega) | decide | exact ⟨Or.inl (by assumption), by assumption⟩ | exact ⟨by assumption, by assumption⟩ | omega)⟩, (by first | assumption | (simp only [r9, r0, r1, r2, r3, s1, s2, q0, q1, rc, q3, q4, q5, q6, q7, q8, e3, e4, y1, y1', o3, o3', u1, pr_8_m2, pr_8_m3, pr_i_1, pr_i_m1]; first | assumption | decide | exact ⟨by assumption, by assumption⟩ | exact ⟨Or.inl (by assumption), by assumption⟩ | omega) | decide | exact ⟨Or.inl (by assumption), by assumption⟩ | exact ⟨by assumption, by assumption⟩ | omega)⟩, (by first | assumption | (simp only [r9, r0, r1, r2, r3, s1, s2, q0, q1, rc, q3, q4, q5, q6, q7, q8, e3, e4, y1, y1', o3, o3', u1, pr_8_m2, pr_8_m3, pr_i_1, pr_i_m1]; first | assumption | decide | exact ⟨by assumption, by assumption⟩ | exact ⟨Or.inl (by assumption), by assumption⟩ | omega) | decide | exact ⟨Or.inl (by assumption), by assumption⟩ | exact ⟨by assumption, by assumption⟩ | omega)⟩ ?_
                              try simp only [r9, r0, r1, r2, r3, s1, s2, q0, q1, rc, q3, q4, q5, q6, q7, q8, e3, e4, y1, y1', o3, o3', u1, pr_8_m2, pr_8_m3, pr_i_1, pr_i_m1]
                              fail "no call@83 yX2_join"
                          · simp only [ab_cmp, pr_8_m2, pr_8_m3, pr_i_1, pr_i_m1] at h64
                            first
                            | contradiction
                            | exact absurd trivial h64
                            | exact absurd h64 (by decide)
                            | exact absurd (Classical.not_not.mp h64) (by decide)
                            | skip
                              refine pr_seqT (pc' := 69) 1 rfl ⟨trivial, trivial⟩ ?_
                              try simp only [r9, r0, r1, r2, r3, s1, s2, q0, q1, rc, q3, q4, q5, q6, q7, q8, e3, e4, y1, y1', o3, o3', u1, pr_8_m2, pr_8_m3, pr_i_1, pr_i_m1]
                              exact pr_irT rfl trivial (by exact cp_s hl hv)
                  · simp only [ab_cmp, pr_8_m2, pr_8_m3, pr_i_1, pr_i_m1] at h18
                    first
                    | contradiction
                    | exact absurd trivial h18
                    | exact absurd h18 (by decide)
                    | exact absurd (Classical.not_not.mp h18) (by decide)
                    | skip
                      refine pr_seqT (pc' := 22) 1 rfl ⟨trivial, trivial⟩ ?_
                      try simp only [r9, r0, r1, r2, r3, s1, s2, q0, q1, rc, q3, q4, q5, q6, q7, q8, e3, e4, y1, y1', o3, o3', u1, pr_8_m2, pr_8_m3, pr_i_1, pr_i_m1]
                      exact pr_irT rfl trivial (by first | rfl | (simp only [r9, r0, r1, r2, r3, s1, s2, q0, q1, rc, q3, q4, q5, q6, q7, q8, e3, e4, y1, y1', o3, o3', u1, pr_8_m2, pr_8_m3, pr_i_1, pr_i_m1]; done) | (simp [pr_b, pr_8_m2, pr_8_m3, pr_i_1, pr_i_m1, *]; done) | (simp_all [pr_b, pr_8_m2, pr_8_m3, pr_i_1, pr_i_m1]; done))
        · have cj' : ¬ nI (d_pn X.1.1 j).1 = 1 := nI_ne (b := 1) cj (by omega) (by decide)
          by_cases ck : (d_pn X.1.1 k).1 = 1
          · rw [if_pos (Or.inr ck)]
            rw [ck] at u1'
            have u1' : M.1 (tB b + 1 + 3 + 3 * k) 1 = 1 := u1'
            refine pr_seqT (pc' := 2) 2 rfl ⟨⟨trivial, (by first | assumption | (simp only [r9, r0, r1, r2, r3, s1, s2, q0, q1, rc, q3, q4, q5, q6, q7, q8, e3, e4, y1, y1', o3, o3', u1, u1', pr_8_m2, pr_8_m3, pr_i_1, pr_i_m1]; first | assumption | decide | exact ⟨by assumption, by assumption⟩ | exact ⟨Or.inl (by assumption), by assumption⟩ | omega) | decide | exact ⟨Or.inl (by assumption), by assumption⟩ | exact ⟨by assumption, by assumption⟩ | omega)⟩, trivial⟩ ?_
            try simp only [r9, r0, r1, r2, r3, s1, s2, q0, q1, rc, q3, q4, q5, q6, q7, q8, e3, e4, y1, y1', o3, o3', u1, u1', pr_8_m2, pr_8_m3, pr_i_1, pr_i_m1]
            refine pr_cvT [_] rfl rfl rfl rfl rfl (Nat.le_of_ble_eq_true rfl) (by first | assumption | (simp only [r9, r0, r1, r2, r3, s1, s2, q0, q1, rc, q3, q4, q5, q6, q7, q8, e3, e4, y1, y1', o3, o3', u1, u1', pr_8_m2, pr_8_m3, pr_i_1, pr_i_m1]; first | assumption | decide | exact ⟨by assumption, by assumption⟩ | exact ⟨Or.inl (by assumption), by assumption⟩ | omega) | decide | exact ⟨Or.inl (by assumption), by assumption⟩ | exact ⟨by assumption, by assumption⟩ | omega) (Nat.le_of_ble_eq_true rfl) (hp) ?_
            refine pr_ifT rfl (fun h5 => ?_) (fun h5 => ?_)
            · simp only [ab_cmp, pr_8_m2, pr_8_m3, pr_i_1, pr_i_m1] at h5
              first
              | contradiction
              | exact absurd trivial h5
              | exact absurd h5 (by decide)
              | exact absurd (Classical.not_not.mp h5) (by decide)
              | skip
                refine pr_seqT (pc' := 22) 1 rfl ⟨trivial, trivial⟩ ?_
                try simp only [r9, r0, r1, r2, r3, s1, s2, q0, q1, rc, q3, q4, q5, q6, q7, q8, e3, e4, y1, y1', o3, o3', u1, u1', pr_8_m2, pr_8_m3, pr_i_1, pr_i_m1]
                exact pr_irT rfl trivial (by first | rfl | (simp only [r9, r0, r1, r2, r3, s1, s2, q0, q1, rc, q3, q4, q5, q6, q7, q8, e3, e4, y1, y1', o3, o3', u1, u1', pr_8_m2, pr_8_m3, pr_i_1, pr_i_m1]; done) | (simp [pr_b, pr_8_m2, pr_8_m3, pr_i_1, pr_i_m1, *]; done) | (simp_all [pr_b, pr_8_m2, pr_8_m3, pr_i_1, pr_i_m1]; done))
            · simp only [ab_cmp, pr_8_m2, pr_8_m3, pr_i_1, pr_i_m1] at h5
              first
              | contradiction
              | exact absurd trivial h5
              | exact absurd h5 (by decide)
              | exact absurd (Classical.not_not.mp h5) (by decide)
              | skip
                refine pr_seqT (pc' := 10) 2 rfl ⟨⟨trivial, (by first | assumption | (simp only [r9, r0, r1, r2, r3, s1, s2, q0, q1, rc, q3, q4, q5, q6, q7, q8, e3, e4, y1, y1', o3, o3', u1, u1', pr_8_m2, pr_8_m3, pr_i_1, pr_i_m1]; first | assumption | decide | exact ⟨by assumption, by assumption⟩ | exact ⟨Or.inl (by assumption), by assumption⟩ | omega) | decide | exact ⟨Or.inl (by assumption), by assumption⟩ | exact ⟨by assumption, by assumption⟩ | omega)⟩, trivial⟩ ?_
                try simp only [r9, r0, r1, r2, r3, s1, s2, q0, q1, rc, q3, q4, q5, q6, q7, q8, e3, e4, y1, y1', o3, o3', u1, u1', pr_8_m2, pr_8_m3, pr_i_1, pr_i_m1]
                refine pr_cvT [_] rfl rfl rfl rfl rfl (Nat.le_of_ble_eq_true rfl) (by first | assumption | (simp only [r9, r0, r1, r2, r3, s1, s2, q0, q1, rc, q3, q4, q5, q6, q7, q8, e3, e4, y1, y1', o3, o3', u1, u1', pr_8_m2, pr_8_m3, pr_i_1, pr_i_m1]; first | assumption | decide | exact ⟨by assumption, by assumption⟩ | exact ⟨Or.inl (by assumption), by assumption⟩ | omega) | decide | exact ⟨Or.inl (by assumption), by assumption⟩ | exact ⟨by assumption, by assumption⟩ | omega) (Nat.le_of_ble_eq_true rfl) (hp2) ?_
                refine pr_ifT rfl (fun h13 => ?_) (fun h13 => ?_)
                · simp only [ab_cmp, pr_8_m2, pr_8_m3, pr_i_1, pr_i_m1] at h13
                  first
                  | contradiction
                  | exact absurd trivial h13
                  | exact absurd h13 (by decide)
                  | exact absurd (Classical.not_not.mp h13) (by decide)
                  | skip
                    refine pr_seqT (pc' := 22) 1 rfl ⟨trivial, trivial⟩ ?_
                    try simp only [r9, r0, r1, r2, r3, s1, s2, q0, q1, rc, q3, q4, q5, q6, q7, q8, e3, e4, y1, y1', o3, o3', u1, u1', pr_8_m2, pr_8_m3, pr_i_1, pr_i_m1]
                    exact pr_irT rfl trivial (by first | rfl | (simp only [r9, r0, r1, r2, r3, s1, s2, q0, q1, rc, q3, q4, q5, q6, q7, q8, e3, e4, y1, y1', o3, o3', u1, u1', pr_8_m2, pr_8_m3, pr_i_1, pr_i_m1]; done) | (simp [pr_b, pr_8_m2, pr_8_m3, pr_i_1, pr_i_m1, *]; done) | (simp_all [pr_b, pr_8_m2, pr_8_m3, pr_i_1, pr_i_m1]; done))
                · simp only [ab_cmp, pr_8_m2, pr_8_m3, pr_i_1, pr_i_m1] at h13
                  first
                  | contradiction
                  | exact absurd trivial h13
                  | exact absurd h13 (by decide)
                  | exact absurd (Classical.not_not.mp h13) (by decide)
                  | skip
                    refine pr_seqT (pc' := 18) 2 rfl ⟨⟨trivial, trivial⟩, trivial⟩ ?_
                    try simp only [r9, r0, r1, r2, r3, s1, s2, q0, q1, rc, q3, q4, q5, q6, q7, q8, e3, e4, y1, y1', o3, o3', u1, u1', pr_8_m2, pr_8_m3, pr_i_1, pr_i_m1]
                    refine pr_icT rfl (fun h18 => ?_) (fun h18 => ?_)
                    · simp only [ab_cmp, pr_8_m2, pr_8_m3, pr_i_1, pr_i_m1] at h18
                      first
                      | contradiction
                      | exact absurd trivial h18
                      | exact absurd h18 (by decide)
                      | exact absurd (Classical.not_not.mp h18) (by decide)
                      | skip
                        refine pr_seqT (pc' := 55) 17 rfl ⟨⟨⟨⟨⟨⟨⟨⟨⟨⟨⟨⟨⟨⟨⟨⟨⟨trivial, (by first | assumption | (simp only [r9, r0, r1, r2, r3, s1, s2, q0, q1, rc, q3, q4, q5, q6, q7, q8, e3, e4, y1, y1', o3, o3', u1, u1', pr_8_m2, pr_8_m3, pr_i_1, pr_i_m1]; first | assumption | decide | exact ⟨by assumption, by assumption⟩ | exact ⟨Or.inl (by assumption), by assumption⟩ | omega) | decide | exact ⟨Or.inl (by assumption), by assumption⟩ | exact ⟨by assumption, by assumption⟩ | omega)⟩, (by first | assumption | (simp only [r9, r0, r1, r2, r3, s1, s2, q0, q1, rc, q3, q4, q5, q6, q7, q8, e3, e4, y1, y1', o3, o3', u1, u1', pr_8_m2, pr_8_m3, pr_i_1, pr_i_m1]; first | assumption | decide | exact ⟨by assumption, by assumption⟩ | exact ⟨Or.inl (by assumption), by assumption⟩ | omega) | decide | exact ⟨Or.inl (by assumption), by assumption⟩ | exact ⟨by assumption, by assumption⟩ | omega)⟩, (by first | assumption | (simp only [r9, r0, r1, r2, r3, s1, s2, q0, q1, rc, q3, q4, q5, q6, q7, q8, e3, e4, y1, y1', o3, o3', u1, u1', pr_8_m2, pr_8_m3, pr_i_1, pr_i_m1]; first | assumption | decide | exact ⟨by assumption, by assumption⟩ | exact ⟨Or.inl (by assumption), by assumption⟩ | omega) | decide | exact ⟨Or.inl (by assumption), by assumption⟩ | exact ⟨by assumption, by assumption⟩ | omega)⟩, (by first | assumption | (simp only [r9, r0, r1, r2, r3, s1, s2, q0, q1, rc, q3, q4, q5, q6, q7, q8, e3, e4, y1, y1', o3, o3', u1, u1', pr_8_m2, pr_8_m3, pr_i_1, pr_i_m1]; first | assumption | decide | exact ⟨by assumption, by assumption⟩ | exact ⟨Or.inl (by assumption), by assumption⟩ | omega) | decide | exact ⟨Or.inl (by assumption), by assumption⟩ | exact ⟨by assumption, by assumption⟩ | omega)⟩, trivial⟩, (by first | assumption | (simp only [r9, r0, r1, r2, r3, s1, s2, q0, q1, rc, q3, q4, q5, q6, q7, q8, e3, e4, y1, y1', o3, o3', u1, u1', pr_8_m2, pr_8_m3, pr_i_1, pr_i_m1]; first | assumption | decide | exact ⟨by assumption, by assumption⟩ | exact ⟨Or.inl (by assumption), by assumption⟩ | omega) | decide | exact ⟨Or.inl (by assumption), by assumption⟩ | exact ⟨by assumption, by assumption⟩ | omega)⟩, (by first | assumption | (simp only [r9, r0, r1, r2, r3, s1, s2, q0, q1, rc, q3, q4, q5, q6, q7, q8, e3, e4, y1, y1', o3, o3', u1, u1', pr_8_m2, pr_8_m3, pr_i_1, pr_i_m1]; first | assumption | decide | exact ⟨by assumption, by assumption⟩ | exact ⟨Or.inl (by assumption), by assumption⟩ | omega) | decide | exact ⟨Or.inl (by assumption), by assumption⟩ | exact ⟨by assumption, by assumption⟩ | omega)⟩, (by first | assumption | (simp only [r9, r0, r1, r2, r3, s1, s2, q0, q1, rc, q3, q4, q5, q6, q7, q8, e3, e4, y1, y1', o3, o3', u1, u1', pr_8_m2, pr_8_m3, pr_i_1, pr_i_m1]; first | assumption | decide | exact ⟨by assumption, by assumption⟩ | exact ⟨Or.inl (by assumption), by assumption⟩ | omega) | decide | exact ⟨Or.inl (by assumption), by assumption⟩ | exact ⟨by assumption, by assumption⟩ | omega)⟩, (by first | assumption | (simp only [r9, r0, r1, r2, r3, s1, s2, q0, q1, rc, q3, q4, q5, q6, q7, q8, e3, e4, y1, y1', o3, o3', u1, u1', pr_8_m2, pr_8_m3, pr_i_1, pr_i_m1]; first | assumption | decide | exact ⟨by assumption, by assumption⟩ | exact ⟨Or.inl (by assumption), by assumption⟩ | omega) | decide | exact ⟨Or.inl (by assumption), by assumption⟩ | exact ⟨by assumption, by assumption⟩ | omega)⟩, (by first | assumption | (simp only [r9, r0, r1, r2, r3, s1, s2, q0, q1, rc, q3, q4, q5, q6, q7, q8, e3, e4, y1, y1', o3, o3', u1, u1', pr_8_m2, pr_8_m3, pr_i_1, pr_i_m1]; first | assumption | decide | exact ⟨by assumption, by assumption⟩ | exact ⟨Or.inl (by assumption), by assumption⟩ | omega) | decide | exact ⟨Or.inl (by assumption), by assumption⟩ | exact ⟨by assumption, by assumption⟩ | omega)⟩, (by first | assumption | (simp only [r9, r0, r1, r2, r3, s1, s2, q0, q1, rc, q3, q4, q5, q6, q7, q8, e3, e4, y1, y1', o3, o3', u1, u1', pr_8_m2, pr_8_m3, pr_i_1, pr_i_m1]; first | assumption | decide | exact ⟨by assumption, by assumption⟩ | exact ⟨Or.inl (by assumption), by assumption⟩ | omega) | decide | exact ⟨Or.inl (by assumption), by assumption⟩ | exact ⟨by assumption, by assumption⟩ | omega)⟩, trivial⟩, (by first | assumption | (simp only [r9, r0, r1, r2, r3, s1, s2, q0, q1, rc, q3, q4, q5, q6, q7, q8, e3, e4, y1, y1', o3, o3', u1, u1', pr_8_m2, pr_8_m3, pr_i_1, pr_i_m1]; first | assumption | decide | exact ⟨by assumption, by assumption⟩ | exact ⟨Or.inl (by assumption), by assumption⟩ | omega) | decide | exact ⟨Or.inl (by assumption), by assumption⟩ | exact ⟨by assumption, by assumption⟩ | omega)⟩, (by first | assumption | (simp only [r9, r0, r1, r2, r3, s1, s2, q0, q1, rc, q3, q4, q5, q6, q7, q8, e3, e4, y1, y1', o3, o3', u1, u1', pr_8_m2, pr_8_m3, pr_i_1, pr_i_m1]; first | assumption | decide | exact ⟨by assumption, by assumption⟩ | exact ⟨Or.inl (by assumption), by assumption⟩ | omega) | decide | exact ⟨Or.inl (by assumption), by assumption⟩ | exact ⟨by assumption, by assumption⟩ | omega)⟩, (by first | assumption | (simp only [r9, r0, r1, r2, r3, s1, s2, q0, q1, rc, q3, q4, q5, q6, q7, q8, e3, e4, y1, y1', o3, o3', u1, u1', pr_8_m2, pr_8_m3, pr_i_1, pr_i_m1]; first | assumption | decide | exact ⟨by assumption, by assumption⟩ | exact ⟨Or.inl (by assumption), by assumption⟩ | omega) | decide | exact ⟨Or.inl (by assumption), by assumption⟩ | exact ⟨by assumption, by assumption⟩ | omega)⟩, (by first | assumption | (simp only [r9, r0, r1, r2, r3, s1, s2, q0, q1, rc, q3, q4, q5, q6, q7, q8, e3, e4, y1, y1', o3, o3', u1, u1', pr_8_m2, pr_8_m3, pr_i_1, pr_i_m1]; first | assumption | decide | exact ⟨by assumption, by assumption⟩ | exact ⟨Or.inl (by assumption), by assumption⟩ | omega) | decide | exact ⟨Or.inl (by assumption), by assumption⟩ | exact ⟨by assumption, by assumption⟩ | omega)⟩, trivial⟩ ?_
                        try simp only [r9, r0, r1, r2, r3, s1, s2, q0, q1, rc, q3, q4, q5, q6, q7, q8, e3, e4, y1, y1', o3, o3', u1, u1', pr_8_m2, pr_8_m3, pr_i_1, pr_i_m1]
                        refine pr_icT rfl (fun h55 => ?_) (fun h55 => ?_)
                        · simp only [ab_cmp, pr_8_m2, pr_8_m3, pr_i_1, pr_i_m1] at h55
                          first
                          | contradiction
                          | exact absurd trivial h55
                          | exact absurd h55 (by decide)
                          | exact absurd (Classical.not_not.mp h55) (by decide)
                          | skip
                            refine pr_seqT (pc' := 69) 1 rfl ⟨trivial, trivial⟩ ?_
                            try simp only [r9, r0, r1, r2, r3, s1, s2, q0, q1, rc, q3, q4, q5, q6, q7, q8, e3, e4, y1, y1', o3, o3', u1, u1', pr_8_m2, pr_8_m3, pr_i_1, pr_i_m1]
                            exact pr_irT rfl trivial (by exact cp_s hl hv)
                        · simp only [ab_cmp, pr_8_m2, pr_8_m3, pr_i_1, pr_i_m1] at h55
                          first
                          | contradiction
                          | exact absurd trivial h55
                          | exact absurd h55 (by decide)
                          | exact absurd (Classical.not_not.mp h55) (by decide)
                          | skip
                            refine pr_seqT (pc' := 64) 3 rfl ⟨⟨⟨trivial, (by first | assumption | (simp only [r9, r0, r1, r2, r3, s1, s2, q0, q1, rc, q3, q4, q5, q6, q7, q8, e3, e4, y1, y1', o3, o3', u1, u1', pr_8_m2, pr_8_m3, pr_i_1, pr_i_m1]; first | assumption | decide | exact ⟨by assumption, by assumption⟩ | exact ⟨Or.inl (by assumption), by assumption⟩ | omega) | decide | exact ⟨Or.inl (by assumption), by assumption⟩ | exact ⟨by assumption, by assumption⟩ | omega)⟩, (by first | assumption | (simp only [r9, r0, r1, r2, r3, s1, s2, q0, q1, rc, q3, q4, q5, q6, q7, q8, e3, e4, y1, y1', o3, o3', u1, u1', pr_8_m2, pr_8_m3, pr_i_1, pr_i_m1]; first | assumption | decide | exact ⟨by assumption, by assumption⟩ | exact ⟨Or.inl (by assumption), by assumption⟩ | omega) | decide | exact ⟨Or.inl (by assumption), by assumption⟩ | exact ⟨by assumption, by assumption⟩ | omega)⟩, trivial⟩ ?_
                            try simp only [r9, r0, r1, r2, r3, s1, s2, q0, q1, rc, q3, q4, q5, q6, q7, q8, e3, e4, y1, y1', o3, o3', u1, u1', pr_8_m2, pr_8_m3, pr_i_1, pr_i_m1]
                            refine pr_icT rfl (fun h64 => ?_) (fun h64 => ?_)
                            · simp only [ab_cmp, pr_8_m2, pr_8_m3, pr_i_1, pr_i_m1] at h64
                              first
                              | contradiction
                              | exact absurd trivial h64
                              | exact absurd h64 (by decide)
                              | exact absurd (Classical.not_not.mp h64) (by decide)
                              | skip
                                refine pr_seqT (pc' := 83) 6 rfl ⟨⟨⟨⟨⟨⟨trivial, (by first | assumption | (simp only [r9, r0, r1, r2, r3, s1, s2, q0, q1, rc, q3, q4, q5, q6, q7, q8, e3, e4, y1, y1', o3, o3', u1, u1', pr_8_m2, pr_8_m3, pr_i_1, pr_i_m1]; first | assumption | decide | exact ⟨by assumption, by assumption⟩ | exact ⟨Or.inl (by assumption), by assumption⟩ | omega) | decide | exact ⟨Or.inl (by assumption), by assumption⟩ | exact ⟨by assumption, by assumption⟩ | omega)⟩, (by first | assumption | (simp only [r9, r0, r1, r2, r3, s1, s2, q0, q1, rc, q3, q4, q5, q6, q7, q8, e3, e4, y1, y1', o3, o3', u1, u1', pr_8_m2, pr_8_m3, pr_i_1, pr_i_m1]; first | assumption | decide | exact ⟨by assumption, by assumption⟩ | exact ⟨Or.inl (by assumption), by assumption⟩ | omega) | decide | exact ⟨Or.inl (by assumption), by assumption⟩ | exact ⟨by assumption, by assumption⟩ | omega)⟩, (by first | assumption | (simp only [r9, r0, r1, r2, r3, s1, s2, q0, q1, rc, q3, q4, q5, q6, q7, q8, e3, e4, y1, y1', o3, o3', u1, u1', pr_8_m2, pr_8_m3, pr_i_1, pr_i_m1]; first | assumption | decide | exact ⟨by assumption, by assumption⟩ | exact ⟨Or.inl (by assumption), by assumption⟩ | omega) | decide | exact ⟨Or.inl (by assumption), by assumption⟩ | exact ⟨by assumption, by assumption⟩ | omega)⟩, (by first | assumption | (simp only [r9, r0, r1, r2, r3, s1, s2, q0, q1, rc, q3, q4, q5, q6, q7, q8, e3, e4, y1, y1', o3, o3', u1, u1', pr_8_m2, pr_8_m3, pr_i_1, pr_i_m1]; first | assumption | decide | exact ⟨by assumption, by assumption⟩ | exact ⟨Or.inl (by assumption), by assumption⟩ | omega) | decide | exact ⟨Or.inl (by assumption), by assumption⟩ | exact ⟨by assumption, by assumption⟩ | omega)⟩, (by first | assumption | (simp only [r9, r0, r1, r2, r3, s1, s2, q0, q1, rc, q3, q4, q5, q6, q7, q8, e3, e4, y1, y1', o3, o3', u1, u1', pr_8_m2, pr_8_m3, pr_i_1, pr_i_m1]; first | assumption | decide | exact ⟨by assumption, by assumption⟩ | exact ⟨Or.inl (by assumption), by assumption⟩ | omega) | decide | exact ⟨Or.inl (by assumption), by assumption⟩ | exact ⟨by assumption, by assumption⟩ | omega)⟩, (by first | assumption | (simp only [r9, r0, r1, r2, r3, s1, s2, q0, q1, rc, q3, q4, q5, q6, q7, q8, e3, e4, y1, y1', o3, o3', u1, u1', pr_8_m2, pr_8_m3, pr_i_1, pr_i_m1]; first | assumption | decide | exact ⟨by assumption, by assumption⟩ | exact ⟨Or.inl (by assumption), by assumption⟩ | omega) | decide | exact ⟨Or.inl (by assumption), by assumption⟩ | exact ⟨by assumption, by assumption⟩ | omega)⟩ ?_
                                try simp only [r9, r0, r1, r2, r3, s1, s2, q0, q1, rc, q3, q4, q5, q6, q7, q8, e3, e4, y1, y1', o3, o3', u1, u1', pr_8_m2, pr_8_m3, pr_i_1, pr_i_m1]
                                fail "no call@83 yX2_join"
                            · simp only [ab_cmp, pr_8_m2, pr_8_m3, pr_i_1, pr_i_m1] at h64
                              first
                              | contradiction
                              | exact absurd trivial h64
                              | exact absurd h64 (by decide)
                              | exact absurd (Classical.not_not.mp h64) (by decide)
                              | skip
                                refine pr_seqT (pc' := 69) 1 rfl ⟨trivial, trivial⟩ ?_
                                try simp only [r9, r0, r1, r2, r3, s1, s2, q0, q1, rc, q3, q4, q5, q6, q7, q8, e3, e4, y1, y1', o3, o3', u1, u1', pr_8_m2, pr_8_m3, pr_i_1, pr_i_m1]
                                exact pr_irT rfl trivial (by exact cp_s hl hv)
                    · simp only [ab_cmp, pr_8_m2, pr_8_m3, pr_i_1, pr_i_m1] at h18
                      first
                      | contradiction
                      | exact absurd trivial h18
                      | exact absurd h18 (by decide)
                      | exact absurd (Classical.not_not.mp h18) (by decide)
                      | skip
                        refine pr_seqT (pc' := 22) 1 rfl ⟨trivial, trivial⟩ ?_
                        try simp only [r9, r0, r1, r2, r3, s1, s2, q0, q1, rc, q3, q4, q5, q6, q7, q8, e3, e4, y1, y1', o3, o3', u1, u1', pr_8_m2, pr_8_m3, pr_i_1, pr_i_m1]
                        exact pr_irT rfl trivial (by first | rfl | (simp only [r9, r0, r1, r2, r3, s1, s2, q0, q1, rc, q3, q4, q5, q6, q7, q8, e3, e4, y1, y1', o3, o3', u1, u1', pr_8_m2, pr_8_m3, pr_i_1, pr_i_m1]; done) | (simp [pr_b, pr_8_m2, pr_8_m3, pr_i_1, pr_i_m1, *]; done) | (simp_all [pr_b, pr_8_m2, pr_8_m3, pr_i_1, pr_i_m1]; done))
          · have ck' : ¬ nI (d_pn X.1.1 k).1 = 1 := nI_ne (b := 1) ck (by omega) (by decide)
            rw [if_neg (by omega)]
            by_cases c20 : (d_pn X.1.1 j).2.2.2.length + (d_pn X.1.1 k).2.2.2.length ≤ 20
            · rw [if_pos c20]
              obtain ⟨I1, I2, I3, hjn, hcp1, hcp2, hsum, w3, L3, kj3⟩ := wed_mem (b := b) h M hj hk ejk hg hd hj62 c20
              refine pr_seqT (pc' := 2) 2 rfl ⟨⟨trivial, (by first | assumption | (simp only [r9, r0, r1, r2, r3, s1, s2, q0, q1, rc, q3, q4, q5, q6, q7, q8, e3, e4, y1, y1', o3, o3', u1, u1', kj3, pr_8_m2, pr_8_m3, pr_i_1, pr_i_m1]; first | assumption | decide | exact ⟨by assumption, by assumption⟩ | exact ⟨Or.inl (by assumption), by assumption⟩ | omega) | decide | exact ⟨Or.inl (by assumption), by assumption⟩ | exact ⟨by assumption, by assumption⟩ | omega)⟩, trivial⟩ ?_
              try simp only [r9, r0, r1, r2, r3, s1, s2, q0, q1, rc, q3, q4, q5, q6, q7, q8, e3, e4, y1, y1', o3, o3', u1, u1', kj3, pr_8_m2, pr_8_m3, pr_i_1, pr_i_m1]
              refine pr_cvT [_] rfl rfl rfl rfl rfl (Nat.le_of_ble_eq_true rfl) (by first | assumption | (simp only [r9, r0, r1, r2, r3, s1, s2, q0, q1, rc, q3, q4, q5, q6, q7, q8, e3, e4, y1, y1', o3, o3', u1, u1', kj3, pr_8_m2, pr_8_m3, pr_i_1, pr_i_m1]; first | assumption | decide | exact ⟨by assumption, by assumption⟩ | exact ⟨Or.inl (by assumption), by assumption⟩ | omega) | decide | exact ⟨Or.inl (by assumption), by assumption⟩ | exact ⟨by assumption, by assumption⟩ | omega) (Nat.le_of_ble_eq_true rfl) (hp) ?_
              refine pr_ifT rfl (fun h5 => ?_) (fun h5 => ?_)
              · simp only [ab_cmp, pr_8_m2, pr_8_m3, pr_i_1, pr_i_m1] at h5
                first
                | contradiction
                | exact absurd trivial h5
                | exact absurd h5 (by decide)
                | exact absurd (Classical.not_not.mp h5) (by decide)
                | skip
                  refine pr_seqT (pc' := 22) 1 rfl ⟨trivial, trivial⟩ ?_
                  try simp only [r9, r0, r1, r2, r3, s1, s2, q0, q1, rc, q3, q4, q5, q6, q7, q8, e3, e4, y1, y1', o3, o3', u1, u1', kj3, pr_8_m2, pr_8_m3, pr_i_1, pr_i_m1]
                  exact pr_irT rfl trivial (by first | rfl | (simp only [r9, r0, r1, r2, r3, s1, s2, q0, q1, rc, q3, q4, q5, q6, q7, q8, e3, e4, y1, y1', o3, o3', u1, u1', kj3, pr_8_m2, pr_8_m3, pr_i_1, pr_i_m1]; done) | (simp [pr_b, pr_8_m2, pr_8_m3, pr_i_1, pr_i_m1, *]; done) | (simp_all [pr_b, pr_8_m2, pr_8_m3, pr_i_1, pr_i_m1]; done))
              · simp only [ab_cmp, pr_8_m2, pr_8_m3, pr_i_1, pr_i_m1] at h5
                first
                | contradiction
                | exact absurd trivial h5
                | exact absurd h5 (by decide)
                | exact absurd (Classical.not_not.mp h5) (by decide)
                | skip
                  refine pr_seqT (pc' := 10) 2 rfl ⟨⟨trivial, (by first | assumption | (simp only [r9, r0, r1, r2, r3, s1, s2, q0, q1, rc, q3, q4, q5, q6, q7, q8, e3, e4, y1, y1', o3, o3', u1, u1', kj3, pr_8_m2, pr_8_m3, pr_i_1, pr_i_m1]; first | assumption | decide | exact ⟨by assumption, by assumption⟩ | exact ⟨Or.inl (by assumption), by assumption⟩ | omega) | decide | exact ⟨Or.inl (by assumption), by assumption⟩ | exact ⟨by assumption, by assumption⟩ | omega)⟩, trivial⟩ ?_
                  try simp only [r9, r0, r1, r2, r3, s1, s2, q0, q1, rc, q3, q4, q5, q6, q7, q8, e3, e4, y1, y1', o3, o3', u1, u1', kj3, pr_8_m2, pr_8_m3, pr_i_1, pr_i_m1]
                  refine pr_cvT [_] rfl rfl rfl rfl rfl (Nat.le_of_ble_eq_true rfl) (by first | assumption | (simp only [r9, r0, r1, r2, r3, s1, s2, q0, q1, rc, q3, q4, q5, q6, q7, q8, e3, e4, y1, y1', o3, o3', u1, u1', kj3, pr_8_m2, pr_8_m3, pr_i_1, pr_i_m1]; first | assumption | decide | exact ⟨by assumption, by assumption⟩ | exact ⟨Or.inl (by assumption), by assumption⟩ | omega) | decide | exact ⟨Or.inl (by assumption), by assumption⟩ | exact ⟨by assumption, by assumption⟩ | omega) (Nat.le_of_ble_eq_true rfl) (hp2) ?_
                  refine pr_ifT rfl (fun h13 => ?_) (fun h13 => ?_)
                  · simp only [ab_cmp, pr_8_m2, pr_8_m3, pr_i_1, pr_i_m1] at h13
                    first
                    | contradiction
                    | exact absurd trivial h13
                    | exact absurd h13 (by decide)
                    | exact absurd (Classical.not_not.mp h13) (by decide)
                    | skip
                      refine pr_seqT (pc' := 22) 1 rfl ⟨trivial, trivial⟩ ?_
                      try simp only [r9, r0, r1, r2, r3, s1, s2, q0, q1, rc, q3, q4, q5, q6, q7, q8, e3, e4, y1, y1', o3, o3', u1, u1', kj3, pr_8_m2, pr_8_m3, pr_i_1, pr_i_m1]
                      exact pr_irT rfl trivial (by first | rfl | (simp only [r9, r0, r1, r2, r3, s1, s2, q0, q1, rc, q3, q4, q5, q6, q7, q8, e3, e4, y1, y1', o3, o3', u1, u1', kj3, pr_8_m2, pr_8_m3, pr_i_1, pr_i_m1]; done) | (simp [pr_b, pr_8_m2, pr_8_m3, pr_i_1, pr_i_m1, *]; done) | (simp_all [pr_b, pr_8_m2, pr_8_m3, pr_i_1, pr_i_m1]; done))
                  · simp only [ab_cmp, pr_8_m2, pr_8_m3, pr_i_1, pr_i_m1] at h13
                    first
                    | contradiction
                    | exact absurd trivial h13
                    | exact absurd h13 (by decide)
                    | exact absurd (Classical.not_not.mp h13) (by decide)
                    | skip
                      refine pr_seqT (pc' := 18) 2 rfl ⟨⟨trivial, trivial⟩, trivial⟩ ?_
                      try simp only [r9, r0, r1, r2, r3, s1, s2, q0, q1, rc, q3, q4, q5, q6, q7, q8, e3, e4, y1, y1', o3, o3', u1, u1', kj3, pr_8_m2, pr_8_m3, pr_i_1, pr_i_m1]
                      refine pr_icT rfl (fun h18 => ?_) (fun h18 => ?_)
                      · simp only [ab_cmp, pr_8_m2, pr_8_m3, pr_i_1, pr_i_m1] at h18
                        first
                        | contradiction
                        | exact absurd trivial h18
                        | exact absurd h18 (by decide)
                        | exact absurd (Classical.not_not.mp h18) (by decide)
                        | skip
                          refine pr_seqT (pc' := 55) 17 rfl ⟨⟨⟨⟨⟨⟨⟨⟨⟨⟨⟨⟨⟨⟨⟨⟨⟨trivial, (by first | assumption | (simp only [r9, r0, r1, r2, r3, s1, s2, q0, q1, rc, q3, q4, q5, q6, q7, q8, e3, e4, y1, y1', o3, o3', u1, u1', kj3, pr_8_m2, pr_8_m3, pr_i_1, pr_i_m1]; first | assumption | decide | exact ⟨by assumption, by assumption⟩ | exact ⟨Or.inl (by assumption), by assumption⟩ | omega) | decide | exact ⟨Or.inl (by assumption), by assumption⟩ | exact ⟨by assumption, by assumption⟩ | omega)⟩, (by first | assumption | (simp only [r9, r0, r1, r2, r3, s1, s2, q0, q1, rc, q3, q4, q5, q6, q7, q8, e3, e4, y1, y1', o3, o3', u1, u1', kj3, pr_8_m2, pr_8_m3, pr_i_1, pr_i_m1]; first | assumption | decide | exact ⟨by assumption, by assumption⟩ | exact ⟨Or.inl (by assumption), by assumption⟩ | omega) | decide | exact ⟨Or.inl (by assumption), by assumption⟩ | exact ⟨by assumption, by assumption⟩ | omega)⟩, (by first | assumption | (simp only [r9, r0, r1, r2, r3, s1, s2, q0, q1, rc, q3, q4, q5, q6, q7, q8, e3, e4, y1, y1', o3, o3', u1, u1', kj3, pr_8_m2, pr_8_m3, pr_i_1, pr_i_m1]; first | assumption | decide | exact ⟨by assumption, by assumption⟩ | exact ⟨Or.inl (by assumption), by assumption⟩ | omega) | decide | exact ⟨Or.inl (by assumption), by assumption⟩ | exact ⟨by assumption, by assumption⟩ | omega)⟩, (by first | assumption | (simp only [r9, r0, r1, r2, r3, s1, s2, q0, q1, rc, q3, q4, q5, q6, q7, q8, e3, e4, y1, y1', o3, o3', u1, u1', kj3, pr_8_m2, pr_8_m3, pr_i_1, pr_i_m1]; first | assumption | decide | exact ⟨by assumption, by assumption⟩ | exact ⟨Or.inl (by assumption), by assumption⟩ | omega) | decide | exact ⟨Or.inl (by assumption), by assumption⟩ | exact ⟨by assumption, by assumption⟩ | omega)⟩, trivial⟩, (by first | assumption | (simp only [r9, r0, r1, r2, r3, s1, s2, q0, q1, rc, q3, q4, q5, q6, q7, q8, e3, e4, y1, y1', o3, o3', u1, u1', kj3, pr_8_m2, pr_8_m3, pr_i_1, pr_i_m1]; first | assumption | decide | exact ⟨by assumption, by assumption⟩ | exact ⟨Or.inl (by assumption), by assumption⟩ | omega) | decide | exact ⟨Or.inl (by assumption), by assumption⟩ | exact ⟨by assumption, by assumption⟩ | omega)⟩, (by first | assumption | (simp only [r9, r0, r1, r2, r3, s1, s2, q0, q1, rc, q3, q4, q5, q6, q7, q8, e3, e4, y1, y1', o3, o3', u1, u1', kj3, pr_8_m2, pr_8_m3, pr_i_1, pr_i_m1]; first | assumption | decide | exact ⟨by assumption, by assumption⟩ | exact ⟨Or.inl (by assumption), by assumption⟩ | omega) | decide | exact ⟨Or.inl (by assumption), by assumption⟩ | exact ⟨by assumption, by assumption⟩ | omega)⟩, (by first | assumption | (simp only [r9, r0, r1, r2, r3, s1, s2, q0, q1, rc, q3, q4, q5, q6, q7, q8, e3, e4, y1, y1', o3, o3', u1, u1', kj3, pr_8_m2, pr_8_m3, pr_i_1, pr_i_m1]; first | assumption | decide | exact ⟨by assumption, by assumption⟩ | exact ⟨Or.inl (by assumption), by assumption⟩ | omega) | decide | exact ⟨Or.inl (by assumption), by assumption⟩ | exact ⟨by assumption, by assumption⟩ | omega)⟩, (by first | assumption | (simp only [r9, r0, r1, r2, r3, s1, s2, q0, q1, rc, q3, q4, q5, q6, q7, q8, e3, e4, y1, y1', o3, o3', u1, u1', kj3, pr_8_m2, pr_8_m3, pr_i_1, pr_i_m1]; first | assumption | decide | exact ⟨by assumption, by assumption⟩ | exact ⟨Or.inl (by assumption), by assumption⟩ | omega) | decide | exact ⟨Or.inl (by assumption), by assumption⟩ | exact ⟨by assumption, by assumption⟩ | omega)⟩, (by first | assumption | (simp only [r9, r0, r1, r2, r3, s1, s2, q0, q1, rc, q3, q4, q5, q6, q7, q8, e3, e4, y1, y1', o3, o3', u1, u1', kj3, pr_8_m2, pr_8_m3, pr_i_1, pr_i_m1]; first | assumption | decide | exact ⟨by assumption, by assumption⟩ | exact ⟨Or.inl (by assumption), by assumption⟩ | omega) | decide | exact ⟨Or.inl (by assumption), by assumption⟩ | exact ⟨by assumption, by assumption⟩ | omega)⟩, (by first | assumption | (simp only [r9, r0, r1, r2, r3, s1, s2, q0, q1, rc, q3, q4, q5, q6, q7, q8, e3, e4, y1, y1', o3, o3', u1, u1', kj3, pr_8_m2, pr_8_m3, pr_i_1, pr_i_m1]; first | assumption | decide | exact ⟨by assumption, by assumption⟩ | exact ⟨Or.inl (by assumption), by assumption⟩ | omega) | decide | exact ⟨Or.inl (by assumption), by assumption⟩ | exact ⟨by assumption, by assumption⟩ | omega)⟩, trivial⟩, (by first | assumption | (simp only [r9, r0, r1, r2, r3, s1, s2, q0, q1, rc, q3, q4, q5, q6, q7, q8, e3, e4, y1, y1', o3, o3', u1, u1', kj3, pr_8_m2, pr_8_m3, pr_i_1, pr_i_m1]; first | assumption | decide | exact ⟨by assumption, by assumption⟩ | exact ⟨Or.inl (by assumption), by assumption⟩ | omega) | decide | exact ⟨Or.inl (by assumption), by assumption⟩ | exact ⟨by assumption, by assumption⟩ | omega)⟩, (by first | assumption | (simp only [r9, r0, r1, r2, r3, s1, s2, q0, q1, rc, q3, q4, q5, q6, q7, q8, e3, e4, y1, y1', o3, o3', u1, u1', kj3, pr_8_m2, pr_8_m3, pr_i_1, pr_i_m1]; first | assumption | decide | exact ⟨by assumption, by assumption⟩ | exact ⟨Or.inl (by assumption), by assumption⟩ | omega) | decide | exact ⟨Or.inl (by assumption), by assumption⟩ | exact ⟨by assumption, by assumption⟩ | omega)⟩, (by first | assumption | (simp only [r9, r0, r1, r2, r3, s1, s2, q0, q1, rc, q3, q4, q5, q6, q7, q8, e3, e4, y1, y1', o3, o3', u1, u1', kj3, pr_8_m2, pr_8_m3, pr_i_1, pr_i_m1]; first | assumption | decide | exact ⟨by assumption, by assumption⟩ | exact ⟨Or.inl (by assumption), by assumption⟩ | omega) | decide | exact ⟨Or.inl (by assumption), by assumption⟩ | exact ⟨by assumption, by assumption⟩ | omega)⟩, (by first | assumption | (simp only [r9, r0, r1, r2, r3, s1, s2, q0, q1, rc, q3, q4, q5, q6, q7, q8, e3, e4, y1, y1', o3, o3', u1, u1', kj3, pr_8_m2, pr_8_m3, pr_i_1, pr_i_m1]; first | assumption | decide | exact ⟨by assumption, by assumption⟩ | exact ⟨Or.inl (by assumption), by assumption⟩ | omega) | decide | exact ⟨Or.inl (by assumption), by assumption⟩ | exact ⟨by assumption, by assumption⟩ | omega)⟩, trivial⟩ ?_
                          try simp only [r9, r0, r1, r2, r3, s1, s2, q0, q1, rc, q3, q4, q5, q6, q7, q8, e3, e4, y1, y1', o3, o3', u1, u1', kj3, pr_8_m2, pr_8_m3, pr_i_1, pr_i_m1]
                          refine pr_icT rfl (fun h55 => ?_) (fun h55 => ?_)
                          · simp only [ab_cmp, pr_8_m2, pr_8_m3, pr_i_1, pr_i_m1] at h55
                            first
                            | contradiction
                            | exact absurd trivial h55
                            | exact absurd h55 (by decide)
                            | exact absurd (Classical.not_not.mp h55) (by decide)
                            | skip
                              refine pr_seqT (pc' := 69) 1 rfl ⟨trivial, trivial⟩ ?_
                              try simp only [r9, r0, r1, r2, r3, s1, s2, q0, q1, rc, q3, q4, q5, q6, q7, q8, e3, e4, y1, y1', o3, o3', u1, u1', kj3, pr_8_m2, pr_8_m3, pr_i_1, pr_i_m1]
                              exact pr_irT rfl trivial (by first | rfl | (simp only [r9, r0, r1, r2, r3, s1, s2, q0, q1, rc, q3, q4, q5, q6, q7, q8, e3, e4, y1, y1', o3, o3', u1, u1', kj3, pr_8_m2, pr_8_m3, pr_i_1, pr_i_m1]; done) | (simp [pr_b, pr_8_m2, pr_8_m3, pr_i_1, pr_i_m1, *]; done) | (simp_all [pr_b, pr_8_m2, pr_8_m3, pr_i_1, pr_i_m1]; done))
                          · simp only [ab_cmp, pr_8_m2, pr_8_m3, pr_i_1, pr_i_m1] at h55
                            first
                            | contradiction
                            | exact absurd trivial h55
                            | exact absurd h55 (by decide)
                            | exact absurd (Classical.not_not.mp h55) (by decide)
                            | skip
                              refine pr_seqT (pc' := 64) 3 rfl ⟨⟨⟨trivial, (by first | assumption | (simp only [r9, r0, r1, r2, r3, s1, s2, q0, q1, rc, q3, q4, q5, q6, q7, q8, e3, e4, y1, y1', o3, o3', u1, u1', kj3, pr_8_m2, pr_8_m3, pr_i_1, pr_i_m1]; first | assumption | decide | exact ⟨by assumption, by assumption⟩ | exact ⟨Or.inl (by assumption), by assumption⟩ | omega) | decide | exact ⟨Or.inl (by assumption), by assumption⟩ | exact ⟨by assumption, by assumption⟩ | omega)⟩, (by first | assumption | (simp only [r9, r0, r1, r2, r3, s1, s2, q0, q1, rc, q3, q4, q5, q6, q7, q8, e3, e4, y1, y1', o3, o3', u1, u1', kj3, pr_8_m2, pr_8_m3, pr_i_1, pr_i_m1]; first | assumption | decide | exact ⟨by assumption, by assumption⟩ | exact ⟨Or.inl (by assumption), by assumption⟩ | omega) | decide | exact ⟨Or.inl (by assumption), by assumption⟩ | exact ⟨by assumption, by assumption⟩ | omega)⟩, trivial⟩ ?_
                              try simp only [r9, r0, r1, r2, r3, s1, s2, q0, q1, rc, q3, q4, q5, q6, q7, q8, e3, e4, y1, y1', o3, o3', u1, u1', kj3, pr_8_m2, pr_8_m3, pr_i_1, pr_i_m1]
                              refine pr_icT rfl (fun h64 => ?_) (fun h64 => ?_)
                              · simp only [ab_cmp, pr_8_m2, pr_8_m3, pr_i_1, pr_i_m1] at h64
                                first
                                | contradiction
                                | exact absurd trivial h64
                                | exact absurd h64 (by decide)
                                | exact absurd (Classical.not_not.mp h64) (by decide)
                                | skip
                                  refine pr_seqT (pc' := 83) 6 rfl ⟨⟨⟨⟨⟨⟨trivial, (by first | assumption | (simp only [r9, r0, r1, r2, r3, s1, s2, q0, q1, rc, q3, q4, q5, q6, q7, q8, e3, e4, y1, y1', o3, o3', u1, u1', kj3, pr_8_m2, pr_8_m3, pr_i_1, pr_i_m1]; first | assumption | decide | exact ⟨by assumption, by assumption⟩ | exact ⟨Or.inl (by assumption), by assumption⟩ | omega) | decide | exact ⟨Or.inl (by assumption), by assumption⟩ | exact ⟨by assumption, by assumption⟩ | omega)⟩, (by first | assumption | (simp only [r9, r0, r1, r2, r3, s1, s2, q0, q1, rc, q3, q4, q5, q6, q7, q8, e3, e4, y1, y1', o3, o3', u1, u1', kj3, pr_8_m2, pr_8_m3, pr_i_1, pr_i_m1]; first | assumption | decide | exact ⟨by assumption, by assumption⟩ | exact ⟨Or.inl (by assumption), by assumption⟩ | omega) | decide | exact ⟨Or.inl (by assumption), by assumption⟩ | exact ⟨by assumption, by assumption⟩ | omega)⟩, (by first | assumption | (simp only [r9, r0, r1, r2, r3, s1, s2, q0, q1, rc, q3, q4, q5, q6, q7, q8, e3, e4, y1, y1', o3, o3', u1, u1', kj3, pr_8_m2, pr_8_m3, pr_i_1, pr_i_m1]; first | assumption | decide | exact ⟨by assumption, by assumption⟩ | exact ⟨Or.inl (by assumption), by assumption⟩ | omega) | decide | exact ⟨Or.inl (by assumption), by assumption⟩ | exact ⟨by assumption, by assumption⟩ | omega)⟩, (by first | assumption | (simp only [r9, r0, r1, r2, r3, s1, s2, q0, q1, rc, q3, q4, q5, q6, q7, q8, e3, e4, y1, y1', o3, o3', u1, u1', kj3, pr_8_m2, pr_8_m3, pr_i_1, pr_i_m1]; first | assumption | decide | exact ⟨by assumption, by assumption⟩ | exact ⟨Or.inl (by assumption), by assumption⟩ | omega) | decide | exact ⟨Or.inl (by assumption), by assumption⟩ | exact ⟨by assumption, by assumption⟩ | omega)⟩, (by first | assumption | (simp only [r9, r0, r1, r2, r3, s1, s2, q0, q1, rc, q3, q4, q5, q6, q7, q8, e3, e4, y1, y1', o3, o3', u1, u1', kj3, pr_8_m2, pr_8_m3, pr_i_1, pr_i_m1]; first | assumption | decide | exact ⟨by assumption, by assumption⟩ | exact ⟨Or.inl (by assumption), by assumption⟩ | omega) | decide | exact ⟨Or.inl (by assumption), by assumption⟩ | exact ⟨by assumption, by assumption⟩ | omega)⟩, (by first | assumption | (simp only [r9, r0, r1, r2, r3, s1, s2, q0, q1, rc, q3, q4, q5, q6, q7, q8, e3, e4, y1, y1', o3, o3', u1, u1', kj3, pr_8_m2, pr_8_m3, pr_i_1, pr_i_m1]; first | assumption | decide | exact ⟨by assumption, by assumption⟩ | exact ⟨Or.inl (by assumption), by assumption⟩ | omega) | decide | exact ⟨Or.inl (by assumption), by assumption⟩ | exact ⟨by assumption, by assumption⟩ | omega)⟩ ?_
                                  try simp only [r9, r0, r1, r2, r3, s1, s2, q0, q1, rc, q3, q4, q5, q6, q7, q8, e3, e4, y1, y1', o3, o3', u1, u1', kj3, pr_8_m2, pr_8_m3, pr_i_1, pr_i_m1]
                                  refine pr_cvT [_, _] rfl rfl rfl rfl rfl (Nat.le_of_ble_eq_true rfl) (by first | assumption | (simp only [r9, r0, r1, r2, r3, s1, s2, q0, q1, rc, q3, q4, q5, q6, q7, q8, e3, e4, y1, y1', o3, o3', u1, u1', kj3, pr_8_m2, pr_8_m3, pr_i_1, pr_i_m1]; first | assumption | decide | exact ⟨by assumption, by assumption⟩ | exact ⟨Or.inl (by assumption), by assumption⟩ | omega) | decide | exact ⟨Or.inl (by assumption), by assumption⟩ | exact ⟨by assumption, by assumption⟩ | omega) (Nat.le_of_ble_eq_true rfl) (hjn) ?_
                                  refine pr_ifT rfl (fun h86 => ?_) (fun h86 => ?_)
                                  · simp only [ab_cmp, pr_8_m2, pr_8_m3, pr_i_1, pr_i_m1] at h86
                                    first
                                    | contradiction
                                    | exact absurd trivial h86
                                    | exact absurd h86 (by decide)
                                    | exact absurd (Classical.not_not.mp h86) (by decide)
                                    | skip
                                      refine pr_seqT (pc' := 100) 4 rfl ⟨⟨⟨⟨trivial, (by first | assumption | (simp only [r9, r0, r1, r2, r3, s1, s2, q0, q1, rc, q3, q4, q5, q6, q7, q8, e3, e4, y1, y1', o3, o3', u1, u1', kj3, pr_8_m2, pr_8_m3, pr_i_1, pr_i_m1]; first | assumption | decide | exact ⟨by assumption, by assumption⟩ | exact ⟨Or.inl (by assumption), by assumption⟩ | omega) | decide | exact ⟨Or.inl (by assumption), by assumption⟩ | exact ⟨by assumption, by assumption⟩ | omega)⟩, (by first | assumption | (simp only [r9, r0, r1, r2, r3, s1, s2, q0, q1, rc, q3, q4, q5, q6, q7, q8, e3, e4, y1, y1', o3, o3', u1, u1', kj3, pr_8_m2, pr_8_m3, pr_i_1, pr_i_m1]; first | assumption | decide | exact ⟨by assumption, by assumption⟩ | exact ⟨Or.inl (by assumption), by assumption⟩ | omega) | decide | exact ⟨Or.inl (by assumption), by assumption⟩ | exact ⟨by assumption, by assumption⟩ | omega)⟩, (by first | assumption | (simp only [r9, r0, r1, r2, r3, s1, s2, q0, q1, rc, q3, q4, q5, q6, q7, q8, e3, e4, y1, y1', o3, o3', u1, u1', kj3, pr_8_m2, pr_8_m3, pr_i_1, pr_i_m1]; first | assumption | decide | exact ⟨by assumption, by assumption⟩ | exact ⟨Or.inl (by assumption), by assumption⟩ | omega) | decide | exact ⟨Or.inl (by assumption), by assumption⟩ | exact ⟨by assumption, by assumption⟩ | omega)⟩, (by first | assumption | (simp only [r9, r0, r1, r2, r3, s1, s2, q0, q1, rc, q3, q4, q5, q6, q7, q8, e3, e4, y1, y1', o3, o3', u1, u1', kj3, pr_8_m2, pr_8_m3, pr_i_1, pr_i_m1]; first | assumption | decide | exact ⟨by assumption, by assumption⟩ | exact ⟨Or.inl (by assumption), by assumption⟩ | omega) | decide | exact ⟨Or.inl (by assumption), by assumption⟩ | exact ⟨by assumption, by assumption⟩ | omega)⟩ ?_
                                      try simp only [r9, r0, r1, r2, r3, s1, s2, q0, q1, rc, q3, q4, q5, q6, q7, q8, e3, e4, y1, y1', o3, o3', u1, u1', kj3, pr_8_m2, pr_8_m3, pr_i_1, pr_i_m1]
                                      refine pr_cvT [_] rfl rfl rfl rfl rfl (Nat.le_of_ble_eq_true rfl) (by first | assumption | (simp only [r9, r0, r1, r2, r3, s1, s2, q0, q1, rc, q3, q4, q5, q6, q7, q8, e3, e4, y1, y1', o3, o3', u1, u1', kj3, pr_8_m2, pr_8_m3, pr_i_1, pr_i_m1]; first | assumption | decide | exact ⟨by assumption, by assumption⟩ | exact ⟨Or.inl (by assumption), by assumption⟩ | omega) | decide | exact ⟨Or.inl (by assumption), by assumption⟩ | exact ⟨by assumption, by assumption⟩ | omega) (Nat.le_of_ble_eq_true rfl) (hcp1) ?_
                                      refine pr_seqT (pc' := 112) 4 rfl ⟨⟨⟨⟨trivial, (by first | assumption | (simp only [r9, r0, r1, r2, r3, s1, s2, q0, q1, rc, q3, q4, q5, q6, q7, q8, e3, e4, y1, y1', o3, o3', u1, u1', kj3, pr_8_m2, pr_8_m3, pr_i_1, pr_i_m1]; first | assumption | decide | exact ⟨by assumption, by assumption⟩ | exact ⟨Or.inl (by assumption), by assumption⟩ | omega) | decide | exact ⟨Or.inl (by assumption), by assumption⟩ | exact ⟨by assumption, by assumption⟩ | omega)⟩, (by first | assumption | (simp only [r9, r0, r1, r2, r3, s1, s2, q0, q1, rc, q3, q4, q5, q6, q7, q8, e3, e4, y1, y1', o3, o3', u1, u1', kj3, pr_8_m2, pr_8_m3, pr_i_1, pr_i_m1]; first | assumption | decide | exact ⟨by assumption, by assumption⟩ | exact ⟨Or.inl (by assumption), by assumption⟩ | omega) | decide | exact ⟨Or.inl (by assumption), by assumption⟩ | exact ⟨by assumption, by assumption⟩ | omega)⟩, (by first | assumption | (simp only [r9, r0, r1, r2, r3, s1, s2, q0, q1, rc, q3, q4, q5, q6, q7, q8, e3, e4, y1, y1', o3, o3', u1, u1', kj3, pr_8_m2, pr_8_m3, pr_i_1, pr_i_m1]; first | assumption | decide | exact ⟨by assumption, by assumption⟩ | exact ⟨Or.inl (by assumption), by assumption⟩ | omega) | decide | exact ⟨Or.inl (by assumption), by assumption⟩ | exact ⟨by assumption, by assumption⟩ | omega)⟩, (by first | assumption | (simp only [r9, r0, r1, r2, r3, s1, s2, q0, q1, rc, q3, q4, q5, q6, q7, q8, e3, e4, y1, y1', o3, o3', u1, u1', kj3, pr_8_m2, pr_8_m3, pr_i_1, pr_i_m1]; first | assumption | decide | exact ⟨by assumption, by assumption⟩ | exact ⟨Or.inl (by assumption), by assumption⟩ | omega) | decide | exact ⟨Or.inl (by assumption), by assumption⟩ | exact ⟨by assumption, by assumption⟩ | omega)⟩ ?_
                                      try simp only [r9, r0, r1, r2, r3, s1, s2, q0, q1, rc, q3, q4, q5, q6, q7, q8, e3, e4, y1, y1', o3, o3', u1, u1', kj3, pr_8_m2, pr_8_m3, pr_i_1, pr_i_m1]
                                      refine pr_cvT [_] rfl rfl rfl rfl rfl (Nat.le_of_ble_eq_true rfl) (by first | assumption | (simp only [r9, r0, r1, r2, r3, s1, s2, q0, q1, rc, q3, q4, q5, q6, q7, q8, e3, e4, y1, y1', o3, o3', u1, u1', kj3, pr_8_m2, pr_8_m3, pr_i_1, pr_i_m1]; first | assumption | decide | exact ⟨by assumption, by assumption⟩ | exact ⟨Or.inl (by assumption), by assumption⟩ | omega) | decide | exact ⟨Or.inl (by assumption), by assumption⟩ | exact ⟨by assumption, by assumption⟩ | omega) (Nat.le_of_ble_eq_true rfl) (hcp2) ?_
                                      refine pr_seqT (pc' := 130) 7 rfl ⟨⟨⟨⟨⟨⟨⟨trivial, (by first | assumption | (simp only [r9, r0, r1, r2, r3, s1, s2, q0, q1, rc, q3, q4, q5, q6, q7, q8, e3, e4, y1, y1', o3, o3', u1, u1', kj3, pr_8_m2, pr_8_m3, pr_i_1, pr_i_m1]; first | assumption | decide | exact ⟨by assumption, by assumption⟩ | exact ⟨Or.inl (by assumption), by assumption⟩ | omega) | decide | exact ⟨Or.inl (by assumption), by assumption⟩ | exact ⟨by assumption, by assumption⟩ | omega)⟩, (by first | assumption | (simp only [r9, r0, r1, r2, r3, s1, s2, q0, q1, rc, q3, q4, q5, q6, q7, q8, e3, e4, y1, y1', o3, o3', u1, u1', kj3, pr_8_m2, pr_8_m3, pr_i_1, pr_i_m1]; first | assumption | decide | exact ⟨by assumption, by assumption⟩ | exact ⟨Or.inl (by assumption), by assumption⟩ | omega) | decide | exact ⟨Or.inl (by assumption), by assumption⟩ | exact ⟨by assumption, by assumption⟩ | omega)⟩, (by first | assumption | (simp only [r9, r0, r1, r2, r3, s1, s2, q0, q1, rc, q3, q4, q5, q6, q7, q8, e3, e4, y1, y1', o3, o3', u1, u1', kj3, pr_8_m2, pr_8_m3, pr_i_1, pr_i_m1]; first | assumption | decide | exact ⟨by assumption, by assumption⟩ | exact ⟨Or.inl (by assumption), by assumption⟩ | omega) | decide | exact ⟨Or.inl (by assumption), by assumption⟩ | exact ⟨by assumption, by assumption⟩ | omega)⟩, (by first | assumption | (simp only [r9, r0, r1, r2, r3, s1, s2, q0, q1, rc, q3, q4, q5, q6, q7, q8, e3, e4, y1, y1', o3, o3', u1, u1', kj3, pr_8_m2, pr_8_m3, pr_i_1, pr_i_m1]; first | assumption | decide | exact ⟨by assumption, by assumption⟩ | exact ⟨Or.inl (by assumption), by assumption⟩ | omega) | decide | exact ⟨Or.inl (by assumption), by assumption⟩ | exact ⟨by assumption, by assumption⟩ | omega)⟩, (by first | assumption | (simp only [r9, r0, r1, r2, r3, s1, s2, q0, q1, rc, q3, q4, q5, q6, q7, q8, e3, e4, y1, y1', o3, o3', u1, u1', kj3, pr_8_m2, pr_8_m3, pr_i_1, pr_i_m1]; first | assumption | decide | exact ⟨by assumption, by assumption⟩ | exact ⟨Or.inl (by assumption), by assumption⟩ | omega) | decide | exact ⟨Or.inl (by assumption), by assumption⟩ | exact ⟨by assumption, by assumption⟩ | omega)⟩, (by first | assumption | (simp only [r9, r0, r1, r2, r3, s1, s2, q0, q1, rc, q3, q4, q5, q6, q7, q8, e3, e4, y1, y1', o3, o3', u1, u1', kj3, pr_8_m2, pr_8_m3, pr_i_1, pr_i_m1]; first | assumption | decide | exact ⟨by assumption, by assumption⟩ | exact ⟨Or.inl (by assumption), by assumption⟩ | omega) | decide | exact ⟨Or.inl (by assumption), by assumption⟩ | exact ⟨by assumption, by assumption⟩ | omega)⟩, (by first | assumption | (simp only [r9, r0, r1, r2, r3, s1, s2, q0, q1, rc, q3, q4, q5, q6, q7, q8, e3, e4, y1, y1', o3, o3', u1, u1', kj3, pr_8_m2, pr_8_m3, pr_i_1, pr_i_m1]; first | assumption | decide | exact ⟨by assumption, by assumption⟩ | exact ⟨Or.inl (by assumption), by assumption⟩ | omega) | decide | exact ⟨Or.inl (by assumption), by assumption⟩ | exact ⟨by assumption, by assumption⟩ | omega)⟩ ?_
                                      try simp only [r9, r0, r1, r2, r3, s1, s2, q0, q1, rc, q3, q4, q5, q6, q7, q8, e3, e4, y1, y1', o3, o3', u1, u1', kj3, pr_8_m2, pr_8_m3, pr_i_1, pr_i_m1]
                                      refine pr_cvT [_, _] rfl rfl rfl rfl rfl (Nat.le_of_ble_eq_true rfl) (by first | assumption | (simp only [r9, r0, r1, r2, r3, s1, s2, q0, q1, rc, q3, q4, q5, q6, q7, q8, e3, e4, y1, y1', o3, o3', u1, u1', kj3, pr_8_m2, pr_8_m3, pr_i_1, pr_i_m1]; first | assumption | decide | exact ⟨by assumption, by assumption⟩ | exact ⟨Or.inl (by assumption), by assumption⟩ | omega) | decide | exact ⟨Or.inl (by assumption), by assumption⟩ | exact ⟨by assumption, by assumption⟩ | omega) (Nat.le_of_ble_eq_true rfl) (hsum) ?_
                                      exact pr_irT rfl trivial (cp_I hl (cl_land hv w3.1 L3) w3.2)
                                  · simp only [ab_cmp, pr_8_m2, pr_8_m3, pr_i_1, pr_i_m1] at h86
                                    first
                                    | contradiction
                                    | exact absurd trivial h86
                                    | exact absurd h86 (by decide)
                                    | exact absurd (Classical.not_not.mp h86) (by decide)
                                    | skip
                                      refine pr_seqT (pc' := 91) 1 rfl ⟨trivial, trivial⟩ ?_
                                      try simp only [r9, r0, r1, r2, r3, s1, s2, q0, q1, rc, q3, q4, q5, q6, q7, q8, e3, e4, y1, y1', o3, o3', u1, u1', kj3, pr_8_m2, pr_8_m3, pr_i_1, pr_i_m1]
                                      exact pr_irT rfl trivial (by first | rfl | (simp only [r9, r0, r1, r2, r3, s1, s2, q0, q1, rc, q3, q4, q5, q6, q7, q8, e3, e4, y1, y1', o3, o3', u1, u1', kj3, pr_8_m2, pr_8_m3, pr_i_1, pr_i_m1]; done) | (simp [pr_b, pr_8_m2, pr_8_m3, pr_i_1, pr_i_m1, *]; done) | (simp_all [pr_b, pr_8_m2, pr_8_m3, pr_i_1, pr_i_m1]; done))
                              · simp only [ab_cmp, pr_8_m2, pr_8_m3, pr_i_1, pr_i_m1] at h64
                                first
                                | contradiction
                                | exact absurd trivial h64
                                | exact absurd h64 (by decide)
                                | exact absurd (Classical.not_not.mp h64) (by decide)
                                | skip
                                  refine pr_seqT (pc' := 69) 1 rfl ⟨trivial, trivial⟩ ?_
                                  try simp only [r9, r0, r1, r2, r3, s1, s2, q0, q1, rc, q3, q4, q5, q6, q7, q8, e3, e4, y1, y1', o3, o3', u1, u1', kj3, pr_8_m2, pr_8_m3, pr_i_1, pr_i_m1]
                                  exact pr_irT rfl trivial (by first | rfl | (simp only [r9, r0, r1, r2, r3, s1, s2, q0, q1, rc, q3, q4, q5, q6, q7, q8, e3, e4, y1, y1', o3, o3', u1, u1', kj3, pr_8_m2, pr_8_m3, pr_i_1, pr_i_m1]; done) | (simp [pr_b, pr_8_m2, pr_8_m3, pr_i_1, pr_i_m1, *]; done) | (simp_all [pr_b, pr_8_m2, pr_8_m3, pr_i_1, pr_i_m1]; done))
                      · simp only [ab_cmp, pr_8_m2, pr_8_m3, pr_i_1, pr_i_m1] at h18
                        first
                        | contradiction
                        | exact absurd trivial h18
                        | exact absurd h18 (by decide)
                        | exact absurd (Classical.not_not.mp h18) (by decide)
                        | skip
                          refine pr_seqT (pc' := 22) 1 rfl ⟨trivial, trivial⟩ ?_
                          try simp only [r9, r0, r1, r2, r3, s1, s2, q0, q1, rc, q3, q4, q5, q6, q7, q8, e3, e4, y1, y1', o3, o3', u1, u1', kj3, pr_8_m2, pr_8_m3, pr_i_1, pr_i_m1]
                          exact pr_irT rfl trivial (by first | rfl | (simp only [r9, r0, r1, r2, r3, s1, s2, q0, q1, rc, q3, q4, q5, q6, q7, q8, e3, e4, y1, y1', o3, o3', u1, u1', kj3, pr_8_m2, pr_8_m3, pr_i_1, pr_i_m1]; done) | (simp [pr_b, pr_8_m2, pr_8_m3, pr_i_1, pr_i_m1, *]; done) | (simp_all [pr_b, pr_8_m2, pr_8_m3, pr_i_1, pr_i_m1]; done))
            · rw [if_neg c20]
              rw [decide_eq_false c20, if_neg c20] at hjn
              refine pr_seqT (pc' := 2) 2 rfl ⟨⟨trivial, (by first | assumption | (simp only [r9, r0, r1, r2, r3, s1, s2, q0, q1, rc, q3, q4, q5, q6, q7, q8, e3, e4, y1, y1', o3, o3', u1, u1', pr_8_m2, pr_8_m3, pr_i_1, pr_i_m1]; first | assumption | decide | exact ⟨by assumption, by assumption⟩ | exact ⟨Or.inl (by assumption), by assumption⟩ | omega) | decide | exact ⟨Or.inl (by assumption), by assumption⟩ | exact ⟨by assumption, by assumption⟩ | omega)⟩, trivial⟩ ?_
              try simp only [r9, r0, r1, r2, r3, s1, s2, q0, q1, rc, q3, q4, q5, q6, q7, q8, e3, e4, y1, y1', o3, o3', u1, u1', pr_8_m2, pr_8_m3, pr_i_1, pr_i_m1]
              refine pr_cvT [_] rfl rfl rfl rfl rfl (Nat.le_of_ble_eq_true rfl) (by first | assumption | (simp only [r9, r0, r1, r2, r3, s1, s2, q0, q1, rc, q3, q4, q5, q6, q7, q8, e3, e4, y1, y1', o3, o3', u1, u1', pr_8_m2, pr_8_m3, pr_i_1, pr_i_m1]; first | assumption | decide | exact ⟨by assumption, by assumption⟩ | exact ⟨Or.inl (by assumption), by assumption⟩ | omega) | decide | exact ⟨Or.inl (by assumption), by assumption⟩ | exact ⟨by assumption, by assumption⟩ | omega) (Nat.le_of_ble_eq_true rfl) (hp) ?_
              refine pr_ifT rfl (fun h5 => ?_) (fun h5 => ?_)
              · simp only [ab_cmp, pr_8_m2, pr_8_m3, pr_i_1, pr_i_m1] at h5
                first
                | contradiction
                | exact absurd trivial h5
                | exact absurd h5 (by decide)
                | exact absurd (Classical.not_not.mp h5) (by decide)
                | skip
                  refine pr_seqT (pc' := 22) 1 rfl ⟨trivial, trivial⟩ ?_
                  try simp only [r9, r0, r1, r2, r3, s1, s2, q0, q1, rc, q3, q4, q5, q6, q7, q8, e3, e4, y1, y1', o3, o3', u1, u1', pr_8_m2, pr_8_m3, pr_i_1, pr_i_m1]
                  exact pr_irT rfl trivial (by first | rfl | (simp only [r9, r0, r1, r2, r3, s1, s2, q0, q1, rc, q3, q4, q5, q6, q7, q8, e3, e4, y1, y1', o3, o3', u1, u1', pr_8_m2, pr_8_m3, pr_i_1, pr_i_m1]; done) | (simp [pr_b, pr_8_m2, pr_8_m3, pr_i_1, pr_i_m1, *]; done) | (simp_all [pr_b, pr_8_m2, pr_8_m3, pr_i_1, pr_i_m1]; done))
              · simp only [ab_cmp, pr_8_m2, pr_8_m3, pr_i_1, pr_i_m1] at h5
                first
                | contradiction
                | exact absurd trivial h5
                | exact absurd h5 (by decide)
                | exact absurd (Classical.not_not.mp h5) (by decide)
                | skip
                  refine pr_seqT (pc' := 10) 2 rfl ⟨⟨trivial, (by first | assumption | (simp only [r9, r0, r1, r2, r3, s1, s2, q0, q1, rc, q3, q4, q5, q6, q7, q8, e3, e4, y1, y1', o3, o3', u1, u1', pr_8_m2, pr_8_m3, pr_i_1, pr_i_m1]; first | assumption | decide | exact ⟨by assumption, by assumption⟩ | exact ⟨Or.inl (by assumption), by assumption⟩ | omega) | decide | exact ⟨Or.inl (by assumption), by assumption⟩ | exact ⟨by assumption, by assumption⟩ | omega)⟩, trivial⟩ ?_
                  try simp only [r9, r0, r1, r2, r3, s1, s2, q0, q1, rc, q3, q4, q5, q6, q7, q8, e3, e4, y1, y1', o3, o3', u1, u1', pr_8_m2, pr_8_m3, pr_i_1, pr_i_m1]
                  refine pr_cvT [_] rfl rfl rfl rfl rfl (Nat.le_of_ble_eq_true rfl) (by first | assumption | (simp only [r9, r0, r1, r2, r3, s1, s2, q0, q1, rc, q3, q4, q5, q6, q7, q8, e3, e4, y1, y1', o3, o3', u1, u1', pr_8_m2, pr_8_m3, pr_i_1, pr_i_m1]; first | assumption | decide | exact ⟨by assumption, by assumption⟩ | exact ⟨Or.inl (by assumption), by assumption⟩ | omega) | decide | exact ⟨Or.inl (by assumption), by assumption⟩ | exact ⟨by assumption, by assumption⟩ | omega) (Nat.le_of_ble_eq_true rfl) (hp2) ?_
                  refine pr_ifT rfl (fun h13 => ?_) (fun h13 => ?_)
                  · simp only [ab_cmp, pr_8_m2, pr_8_m3, pr_i_1, pr_i_m1] at h13
                    first
                    | contradiction
                    | exact absurd trivial h13
                    | exact absurd h13 (by decide)
                    | exact absurd (Classical.not_not.mp h13) (by decide)
                    | skip
                      refine pr_seqT (pc' := 22) 1 rfl ⟨trivial, trivial⟩ ?_
                      try simp only [r9, r0, r1, r2, r3, s1, s2, q0, q1, rc, q3, q4, q5, q6, q7, q8, e3, e4, y1, y1', o3, o3', u1, u1', pr_8_m2, pr_8_m3, pr_i_1, pr_i_m1]
                      exact pr_irT rfl trivial (by first | rfl | (simp only [r9, r0, r1, r2, r3, s1, s2, q0, q1, rc, q3, q4, q5, q6, q7, q8, e3, e4, y1, y1', o3, o3', u1, u1', pr_8_m2, pr_8_m3, pr_i_1, pr_i_m1]; done) | (simp [pr_b, pr_8_m2, pr_8_m3, pr_i_1, pr_i_m1, *]; done) | (simp_all [pr_b, pr_8_m2, pr_8_m3, pr_i_1, pr_i_m1]; done))
                  · simp only [ab_cmp, pr_8_m2, pr_8_m3, pr_i_1, pr_i_m1] at h13
                    first
                    | contradiction
                    | exact absurd trivial h13
                    | exact absurd h13 (by decide)
                    | exact absurd (Classical.not_not.mp h13) (by decide)
                    | skip
                      refine pr_seqT (pc' := 18) 2 rfl ⟨⟨trivial, trivial⟩, trivial⟩ ?_
                      try simp only [r9, r0, r1, r2, r3, s1, s2, q0, q1, rc, q3, q4, q5, q6, q7, q8, e3, e4, y1, y1', o3, o3', u1, u1', pr_8_m2, pr_8_m3, pr_i_1, pr_i_m1]
                      refine pr_icT rfl (fun h18 => ?_) (fun h18 => ?_)
                      · simp only [ab_cmp, pr_8_m2, pr_8_m3, pr_i_1, pr_i_m1] at h18
                        first
                        | contradiction
                        | exact absurd trivial h18
                        | exact absurd h18 (by decide)
                        | exact absurd (Classical.not_not.mp h18) (by decide)
                        | skip
                          refine pr_seqT (pc' := 55) 17 rfl ⟨⟨⟨⟨⟨⟨⟨⟨⟨⟨⟨⟨⟨⟨⟨⟨⟨trivial, (by first | assumption | (simp only [r9, r0, r1, r2, r3, s1, s2, q0, q1, rc, q3, q4, q5, q6, q7, q8, e3, e4, y1, y1', o3, o3', u1, u1', pr_8_m2, pr_8_m3, pr_i_1, pr_i_m1]; first | assumption | decide | exact ⟨by assumption, by assumption⟩ | exact ⟨Or.inl (by assumption), by assumption⟩ | omega) | decide | exact ⟨Or.inl (by assumption), by assumption⟩ | exact ⟨by assumption, by assumption⟩ | omega)⟩, (by first | assumption | (simp only [r9, r0, r1, r2, r3, s1, s2, q0, q1, rc, q3, q4, q5, q6, q7, q8, e3, e4, y1, y1', o3, o3', u1, u1', pr_8_m2, pr_8_m3, pr_i_1, pr_i_m1]; first | assumption | decide | exact ⟨by assumption, by assumption⟩ | exact ⟨Or.inl (by assumption), by assumption⟩ | omega) | decide | exact ⟨Or.inl (by assumption), by assumption⟩ | exact ⟨by assumption, by assumption⟩ | omega)⟩, (by first | assumption | (simp only [r9, r0, r1, r2, r3, s1, s2, q0, q1, rc, q3, q4, q5, q6, q7, q8, e3, e4, y1, y1', o3, o3', u1, u1', pr_8_m2, pr_8_m3, pr_i_1, pr_i_m1]; first | assumption | decide | exact ⟨by assumption, by assumption⟩ | exact ⟨Or.inl (by assumption), by assumption⟩ | omega) | decide | exact ⟨Or.inl (by assumption), by assumption⟩ | exact ⟨by assumption, by assumption⟩ | omega)⟩, (by first | assumption | (simp only [r9, r0, r1, r2, r3, s1, s2, q0, q1, rc, q3, q4, q5, q6, q7, q8, e3, e4, y1, y1', o3, o3', u1, u1', pr_8_m2, pr_8_m3, pr_i_1, pr_i_m1]; first | assumption | decide | exact ⟨by assumption, by assumption⟩ | exact ⟨Or.inl (by assumption), by assumption⟩ | omega) | decide | exact ⟨Or.inl (by assumption), by assumption⟩ | exact ⟨by assumption, by assumption⟩ | omega)⟩, trivial⟩, (by first | assumption | (simp only [r9, r0, r1, r2, r3, s1, s2, q0, q1, rc, q3, q4, q5, q6, q7, q8, e3, e4, y1, y1', o3, o3', u1, u1', pr_8_m2, pr_8_m3, pr_i_1, pr_i_m1]; first | assumption | decide | exact ⟨by assumption, by assumption⟩ | exact ⟨Or.inl (by assumption), by assumption⟩ | omega) | decide | exact ⟨Or.inl (by assumption), by assumption⟩ | exact ⟨by assumption, by assumption⟩ | omega)⟩, (by first | assumption | (simp only [r9, r0, r1, r2, r3, s1, s2, q0, q1, rc, q3, q4, q5, q6, q7, q8, e3, e4, y1, y1', o3, o3', u1, u1', pr_8_m2, pr_8_m3, pr_i_1, pr_i_m1]; first | assumption | decide | exact ⟨by assumption, by assumption⟩ | exact ⟨Or.inl (by assumption), by assumption⟩ | omega) | decide | exact ⟨Or.inl (by assumption), by assumption⟩ | exact ⟨by assumption, by assumption⟩ | omega)⟩, (by first | assumption | (simp only [r9, r0, r1, r2, r3, s1, s2, q0, q1, rc, q3, q4, q5, q6, q7, q8, e3, e4, y1, y1', o3, o3', u1, u1', pr_8_m2, pr_8_m3, pr_i_1, pr_i_m1]; first | assumption | decide | exact ⟨by assumption, by assumption⟩ | exact ⟨Or.inl (by assumption), by assumption⟩ | omega) | decide | exact ⟨Or.inl (by assumption), by assumption⟩ | exact ⟨by assumption, by assumption⟩ | omega)⟩, (by first | assumption | (simp only [r9, r0, r1, r2, r3, s1, s2, q0, q1, rc, q3, q4, q5, q6, q7, q8, e3, e4, y1, y1', o3, o3', u1, u1', pr_8_m2, pr_8_m3, pr_i_1, pr_i_m1]; first | assumption | decide | exact ⟨by assumption, by assumption⟩ | exact ⟨Or.inl (by assumption), by assumption⟩ | omega) | decide | exact ⟨Or.inl (by assumption), by assumption⟩ | exact ⟨by assumption, by assumption⟩ | omega)⟩, (by first | assumption | (simp only [r9, r0, r1, r2, r3, s1, s2, q0, q1, rc, q3, q4, q5, q6, q7, q8, e3, e4, y1, y1', o3, o3', u1, u1', pr_8_m2, pr_8_m3, pr_i_1, pr_i_m1]; first | assumption | decide | exact ⟨by assumption, by assumption⟩ | exact ⟨Or.inl (by assumption), by assumption⟩ | omega) | decide | exact ⟨Or.inl (by assumption), by assumption⟩ | exact ⟨by assumption, by assumption⟩ | omega)⟩, (by first | assumption | (simp only [r9, r0, r1, r2, r3, s1, s2, q0, q1, rc, q3, q4, q5, q6, q7, q8, e3, e4, y1, y1', o3, o3', u1, u1', pr_8_m2, pr_8_m3, pr_i_1, pr_i_m1]; first | assumption | decide | exact ⟨by assumption, by assumption⟩ | exact ⟨Or.inl (by assumption), by assumption⟩ | omega) | decide | exact ⟨Or.inl (by assumption), by assumption⟩ | exact ⟨by assumption, by assumption⟩ | omega)⟩, trivial⟩, (by first | assumption | (simp only [r9, r0, r1, r2, r3, s1, s2, q0, q1, rc, q3, q4, q5, q6, q7, q8, e3, e4, y1, y1', o3, o3', u1, u1', pr_8_m2, pr_8_m3, pr_i_1, pr_i_m1]; first | assumption | decide | exact ⟨by assumption, by assumption⟩ | exact ⟨Or.inl (by assumption), by assumption⟩ | omega) | decide | exact ⟨Or.inl (by assumption), by assumption⟩ | exact ⟨by assumption, by assumption⟩ | omega)⟩, (by first | assumption | (simp only [r9, r0, r1, r2, r3, s1, s2, q0, q1, rc, q3, q4, q5, q6, q7, q8, e3, e4, y1, y1', o3, o3', u1, u1', pr_8_m2, pr_8_m3, pr_i_1, pr_i_m1]; first | assumption | decide | exact ⟨by assumption, by assumption⟩ | exact ⟨Or.inl (by assumption), by assumption⟩ | omega) | decide | exact ⟨Or.inl (by assumption), by assumption⟩ | exact ⟨by assumption, by assumption⟩ | omega)⟩, (by first | assumption | (simp only [r9, r0, r1, r2, r3, s1, s2, q0, q1, rc, q3, q4, q5, q6, q7, q8, e3, e4, y1, y1', o3, o3', u1, u1', pr_8_m2, pr_8_m3, pr_i_1, pr_i_m1]; first | assumption | decide | exact ⟨by assumption, by assumption⟩ | exact ⟨Or.inl (by assumption), by assumption⟩ | omega) | decide | exact ⟨Or.inl (by assumption), by assumption⟩ | exact ⟨by assumption, by assumption⟩ | omega)⟩, (by first | assumption | (simp only [r9, r0, r1, r2, r3, s1, s2, q0, q1, rc, q3, q4, q5, q6, q7, q8, e3, e4, y1, y1', o3, o3', u1, u1', pr_8_m2, pr_8_m3, pr_i_1, pr_i_m1]; first | assumption | decide | exact ⟨by assumption, by assumption⟩ | exact ⟨Or.inl (by assumption), by assumption⟩ | omega) | decide | exact ⟨Or.inl (by assumption), by assumption⟩ | exact ⟨by assumption, by assumption⟩ | omega)⟩, trivial⟩ ?_
                          try simp only [r9, r0, r1, r2, r3, s1, s2, q0, q1, rc, q3, q4, q5, q6, q7, q8, e3, e4, y1, y1', o3, o3', u1, u1', pr_8_m2, pr_8_m3, pr_i_1, pr_i_m1]
                          refine pr_icT rfl (fun h55 => ?_) (fun h55 => ?_)
                          · simp only [ab_cmp, pr_8_m2, pr_8_m3, pr_i_1, pr_i_m1] at h55
                            first
                            | contradiction
                            | exact absurd trivial h55
                            | exact absurd h55 (by decide)
                            | exact absurd (Classical.not_not.mp h55) (by decide)
                            | skip
                              refine pr_seqT (pc' := 69) 1 rfl ⟨trivial, trivial⟩ ?_
                              try simp only [r9, r0, r1, r2, r3, s1, s2, q0, q1, rc, q3, q4, q5, q6, q7, q8, e3, e4, y1, y1', o3, o3', u1, u1', pr_8_m2, pr_8_m3, pr_i_1, pr_i_m1]
                              exact pr_irT rfl trivial (by first | rfl | (simp only [r9, r0, r1, r2, r3, s1, s2, q0, q1, rc, q3, q4, q5, q6, q7, q8, e3, e4, y1, y1', o3, o3', u1, u1', pr_8_m2, pr_8_m3, pr_i_1, pr_i_m1]; done) | (simp [pr_b, pr_8_m2, pr_8_m3, pr_i_1, pr_i_m1, *]; done) | (simp_all [pr_b, pr_8_m2, pr_8_m3, pr_i_1, pr_i_m1]; done))
                          · simp only [ab_cmp, pr_8_m2, pr_8_m3, pr_i_1, pr_i_m1] at h55
                            first
                            | contradiction
                            | exact absurd trivial h55
                            | exact absurd h55 (by decide)
                            | exact absurd (Classical.not_not.mp h55) (by decide)
                            | skip
                              refine pr_seqT (pc' := 64) 3 rfl ⟨⟨⟨trivial, (by first | assumption | (simp only [r9, r0, r1, r2, r3, s1, s2, q0, q1, rc, q3, q4, q5, q6, q7, q8, e3, e4, y1, y1', o3, o3', u1, u1', pr_8_m2, pr_8_m3, pr_i_1, pr_i_m1]; first | assumption | decide | exact ⟨by assumption, by assumption⟩ | exact ⟨Or.inl (by assumption), by assumption⟩ | omega) | decide | exact ⟨Or.inl (by assumption), by assumption⟩ | exact ⟨by assumption, by assumption⟩ | omega)⟩, (by first | assumption | (simp only [r9, r0, r1, r2, r3, s1, s2, q0, q1, rc, q3, q4, q5, q6, q7, q8, e3, e4, y1, y1', o3, o3', u1, u1', pr_8_m2, pr_8_m3, pr_i_1, pr_i_m1]; first | assumption | decide | exact ⟨by assumption, by assumption⟩ | exact ⟨Or.inl (by assumption), by assumption⟩ | omega) | decide | exact ⟨Or.inl (by assumption), by assumption⟩ | exact ⟨by assumption, by assumption⟩ | omega)⟩, trivial⟩ ?_
                              try simp only [r9, r0, r1, r2, r3, s1, s2, q0, q1, rc, q3, q4, q5, q6, q7, q8, e3, e4, y1, y1', o3, o3', u1, u1', pr_8_m2, pr_8_m3, pr_i_1, pr_i_m1]
                              refine pr_icT rfl (fun h64 => ?_) (fun h64 => ?_)
                              · simp only [ab_cmp, pr_8_m2, pr_8_m3, pr_i_1, pr_i_m1] at h64
                                first
                                | contradiction
                                | exact absurd trivial h64
                                | exact absurd h64 (by decide)
                                | exact absurd (Classical.not_not.mp h64) (by decide)
                                | skip
                                  refine pr_seqT (pc' := 83) 6 rfl ⟨⟨⟨⟨⟨⟨trivial, (by first | assumption | (simp only [r9, r0, r1, r2, r3, s1, s2, q0, q1, rc, q3, q4, q5, q6, q7, q8, e3, e4, y1, y1', o3, o3', u1, u1', pr_8_m2, pr_8_m3, pr_i_1, pr_i_m1]; first | assumption | decide | exact ⟨by assumption, by assumption⟩ | exact ⟨Or.inl (by assumption), by assumption⟩ | omega) | decide | exact ⟨Or.inl (by assumption), by assumption⟩ | exact ⟨by assumption, by assumption⟩ | omega)⟩, (by first | assumption | (simp only [r9, r0, r1, r2, r3, s1, s2, q0, q1, rc, q3, q4, q5, q6, q7, q8, e3, e4, y1, y1', o3, o3', u1, u1', pr_8_m2, pr_8_m3, pr_i_1, pr_i_m1]; first | assumption | decide | exact ⟨by assumption, by assumption⟩ | exact ⟨Or.inl (by assumption), by assumption⟩ | omega) | decide | exact ⟨Or.inl (by assumption), by assumption⟩ | exact ⟨by assumption, by assumption⟩ | omega)⟩, (by first | assumption | (simp only [r9, r0, r1, r2, r3, s1, s2, q0, q1, rc, q3, q4, q5, q6, q7, q8, e3, e4, y1, y1', o3, o3', u1, u1', pr_8_m2, pr_8_m3, pr_i_1, pr_i_m1]; first | assumption | decide | exact ⟨by assumption, by assumption⟩ | exact ⟨Or.inl (by assumption), by assumption⟩ | omega) | decide | exact ⟨Or.inl (by assumption), by assumption⟩ | exact ⟨by assumption, by assumption⟩ | omega)⟩, (by first | assumption | (simp only [r9, r0, r1, r2, r3, s1, s2, q0, q1, rc, q3, q4, q5, q6, q7, q8, e3, e4, y1, y1', o3, o3', u1, u1', pr_8_m2, pr_8_m3, pr_i_1, pr_i_m1]; first | assumption | decide | exact ⟨by assumption, by assumption⟩ | exact ⟨Or.inl (by assumption), by assumption⟩ | omega) | decide | exact ⟨Or.inl (by assumption), by assumption⟩ | exact ⟨by assumption, by assumption⟩ | omega)⟩, (by first | assumption | (simp only [r9, r0, r1, r2, r3, s1, s2, q0, q1, rc, q3, q4, q5, q6, q7, q8, e3, e4, y1, y1', o3, o3', u1, u1', pr_8_m2, pr_8_m3, pr_i_1, pr_i_m1]; first | assumption | decide | exact ⟨by assumption, by assumption⟩ | exact ⟨Or.inl (by assumption), by assumption⟩ | omega) | decide | exact ⟨Or.inl (by assumption), by assumption⟩ | exact ⟨by assumption, by assumption⟩ | omega)⟩, (by first | assumption | (simp only [r9, r0, r1, r2, r3, s1, s2, q0, q1, rc, q3, q4, q5, q6, q7, q8, e3, e4, y1, y1', o3, o3', u1, u1', pr_8_m2, pr_8_m3, pr_i_1, pr_i_m1]; first | assumption | decide | exact ⟨by assumption, by assumption⟩ | exact ⟨Or.inl (by assumption), by assumption⟩ | omega) | decide | exact ⟨Or.inl (by assumption), by assumption⟩ | exact ⟨by assumption, by assumption⟩ | omega)⟩ ?_
                                  try simp only [r9, r0, r1, r2, r3, s1, s2, q0, q1, rc, q3, q4, q5, q6, q7, q8, e3, e4, y1, y1', o3, o3', u1, u1', pr_8_m2, pr_8_m3, pr_i_1, pr_i_m1]
                                  refine pr_cvT [_, _] rfl rfl rfl rfl rfl (Nat.le_of_ble_eq_true rfl) (by first | assumption | (simp only [r9, r0, r1, r2, r3, s1, s2, q0, q1, rc, q3, q4, q5, q6, q7, q8, e3, e4, y1, y1', o3, o3', u1, u1', pr_8_m2, pr_8_m3, pr_i_1, pr_i_m1]; first | assumption | decide | exact ⟨by assumption, by assumption⟩ | exact ⟨Or.inl (by assumption), by assumption⟩ | omega) | decide | exact ⟨Or.inl (by assumption), by assumption⟩ | exact ⟨by assumption, by assumption⟩ | omega) (Nat.le_of_ble_eq_true rfl) (hjn) ?_
                                  refine pr_ifT rfl (fun h86 => ?_) (fun h86 => ?_)
                                  · simp only [ab_cmp, pr_8_m2, pr_8_m3, pr_i_1, pr_i_m1] at h86
                                    first
                                    | contradiction
                                    | exact absurd trivial h86
                                    | exact absurd h86 (by decide)
                                    | exact absurd (Classical.not_not.mp h86) (by decide)
                                    | skip
                                      refine pr_seqT (pc' := 100) 4 rfl ⟨⟨⟨⟨trivial, (by first | assumption | (simp only [r9, r0, r1, r2, r3, s1, s2, q0, q1, rc, q3, q4, q5, q6, q7, q8, e3, e4, y1, y1', o3, o3', u1, u1', pr_8_m2, pr_8_m3, pr_i_1, pr_i_m1]; first | assumption | decide | exact ⟨by assumption, by assumption⟩ | exact ⟨Or.inl (by assumption), by assumption⟩ | omega) | decide | exact ⟨Or.inl (by assumption), by assumption⟩ | exact ⟨by assumption, by assumption⟩ | omega)⟩, (by first | assumption | (simp only [r9, r0, r1, r2, r3, s1, s2, q0, q1, rc, q3, q4, q5, q6, q7, q8, e3, e4, y1, y1', o3, o3', u1, u1', pr_8_m2, pr_8_m3, pr_i_1, pr_i_m1]; first | assumption | decide | exact ⟨by assumption, by assumption⟩ | exact ⟨Or.inl (by assumption), by assumption⟩ | omega) | decide | exact ⟨Or.inl (by assumption), by assumption⟩ | exact ⟨by assumption, by assumption⟩ | omega)⟩, (by first | assumption | (simp only [r9, r0, r1, r2, r3, s1, s2, q0, q1, rc, q3, q4, q5, q6, q7, q8, e3, e4, y1, y1', o3, o3', u1, u1', pr_8_m2, pr_8_m3, pr_i_1, pr_i_m1]; first | assumption | decide | exact ⟨by assumption, by assumption⟩ | exact ⟨Or.inl (by assumption), by assumption⟩ | omega) | decide | exact ⟨Or.inl (by assumption), by assumption⟩ | exact ⟨by assumption, by assumption⟩ | omega)⟩, (by first | assumption | (simp only [r9, r0, r1, r2, r3, s1, s2, q0, q1, rc, q3, q4, q5, q6, q7, q8, e3, e4, y1, y1', o3, o3', u1, u1', pr_8_m2, pr_8_m3, pr_i_1, pr_i_m1]; first | assumption | decide | exact ⟨by assumption, by assumption⟩ | exact ⟨Or.inl (by assumption), by assumption⟩ | omega) | decide | exact ⟨Or.inl (by assumption), by assumption⟩ | exact ⟨by assumption, by assumption⟩ | omega)⟩ ?_
                                      try simp only [r9, r0, r1, r2, r3, s1, s2, q0, q1, rc, q3, q4, q5, q6, q7, q8, e3, e4, y1, y1', o3, o3', u1, u1', pr_8_m2, pr_8_m3, pr_i_1, pr_i_m1]
                                      fail "no call@100 yX2_copy"
                                  · simp only [ab_cmp, pr_8_m2, pr_8_m3, pr_i_1, pr_i_m1] at h86
                                    first
                                    | contradiction
                                    | exact absurd trivial h86
                                    | exact absurd h86 (by decide)
                                    | exact absurd (Classical.not_not.mp h86) (by decide)
                                    | skip
                                      refine pr_seqT (pc' := 91) 1 rfl ⟨trivial, trivial⟩ ?_
                                      try simp only [r9, r0, r1, r2, r3, s1, s2, q0, q1, rc, q3, q4, q5, q6, q7, q8, e3, e4, y1, y1', o3, o3', u1, u1', pr_8_m2, pr_8_m3, pr_i_1, pr_i_m1]
                                      exact pr_irT rfl trivial (by exact cp_s hl hv)
                              · simp only [ab_cmp, pr_8_m2, pr_8_m3, pr_i_1, pr_i_m1] at h64
                                first
                                | contradiction
                                | exact absurd trivial h64
                                | exact absurd h64 (by decide)
                                | exact absurd (Classical.not_not.mp h64) (by decide)
                                | skip
                                  refine pr_seqT (pc' := 69) 1 rfl ⟨trivial, trivial⟩ ?_
                                  try simp only [r9, r0, r1, r2, r3, s1, s2, q0, q1, rc, q3, q4, q5, q6, q7, q8, e3, e4, y1, y1', o3, o3', u1, u1', pr_8_m2, pr_8_m3, pr_i_1, pr_i_m1]
                                  exact pr_irT rfl trivial (by first | rfl | (simp only [r9, r0, r1, r2, r3, s1, s2, q0, q1, rc, q3, q4, q5, q6, q7, q8, e3, e4, y1, y1', o3, o3', u1, u1', pr_8_m2, pr_8_m3, pr_i_1, pr_i_m1]; done) | (simp [pr_b, pr_8_m2, pr_8_m3, pr_i_1, pr_i_m1, *]; done) | (simp_all [pr_b, pr_8_m2, pr_8_m3, pr_i_1, pr_i_m1]; done))
                      · simp only [ab_cmp, pr_8_m2, pr_8_m3, pr_i_1, pr_i_m1] at h18
                        first
                        | contradiction
                        | exact absurd trivial h18
                        | exact absurd h18 (by decide)
                        | exact absurd (Classical.not_not.mp h18) (by decide)
                        | skip
                          refine pr_seqT (pc' := 22) 1 rfl ⟨trivial, trivial⟩ ?_
                          try simp only [r9, r0, r1, r2, r3, s1, s2, q0, q1, rc, q3, q4, q5, q6, q7, q8, e3, e4, y1, y1', o3, o3', u1, u1', pr_8_m2, pr_8_m3, pr_i_1, pr_i_m1]
                          exact pr_irT rfl trivial (by first | rfl | (simp only [r9, r0, r1, r2, r3, s1, s2, q0, q1, rc, q3, q4, q5, q6, q7, q8, e3, e4, y1, y1', o3, o3', u1, u1', pr_8_m2, pr_8_m3, pr_i_1, pr_i_m1]; done) | (simp [pr_b, pr_8_m2, pr_8_m3, pr_i_1, pr_i_m1, *]; done) | (simp_all [pr_b, pr_8_m2, pr_8_m3, pr_i_1, pr_i_m1]; done))
theorem c_imagesKept {b : Bool} {X : St} (h : ab_H) (M : ab_M) (hl : Lay h M.2.2 b) (hv : cl_v M.1 b X) : pr_C pX10_imagesKept [.ref 1] h M (some (.int (pr_b (X.2.1 0).isSome + pr_b (X.2.1 1).isSome))) h M := by
  obtain ⟨k1, q0, q1, rc, q3, q4, q5, q6, q7, q8, r9⟩ := id hl.1
  obtain ⟨⟨ia, ib⟩, ⟨ic, id'⟩, hi⟩ := hl.2.2.1
  have b0 := im_b (hv.2.1 0 (by decide))
  have b1 := im_b (hv.2.1 1 (by decide))
  have e0 : (Int32.toNatClampNeg 0) = 0 := rfl
  have e1 : (Int32.toNatClampNeg 1) = 1 := rfl
  have v0 : (ab_k h 65 = 21 ∨ ab_k h 65 = 22) ∧ vp_in 0 (ab_n h 65) := ⟨Or.inr ic, by rw [id']; exact vp_in_nI (n := 0) (by omega) (by decide)⟩
  have v1 : (ab_k h 65 = 21 ∨ ab_k h 65 = 22) ∧ vp_in 1 (ab_n h 65) := ⟨Or.inr ic, by rw [id']; exact vp_in_nI (n := 1) (by omega) (by decide)⟩
  have l2 : ∀ z : Int32, pr_E pX10_imagesKept 4 [some (.ref 1), some (.int z), some (.int 2)] [] h M (some (.int z)) h M := by
    intro z
    refine pr_seq (pc' := 6) 2 rfl ⟨⟨trivial, trivial⟩, trivial⟩ ?_
    try simp only [q7, pr_i_0, pr_i_1, pr_i_2]
    refine pr_ic rfl (fun h6 => ?_) (fun h6 => ?_)
    · simp only [ab_cmp, pr_i_0, pr_i_1, pr_i_2] at h6
      first
      | contradiction
      | exact absurd trivial h6
      | exact absurd h6 (by decide)
      | exact absurd (Classical.not_not.mp h6) (by decide)
      | skip
        refine pr_seq (pc' := 33) 1 rfl ⟨trivial, trivial⟩ ?_
        try simp only [q7, pr_i_0, pr_i_1, pr_i_2]
        exact pr_irM rfl (by first | rfl | (simp only [q7, pr_i_0, pr_i_1, pr_i_2]; done) | (simp [pr_b, pr_i_0, pr_i_1, pr_i_2, *]; done) | (simp_all [pr_b, pr_i_0, pr_i_1, pr_i_2]; done)) trivial (by rfl)
    · simp only [ab_cmp, pr_i_0, pr_i_1, pr_i_2] at h6
      first
      | contradiction
      | exact absurd trivial h6
      | exact absurd h6 (by decide)
      | exact absurd (Classical.not_not.mp h6) (by decide)
      | skip
        refine pr_seq (pc' := 16) 5 rfl ⟨⟨⟨⟨⟨trivial, trivial⟩, (by first | assumption | (simp only [q7, pr_i_0, pr_i_1, pr_i_2]; first | assumption | decide | exact ⟨by assumption, by assumption⟩ | exact ⟨Or.inl (by assumption), by assumption⟩ | omega) | decide | exact ⟨Or.inl (by assumption), by assumption⟩ | exact ⟨by assumption, by assumption⟩ | omega)⟩, (by first | assumption | (simp only [q7, pr_i_0, pr_i_1, pr_i_2]; first | assumption | decide | exact ⟨by assumption, by assumption⟩ | exact ⟨Or.inl (by assumption), by assumption⟩ | omega) | decide | exact ⟨Or.inl (by assumption), by assumption⟩ | exact ⟨by assumption, by assumption⟩ | omega)⟩, trivial⟩, (by first | assumption | (simp only [q7, pr_i_0, pr_i_1, pr_i_2]; first | assumption | decide | exact ⟨by assumption, by assumption⟩ | exact ⟨Or.inl (by assumption), by assumption⟩ | omega) | decide | exact ⟨Or.inl (by assumption), by assumption⟩ | exact ⟨by assumption, by assumption⟩ | omega)⟩ ?_
        try simp only [q7, pr_i_0, pr_i_1, pr_i_2]
        refine pr_if rfl (fun h16 => ?_) (fun h16 => ?_)
        · simp only [ab_cmp, pr_i_0, pr_i_1, pr_i_2] at h16
          first
          | contradiction
          | exact absurd trivial h16
          | exact absurd h16 (by decide)
          | exact absurd (Classical.not_not.mp h16) (by decide)
          | skip
            refine pr_seq (pc' := 6) 7 rfl ⟨⟨⟨⟨⟨⟨⟨trivial, trivial⟩, trivial⟩, trivial⟩, trivial⟩, trivial⟩, trivial⟩, trivial⟩ ?_
            try simp only [q7, pr_i_0, pr_i_1, pr_i_2]
            fail "loop at 6"
        · simp only [ab_cmp, pr_i_0, pr_i_1, pr_i_2] at h16
          first
          | contradiction
          | exact absurd trivial h16
          | exact absurd h16 (by decide)
          | exact absurd (Classical.not_not.mp h16) (by decide)
          | skip
            refine pr_seq (pc' := 6) 8 rfl ⟨⟨⟨⟨⟨⟨⟨⟨trivial, trivial⟩, trivial⟩, trivial⟩, trivial⟩, trivial⟩, trivial⟩, trivial⟩, trivial⟩ ?_
            try simp only [q7, pr_i_0, pr_i_1, pr_i_2]
            fail "loop at 6"
  have l1 : ∀ z : Int32, pr_E pX10_imagesKept 4 [some (.ref 1), some (.int z), some (.int 1)] [] h M (some (.int (z + pr_b (X.2.1 1).isSome))) h M := by
    intro z
    cases hs : (X.2.1 1).isSome with
    | false =>
      rw [hs] at b1
      refine pr_seq (pc' := 6) 2 rfl ⟨⟨trivial, trivial⟩, trivial⟩ ?_
      try simp only [q7, e1, b1, pr_i_0, pr_i_1, pr_i_2]
      refine pr_ic rfl (fun h6 => ?_) (fun h6 => ?_)
      · simp only [ab_cmp, pr_i_0, pr_i_1, pr_i_2] at h6
        first
        | contradiction
        | exact absurd trivial h6
        | exact absurd h6 (by decide)
        | exact absurd (Classical.not_not.mp h6) (by decide)
        | skip
          refine pr_seq (pc' := 33) 1 rfl ⟨trivial, trivial⟩ ?_
          try simp only [q7, e1, b1, pr_i_0, pr_i_1, pr_i_2]
          exact pr_irM rfl (by first | rfl | (simp only [q7, e1, b1, pr_i_0, pr_i_1, pr_i_2]; done) | (simp [pr_b, pr_i_0, pr_i_1, pr_i_2, *]; done) | (simp_all [pr_b, pr_i_0, pr_i_1, pr_i_2]; done)) trivial (by rfl)
      · simp only [ab_cmp, pr_i_0, pr_i_1, pr_i_2] at h6
        first
        | contradiction
        | exact absurd trivial h6
        | exact absurd h6 (by decide)
        | exact absurd (Classical.not_not.mp h6) (by decide)
        | skip
          refine pr_seq (pc' := 16) 5 rfl ⟨⟨⟨⟨⟨trivial, trivial⟩, (by first | assumption | (simp only [q7, e1, b1, pr_i_0, pr_i_1, pr_i_2]; first | assumption | decide | exact ⟨by assumption, by assumption⟩ | exact ⟨Or.inl (by assumption), by assumption⟩ | omega) | decide | exact ⟨Or.inl (by assumption), by assumption⟩ | exact ⟨by assumption, by assumption⟩ | omega)⟩, (by first | assumption | (simp only [q7, e1, b1, pr_i_0, pr_i_1, pr_i_2]; first | assumption | decide | exact ⟨by assumption, by assumption⟩ | exact ⟨Or.inl (by assumption), by assumption⟩ | omega) | decide | exact ⟨Or.inl (by assumption), by assumption⟩ | exact ⟨by assumption, by assumption⟩ | omega)⟩, trivial⟩, (by first | assumption | (simp only [q7, e1, b1, pr_i_0, pr_i_1, pr_i_2]; first | assumption | decide | exact ⟨by assumption, by assumption⟩ | exact ⟨Or.inl (by assumption), by assumption⟩ | omega) | decide | exact ⟨Or.inl (by assumption), by assumption⟩ | exact ⟨by assumption, by assumption⟩ | omega)⟩ ?_
          try simp only [q7, e1, b1, pr_i_0, pr_i_1, pr_i_2]
          refine pr_if rfl (fun h16 => ?_) (fun h16 => ?_)
          · simp only [ab_cmp, pr_i_0, pr_i_1, pr_i_2] at h16
            first
            | contradiction
            | exact absurd trivial h16
            | exact absurd h16 (by decide)
            | exact absurd (Classical.not_not.mp h16) (by decide)
            | skip
              refine pr_seq (pc' := 4) 5 rfl ⟨⟨⟨⟨⟨trivial, trivial⟩, trivial⟩, trivial⟩, trivial⟩, trivial⟩ ?_
              try simp only [q7, e1, b1, pr_i_0, pr_i_1, pr_i_2]
              exact l2 _
          · simp only [ab_cmp, pr_i_0, pr_i_1, pr_i_2] at h16
            first
            | contradiction
            | exact absurd trivial h16
            | exact absurd h16 (by decide)
            | exact absurd (Classical.not_not.mp h16) (by decide)
            | skip
              refine pr_seq (pc' := 4) 6 rfl ⟨⟨⟨⟨⟨⟨trivial, trivial⟩, trivial⟩, trivial⟩, trivial⟩, trivial⟩, trivial⟩ ?_
              try simp only [q7, e1, b1, pr_i_0, pr_i_1, pr_i_2]
              exact l2 _
    | true =>
      rw [hs] at b1
      refine pr_seq (pc' := 6) 2 rfl ⟨⟨trivial, trivial⟩, trivial⟩ ?_
      try simp only [q7, e1, b1, pr_i_0, pr_i_1, pr_i_2]
      refine pr_ic rfl (fun h6 => ?_) (fun h6 => ?_)
      · simp only [ab_cmp, pr_i_0, pr_i_1, pr_i_2] at h6
        first
        | contradiction
        | exact absurd trivial h6
        | exact absurd h6 (by decide)
        | exact absurd (Classical.not_not.mp h6) (by decide)
        | skip
          refine pr_seq (pc' := 33) 1 rfl ⟨trivial, trivial⟩ ?_
          try simp only [q7, e1, b1, pr_i_0, pr_i_1, pr_i_2]
          exact pr_irM rfl (by first | rfl | (simp only [q7, e1, b1, pr_i_0, pr_i_1, pr_i_2]; done) | (simp [pr_b, pr_i_0, pr_i_1, pr_i_2, *]; done) | (simp_all [pr_b, pr_i_0, pr_i_1, pr_i_2]; done)) trivial (by rfl)
      · simp only [ab_cmp, pr_i_0, pr_i_1, pr_i_2] at h6
        first
        | contradiction
        | exact absurd trivial h6
        | exact absurd h6 (by decide)
        | exact absurd (Classical.not_not.mp h6) (by decide)
        | skip
          refine pr_seq (pc' := 16) 5 rfl ⟨⟨⟨⟨⟨trivial, trivial⟩, (by first | assumption | (simp only [q7, e1, b1, pr_i_0, pr_i_1, pr_i_2]; first | assumption | decide | exact ⟨by assumption, by assumption⟩ | exact ⟨Or.inl (by assumption), by assumption⟩ | omega) | decide | exact ⟨Or.inl (by assumption), by assumption⟩ | exact ⟨by assumption, by assumption⟩ | omega)⟩, (by first | assumption | (simp only [q7, e1, b1, pr_i_0, pr_i_1, pr_i_2]; first | assumption | decide | exact ⟨by assumption, by assumption⟩ | exact ⟨Or.inl (by assumption), by assumption⟩ | omega) | decide | exact ⟨Or.inl (by assumption), by assumption⟩ | exact ⟨by assumption, by assumption⟩ | omega)⟩, trivial⟩, (by first | assumption | (simp only [q7, e1, b1, pr_i_0, pr_i_1, pr_i_2]; first | assumption | decide | exact ⟨by assumption, by assumption⟩ | exact ⟨Or.inl (by assumption), by assumption⟩ | omega) | decide | exact ⟨Or.inl (by assumption), by assumption⟩ | exact ⟨by assumption, by assumption⟩ | omega)⟩ ?_
          try simp only [q7, e1, b1, pr_i_0, pr_i_1, pr_i_2]
          refine pr_if rfl (fun h16 => ?_) (fun h16 => ?_)
          · simp only [ab_cmp, pr_i_0, pr_i_1, pr_i_2] at h16
            first
            | contradiction
            | exact absurd trivial h16
            | exact absurd h16 (by decide)
            | exact absurd (Classical.not_not.mp h16) (by decide)
            | skip
              refine pr_seq (pc' := 4) 5 rfl ⟨⟨⟨⟨⟨trivial, trivial⟩, trivial⟩, trivial⟩, trivial⟩, trivial⟩ ?_
              try simp only [q7, e1, b1, pr_i_0, pr_i_1, pr_i_2]
              exact l2 _
          · simp only [ab_cmp, pr_i_0, pr_i_1, pr_i_2] at h16
            first
            | contradiction
            | exact absurd trivial h16
            | exact absurd h16 (by decide)
            | exact absurd (Classical.not_not.mp h16) (by decide)
            | skip
              refine pr_seq (pc' := 4) 6 rfl ⟨⟨⟨⟨⟨⟨trivial, trivial⟩, trivial⟩, trivial⟩, trivial⟩, trivial⟩, trivial⟩ ?_
              try simp only [q7, e1, b1, pr_i_0, pr_i_1, pr_i_2]
              exact l2 _
  cases hs : (X.2.1 0).isSome with
  | false =>
    rw [hs] at b0
    have l0 : pr_E pX10_imagesKept 4 [some (.ref 1), some (.int 0), some (.int 0)] [] h M (some (.int (pr_b false + pr_b (X.2.1 1).isSome))) h M := by
      refine pr_seq (pc' := 6) 2 rfl ⟨⟨trivial, trivial⟩, trivial⟩ ?_
      try simp only [q7, e0, b0, pr_i_0, pr_i_1, pr_i_2]
      refine pr_ic rfl (fun h6 => ?_) (fun h6 => ?_)
      · simp only [ab_cmp, pr_i_0, pr_i_1, pr_i_2] at h6
        first
        | contradiction
        | exact absurd trivial h6
        | exact absurd h6 (by decide)
        | exact absurd (Classical.not_not.mp h6) (by decide)
        | skip
          refine pr_seq (pc' := 33) 1 rfl ⟨trivial, trivial⟩ ?_
          try simp only [q7, e0, b0, pr_i_0, pr_i_1, pr_i_2]
          exact pr_irM rfl (by first | rfl | (simp only [q7, e0, b0, pr_i_0, pr_i_1, pr_i_2]; done) | (simp [pr_b, pr_i_0, pr_i_1, pr_i_2, *]; done) | (simp_all [pr_b, pr_i_0, pr_i_1, pr_i_2]; done)) trivial (by rfl)
      · simp only [ab_cmp, pr_i_0, pr_i_1, pr_i_2] at h6
        first
        | contradiction
        | exact absurd trivial h6
        | exact absurd h6 (by decide)
        | exact absurd (Classical.not_not.mp h6) (by decide)
        | skip
          refine pr_seq (pc' := 16) 5 rfl ⟨⟨⟨⟨⟨trivial, trivial⟩, (by first | assumption | (simp only [q7, e0, b0, pr_i_0, pr_i_1, pr_i_2]; first | assumption | decide | exact ⟨by assumption, by assumption⟩ | exact ⟨Or.inl (by assumption), by assumption⟩ | omega) | decide | exact ⟨Or.inl (by assumption), by assumption⟩ | exact ⟨by assumption, by assumption⟩ | omega)⟩, (by first | assumption | (simp only [q7, e0, b0, pr_i_0, pr_i_1, pr_i_2]; first | assumption | decide | exact ⟨by assumption, by assumption⟩ | exact ⟨Or.inl (by assumption), by assumption⟩ | omega) | decide | exact ⟨Or.inl (by assumption), by assumption⟩ | exact ⟨by assumption, by assumption⟩ | omega)⟩, trivial⟩, (by first | assumption | (simp only [q7, e0, b0, pr_i_0, pr_i_1, pr_i_2]; first | assumption | decide | exact ⟨by assumption, by assumption⟩ | exact ⟨Or.inl (by assumption), by assumption⟩ | omega) | decide | exact ⟨Or.inl (by assumption), by assumption⟩ | exact ⟨by assumption, by assumption⟩ | omega)⟩ ?_
          try simp only [q7, e0, b0, pr_i_0, pr_i_1, pr_i_2]
          refine pr_if rfl (fun h16 => ?_) (fun h16 => ?_)
          · simp only [ab_cmp, pr_i_0, pr_i_1, pr_i_2] at h16
            first
            | contradiction
            | exact absurd trivial h16
            | exact absurd h16 (by decide)
            | exact absurd (Classical.not_not.mp h16) (by decide)
            | skip
              refine pr_seq (pc' := 4) 5 rfl ⟨⟨⟨⟨⟨trivial, trivial⟩, trivial⟩, trivial⟩, trivial⟩, trivial⟩ ?_
              try simp only [q7, e0, b0, pr_i_0, pr_i_1, pr_i_2]
              exact l1 0
          · simp only [ab_cmp, pr_i_0, pr_i_1, pr_i_2] at h16
            first
            | contradiction
            | exact absurd trivial h16
            | exact absurd h16 (by decide)
            | exact absurd (Classical.not_not.mp h16) (by decide)
            | skip
              refine pr_seq (pc' := 4) 6 rfl ⟨⟨⟨⟨⟨⟨trivial, trivial⟩, trivial⟩, trivial⟩, trivial⟩, trivial⟩, trivial⟩ ?_
              try simp only [q7, e0, b0, pr_i_0, pr_i_1, pr_i_2]
              exact l1 0
    refine pr_seq (pc' := 4) 4 rfl ⟨⟨⟨⟨trivial, trivial⟩, trivial⟩, trivial⟩, trivial⟩ ?_
    try simp only [q7, e0, pr_i_0, pr_i_1, pr_i_2]
    exact l0
  | true =>
    rw [hs] at b0
    have l0 : pr_E pX10_imagesKept 4 [some (.ref 1), some (.int 0), some (.int 0)] [] h M (some (.int (pr_b true + pr_b (X.2.1 1).isSome))) h M := by
      refine pr_seq (pc' := 6) 2 rfl ⟨⟨trivial, trivial⟩, trivial⟩ ?_
      try simp only [q7, e0, b0, pr_i_0, pr_i_1, pr_i_2]
      refine pr_ic rfl (fun h6 => ?_) (fun h6 => ?_)
      · simp only [ab_cmp, pr_i_0, pr_i_1, pr_i_2] at h6
        first
        | contradiction
        | exact absurd trivial h6
        | exact absurd h6 (by decide)
        | exact absurd (Classical.not_not.mp h6) (by decide)
        | skip
          refine pr_seq (pc' := 33) 1 rfl ⟨trivial, trivial⟩ ?_
          try simp only [q7, e0, b0, pr_i_0, pr_i_1, pr_i_2]
          exact pr_irM rfl (by first | rfl | (simp only [q7, e0, b0, pr_i_0, pr_i_1, pr_i_2]; done) | (simp [pr_b, pr_i_0, pr_i_1, pr_i_2, *]; done) | (simp_all [pr_b, pr_i_0, pr_i_1, pr_i_2]; done)) trivial (by rfl)
      · simp only [ab_cmp, pr_i_0, pr_i_1, pr_i_2] at h6
        first
        | contradiction
        | exact absurd trivial h6
        | exact absurd h6 (by decide)
        | exact absurd (Classical.not_not.mp h6) (by decide)
        | skip
          refine pr_seq (pc' := 16) 5 rfl ⟨⟨⟨⟨⟨trivial, trivial⟩, (by first | assumption | (simp only [q7, e0, b0, pr_i_0, pr_i_1, pr_i_2]; first | assumption | decide | exact ⟨by assumption, by assumption⟩ | exact ⟨Or.inl (by assumption), by assumption⟩ | omega) | decide | exact ⟨Or.inl (by assumption), by assumption⟩ | exact ⟨by assumption, by assumption⟩ | omega)⟩, (by first | assumption | (simp only [q7, e0, b0, pr_i_0, pr_i_1, pr_i_2]; first | assumption | decide | exact ⟨by assumption, by assumption⟩ | exact ⟨Or.inl (by assumption), by assumption⟩ | omega) | decide | exact ⟨Or.inl (by assumption), by assumption⟩ | exact ⟨by assumption, by assumption⟩ | omega)⟩, trivial⟩, (by first | assumption | (simp only [q7, e0, b0, pr_i_0, pr_i_1, pr_i_2]; first | assumption | decide | exact ⟨by assumption, by assumption⟩ | exact ⟨Or.inl (by assumption), by assumption⟩ | omega) | decide | exact ⟨Or.inl (by assumption), by assumption⟩ | exact ⟨by assumption, by assumption⟩ | omega)⟩ ?_
          try simp only [q7, e0, b0, pr_i_0, pr_i_1, pr_i_2]
          refine pr_if rfl (fun h16 => ?_) (fun h16 => ?_)
          · simp only [ab_cmp, pr_i_0, pr_i_1, pr_i_2] at h16
            first
            | contradiction
            | exact absurd trivial h16
            | exact absurd h16 (by decide)
            | exact absurd (Classical.not_not.mp h16) (by decide)
            | skip
              refine pr_seq (pc' := 4) 5 rfl ⟨⟨⟨⟨⟨trivial, trivial⟩, trivial⟩, trivial⟩, trivial⟩, trivial⟩ ?_
              try simp only [q7, e0, b0, pr_i_0, pr_i_1, pr_i_2]
              exact l1 1
          · simp only [ab_cmp, pr_i_0, pr_i_1, pr_i_2] at h16
            first
            | contradiction
            | exact absurd trivial h16
            | exact absurd h16 (by decide)
            | exact absurd (Classical.not_not.mp h16) (by decide)
            | skip
              refine pr_seq (pc' := 4) 6 rfl ⟨⟨⟨⟨⟨⟨trivial, trivial⟩, trivial⟩, trivial⟩, trivial⟩, trivial⟩, trivial⟩ ?_
              try simp only [q7, e0, b0, pr_i_0, pr_i_1, pr_i_2]
              exact l1 1
    refine pr_seq (pc' := 4) 4 rfl ⟨⟨⟨⟨trivial, trivial⟩, trivial⟩, trivial⟩, trivial⟩ ?_
    try simp only [q7, e0, pr_i_0, pr_i_1, pr_i_2]
    exact l0
theorem c_forgetImages {b : Bool} (h : ab_H) (M : ab_M) (hl : Lay h M.2.2 b) : pr_C pX10_forgetImages [.ref 1] h M none h (ab_u (ab_u M.1 65 0 0) 65 1 0, M.2) := by
  obtain ⟨k1, q0, q1, rc, q3, q4, q5, q6, q7, q8, r9⟩ := id hl.1
  obtain ⟨⟨ia, ib⟩, ⟨ic, id'⟩, hi⟩ := hl.2.2.1
  have e0 : (Int32.toNatClampNeg 0) = 0 := rfl
  have e1 : (Int32.toNatClampNeg 1) = 1 := rfl
  have v0 : (ab_k h 65 = 21 ∨ ab_k h 65 = 22 ∧ ((0 : Int32) = 0 ∨ (0 : Int32) = 1)) ∧ vp_in 0 (ab_n h 65) := ⟨Or.inr ⟨ic, Or.inl rfl⟩, by rw [id']; exact vp_in_nI (n := 0) (by omega) (by decide)⟩
  have v1 : (ab_k h 65 = 21 ∨ ab_k h 65 = 22 ∧ ((0 : Int32) = 0 ∨ (0 : Int32) = 1)) ∧ vp_in 1 (ab_n h 65) := ⟨Or.inr ⟨ic, Or.inl rfl⟩, by rw [id']; exact vp_in_nI (n := 1) (by omega) (by decide)⟩
  have l2 : ∀ I, pr_E pX10_forgetImages 2 [some (.ref 1), some (.int 2)] [] h (I, M.2) none h (I, M.2) := by
    intro I
    refine pr_seq (pc' := 4) 2 rfl ⟨⟨trivial, trivial⟩, trivial⟩ ?_
    try simp only [q7, pr_i_0, pr_i_1, pr_i_2]
    refine pr_ic rfl (fun h4 => ?_) (fun h4 => ?_)
    · simp only [ab_cmp, pr_i_0, pr_i_1, pr_i_2] at h4
      first
      | contradiction
      | exact absurd trivial h4
      | exact absurd h4 (by decide)
      | exact absurd (Classical.not_not.mp h4) (by decide)
      | skip
        exact pr_vrM rfl rfl rfl (by rfl)
    · simp only [ab_cmp, pr_i_0, pr_i_1, pr_i_2] at h4
      first
      | contradiction
      | exact absurd trivial h4
      | exact absurd h4 (by decide)
      | exact absurd (Classical.not_not.mp h4) (by decide)
      | skip
        refine pr_seq (pc' := 4) 9 rfl ⟨⟨⟨⟨⟨⟨⟨⟨⟨trivial, (by first | assumption | (simp only [q7, pr_i_0, pr_i_1, pr_i_2]; first | assumption | decide | exact ⟨by assumption, by assumption⟩ | exact ⟨Or.inl (by assumption), by assumption⟩ | omega) | decide | exact ⟨Or.inl (by assumption), by assumption⟩ | exact ⟨by assumption, by assumption⟩ | omega)⟩, (by first | assumption | (simp only [q7, pr_i_0, pr_i_1, pr_i_2]; first | assumption | decide | exact ⟨by assumption, by assumption⟩ | exact ⟨Or.inl (by assumption), by assumption⟩ | omega) | decide | exact ⟨Or.inl (by assumption), by assumption⟩ | exact ⟨by assumption, by assumption⟩ | omega)⟩, trivial⟩, trivial⟩, (by first | assumption | (simp only [q7, pr_i_0, pr_i_1, pr_i_2]; first | assumption | decide | exact ⟨by assumption, by assumption⟩ | exact ⟨Or.inl (by assumption), by assumption⟩ | omega) | decide | exact ⟨Or.inl (by assumption), by assumption⟩ | exact ⟨by assumption, by assumption⟩ | omega)⟩, trivial⟩, trivial⟩, trivial⟩, trivial⟩ ?_
        try simp only [q7, pr_i_0, pr_i_1, pr_i_2]
        fail "loop at 4"
  have l1 : ∀ I, pr_E pX10_forgetImages 2 [some (.ref 1), some (.int 1)] [] h (I, M.2) none h (ab_u I 65 1 0, M.2) := by
    intro I
    refine pr_seq (pc' := 4) 2 rfl ⟨⟨trivial, trivial⟩, trivial⟩ ?_
    try simp only [q7, e1, pr_i_0, pr_i_1, pr_i_2]
    refine pr_ic rfl (fun h4 => ?_) (fun h4 => ?_)
    · simp only [ab_cmp, pr_i_0, pr_i_1, pr_i_2] at h4
      first
      | contradiction
      | exact absurd trivial h4
      | exact absurd h4 (by decide)
      | exact absurd (Classical.not_not.mp h4) (by decide)
      | skip
        exact pr_vrM rfl rfl rfl (by rfl)
    · simp only [ab_cmp, pr_i_0, pr_i_1, pr_i_2] at h4
      first
      | contradiction
      | exact absurd trivial h4
      | exact absurd h4 (by decide)
      | exact absurd (Classical.not_not.mp h4) (by decide)
      | skip
        refine pr_seq (pc' := 2) 7 rfl ⟨⟨⟨⟨⟨⟨⟨trivial, (by first | assumption | (simp only [q7, e1, pr_i_0, pr_i_1, pr_i_2]; first | assumption | decide | exact ⟨by assumption, by assumption⟩ | exact ⟨Or.inl (by assumption), by assumption⟩ | omega) | decide | exact ⟨Or.inl (by assumption), by assumption⟩ | exact ⟨by assumption, by assumption⟩ | omega)⟩, (by first | assumption | (simp only [q7, e1, pr_i_0, pr_i_1, pr_i_2]; first | assumption | decide | exact ⟨by assumption, by assumption⟩ | exact ⟨Or.inl (by assumption), by assumption⟩ | omega) | decide | exact ⟨Or.inl (by assumption), by assumption⟩ | exact ⟨by assumption, by assumption⟩ | omega)⟩, trivial⟩, trivial⟩, (by (show (ab_k h (M.2.2 1 7) = 21 ∨ ab_k h (M.2.2 1 7) = 22 ∧ ((0 : Int32) = 0 ∨ (0 : Int32) = 1)) ∧ vp_in 1 (ab_n h (M.2.2 1 7))); rw [q7]; exact v1)⟩, trivial⟩, trivial⟩ ?_
        try simp only [q7, e1, pr_i_0, pr_i_1, pr_i_2]
        exact l2 _
  have l0 : pr_E pX10_forgetImages 2 [some (.ref 1), some (.int 0)] [] h M none h (ab_u (ab_u M.1 65 0 0) 65 1 0, M.2) := by
    refine pr_seq (pc' := 4) 2 rfl ⟨⟨trivial, trivial⟩, trivial⟩ ?_
    try simp only [q7, e0, pr_i_0, pr_i_1, pr_i_2]
    refine pr_ic rfl (fun h4 => ?_) (fun h4 => ?_)
    · simp only [ab_cmp, pr_i_0, pr_i_1, pr_i_2] at h4
      first
      | contradiction
      | exact absurd trivial h4
      | exact absurd h4 (by decide)
      | exact absurd (Classical.not_not.mp h4) (by decide)
      | skip
        exact pr_vrM rfl rfl rfl (by rfl)
    · simp only [ab_cmp, pr_i_0, pr_i_1, pr_i_2] at h4
      first
      | contradiction
      | exact absurd trivial h4
      | exact absurd h4 (by decide)
      | exact absurd (Classical.not_not.mp h4) (by decide)
      | skip
        refine pr_seq (pc' := 2) 7 rfl ⟨⟨⟨⟨⟨⟨⟨trivial, (by first | assumption | (simp only [q7, e0, pr_i_0, pr_i_1, pr_i_2]; first | assumption | decide | exact ⟨by assumption, by assumption⟩ | exact ⟨Or.inl (by assumption), by assumption⟩ | omega) | decide | exact ⟨Or.inl (by assumption), by assumption⟩ | exact ⟨by assumption, by assumption⟩ | omega)⟩, (by first | assumption | (simp only [q7, e0, pr_i_0, pr_i_1, pr_i_2]; first | assumption | decide | exact ⟨by assumption, by assumption⟩ | exact ⟨Or.inl (by assumption), by assumption⟩ | omega) | decide | exact ⟨Or.inl (by assumption), by assumption⟩ | exact ⟨by assumption, by assumption⟩ | omega)⟩, trivial⟩, trivial⟩, (by (show (ab_k h (M.2.2 1 7) = 21 ∨ ab_k h (M.2.2 1 7) = 22 ∧ ((0 : Int32) = 0 ∨ (0 : Int32) = 1)) ∧ vp_in 0 (ab_n h (M.2.2 1 7))); rw [q7]; exact v0)⟩, trivial⟩, trivial⟩ ?_
        try simp only [q7, e0, pr_i_0, pr_i_1, pr_i_2]
        exact l1 _
  refine pr_seq (pc' := 2) 2 rfl ⟨⟨trivial, trivial⟩, trivial⟩ ?_
  try simp only [q7, pr_i_0, pr_i_1, pr_i_2]
  exact l0
theorem p_count {b : Bool} {X : St} (w : Int32) (h : ab_H) (M : ab_M) (hl : Lay h M.2.2 b) (hv : cl_v M.1 b X) : pr_X pX10_count [.ref 1, .int w] h M (cp h M (f_count X w, X)) := by
  obtain ⟨k1, q0, q1, rc, q3, q4, q5, q6, q7, q8, r9⟩ := id hl.1
  have ht := ly_told hl
  obtain ⟨t0, t1, r0, r1, r2, r3, hg, ⟨ka, kb⟩, ⟨kc, kd⟩, ⟨ke, kf⟩, hnm⟩ := id ht
  obtain ⟨g0, g1, s1, s2, m1, m2, ⟨m3, m4⟩, hon⟩ := id hg
  obtain ⟨hT, hIm, hSh, hTp, hFa, hTo⟩ := id hv
  obtain ⟨hd, v2, v3, v4, v5, v6, v7⟩ := id hT
  obtain ⟨d1, d2, d3, d4, d5, d6, d7, d8⟩ := id hd
  have b0 := tB_ne b
  have hc := hl.2.2.2.2.2.1
  have hb : 49 + 5 < tB b + 1 ∨ tB b + 1 + 27 ≤ 49 := by cases b <;> decide
  have hb2 : 63 < tB b ∧ tB b + 43 ≤ 110 ∨ 5 < tB b ∧ tB b + 43 ≤ 49 := by cases b <;> decide
  have c1 := hc.2.1
  unfold f_count
  have k2 := hl.2.2.2.2.1.1.1
  have n2 : (2 : Nat) ≠ 0 := by decide
  by_cases w0 : w = 0
  · subst w0
    refine pr_seqT (pc' := 1) 1 rfl ⟨trivial, trivial⟩ ?_
    try simp only [r9, r0, r1, r2, r3, s1, s2, q0, q1, rc, q3, q4, q5, q6, q7, q8, v4, pr_8_m4, pr_i_0, pr_i_m1]
    refine pr_tsIT (g := 40) rfl (by decide) rfl rfl ?_
    refine pr_seqT (pc' := 47) 3 rfl ⟨⟨⟨trivial, (by first | assumption | (simp only [r9, r0, r1, r2, r3, s1, s2, q0, q1, rc, q3, q4, q5, q6, q7, q8, v4, pr_8_m4, pr_i_0, pr_i_m1]; first | assumption | decide | exact ⟨by assumption, by assumption⟩ | exact ⟨Or.inl (by assumption), by assumption⟩ | omega) | decide | exact ⟨Or.inl (by assumption), by assumption⟩ | exact ⟨by assumption, by assumption⟩ | omega)⟩, (by first | assumption | (simp only [r9, r0, r1, r2, r3, s1, s2, q0, q1, rc, q3, q4, q5, q6, q7, q8, v4, pr_8_m4, pr_i_0, pr_i_m1]; first | assumption | decide | exact ⟨by assumption, by assumption⟩ | exact ⟨Or.inl (by assumption), by assumption⟩ | omega) | decide | exact ⟨Or.inl (by assumption), by assumption⟩ | exact ⟨by assumption, by assumption⟩ | omega)⟩, (by first | assumption | (simp only [r9, r0, r1, r2, r3, s1, s2, q0, q1, rc, q3, q4, q5, q6, q7, q8, v4, pr_8_m4, pr_i_0, pr_i_m1]; first | assumption | decide | exact ⟨by assumption, by assumption⟩ | exact ⟨Or.inl (by assumption), by assumption⟩ | omega) | decide | exact ⟨Or.inl (by assumption), by assumption⟩ | exact ⟨by assumption, by assumption⟩ | omega)⟩ ?_
    try simp only [r9, r0, r1, r2, r3, s1, s2, q0, q1, rc, q3, q4, q5, q6, q7, q8, v4, pr_8_m4, pr_i_0, pr_i_m1]
    exact pr_irT rfl trivial (by exact cp_s hl hv)
  · by_cases w1 : w = 1
    · subst w1
      refine pr_seqT (pc' := 1) 1 rfl ⟨trivial, trivial⟩ ?_
      try simp only [r9, r0, r1, r2, r3, s1, s2, q0, q1, rc, q3, q4, q5, q6, q7, q8, pr_8_m4, pr_i_0, pr_i_m1]
      refine pr_tsIT (g := 48) rfl (by decide) rfl rfl ?_
      refine pr_seqT (pc' := 49) 1 rfl ⟨trivial, (by first | assumption | (simp only [r9, r0, r1, r2, r3, s1, s2, q0, q1, rc, q3, q4, q5, q6, q7, q8, pr_8_m4, pr_i_0, pr_i_m1]; first | assumption | decide | exact ⟨by assumption, by assumption⟩ | exact ⟨Or.inl (by assumption), by assumption⟩ | omega) | decide | exact ⟨Or.inl (by assumption), by assumption⟩ | exact ⟨by assumption, by assumption⟩ | omega)⟩ ?_
      try simp only [r9, r0, r1, r2, r3, s1, s2, q0, q1, rc, q3, q4, q5, q6, q7, q8, pr_8_m4, pr_i_0, pr_i_m1]
      refine pr_cvT [] rfl rfl rfl rfl rfl (Nat.le_of_ble_eq_true rfl) (by first | assumption | (simp only [r9, r0, r1, r2, r3, s1, s2, q0, q1, rc, q3, q4, q5, q6, q7, q8, pr_8_m4, pr_i_0, pr_i_m1]; first | assumption | decide | exact ⟨by assumption, by assumption⟩ | exact ⟨Or.inl (by assumption), by assumption⟩ | omega) | decide | exact ⟨Or.inl (by assumption), by assumption⟩ | exact ⟨by assumption, by assumption⟩ | omega) (Nat.le_of_ble_eq_true rfl) (c_imagesKept h M hl hv) ?_
      exact pr_irT rfl trivial (by exact cp_s hl hv)
    · by_cases w2 : w = 2
      · subst w2
        have y1 := hTp.1
        refine pr_seqT (pc' := 1) 1 rfl ⟨trivial, trivial⟩ ?_
        try simp only [r9, r0, r1, r2, r3, s1, s2, q0, q1, rc, q3, q4, q5, q6, q7, q8, y1, pr_8_m4, pr_i_0, pr_i_m1]
        refine pr_tsIT (g := 53) rfl (by decide) rfl rfl ?_
        refine pr_seqT (pc' := 60) 3 rfl ⟨⟨⟨trivial, (by first | assumption | (simp only [r9, r0, r1, r2, r3, s1, s2, q0, q1, rc, q3, q4, q5, q6, q7, q8, y1, pr_8_m4, pr_i_0, pr_i_m1]; first | assumption | decide | exact ⟨by assumption, by assumption⟩ | exact ⟨Or.inl (by assumption), by assumption⟩ | omega) | decide | exact ⟨Or.inl (by assumption), by assumption⟩ | exact ⟨by assumption, by assumption⟩ | omega)⟩, (by first | assumption | (simp only [r9, r0, r1, r2, r3, s1, s2, q0, q1, rc, q3, q4, q5, q6, q7, q8, y1, pr_8_m4, pr_i_0, pr_i_m1]; first | assumption | decide | exact ⟨by assumption, by assumption⟩ | exact ⟨Or.inl (by assumption), by assumption⟩ | omega) | decide | exact ⟨Or.inl (by assumption), by assumption⟩ | exact ⟨by assumption, by assumption⟩ | omega)⟩, (by first | assumption | (simp only [r9, r0, r1, r2, r3, s1, s2, q0, q1, rc, q3, q4, q5, q6, q7, q8, y1, pr_8_m4, pr_i_0, pr_i_m1]; first | assumption | decide | exact ⟨by assumption, by assumption⟩ | exact ⟨Or.inl (by assumption), by assumption⟩ | omega) | decide | exact ⟨Or.inl (by assumption), by assumption⟩ | exact ⟨by assumption, by assumption⟩ | omega)⟩ ?_
        try simp only [r9, r0, r1, r2, r3, s1, s2, q0, q1, rc, q3, q4, q5, q6, q7, q8, y1, pr_8_m4, pr_i_0, pr_i_m1]
        exact pr_irT rfl trivial (by exact cp_s hl hv)
      · by_cases w3 : w = 3
        · subst w3
          obtain ⟨⟨sa, sb⟩, hs⟩ := hl.2.2.2.1
          obtain ⟨i1, i2⟩ := hs 0 (by omega)
          have si : ab_k h 164 = 8 := i2.2.1
          have i1 : M.2.2 66 0 = 164 := i1
          have e0 : (Int32.toNatClampNeg 0) = 0 := rfl
          have vi : (24 ≤ ab_k h 66 ∧ ab_k h 66 ≤ 27) ∧ vp_in 0 (ab_n h 66) := ⟨by rw [sa]; decide, by rw [sb]; exact vp_in_nI (n := 0) (by omega) (by decide)⟩
          have hsv := hSh 0 (by decide)
          cases hk' : X.2.2.1 0 with
          | none =>
            rw [hk'] at hsv
            have hsv : M.1 164 1 = 0 := hsv
            refine pr_seqT (pc' := 1) 1 rfl ⟨trivial, trivial⟩ ?_
            try simp only [r9, r0, r1, r2, r3, s1, s2, q0, q1, rc, q3, q4, q5, q6, q7, q8, e0, i1, hsv, pr_8_m4, pr_i_0, pr_i_m1]
            refine pr_tsIT (g := 61) rfl (by decide) rfl rfl ?_
            refine pr_seqT (pc' := 70) 5 rfl ⟨⟨⟨⟨⟨trivial, (by first | assumption | (simp only [r9, r0, r1, r2, r3, s1, s2, q0, q1, rc, q3, q4, q5, q6, q7, q8, e0, i1, hsv, pr_8_m4, pr_i_0, pr_i_m1]; first | assumption | decide | exact ⟨by assumption, by assumption⟩ | exact ⟨Or.inl (by assumption), by assumption⟩ | omega) | decide | exact ⟨Or.inl (by assumption), by assumption⟩ | exact ⟨by assumption, by assumption⟩ | omega)⟩, (by first | assumption | (simp only [r9, r0, r1, r2, r3, s1, s2, q0, q1, rc, q3, q4, q5, q6, q7, q8, e0, i1, hsv, pr_8_m4, pr_i_0, pr_i_m1]; first | assumption | decide | exact ⟨by assumption, by assumption⟩ | exact ⟨Or.inl (by assumption), by assumption⟩ | omega) | decide | exact ⟨Or.inl (by assumption), by assumption⟩ | exact ⟨by assumption, by assumption⟩ | omega)⟩, trivial⟩, (by first | assumption | (simp only [r9, r0, r1, r2, r3, s1, s2, q0, q1, rc, q3, q4, q5, q6, q7, q8, e0, i1, hsv, pr_8_m4, pr_i_0, pr_i_m1]; first | assumption | decide | exact ⟨by assumption, by assumption⟩ | exact ⟨Or.inl (by assumption), by assumption⟩ | omega) | decide | exact ⟨Or.inl (by assumption), by assumption⟩ | exact ⟨by assumption, by assumption⟩ | omega)⟩, (by first | assumption | (simp only [r9, r0, r1, r2, r3, s1, s2, q0, q1, rc, q3, q4, q5, q6, q7, q8, e0, i1, hsv, pr_8_m4, pr_i_0, pr_i_m1]; first | assumption | decide | exact ⟨by assumption, by assumption⟩ | exact ⟨Or.inl (by assumption), by assumption⟩ | omega) | decide | exact ⟨Or.inl (by assumption), by assumption⟩ | exact ⟨by assumption, by assumption⟩ | omega)⟩ ?_
            try simp only [r9, r0, r1, r2, r3, s1, s2, q0, q1, rc, q3, q4, q5, q6, q7, q8, e0, i1, hsv, pr_8_m4, pr_i_0, pr_i_m1]
            refine pr_ifT rfl (fun h70 => ?_) (fun h70 => ?_)
            · simp only [ab_cmp, pr_8_m4, pr_i_0, pr_i_m1] at h70
              first
              | contradiction
              | exact absurd trivial h70
              | exact absurd h70 (by decide)
              | exact absurd (Classical.not_not.mp h70) (by decide)
              | skip
                refine pr_seqT (pc' := 87) 1 rfl ⟨trivial, trivial⟩ ?_
                try simp only [r9, r0, r1, r2, r3, s1, s2, q0, q1, rc, q3, q4, q5, q6, q7, q8, e0, i1, hsv, pr_8_m4, pr_i_0, pr_i_m1]
                exact pr_irT rfl trivial (by exact cp_s hl hv)
            · simp only [ab_cmp, pr_8_m4, pr_i_0, pr_i_m1] at h70
              first
              | contradiction
              | exact absurd trivial h70
              | exact absurd h70 (by decide)
              | exact absurd (Classical.not_not.mp h70) (by decide)
              | skip
                refine pr_seqT (pc' := 87) 6 rfl ⟨⟨⟨⟨⟨⟨trivial, (by first | assumption | (simp only [r9, r0, r1, r2, r3, s1, s2, q0, q1, rc, q3, q4, q5, q6, q7, q8, e0, i1, hsv, pr_8_m4, pr_i_0, pr_i_m1]; first | assumption | decide | exact ⟨by assumption, by assumption⟩ | exact ⟨Or.inl (by assumption), by assumption⟩ | omega) | decide | exact ⟨Or.inl (by assumption), by assumption⟩ | exact ⟨by assumption, by assumption⟩ | omega)⟩, (by first | assumption | (simp only [r9, r0, r1, r2, r3, s1, s2, q0, q1, rc, q3, q4, q5, q6, q7, q8, e0, i1, hsv, pr_8_m4, pr_i_0, pr_i_m1]; first | assumption | decide | exact ⟨by assumption, by assumption⟩ | exact ⟨Or.inl (by assumption), by assumption⟩ | omega) | decide | exact ⟨Or.inl (by assumption), by assumption⟩ | exact ⟨by assumption, by assumption⟩ | omega)⟩, trivial⟩, (by first | assumption | (simp only [r9, r0, r1, r2, r3, s1, s2, q0, q1, rc, q3, q4, q5, q6, q7, q8, e0, i1, hsv, pr_8_m4, pr_i_0, pr_i_m1]; first | assumption | decide | exact ⟨by assumption, by assumption⟩ | exact ⟨Or.inl (by assumption), by assumption⟩ | omega) | decide | exact ⟨Or.inl (by assumption), by assumption⟩ | exact ⟨by assumption, by assumption⟩ | omega)⟩, (by first | assumption | (simp only [r9, r0, r1, r2, r3, s1, s2, q0, q1, rc, q3, q4, q5, q6, q7, q8, e0, i1, hsv, pr_8_m4, pr_i_0, pr_i_m1]; first | assumption | decide | exact ⟨by assumption, by assumption⟩ | exact ⟨Or.inl (by assumption), by assumption⟩ | omega) | decide | exact ⟨Or.inl (by assumption), by assumption⟩ | exact ⟨by assumption, by assumption⟩ | omega)⟩, trivial⟩ ?_
                try simp only [r9, r0, r1, r2, r3, s1, s2, q0, q1, rc, q3, q4, q5, q6, q7, q8, e0, i1, hsv, pr_8_m4, pr_i_0, pr_i_m1]
                exact pr_irT rfl trivial (by exact cp_s hl hv)
          | some w =>
            obtain ⟨ln, n, f⟩ := w
            rw [hk'] at hsv
            obtain ⟨w1, w2, w3, w4, w5, w6⟩ := hsv
            have w1 : M.1 164 1 = 1 := w1
            have w4 : M.1 164 3 = nI n := w4
            refine pr_seqT (pc' := 1) 1 rfl ⟨trivial, trivial⟩ ?_
            try simp only [r9, r0, r1, r2, r3, s1, s2, q0, q1, rc, q3, q4, q5, q6, q7, q8, e0, i1, w1, w4, pr_8_m4, pr_i_0, pr_i_m1]
            refine pr_tsIT (g := 61) rfl (by decide) rfl rfl ?_
            refine pr_seqT (pc' := 70) 5 rfl ⟨⟨⟨⟨⟨trivial, (by first | assumption | (simp only [r9, r0, r1, r2, r3, s1, s2, q0, q1, rc, q3, q4, q5, q6, q7, q8, e0, i1, w1, w4, pr_8_m4, pr_i_0, pr_i_m1]; first | assumption | decide | exact ⟨by assumption, by assumption⟩ | exact ⟨Or.inl (by assumption), by assumption⟩ | omega) | decide | exact ⟨Or.inl (by assumption), by assumption⟩ | exact ⟨by assumption, by assumption⟩ | omega)⟩, (by first | assumption | (simp only [r9, r0, r1, r2, r3, s1, s2, q0, q1, rc, q3, q4, q5, q6, q7, q8, e0, i1, w1, w4, pr_8_m4, pr_i_0, pr_i_m1]; first | assumption | decide | exact ⟨by assumption, by assumption⟩ | exact ⟨Or.inl (by assumption), by assumption⟩ | omega) | decide | exact ⟨Or.inl (by assumption), by assumption⟩ | exact ⟨by assumption, by assumption⟩ | omega)⟩, trivial⟩, (by first | assumption | (simp only [r9, r0, r1, r2, r3, s1, s2, q0, q1, rc, q3, q4, q5, q6, q7, q8, e0, i1, w1, w4, pr_8_m4, pr_i_0, pr_i_m1]; first | assumption | decide | exact ⟨by assumption, by assumption⟩ | exact ⟨Or.inl (by assumption), by assumption⟩ | omega) | decide | exact ⟨Or.inl (by assumption), by assumption⟩ | exact ⟨by assumption, by assumption⟩ | omega)⟩, (by first | assumption | (simp only [r9, r0, r1, r2, r3, s1, s2, q0, q1, rc, q3, q4, q5, q6, q7, q8, e0, i1, w1, w4, pr_8_m4, pr_i_0, pr_i_m1]; first | assumption | decide | exact ⟨by assumption, by assumption⟩ | exact ⟨Or.inl (by assumption), by assumption⟩ | omega) | decide | exact ⟨Or.inl (by assumption), by assumption⟩ | exact ⟨by assumption, by assumption⟩ | omega)⟩ ?_
            try simp only [r9, r0, r1, r2, r3, s1, s2, q0, q1, rc, q3, q4, q5, q6, q7, q8, e0, i1, w1, w4, pr_8_m4, pr_i_0, pr_i_m1]
            refine pr_ifT rfl (fun h70 => ?_) (fun h70 => ?_)
            · simp only [ab_cmp, pr_8_m4, pr_i_0, pr_i_m1] at h70
              first
              | contradiction
              | exact absurd trivial h70
              | exact absurd h70 (by decide)
              | exact absurd (Classical.not_not.mp h70) (by decide)
              | skip
                refine pr_seqT (pc' := 87) 1 rfl ⟨trivial, trivial⟩ ?_
                try simp only [r9, r0, r1, r2, r3, s1, s2, q0, q1, rc, q3, q4, q5, q6, q7, q8, e0, i1, w1, w4, pr_8_m4, pr_i_0, pr_i_m1]
                exact pr_irT rfl trivial (by exact cp_s hl hv)
            · simp only [ab_cmp, pr_8_m4, pr_i_0, pr_i_m1] at h70
              first
              | contradiction
              | exact absurd trivial h70
              | exact absurd h70 (by decide)
              | exact absurd (Classical.not_not.mp h70) (by decide)
              | skip
                refine pr_seqT (pc' := 87) 6 rfl ⟨⟨⟨⟨⟨⟨trivial, (by first | assumption | (simp only [r9, r0, r1, r2, r3, s1, s2, q0, q1, rc, q3, q4, q5, q6, q7, q8, e0, i1, w1, w4, pr_8_m4, pr_i_0, pr_i_m1]; first | assumption | decide | exact ⟨by assumption, by assumption⟩ | exact ⟨Or.inl (by assumption), by assumption⟩ | omega) | decide | exact ⟨Or.inl (by assumption), by assumption⟩ | exact ⟨by assumption, by assumption⟩ | omega)⟩, (by first | assumption | (simp only [r9, r0, r1, r2, r3, s1, s2, q0, q1, rc, q3, q4, q5, q6, q7, q8, e0, i1, w1, w4, pr_8_m4, pr_i_0, pr_i_m1]; first | assumption | decide | exact ⟨by assumption, by assumption⟩ | exact ⟨Or.inl (by assumption), by assumption⟩ | omega) | decide | exact ⟨Or.inl (by assumption), by assumption⟩ | exact ⟨by assumption, by assumption⟩ | omega)⟩, trivial⟩, (by first | assumption | (simp only [r9, r0, r1, r2, r3, s1, s2, q0, q1, rc, q3, q4, q5, q6, q7, q8, e0, i1, w1, w4, pr_8_m4, pr_i_0, pr_i_m1]; first | assumption | decide | exact ⟨by assumption, by assumption⟩ | exact ⟨Or.inl (by assumption), by assumption⟩ | omega) | decide | exact ⟨Or.inl (by assumption), by assumption⟩ | exact ⟨by assumption, by assumption⟩ | omega)⟩, (by first | assumption | (simp only [r9, r0, r1, r2, r3, s1, s2, q0, q1, rc, q3, q4, q5, q6, q7, q8, e0, i1, w1, w4, pr_8_m4, pr_i_0, pr_i_m1]; first | assumption | decide | exact ⟨by assumption, by assumption⟩ | exact ⟨Or.inl (by assumption), by assumption⟩ | omega) | decide | exact ⟨Or.inl (by assumption), by assumption⟩ | exact ⟨by assumption, by assumption⟩ | omega)⟩, trivial⟩ ?_
                try simp only [r9, r0, r1, r2, r3, s1, s2, q0, q1, rc, q3, q4, q5, q6, q7, q8, e0, i1, w1, w4, pr_8_m4, pr_i_0, pr_i_m1]
                exact pr_irT rfl trivial (by exact cp_s hl hv)
        · by_cases w4 : w = 4
          · subst w4
            refine pr_seqT (pc' := 1) 1 rfl ⟨trivial, trivial⟩ ?_
            try simp only [r9, r0, r1, r2, r3, s1, s2, q0, q1, rc, q3, q4, q5, q6, q7, q8, pr_8_m4, pr_i_0, pr_i_m1]
            refine pr_tsIT (g := 88) rfl (by decide) rfl rfl ?_
            refine pr_seqT (pc' := 95) 3 rfl ⟨⟨⟨trivial, (by first | assumption | (simp only [r9, r0, r1, r2, r3, s1, s2, q0, q1, rc, q3, q4, q5, q6, q7, q8, pr_8_m4, pr_i_0, pr_i_m1]; first | assumption | decide | exact ⟨by assumption, by assumption⟩ | exact ⟨Or.inl (by assumption), by assumption⟩ | omega) | decide | exact ⟨Or.inl (by assumption), by assumption⟩ | exact ⟨by assumption, by assumption⟩ | omega)⟩, (by first | assumption | (simp only [r9, r0, r1, r2, r3, s1, s2, q0, q1, rc, q3, q4, q5, q6, q7, q8, pr_8_m4, pr_i_0, pr_i_m1]; first | assumption | decide | exact ⟨by assumption, by assumption⟩ | exact ⟨Or.inl (by assumption), by assumption⟩ | omega) | decide | exact ⟨Or.inl (by assumption), by assumption⟩ | exact ⟨by assumption, by assumption⟩ | omega)⟩, (by first | assumption | (simp only [r9, r0, r1, r2, r3, s1, s2, q0, q1, rc, q3, q4, q5, q6, q7, q8, pr_8_m4, pr_i_0, pr_i_m1]; first | assumption | decide | exact ⟨by assumption, by assumption⟩ | exact ⟨Or.inl (by assumption), by assumption⟩ | omega) | decide | exact ⟨Or.inl (by assumption), by assumption⟩ | exact ⟨by assumption, by assumption⟩ | omega)⟩ ?_
            try simp only [r9, r0, r1, r2, r3, s1, s2, q0, q1, rc, q3, q4, q5, q6, q7, q8, pr_8_m4, pr_i_0, pr_i_m1]
            refine pr_cvT [] rfl rfl rfl rfl rfl (Nat.le_of_ble_eq_true rfl) (by first | assumption | (simp only [r9, r0, r1, r2, r3, s1, s2, q0, q1, rc, q3, q4, q5, q6, q7, q8, pr_8_m4, pr_i_0, pr_i_m1]; first | assumption | decide | exact ⟨by assumption, by assumption⟩ | exact ⟨Or.inl (by assumption), by assumption⟩ | omega) | decide | exact ⟨Or.inl (by assumption), by assumption⟩ | exact ⟨by assumption, by assumption⟩ | omega) (Nat.le_of_ble_eq_true rfl) (c_lettersOfAll h M hg hd) ?_
            exact pr_irT rfl trivial (by exact cp_s hl hv)
          · by_cases w5 : w = 5
            · subst w5
              refine pr_seqT (pc' := 1) 1 rfl ⟨trivial, trivial⟩ ?_
              try simp only [r9, r0, r1, r2, r3, s1, s2, q0, q1, rc, q3, q4, q5, q6, q7, q8, pr_8_m4, pr_i_0, pr_i_m1]
              refine pr_tsIT (g := 99) rfl (by decide) rfl rfl ?_
              refine pr_seqT (pc' := 106) 3 rfl ⟨⟨⟨trivial, (by first | assumption | (simp only [r9, r0, r1, r2, r3, s1, s2, q0, q1, rc, q3, q4, q5, q6, q7, q8, pr_8_m4, pr_i_0, pr_i_m1]; first | assumption | decide | exact ⟨by assumption, by assumption⟩ | exact ⟨Or.inl (by assumption), by assumption⟩ | omega) | decide | exact ⟨Or.inl (by assumption), by assumption⟩ | exact ⟨by assumption, by assumption⟩ | omega)⟩, (by first | assumption | (simp only [r9, r0, r1, r2, r3, s1, s2, q0, q1, rc, q3, q4, q5, q6, q7, q8, pr_8_m4, pr_i_0, pr_i_m1]; first | assumption | decide | exact ⟨by assumption, by assumption⟩ | exact ⟨Or.inl (by assumption), by assumption⟩ | omega) | decide | exact ⟨Or.inl (by assumption), by assumption⟩ | exact ⟨by assumption, by assumption⟩ | omega)⟩, (by first | assumption | (simp only [r9, r0, r1, r2, r3, s1, s2, q0, q1, rc, q3, q4, q5, q6, q7, q8, pr_8_m4, pr_i_0, pr_i_m1]; first | assumption | decide | exact ⟨by assumption, by assumption⟩ | exact ⟨Or.inl (by assumption), by assumption⟩ | omega) | decide | exact ⟨Or.inl (by assumption), by assumption⟩ | exact ⟨by assumption, by assumption⟩ | omega)⟩ ?_
              try simp only [r9, r0, r1, r2, r3, s1, s2, q0, q1, rc, q3, q4, q5, q6, q7, q8, pr_8_m4, pr_i_0, pr_i_m1]
              refine pr_cvT [] rfl rfl rfl rfl rfl (Nat.le_of_ble_eq_true rfl) (by first | assumption | (simp only [r9, r0, r1, r2, r3, s1, s2, q0, q1, rc, q3, q4, q5, q6, q7, q8, pr_8_m4, pr_i_0, pr_i_m1]; first | assumption | decide | exact ⟨by assumption, by assumption⟩ | exact ⟨Or.inl (by assumption), by assumption⟩ | omega) | decide | exact ⟨Or.inl (by assumption), by assumption⟩ | exact ⟨by assumption, by assumption⟩ | omega) (Nat.le_of_ble_eq_true rfl) (c_worthsOfAll h M hg hd) ?_
              exact pr_irT rfl trivial (by exact cp_s hl hv)
            · rw [if_neg w0, if_neg w1, if_neg w2, if_neg w3, if_neg w4, if_neg w5]
              have ho : w.toInt < (0 : Int) ∨ (5 : Int) < w.toInt := ts_out w 5 (by decide) (fun j hj e => by
                rcases (show j = 0 ∨ j = 1 ∨ j = 2 ∨ j = 3 ∨ j = 4 ∨ j = 5 by omega) with rfl | rfl | rfl | rfl | rfl | rfl
                · exact w0 e
                · exact w1 e
                · exact w2 e
                · exact w3 e
                · exact w4 e
                · exact w5 e)
              refine pr_seqT (pc' := 1) 1 rfl ⟨trivial, trivial⟩ ?_
              try simp only [r9, r0, r1, r2, r3, s1, s2, q0, q1, rc, q3, q4, q5, q6, q7, q8, pr_8_m4, pr_i_0, pr_i_m1]
              refine pr_tsOT (g := 110) rfl (ho) rfl ?_
              refine pr_seqT (pc' := 111) 1 rfl ⟨trivial, trivial⟩ ?_
              try simp only [r9, r0, r1, r2, r3, s1, s2, q0, q1, rc, q3, q4, q5, q6, q7, q8, pr_8_m4, pr_i_0, pr_i_m1]
              exact pr_irT rfl trivial (by exact cp_s hl hv)
