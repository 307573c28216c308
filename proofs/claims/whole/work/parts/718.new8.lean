
/-! ===== constructors: SameMan ===== -/
theorem low_of {a K n s : Nat} {kd ln : Nat → Nat} {I : Nat → Nat → Int32} {X : Nat → Nat → Int64} {R : Nat → Nat → Nat} {h2 : ab_H} {M2 : ab_M} (q : sm a (n, s, va_up kd a K, ln) (va_up I a (fun _ => 0), X, va_up R a (fun _ => 0)) h2 M2) (ha : a < 1000000) : sm a (n, s, kd, ln) (I, X, R) h2 M2 := fun c hc => by
  obtain ⟨y1, y2, y3, y4⟩ := q c hc
  have c1 : c ≠ a := by omega
  exact ⟨y1.trans (va_up_n c1), y2, y3.trans (va_up_n c1), y4.trans (va_up_n c1)⟩
def sn_p (h0 : ab_H) (M0 : ab_M) (r : Option Value) (h' : ab_H) (M' : ab_M) : Prop := r = none ∧ h'.1 = 172 ∧ h'.2.1 ≤ h0.2.1 + 12000 ∧ (∀ c, 1000000 ≤ c → ab_k h' c = ab_k h0 c ∧ ab_n h' c = ab_n h0 c ∧ M'.1 c = M0.1 c) ∧ Lay h' M'.2.2 true ∧ cl_v M'.1 true (P0.1, fun _ => none, fun _ => none, [], 0, 0)
theorem n_sameman (h : ab_H) (M : ab_M) (hk : ab_k h 1 = 11) (hn : h.1 = 2) (hz : ∀ j, M.1 1 j = 0) : pr_Z pX10_init [.ref 1] h M (sn_p h M) := by
  obtain ⟨n, sl, kd, ln⟩ := h
  obtain rfl : n = 2 := hn
  have k0 : kd 1 = 11 := hk
  have wd : ab_wd [] := by unfold ab_wd; decide
  refine pr_seqY (pc' := 9) 5 rfl ⟨⟨⟨⟨⟨trivial, by decide⟩, ⟨by decide, wd⟩⟩, by decide⟩, ⟨by decide, by show 2 < 1000000; decide⟩⟩, trivial⟩ ?_
  dsimp only
  refine pr_ciY [] rfl rfl rfl rfl rfl (Nat.le_of_ble_eq_true rfl) (by decide) (Nat.le_of_ble_eq_true rfl) (n_tape (a := 2) _ _ (by decide) (va_up_at kd 2 9) rfl (by decide)) (fun v h1 M1 q => ?_)
  obtain ⟨rfl, a1, b1, q1, p1⟩ := q
  obtain ⟨n1, s1, kd1, ln1⟩ := h1
  obtain rfl : n1 = 4 := a1
  have q1 := low_of q1 (by decide)
  have k1 : kd1 1 = 11 := (q1 1 (by omega)).1.trans k0
  refine pr_seqY (pc' := 24) 6 rfl ⟨⟨⟨⟨⟨⟨trivial, ⟨k1, by decide⟩⟩, by decide⟩, ⟨by decide, by show 4 < 1000000; decide⟩⟩, trivial⟩, by decide⟩, (by show va_up kd1 4 7 1 = 11; rw [va_up_n (by decide)]; exact k1)⟩ ?_
  dsimp only
  refine pr_ciY [.ref 2] rfl rfl rfl rfl rfl (Nat.le_of_ble_eq_true rfl) (by decide) (Nat.le_of_ble_eq_true rfl) (n_reader (a := 4) (T := 2) _ _ (by decide) (by decide) (va_up_at kd1 4 7) rfl (by decide)) (fun v h2 M2 q => ?_)
  obtain ⟨rfl, a2, b2, q2, p2⟩ := q
  obtain ⟨n2, s2, kd2, ln2⟩ := h2
  obtain rfl : n2 = 49 := a2
  have q2 := low_of q2 (by decide)
  have k2 : kd2 1 = 11 := (q2 1 (by omega)).1.trans k1
  refine pr_seqY (pc' := 35) 4 rfl ⟨⟨⟨⟨trivial, ⟨k2, by decide⟩⟩, by decide⟩, ⟨by decide, by show 49 < 1000000; decide⟩⟩, trivial⟩ ?_
  dsimp only
  refine pr_ciY [] rfl rfl rfl rfl rfl (Nat.le_of_ble_eq_true rfl) (by decide) (Nat.le_of_ble_eq_true rfl) (n_census (a := 49) _ _ (by decide) (va_up_at kd2 49 1) rfl (by decide)) (fun v h3 M3 q => ?_)
  obtain ⟨rfl, a3, b3, q3, p3⟩ := q
  obtain ⟨n3, s3, kd3, ln3⟩ := h3
  obtain rfl : n3 = 55 := a3
  have q3 := low_of q3 (by decide)
  have k3 : kd3 1 = 11 := (q3 1 (by omega)).1.trans k2
  refine pr_seqY (pc' := 46) 4 rfl ⟨⟨⟨⟨trivial, ⟨k3, by decide⟩⟩, by decide⟩, ⟨by decide, by show 55 < 1000000; decide⟩⟩, trivial⟩ ?_
  dsimp only
  refine pr_ciY [] rfl rfl rfl rfl rfl (Nat.le_of_ble_eq_true rfl) (by decide) (Nat.le_of_ble_eq_true rfl) (n_raises (a := 55) _ _ (by decide) (va_up_at kd3 55 6) rfl (by decide)) (fun v h4 M4 q => ?_)
  obtain ⟨rfl, a4, b4, q4, p4⟩ := q
  obtain ⟨n4, s4, kd4, ln4⟩ := h4
  obtain rfl : n4 = 58 := a4
  have q4 := low_of q4 (by decide)
  have k4 : kd4 1 = 11 := (q4 1 (by omega)).1.trans k3
  refine pr_seqY (pc' := 57) 4 rfl ⟨⟨⟨⟨trivial, ⟨k4, by decide⟩⟩, by decide⟩, ⟨by decide, by show 58 < 1000000; decide⟩⟩, trivial⟩ ?_
  dsimp only
  refine pr_ciY [] rfl rfl rfl rfl rfl (Nat.le_of_ble_eq_true rfl) (by decide) (Nat.le_of_ble_eq_true rfl) (n_pairs (a := 58) _ _ (by decide) (va_up_at kd4 58 5) rfl (by decide)) (fun v h5 M5 q => ?_)
  obtain ⟨rfl, a5, b5, q5, p5⟩ := q
  obtain ⟨n5, s5, kd5, ln5⟩ := h5
  obtain rfl : n5 = 62 := a5
  have q5 := low_of q5 (by decide)
  have k5 : kd5 1 = 11 := (q5 1 (by omega)).1.trans k4
  refine pr_seqY (pc' := 68) 4 rfl ⟨⟨⟨⟨trivial, ⟨k5, by decide⟩⟩, by decide⟩, ⟨by decide, by show 62 < 1000000; decide⟩⟩, trivial⟩ ?_
  dsimp only
  refine pr_ciY [] rfl rfl rfl rfl rfl (Nat.le_of_ble_eq_true rfl) (by decide) (Nat.le_of_ble_eq_true rfl) (n_name (a := 62) _ _ (by decide) (va_up_at kd5 62 3) rfl (by decide)) (fun v h6 M6 q => ?_)
  obtain ⟨rfl, a6, b6, q6, p6⟩ := q
  obtain ⟨n6, s6, kd6, ln6⟩ := h6
  obtain rfl : n6 = 64 := a6
  have q6 := low_of q6 (by decide)
  have k6 : kd6 1 = 11 := (q6 1 (by omega)).1.trans k5
  have n2 : (Int32.ofInt 2).toNatClampNeg = 2 := by decide
  have n4 : (Int32.ofInt 4).toNatClampNeg = 4 := by decide
  have g1 : va_up kd6 64 24 1 = 11 := by rw [va_up_n (by decide)]; exact k6
  have g2 : va_up (va_up kd6 64 24) 65 22 1 = 11 := by rw [va_up_n (by decide)]; exact g1
  have g3 : va_up (va_up (va_up kd6 64 24) 65 22) 66 27 1 = 11 := by rw [va_up_n (by decide)]; exact g2
  refine pr_seqY (pc' := 102) 16 rfl ⟨⟨⟨⟨⟨⟨⟨⟨⟨⟨⟨⟨⟨⟨⟨⟨trivial, ⟨k6, by decide⟩⟩, by decide⟩, trivial⟩, ⟨by decide, by rw [n2]; decide, by show 64 < 1000000; decide⟩⟩, ⟨g1, by show 64 ≠ 0; decide⟩⟩, by decide⟩, trivial⟩, ⟨by decide, by rw [n2]; decide, by show 65 < 1000000; decide⟩⟩, ⟨g2, by show 65 ≠ 0; decide⟩⟩, by decide⟩, trivial⟩, ⟨by decide, by rw [n4]; decide, by show 66 < 1000000; decide⟩⟩, ⟨g3, by show 66 ≠ 0; decide⟩⟩, by decide⟩, ⟨by decide, by show 67 < 1000000; decide⟩⟩, trivial⟩ ?_
  dsimp only
  rw [n2, n4]
  refine pr_ciY [] rfl rfl rfl rfl rfl (Nat.le_of_ble_eq_true rfl) (by decide) (Nat.le_of_ble_eq_true rfl) (n_told (t := 67) _ _ (by decide) (va_up_at (va_up (va_up (va_up kd6 64 24) 65 22) 66 27) 67 10) rfl (by decide) (fun j => rfl)) (fun v h7 M7 q => ?_)
  obtain ⟨rfl, a7, b7, q7, p7⟩ := q
  obtain ⟨n7, s7, kd7, ln7⟩ := h7
  obtain rfl : n7 = 110 := a7
  have q7 := low_of q7 (by decide)
  have k7 : kd7 1 = 11 := (q7 1 (by omega)).1.trans g3
  refine pr_seqY (pc' := 110) 3 rfl ⟨⟨⟨trivial, ⟨k7, by decide⟩⟩, trivial⟩, trivial⟩ ?_
  dsimp only
  have R7 : M7.2.2 1 = _ := (q7 1 (by omega)).2.2.2
  have r6 : ab_u M7.2.2 1 (1009 % 100) 67 1 6 = 64 := by rw [ab_u_j (by decide), R7]; rfl
  have r8 : ab_u M7.2.2 1 (1009 % 100) 67 1 8 = 66 := by rw [ab_u_j (by decide), R7]; rfl
  obtain ⟨r, h', M', e0, e1, e2, e3, e4, e5, e6⟩ := n_imL (110, s7, kd7, ln7) (M7.1, M7.2.1, ab_u M7.2.2 1 (1009 % 100) 67) k7 (by dsimp only; exact r6) (by dsimp only; exact r8) ((q7 64 (by omega)).1.trans rfl) ((q7 64 (by omega)).2.1.trans rfl) ((q7 66 (by omega)).1.trans rfl) ((q7 66 (by omega)).2.1.trans rfl) 2 0 (by omega) (110, s7, kd7, ln7) (M7.1, M7.2.1, ab_u M7.2.2 1 (1009 % 100) 67) rfl rfl (fun c _ => ⟨rfl, rfl, rfl, fun _ => rfl⟩) (fun q hq => absurd hq (by omega))
  refine ⟨r, h', M', e0, ?_⟩
  have A7 : ∀ c, 2 ≤ c → c < 110 → c ≠ 64 → c ≠ 66 → ab_k h' c = kd7 c ∧ ab_n h' c = ln7 c ∧ M'.1 c = M7.1 c ∧ M'.2.2 c = M7.2.2 c := fun c c1 c2 c3 c4 => by
    obtain ⟨y1, y2, y3, y4⟩ := e4 c (by omega)
    exact ⟨y1, y2, y3, (y4 c3 c4).trans (ab_u_ne (by omega))⟩
  have A6 : ag 2 64 (64, s6, kd6, ln6) M6 h' M' := fun c c1 c2 => by
    obtain ⟨x1, x2, x3, x4⟩ := A7 c c1 (by omega) (by omega) (by omega)
    obtain ⟨y1, y2, y3, y4⟩ := q7 c (by omega)
    have d0 : c ≠ 1 := by omega
    have d4 : c ≠ 64 := by omega
    have d5 : c ≠ 65 := by omega
    have d6 : c ≠ 66 := by omega
    exact ⟨x1.trans (y1.trans ((va_up_n d6).trans ((va_up_n d5).trans (va_up_n d4)))), x2.trans (y2.trans ((va_up_n d6).trans ((va_up_n d5).trans (va_up_n d4)))), x3.trans (y3.trans ((va_up_n d6).trans ((va_up_n d5).trans (va_up_n d4)))), x4.trans (y4.trans ((ab_u_ne d0).trans ((va_up_n d6).trans ((ab_u_ne d0).trans ((va_up_n d5).trans ((ab_u_ne d0).trans ((va_up_n d4).trans (ab_u_ne d0))))))))⟩
  have A5 : ag 2 62 (62, s5, kd5, ln5) M5 h' M' := fun c c1 c2 => by
    obtain ⟨x1, x2, x3, x4⟩ := A6 c c1 (by omega)
    obtain ⟨y1, y2, y3, y4⟩ := q6 c (by omega)
    exact ⟨x1.trans y1, x2.trans y2, x3.trans y3, x4.trans (y4.trans (ab_u_ne (by omega)))⟩
  have A4 : ag 2 58 (58, s4, kd4, ln4) M4 h' M' := fun c c1 c2 => by
    obtain ⟨x1, x2, x3, x4⟩ := A5 c c1 (by omega)
    obtain ⟨y1, y2, y3, y4⟩ := q5 c (by omega)
    exact ⟨x1.trans y1, x2.trans y2, x3.trans y3, x4.trans (y4.trans (ab_u_ne (by omega)))⟩
  have A3 : ag 2 55 (55, s3, kd3, ln3) M3 h' M' := fun c c1 c2 => by
    obtain ⟨x1, x2, x3, x4⟩ := A4 c c1 (by omega)
    obtain ⟨y1, y2, y3, y4⟩ := q4 c (by omega)
    exact ⟨x1.trans y1, x2.trans y2, x3.trans y3, x4.trans (y4.trans (ab_u_ne (by omega)))⟩
  have A2 : ag 2 49 (49, s2, kd2, ln2) M2 h' M' := fun c c1 c2 => by
    obtain ⟨x1, x2, x3, x4⟩ := A3 c c1 (by omega)
    obtain ⟨y1, y2, y3, y4⟩ := q3 c (by omega)
    exact ⟨x1.trans y1, x2.trans y2, x3.trans y3, x4.trans (y4.trans (ab_u_ne (by omega)))⟩
  have A1 : ag 2 4 (4, s1, kd1, ln1) M1 h' M' := fun c c1 c2 => by
    obtain ⟨x1, x2, x3, x4⟩ := A2 c c1 (by omega)
    obtain ⟨y1, y2, y3, y4⟩ := q2 c (by omega)
    exact ⟨x1.trans y1, x2.trans y2, x3.trans y3, x4.trans (y4.trans (ab_u_ne (by omega)))⟩
  have X6 : M6.2.2 1 = _ := (q6 1 (by omega)).2.2.2
  have X5 : M5.2.2 1 = _ := (q5 1 (by omega)).2.2.2
  have X4 : M4.2.2 1 = _ := (q4 1 (by omega)).2.2.2
  have X3 : M3.2.2 1 = _ := (q3 1 (by omega)).2.2.2
  have X2 : M2.2.2 1 = _ := (q2 1 (by omega)).2.2.2
  have RR : M'.2.2 1 = ab_u M7.2.2 1 (1009 % 100) 67 1 := (e4 1 (by omega)).2.2.2 (by decide) (by decide)
  have o0 : M'.2.2 1 0 = 2 := by
    rw [RR, ab_u_j (by decide), R7]
    show M6.2.2 1 0 = 2
    rw [X6]
    show M5.2.2 1 0 = 2
    rw [X5]
    show M4.2.2 1 0 = 2
    rw [X4]
    show M3.2.2 1 0 = 2
    rw [X3]
    show M2.2.2 1 0 = 2
    rw [X2]
    rfl
  have o1 : M'.2.2 1 1 = 4 := by
    rw [RR, ab_u_j (by decide), R7]
    show M6.2.2 1 1 = 4
    rw [X6]
    show M5.2.2 1 1 = 4
    rw [X5]
    show M4.2.2 1 1 = 4
    rw [X4]
    show M3.2.2 1 1 = 4
    rw [X3]
    rfl
  have o2 : M'.2.2 1 2 = 49 := by
    rw [RR, ab_u_j (by decide), R7]
    show M6.2.2 1 2 = 49
    rw [X6]
    show M5.2.2 1 2 = 49
    rw [X5]
    show M4.2.2 1 2 = 49
    rw [X4]
    rfl
  have o3 : M'.2.2 1 3 = 55 := by
    rw [RR, ab_u_j (by decide), R7]
    show M6.2.2 1 3 = 55
    rw [X6]
    show M5.2.2 1 3 = 55
    rw [X5]
    rfl
  have o4 : M'.2.2 1 4 = 58 := by
    rw [RR, ab_u_j (by decide), R7]
    show M6.2.2 1 4 = 58
    rw [X6]
    rfl
  have o5 : M'.2.2 1 5 = 62 := by
    rw [RR, ab_u_j (by decide), R7]
    rfl
  have o6 : M'.2.2 1 6 = 64 := by
    rw [RR, ab_u_j (by decide), R7]
    rfl
  have o7 : M'.2.2 1 7 = 65 := by
    rw [RR, ab_u_j (by decide), R7]
    rfl
  have o8 : M'.2.2 1 8 = 66 := by
    rw [RR, ab_u_j (by decide), R7]
    rfl
  have o9 : M'.2.2 1 9 = 67 := by rw [RR]; exact ab_u_at
  have I1 : M'.1 1 = M.1 1 := (e4 1 (by omega)).2.2.1.trans ((q7 1 (by omega)).2.2.1.trans ((q6 1 (by omega)).2.2.1.trans ((q5 1 (by omega)).2.2.1.trans ((q4 1 (by omega)).2.2.1.trans ((q3 1 (by omega)).2.2.1.trans ((q2 1 (by omega)).2.2.1.trans (q1 1 (by omega)).2.2.1))))))
  have T67 : ag 67 110 (110, s7, kd7, ln7) M7 h' M' := fun c c1 c2 => A7 c (by omega) c2 (by omega) (by omega)
  have L1 : ly_o h' M'.2.2 true := ⟨(e4 1 (by omega)).1.trans k7, o0, o1, o2, o3, o4, o5, o6, o7, o8, o9⟩
  have L2 : ly_t h' M'.2.2 := ⟨pr_Tl_ag (ag_sub A2 (by omega) (by omega)) p2.2.2.2.2.2.1, pr_Tl_ag (ag_sub T67 (by omega) (by omega)) p7.1⟩
  have L3 : ly_i h' M'.2.2 := ⟨⟨(e4 64 (by omega)).1.trans ((q7 64 (by omega)).1.trans rfl), (e4 64 (by omega)).2.1.trans ((q7 64 (by omega)).2.1.trans rfl)⟩, ⟨(A7 65 (by omega) (by omega) (by omega) (by omega)).1.trans ((q7 65 (by omega)).1.trans rfl), (A7 65 (by omega) (by omega) (by omega) (by omega)).2.1.trans ((q7 65 (by omega)).2.1.trans rfl)⟩, e5⟩
  have L4 : ly_s h' M'.2.2 := ⟨⟨(e4 66 (by omega)).1.trans ((q7 66 (by omega)).1.trans rfl), (e4 66 (by omega)).2.1.trans ((q7 66 (by omega)).2.1.trans rfl)⟩, fun k hk => ⟨(e6 k hk).1, (e6 k hk).2.1⟩⟩
  have L5 : ly_r h' M'.2.2 true := ⟨⟨(A1 2 (by omega) (by omega)).1.trans p1.1, (congrFun (A1 2 (by omega) (by omega)).2.2.2 0).trans p1.2.1, (A1 3 (by omega) (by omega)).1.trans p1.2.2.1, (A1 3 (by omega) (by omega)).2.1.trans p1.2.2.2.1⟩, ⟨(A2 4 (by omega) (by omega)).1.trans p2.1, (congrFun (A2 4 (by omega) (by omega)).2.2.2 0).trans p2.2.1, (congrFun (A2 4 (by omega) (by omega)).2.2.2 1).trans p2.2.2.1, (congrFun (A2 4 (by omega) (by omega)).2.2.2 2).trans p2.2.2.2.1, (A2 5 (by omega) (by omega)).1.trans p2.2.2.2.2.1.1, (A2 5 (by omega) (by omega)).2.1.trans p2.2.2.2.2.1.2⟩⟩
  have L6 : ly_w h' M'.2.2 := ⟨pr_Cs_ag (ag_sub A3 (by omega) (by omega)) p3, ⟨(A4 55 (by omega) (by omega)).1.trans p4.1, (congrFun (A4 55 (by omega) (by omega)).2.2.2 0).trans p4.2.1, (congrFun (A4 55 (by omega) (by omega)).2.2.2 1).trans p4.2.2.1, (A4 56 (by omega) (by omega)).1.trans p4.2.2.2.1, (A4 56 (by omega) (by omega)).2.1.trans p4.2.2.2.2.1, (A4 57 (by omega) (by omega)).1.trans p4.2.2.2.2.2.1, (A4 57 (by omega) (by omega)).2.1.trans p4.2.2.2.2.2.2⟩, ⟨(A5 58 (by omega) (by omega)).1.trans p5.1, (congrFun (A5 58 (by omega) (by omega)).2.2.2 0).trans p5.2.1, (congrFun (A5 58 (by omega) (by omega)).2.2.2 1).trans p5.2.2.1, (congrFun (A5 58 (by omega) (by omega)).2.2.2 2).trans p5.2.2.2.1, ⟨(A5 59 (by omega) (by omega)).1.trans p5.2.2.2.2.1.1, (A5 59 (by omega) (by omega)).2.1.trans p5.2.2.2.2.1.2⟩, ⟨(A5 60 (by omega) (by omega)).1.trans p5.2.2.2.2.2.1.1, (A5 60 (by omega) (by omega)).2.1.trans p5.2.2.2.2.2.1.2⟩, (A5 61 (by omega) (by omega)).1.trans p5.2.2.2.2.2.2.1, (A5 61 (by omega) (by omega)).2.1.trans p5.2.2.2.2.2.2.2⟩, pr_Nm_ag (ag_sub A6 (by omega) (by omega)) p6.1⟩
  have LL : Lay h' M'.2.2 true := ⟨L1, L2, L3, L4, L5, L6⟩
  have CV : cl_v M'.1 true (P0.1, fun _ => none, fun _ => none, [], 0, 0) := ⟨⟨ld_v_congr (g := 67 + 1) (fun a (a1 : 67 + 1 ≤ a) (a2 : a < 67 + 1 + 27) => (T67 a (by omega) (by omega)).2.2.1) p7.2.1, (congrFun (T67 67 (by omega) (by omega)).2.2.1 4).trans p7.2.2.1, p7.2.2.2.1, (congrFun (T67 67 (by omega) (by omega)).2.2.1 5).trans p7.2.2.2.2.1, p7.2.2.2.2.2.1, fun q w hq => (by cases hq), fun i k hk => (by cases hk)⟩, fun k _ => (congrFun (A7 65 (by omega) (by omega) (by omega) (by omega)).2.2.1 k).trans ((congrFun (q7 65 (by omega)).2.2.1 k).trans rfl), fun k hk => (e6 k hk).2.2, ⟨(congrFun (A1 2 (by omega) (by omega)).2.2.1 1).trans ((congrFun p1.2.2.2.2 1).trans rfl), Nat.zero_le _, fun j hj => absurd hj (Nat.not_lt_zero j)⟩, (congrFun I1 10).trans (hz 10), (congrFun I1 11).trans (hz 11)⟩
  refine ⟨e1, e2, ?_, fun c hc => ?_, LL, CV⟩
  · have f8 : (ab_ft 8).length = 2 := rfl
    have f6 : (ab_ft 6).length = 11 := rfl
    have f0 : (ab_ft 0).length = 6 := rfl
    have f5 : (ab_ft 5).length = 5 := rfl
    have f4 : (ab_ft 4).length = 9 := rfl
    have f2 : (ab_ft 2).length = 2 := rfl
    have f9 : (ab_ft 9).length = 6 := rfl
    dsimp only at b1 b2 b3 b4 b5 b6 b7 e3 ⊢
    omega
  · have c0 : ∀ {x : Nat}, c < x ∨ 1000000 ≤ c := Or.inr hc
    obtain ⟨y1, y2, y3, -⟩ := e4 c c0
    obtain ⟨z1, z2, z3, -⟩ := q7 c c0
    have d4 : c ≠ 64 := by omega
    have d5 : c ≠ 65 := by omega
    have d6 : c ≠ 66 := by omega
    exact ⟨y1.trans (z1.trans ((va_up_n d6).trans ((va_up_n d5).trans ((va_up_n d4).trans ((q6 c c0).1.trans ((q5 c c0).1.trans ((q4 c c0).1.trans ((q3 c c0).1.trans ((q2 c c0).1.trans ((q1 c c0).1)))))))))), y2.trans (z2.trans ((va_up_n d6).trans ((va_up_n d5).trans ((va_up_n d4).trans ((q6 c c0).2.1.trans ((q5 c c0).2.1.trans ((q4 c c0).2.1.trans ((q3 c c0).2.1.trans ((q2 c c0).2.1.trans ((q1 c c0).2.1)))))))))), y3.trans (z3.trans ((va_up_n d6).trans ((va_up_n d5).trans ((va_up_n d4).trans ((q6 c c0).2.2.1.trans ((q5 c c0).2.2.1.trans ((q4 c c0).2.2.1.trans ((q3 c c0).2.2.1.trans ((q2 c c0).2.2.1.trans ((q1 c c0).2.2.1))))))))))⟩
