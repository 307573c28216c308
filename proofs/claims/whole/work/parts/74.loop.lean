
/-! ===== the law's loop, its start, the pure claim ===== -/
theorem and63 (x : Int32) : ∃ n, n < 64 ∧ x &&& (Int8.ofInt 63).toInt32 = nI n := by
  refine ⟨(x.toBitVec &&& 63#32).toNat, ?_, ?_⟩
  · rw [BitVec.toNat_and]
    exact Nat.lt_succ_of_le Nat.and_le_right
  · apply Int32.toBitVec_inj.1
    show x.toBitVec &&& (Int8.ofInt 63).toInt32.toBitVec = BitVec.ofNat 32 (x.toBitVec &&& 63#32).toNat
    rw [BitVec.ofNat_toNat, BitVec.setWidth_eq]
    exact congrArg (fun y => x.toBitVec &&& y) (show (Int8.ofInt 63).toInt32.toBitVec = 63#32 from by decide)
theorem i5_lt {L k : Nat} (hL : L ≤ 2560) (hk : k ≤ 3000) : (nI L - Int32.ofInt 5 < nI k) ↔ L < k + 5 := by
  have e1 : (nI L - Int32.ofInt 5).toInt = (L : Int) - 5 := by
    rw [Int32.toInt_sub, nI_toInt (by omega), show (Int32.ofInt 5).toInt = 5 from by decide]
    exact Int.bmod_eq_of_le (by omega) (by omega)
  rw [Int32.lt_iff_toInt_lt, e1, nI_toInt (by omega)]
  omega
set_option maxRecDepth 100000 in
theorem lw_case {L k n : Nat} {xs : Nat → Int32} {h : ab_H} {X : St} {Q : Option Value → ab_M → Prop} (M : ab_M) (hk : k + 5 ≤ L) (hL : L ≤ 2560) (hn : n < 64) (H : lm L xs h X X M) (nx : lnx L k xs h Q) : pr_T pL_law 32 [some (.ref 2000000), some (.ref 1), some (.ref 172), some (.int (nI k))] [.int (nI n)] h M Q := by
  by_cases c : n < 41
  · rcases (show n = 0 ∨ n = 1 ∨ n = 2 ∨ n = 3 ∨ n = 4 ∨ n = 5 ∨ n = 6 ∨ n = 7 ∨ n = 8 ∨ n = 9 ∨ n = 10 ∨ n = 11 ∨ n = 12 ∨ n = 13 ∨ n = 14 ∨ n = 15 ∨ n = 16 ∨ n = 17 ∨ n = 18 ∨ n = 19 ∨ n = 20 ∨ n = 21 ∨ n = 22 ∨ n = 23 ∨ n = 24 ∨ n = 25 ∨ n = 26 ∨ n = 27 ∨ n = 28 ∨ n = 29 ∨ n = 30 ∨ n = 31 ∨ n = 32 ∨ n = 33 ∨ n = 34 ∨ n = 35 ∨ n = 36 ∨ n = 37 ∨ n = 38 ∨ n = 39 ∨ n = 40 by omega) with rfl | rfl | rfl | rfl | rfl | rfl | rfl | rfl | rfl | rfl | rfl | rfl | rfl | rfl | rfl | rfl | rfl | rfl | rfl | rfl | rfl | rfl | rfl | rfl | rfl | rfl | rfl | rfl | rfl | rfl | rfl | rfl | rfl | rfl | rfl | rfl | rfl | rfl | rfl | rfl | rfl
    · exact pr_tsIT (g := 212) rfl (by decide) rfl rfl (lc_feed M hk hL H nx)
    · exact pr_tsIT (g := 265) rfl (by decide) rfl rfl (lc_end M hk hL H nx)
    · exact pr_tsIT (g := 288) rfl (by decide) rfl rfl (lc_text M hk hL H nx)
    · exact pr_tsIT (g := 301) rfl (by decide) rfl rfl (lc_fault M hk hL H nx)
    · exact pr_tsIT (g := 314) rfl (by decide) rfl rfl (lc_rule M hk hL H nx)
    · exact pr_tsIT (g := 337) rfl (by decide) rfl rfl (lc_worth M hk hL H nx)
    · exact pr_tsIT (g := 360) rfl (by decide) rfl rfl (lc_one M hk hL H nx)
    · exact pr_tsIT (g := 393) rfl (by decide) rfl rfl (lc_listed M hk hL H nx)
    · exact pr_tsIT (g := 426) rfl (by decide) rfl rfl (lc_letter M hk hL H nx)
    · exact pr_tsIT (g := 459) rfl (by decide) rfl rfl (lc_law M hk hL H nx)
    · exact pr_tsIT (g := 482) rfl (by decide) rfl rfl (lc_fee M hk hL H nx)
    · exact pr_tsIT (g := 505) rfl (by decide) rfl rfl (lc_debt M hk hL H nx)
    · exact pr_tsIT (g := 538) rfl (by decide) rfl rfl (lc_wealth M hk hL H nx)
    · exact pr_tsIT (g := 571) rfl (by decide) rfl rfl (lc_become M hk hL H nx)
    · exact pr_tsIT (g := 604) rfl (by decide) rfl rfl (lc_bear M hk hL H nx)
    · exact pr_tsIT (g := 627) rfl (by decide) rfl rfl (lc_wed M hk hL H nx)
    · exact pr_tsIT (g := 660) rfl (by decide) rfl rfl (lc_sum M hk hL H nx)
    · exact pr_tsIT (g := 683) rfl (by decide) rfl rfl (lc_person M hk hL H nx)
    · exact pr_tsIT (g := 706) rfl (by decide) rfl rfl (lc_persons M hk hL H nx)
    · exact pr_tsIT (g := 719) rfl (by decide) rfl rfl (lc_lone M hk hL H nx)
    · exact pr_tsIT (g := 732) rfl (by decide) rfl rfl (lc_owes M hk hL H nx)
    · exact pr_tsIT (g := 755) rfl (by decide) rfl rfl (lc_has M hk hL H nx)
    · exact pr_tsIT (g := 778) rfl (by decide) rfl rfl (lc_votes M hk hL H nx)
    · exact pr_tsIT (g := 791) rfl (by decide) rfl rfl (lc_heirs M hk hL H nx)
    · exact pr_tsIT (g := 814) rfl (by decide) rfl rfl (lc_change M hk hL H nx)
    · exact pr_tsIT (g := 857) rfl (by decide) rfl rfl (lc_rid M hk hL H nx)
    · exact pr_tsIT (g := 890) rfl (by decide) rfl rfl (lc_call M hk hL H nx)
    · exact pr_tsIT (g := 913) rfl (by decide) rfl rfl (lc_match M hk hL H nx)
    · exact pr_tsIT (g := 936) rfl (by decide) rfl rfl (lc_crowd M hk hL H nx)
    · exact pr_tsIT (g := 969) rfl (by decide) rfl rfl (lc_part M hk hL H nx)
    · exact pr_tsIT (g := 992) rfl (by decide) rfl rfl (lc_know M hk hL H nx)
    · exact pr_tsIT (g := 1025) rfl (by decide) rfl rfl (lc_forget M hk hL H nx)
    · exact pr_tsIT (g := 1048) rfl (by decide) rfl rfl (lc_solve M hk hL H nx)
    · exact pr_tsIT (g := 1091) rfl (by decide) rfl rfl (lc_year M hk hL H nx)
    · exact pr_tsIT (g := 1134) rfl (by decide) rfl rfl (lc_keep M hk hL H nx)
    · exact pr_tsIT (g := 1157) rfl (by decide) rfl rfl (lc_back M hk hL H nx)
    · exact pr_tsIT (g := 1180) rfl (by decide) rfl rfl (lc_sheet M hk hL H nx)
    · exact pr_tsIT (g := 1223) rfl (by decide) rfl rfl (lc_lay M hk hL H nx)
    · exact pr_tsIT (g := 1266) rfl (by decide) rfl rfl (lc_read M hk hL H nx)
    · exact pr_tsIT (g := 1319) rfl (by decide) rfl rfl (lc_torn M hk hL H nx)
    · exact pr_tsIT (g := 1332) rfl (by decide) rfl rfl (lc_count M hk hL H nx)
  · refine pr_tsOT (g := 1355) rfl (Or.inr ?_) rfl (nx M X H)
    rw [nI_toInt (by omega)]
    omega
set_option maxRecDepth 100000 in
theorem lw_loop {L : Nat} {xs : Nat → Int32} {h : ab_H} (hL : L ≤ 2560) : ∀ d k X M, L < k + 5 + 5 * d → k ≤ 2565 → lm L xs h X X M → pr_T pL_law 18 [some (.ref 2000000), some (.ref 1), some (.ref 172), some (.int (nI k))] [] h M (fun r _ => r = some (.int 1)) := by
  intro d
  induction d with
  | zero =>
    intro k X M hd hk H
    have n0 : (2000000 : Nat) ≠ 0 := by decide
    obtain ⟨⟨k2, n2⟩, -⟩ := id H
    refine pr_seqT (pc' := 23) 5 rfl ⟨⟨⟨⟨⟨trivial, trivial⟩, n0⟩, Or.inr k2⟩, trivial⟩, trivial⟩ ?_
    simp only [n2]
    refine pr_icT rfl (fun _ => ?_) (fun q => absurd ((i5_lt hL (by omega)).mpr (by omega)) q)
    exact pr_seqT (pc' := 1362) 1 rfl ⟨trivial, trivial⟩ (pr_irT rfl (Or.inr (by decide)) (congrArg (fun x => some (Value.int x)) pr_i_1))
  | succ d ih =>
    intro k X M hd hk H
    have n0 : (2000000 : Nat) ≠ 0 := by decide
    obtain ⟨⟨k2, n2⟩, hx, -⟩ := id H
    refine pr_seqT (pc' := 23) 5 rfl ⟨⟨⟨⟨⟨trivial, trivial⟩, n0⟩, Or.inr k2⟩, trivial⟩, trivial⟩ ?_
    simp only [n2]
    refine pr_icT rfl (fun _ => ?_) (fun q => ?_)
    · exact pr_seqT (pc' := 1362) 1 rfl ⟨trivial, trivial⟩ (pr_irT rfl (Or.inr (by decide)) (congrArg (fun x => some (Value.int x)) pr_i_1))
    · have q1 : k + 5 ≤ L := by
        have q2 : ¬ L < k + 5 := fun z => q ((i5_lt hL (by omega)).mpr z)
        omega
      have w0 : (ab_k h 2000000 = 20 ∨ ab_k h 2000000 = 30) ∧ vp_in (nI k) (ab_n h 2000000) := ⟨Or.inr k2, by rw [n2]; exact vp_in_nI (by omega) (by omega)⟩
      refine pr_seqT (pc' := 32) 5 rfl ⟨⟨⟨⟨⟨trivial, n0⟩, trivial⟩, w0⟩, trivial⟩, trivial⟩ ?_
      obtain ⟨n, hn, e⟩ := and63 (M.1 2000000 (nI k).toNatClampNeg)
      show pr_T pL_law 32 [some (.ref 2000000), some (.ref 1), some (.ref 172), some (.int (nI k))] [.int (M.1 2000000 (nI k).toNatClampNeg &&& (Int8.ofInt 63).toInt32)] h M _
      rw [e]
      refine lw_case M q1 hL hn H (fun M2 X2 H2 => ?_)
      have e5 : nI k + Int32.ofInt 5 = nI (k + 5) := by rw [show Int32.ofInt 5 = nI 5 from by decide]; exact nI_add k 5
      refine pr_seqT (pc' := 18) 2 rfl ⟨⟨trivial, trivial⟩, trivial⟩ ?_
      rw [e5]
      exact ih (k + 5) X2 M2 (by omega) (by omega) H2
theorem Lay_ag {h h' : ab_H} {R R' : Nat → Nat → Nat} {b : Bool} (e : ∀ c, c < 172 → ab_k h' c = ab_k h c ∧ ab_n h' c = ab_n h c ∧ R' c = R c) (hl : Lay h R b) : Lay h' R' b := by
  have g : ∀ lo hi, hi ≤ 172 → ag lo hi h ((fun _ _ => 0 : Nat → Nat → Int32), (fun _ _ => 0 : Nat → Nat → Int64), R) h' ((fun _ _ => 0 : Nat → Nat → Int32), (fun _ _ => 0 : Nat → Nat → Int64), R') := fun lo hi hlo c c1 c2 => ⟨(e c (by omega)).1, (e c (by omega)).2.1, rfl, (e c (by omega)).2.2⟩
  have k : ∀ c, c < 172 → ab_k h' c = ab_k h c := fun c hc => (e c hc).1
  have n : ∀ c, c < 172 → ab_n h' c = ab_n h c := fun c hc => (e c hc).2.1
  have r : ∀ c j, c < 172 → R' c j = R c j := fun c j hc => congrFun (e c hc).2.2 j
  obtain ⟨⟨o0, o1, o2, o3, o4, o5, o6, o7, o8, o9, o10⟩, ⟨t1, t2⟩, ⟨⟨i1, i1'⟩, ⟨i2, i2'⟩, i3⟩, ⟨⟨s1, s1'⟩, s2⟩, ⟨⟨x1, x2, x3, x4⟩, d1, d2, d3, d4, d5, d6⟩, w1, ⟨y0, y1, y2, y3, y4, y5, y6⟩, ⟨z0, z1, z2, z3, ⟨z4, z5⟩, ⟨z6, z7⟩, z8, z9⟩, w4⟩ := hl
  refine ⟨⟨(k 1 (by decide)).trans o0, (r 1 0 (by decide)).trans o1, (r 1 1 (by decide)).trans o2, (r 1 2 (by decide)).trans o3, (r 1 3 (by decide)).trans o4, (r 1 4 (by decide)).trans o5, (r 1 5 (by decide)).trans o6, (r 1 6 (by decide)).trans o7, (r 1 7 (by decide)).trans o8, (r 1 8 (by decide)).trans o9, (r 1 9 (by decide)).trans o10⟩, ⟨pr_Tl_ag (g 6 _ (by omega)) t1, pr_Tl_ag (g 67 _ (by omega)) t2⟩, ⟨⟨(k 64 (by decide)).trans i1, (n 64 (by decide)).trans i1'⟩, ⟨(k 65 (by decide)).trans i2, (n 65 (by decide)).trans i2'⟩, fun j hj => ⟨(r 64 j (by decide)).trans (i3 j hj).1, pr_Ld_ag (g _ _ (by omega)) (i3 j hj).2⟩⟩, ⟨⟨(k 66 (by decide)).trans s1, (n 66 (by decide)).trans s1'⟩, fun j hj => ⟨(r 66 j (by decide)).trans (s2 j hj).1, pr_Sh_ag (g _ _ (by omega)) (s2 j hj).2⟩⟩, ⟨⟨(k 2 (by decide)).trans x1, (r 2 0 (by decide)).trans x2, (k 3 (by decide)).trans x3, (n 3 (by decide)).trans x4⟩, (k 4 (by decide)).trans d1, (r 4 0 (by decide)).trans d2, (r 4 1 (by decide)).trans d3, (r 4 2 (by decide)).trans d4, (k 5 (by decide)).trans d5, (n 5 (by decide)).trans d6⟩, pr_Cs_ag (g 49 _ (by omega)) w1, ⟨(k 55 (by decide)).trans y0, (r 55 0 (by decide)).trans y1, (r 55 1 (by decide)).trans y2, (k 56 (by decide)).trans y3, (n 56 (by decide)).trans y4, (k 57 (by decide)).trans y5, (n 57 (by decide)).trans y6⟩, ⟨(k 58 (by decide)).trans z0, (r 58 0 (by decide)).trans z1, (r 58 1 (by decide)).trans z2, (r 58 2 (by decide)).trans z3, ⟨(k 59 (by decide)).trans z4, (n 59 (by decide)).trans z5⟩, ⟨(k 60 (by decide)).trans z6, (n 60 (by decide)).trans z7⟩, (k 61 (by decide)).trans z8, (n 61 (by decide)).trans z9⟩, pr_Nm_ag (g 62 _ (by omega)) w4⟩
set_option maxRecDepth 100000 in
theorem lw_pure (L : Nat) (xs : Nat → Int32) (hL : L ≤ 2560) : pr_Y pL_law 0 (ab_ent pL_law [.ref 2000000]) [] (w_h0 L) (w_M0 xs) (fun r h' _ => r = some (.int 1) ∧ h'.1 - 1 ≤ 600000 ∧ h'.2.1 ≤ 7302250) := by
  have key : ∀ (kd ln : Nat → Nat) (M : ab_M), kd 2000000 = 30 → ln 2000000 = L → M.1 2000000 = xs → pr_Y pL_law 0 [some (.ref 2000000), none, none, none] [] (1, 0, kd, ln) M (fun r h' _ => r = some (.int 1) ∧ h'.1 - 1 ≤ 600000 ∧ h'.2.1 ≤ 7302250) := by
    intro kd ln M u1 u2 u3
    refine pr_seqY (pc' := 4) 2 rfl ⟨⟨trivial, ⟨by decide, by show 1 < 1000000; decide⟩⟩, trivial⟩ ?_
    dsimp only
    refine pr_ciY [] rfl rfl rfl rfl rfl (Nat.le_of_ble_eq_true rfl) (by decide) (Nat.le_of_ble_eq_true rfl) (n_sameman _ _ (va_up_at kd 1 11) rfl (fun j => by show va_up M.1 1 (fun _ => 0) 1 j = 0; rw [va_up_at])) (fun v h1 M1 q => ?_)
    obtain ⟨rfl, a1, a2, a3, a4, a5⟩ := q
    obtain ⟨n1, s1, kd1, ln1⟩ := h1
    obtain rfl : n1 = 172 := a1
    refine pr_seqY (pc' := 12) 3 rfl ⟨⟨⟨trivial, by decide⟩, ⟨by decide, by show 172 < 1000000; decide⟩⟩, trivial⟩ ?_
    dsimp only
    refine pr_ciY [] rfl rfl rfl rfl rfl (Nat.le_of_ble_eq_true rfl) (by decide) (Nat.le_of_ble_eq_true rfl) (n_model _ _ (va_up_at kd1 172 12) rfl (fun j => by show va_up M1.1 172 (fun _ => 0) 172 j = 0; rw [va_up_at])) (fun v h2 M2 q => ?_)
    obtain ⟨rfl, b1, b2, b3, b4, b5⟩ := q
    refine pr_seqY (pc' := 18) 3 rfl ⟨⟨⟨trivial, by decide⟩, trivial⟩, trivial⟩ ?_
    have g3 : kd1 2000000 = va_up kd 1 11 2000000 ∧ ln1 2000000 = ln 2000000 ∧ M1.1 2000000 = va_up M.1 1 (fun _ => 0) 2000000 := a3 2000000 (by decide)
    have gl : ∀ c, (c < 172 ∨ 1000000 ≤ c) → ab_k h2 c = va_up kd1 172 12 c ∧ ab_n h2 c = ln1 c ∧ M2.1 c = va_up M1.1 172 (fun _ => 0) c ∧ M2.2.2 c = va_up M1.2.2 172 (fun _ => 0) c := fun c hc => b3 c hc
    have g4 := gl 2000000 (Or.inr (by decide))
    have LA : Lay h2 M2.2.2 true := Lay_ag (h := (172, s1, kd1, ln1)) (fun c hc => ⟨(gl c (Or.inl hc)).1.trans (va_up_n (by omega)), (gl c (Or.inl hc)).2.1, (gl c (Or.inl hc)).2.2.2.trans (va_up_n (by omega))⟩) a4
    have LC : cl_v M2.1 true (P0.1, fun _ => none, fun _ => none, [], 0, 0) := cl_low (fun a ha => (gl a (Or.inl ha)).2.2.1.trans (va_up_n (by omega))) a5
    have LM : lm L xs h2 (P0.1, fun _ => none, fun _ => none, [], 0, 0) (P0.1, fun _ => none, fun _ => none, [], 0, 0) M2 := ⟨⟨g4.1.trans ((va_up_n (by decide)).trans (g3.1.trans ((va_up_n (by decide)).trans u1))), g4.2.1.trans (g3.2.1.trans u2)⟩, g4.2.2.1.trans ((va_up_n (by decide)).trans (g3.2.2.trans ((va_up_n (by decide)).trans u3))), ⟨true, LA, LC⟩, b4, b5⟩
    obtain ⟨r, M', e, hr⟩ := lw_loop hL 512 0 _ M2 (by omega) (by omega) LM
    have f10 : (ab_ft 10).length = 12 := rfl
    have f11 : (ab_ft 11).length = 31 := rfl
    dsimp only at a2 b2
    exact ⟨r, h2, M', e, hr, by rw [b1]; decide, by omega⟩
  exact key (w_h0 L).2.2.1 (w_h0 L).2.2.2 (w_M0 xs) (w_k1 (L := L)) (w_k3 (L := L)) w_k4
/-! ===== THE PURE CLAIM: on every script the pure machine comes to 1 ===== -/
theorem w_pure (L : Nat) (xs : Nat → Int32) (hL : L ≤ 2560) : ∃ (f : Nat) (h' : ab_H) (M' : ab_M), ab_ev ab_P f pL_law 0 (ab_ent pL_law [.ref 2000000]) [] (w_h0 L) (w_M0 xs) (some (.int 1)) h' M' ∧ h'.1 - 1 ≤ 600000 ∧ h'.2.1 ≤ 7302250 := by
  obtain ⟨r, h', M', ⟨f, hf⟩, rfl, h1, h2⟩ := lw_pure L xs hL
  exact ⟨f, h', M', hf, h1, h2⟩
