
/-! ===== the law's cases: the class is called, then the reference; their answers are one ===== -/
theorem rv_congr {I I' : Nat → Nat → Int32} {X : St} (e : ∀ a, 172 ≤ a → I' a = I a) (hv : rv I X) : rv I' X := by
  obtain ⟨v1, ⟨v2, v3, v4⟩, ⟨v5, v6, v7⟩, v8, v9, ⟨t1, t2, t3⟩, v11, v12, c1, c2⟩ := hv
  refine ⟨by rw [e 173 (by decide)]; exact v1, ⟨by rw [e 172 (by decide)]; exact v2, v3, by rw [e 174 (by decide)]; exact v4⟩, ⟨by rw [e 172 (by decide)]; exact v5, v6, by rw [e 175 (by decide)]; exact v7⟩, fun k hk => ?_, fun k hk => ?_, ⟨by rw [e 172 (by decide)]; exact t1, t2, fun j hj => by rw [e 179 (by decide)]; exact t3 j hj⟩, by rw [e 172 (by decide)]; exact v11, by rw [e 172 (by decide)]; exact v12, fun j hj => by rw [e 180 (by decide)]; exact c1 j hj, fun j hj => by rw [e 181 (by decide)]; exact c2 j hj⟩
  · have z := v8 k hk
    revert z
    cases X.2.1 k with
    | none =>
      intro z
      show I' 184 k = 0
      rw [e 184 (by decide)]
      exact z
    | some d =>
      intro z
      show I' 184 k = 1 ∧ pg_r (fun j => I' 173 (221 * (k + 1) + j)) d
      rw [e 184 (by decide), e 173 (by decide)]
      exact z
  · have z := v9 k hk
    revert z
    cases X.2.2.1 k with
    | none =>
      intro z
      show I' 185 k = -4
      rw [e 185 (by decide)]
      exact z
    | some d =>
      obtain ⟨ln, n, f⟩ := d
      intro z
      show I' 185 k = nI ln ∧ ln ≤ 2 ∧ I' 186 k = nI n ∧ n ≤ 40 ∧ ∀ j, j < 40 → I' 187 (40 * k + j) = f j
      rw [e 185 (by decide), e 186 (by decide), e 187 (by decide)]
      exact z
theorem rL_congr {h : ab_H} {R R' : Nat → Nat → Nat} (e : R' 172 = R 172) (hl : rL h R) : rL h R' := by
  unfold rL
  rw [e]
  exact hl
theorem cl_low {I I' : Nat → Nat → Int32} {b : Bool} {X : St} (e : ∀ a, a < 172 → I' a = I a) (hv : cl_v I b X) : cl_v I' b X := by
  obtain ⟨v1, v2, v3, v4, v5, v6⟩ := hv
  have b2 := tB_2 b
  exact ⟨tl_rng (fun a a1 a2 => e a (by omega)) v1, fun k hk => im_v_congr hk (by rw [e 65 (by decide)]) (fun a a1 a2 => e a (by omega)) (v2 k hk), fun k hk => sh_v_congr (e _ (by omega)) (e _ (by omega)) (v3 k hk), tp_v_congr (e 2 (by decide)) (e 3 (by decide)) v4, by rw [e 1 (by decide)]; exact v5, by rw [e 1 (by decide)]; exact v6⟩
/-- the script, the class's state Y, the reference's state X -/
def lm (L : Nat) (xs : Nat → Int32) (h : ab_H) (X Y : St) (M : ab_M) : Prop := (ab_k h 2000000 = 30 ∧ ab_n h 2000000 = L) ∧ M.1 2000000 = xs ∧ (∃ b, Lay h M.2.2 b ∧ cl_v M.1 b Y) ∧ rL h M.2.2 ∧ rv M.1 X
theorem lm_c {L : Nat} {xs : Nat → Int32} {h : ab_H} {X : St} {M M1 : ab_M} {A : Int32 × St} {r : Option Value} (H : lm L xs h X X M) (q : cp h M A r M1) : r = some (.int A.1) ∧ lm L xs h X A.2 M1 := by
  obtain ⟨h1, h2, -, h4, h5⟩ := H
  obtain ⟨q1, b, q2, q3, q4⟩ := q
  exact ⟨q1, h1, (q4 2000000 (by decide)).1.trans h2, ⟨b, q2, q3⟩, rL_congr (q4 172 (by decide)).2 h4, rv_congr (fun a ha => (q4 a ha).1) h5⟩
theorem lm_r {L : Nat} {xs : Nat → Int32} {h : ab_H} {X : St} {M M1 : ab_M} {A : Int32 × St} {r : Option Value} (H : lm L xs h X A.2 M) (q : rp M A r M1) : r = some (.int A.1) ∧ lm L xs h A.2 A.2 M1 := by
  obtain ⟨h1, h2, ⟨b, h3, h4⟩, h5, h6⟩ := H
  obtain ⟨q1, q2, q3, q4⟩ := q
  exact ⟨q1, h1, (q4 2000000 (by decide)).trans h2, ⟨b, by rw [q2]; exact h3, cl_low (fun a ha => q4 a (Or.inl ha)) h4⟩, by rw [q2]; exact h5, q3⟩
theorem lw_in {L k j : Nat} {h : ab_H} {v : Int32} (hk : k + 5 ≤ L) (hL : L ≤ 2560) (k2 : ab_k h 2000000 = 30) (n2 : ab_n h 2000000 = L) (hj : j < 5) (hv : v = nI j) : (ab_k h 2000000 = 20 ∨ ab_k h 2000000 = 30) ∧ vp_in (nI k + v) (ab_n h 2000000) := by
  refine ⟨Or.inr k2, ?_⟩
  rw [n2, hv, nI_add]
  exact vp_in_nI (by omega) (by omega)
/-- where a case goes on -/
def lnx (L k : Nat) (xs : Nat → Int32) (h : ab_H) (Q : Option Value → ab_M → Prop) : Prop := ∀ M2 X2, lm L xs h X2 X2 M2 → pr_T pL_law 1355 [some (.ref 2000000), some (.ref 1), some (.ref 172), some (.int (nI k))] [] h M2 Q
set_option maxRecDepth 100000 in
theorem lc_feed {L k : Nat} {xs : Nat → Int32} {h : ab_H} {X : St} {Q : Option Value → ab_M → Prop} (M : ab_M) (hk : k + 5 ≤ L) (hL : L ≤ 2560) (H : lm L xs h X X M) (nx : lnx L k xs h Q) : pr_T pL_law 212 [some (.ref 2000000), some (.ref 1), some (.ref 172), some (.int (nI k))] [] h M Q := by
  obtain ⟨⟨k2, n2⟩, hx, ⟨b, hl, hv⟩, hr, hw⟩ := id H
  have w1 := lw_in (v := Int32.ofInt 1) hk hL k2 n2 (show 1 < 5 by decide) (by decide)
  have w2 := lw_in (v := Int32.ofInt 2) hk hL k2 n2 (show 2 < 5 by decide) (by decide)
  have n0 : (2000000 : Nat) ≠ 0 := by decide
  have n1 : (1 : Nat) ≠ 0 := by decide
  have n172 : (172 : Nat) ≠ 0 := by decide
  refine pr_seqT (pc' := 233) 18 rfl ⟨⟨⟨⟨⟨⟨⟨⟨⟨⟨⟨⟨⟨⟨⟨⟨⟨⟨trivial, n1⟩, n0⟩, trivial⟩, trivial⟩, trivial⟩, w1⟩, trivial⟩, trivial⟩, trivial⟩, n0⟩, trivial⟩, trivial⟩, trivial⟩, w2⟩, trivial⟩, trivial⟩, trivial⟩, trivial⟩ ?_
  simp only [hx]
  refine pr_cvX [_] rfl rfl rfl rfl rfl (Nat.le_of_ble_eq_true rfl) hl.1.1 (Nat.le_of_ble_eq_true rfl) (p_feed _ h M hl hv) (fun v1 M1 q1 => ?_)
  obtain ⟨rfl, H1⟩ := lm_c H q1
  obtain ⟨-, hx1, -, hr1, hw1⟩ := id H1
  refine pr_seqT (pc' := 257) 18 rfl ⟨⟨⟨⟨⟨⟨⟨⟨⟨⟨⟨⟨⟨⟨⟨⟨⟨⟨trivial, n172⟩, n0⟩, trivial⟩, trivial⟩, trivial⟩, w1⟩, trivial⟩, trivial⟩, trivial⟩, n0⟩, trivial⟩, trivial⟩, trivial⟩, w2⟩, trivial⟩, trivial⟩, trivial⟩, trivial⟩ ?_
  simp only [hx1]
  refine pr_cvX [_] rfl rfl rfl rfl rfl (Nat.le_of_ble_eq_true rfl) hr1.1 (Nat.le_of_ble_eq_true rfl) (r_feed _ h M1 hr1 hw1) (fun v2 M2 q2 => ?_)
  obtain ⟨rfl, H2⟩ := lm_r H1 q2
  exact pr_icT rfl (fun _ => nx _ _ H2) (fun q => (q rfl).elim)
set_option maxRecDepth 100000 in
theorem lc_end {L k : Nat} {xs : Nat → Int32} {h : ab_H} {X : St} {Q : Option Value → ab_M → Prop} (M : ab_M) (hk : k + 5 ≤ L) (hL : L ≤ 2560) (H : lm L xs h X X M) (nx : lnx L k xs h Q) : pr_T pL_law 265 [some (.ref 2000000), some (.ref 1), some (.ref 172), some (.int (nI k))] [] h M Q := by
  obtain ⟨⟨k2, n2⟩, hx, ⟨b, hl, hv⟩, hr, hw⟩ := id H
  have w1 := lw_in (v := Int32.ofInt 1) hk hL k2 n2 (show 1 < 5 by decide) (by decide)
  have n0 : (2000000 : Nat) ≠ 0 := by decide
  have n1 : (1 : Nat) ≠ 0 := by decide
  have n172 : (172 : Nat) ≠ 0 := by decide
  refine pr_seqT (pc' := 271) 6 rfl ⟨⟨⟨⟨⟨⟨trivial, n1⟩, n0⟩, trivial⟩, trivial⟩, trivial⟩, w1⟩ ?_
  simp only [hx]
  refine pr_cvX [_] rfl rfl rfl rfl rfl (Nat.le_of_ble_eq_true rfl) hl.1.1 (Nat.le_of_ble_eq_true rfl) (p_end _ h M hl hv) (fun v1 M1 q1 => ?_)
  obtain ⟨rfl, H1⟩ := lm_c H q1
  obtain ⟨-, hx1, -, hr1, hw1⟩ := id H1
  refine pr_seqT (pc' := 280) 6 rfl ⟨⟨⟨⟨⟨⟨trivial, n172⟩, n0⟩, trivial⟩, trivial⟩, trivial⟩, w1⟩ ?_
  simp only [hx1]
  refine pr_cvX [_] rfl rfl rfl rfl rfl (Nat.le_of_ble_eq_true rfl) hr1.1 (Nat.le_of_ble_eq_true rfl) (r_end _ h M1 hr1 hw1) (fun v2 M2 q2 => ?_)
  obtain ⟨rfl, H2⟩ := lm_r H1 q2
  exact pr_icT rfl (fun _ => nx _ _ H2) (fun q => (q rfl).elim)
set_option maxRecDepth 100000 in
theorem lc_text {L k : Nat} {xs : Nat → Int32} {h : ab_H} {X : St} {Q : Option Value → ab_M → Prop} (M : ab_M) (hk : k + 5 ≤ L) (hL : L ≤ 2560) (H : lm L xs h X X M) (nx : lnx L k xs h Q) : pr_T pL_law 288 [some (.ref 2000000), some (.ref 1), some (.ref 172), some (.int (nI k))] [] h M Q := by
  obtain ⟨⟨k2, n2⟩, hx, ⟨b, hl, hv⟩, hr, hw⟩ := id H
  have n1 : (1 : Nat) ≠ 0 := by decide
  have n172 : (172 : Nat) ≠ 0 := by decide
  refine pr_seqT (pc' := 289) 1 rfl ⟨trivial, n1⟩ ?_
  refine pr_cvX [] rfl rfl rfl rfl rfl (Nat.le_of_ble_eq_true rfl) hl.1.1 (Nat.le_of_ble_eq_true rfl) (p_text  h M hl hv) (fun v1 M1 q1 => ?_)
  obtain ⟨rfl, H1⟩ := lm_c H q1
  obtain ⟨-, hx1, -, hr1, hw1⟩ := id H1
  refine pr_seqT (pc' := 293) 1 rfl ⟨trivial, n172⟩ ?_
  refine pr_cvX [] rfl rfl rfl rfl rfl (Nat.le_of_ble_eq_true rfl) hr1.1 (Nat.le_of_ble_eq_true rfl) (r_text  h M1 hr1 hw1) (fun v2 M2 q2 => ?_)
  obtain ⟨rfl, H2⟩ := lm_r H1 q2
  exact pr_icT rfl (fun _ => nx _ _ H2) (fun q => (q rfl).elim)
set_option maxRecDepth 100000 in
theorem lc_fault {L k : Nat} {xs : Nat → Int32} {h : ab_H} {X : St} {Q : Option Value → ab_M → Prop} (M : ab_M) (hk : k + 5 ≤ L) (hL : L ≤ 2560) (H : lm L xs h X X M) (nx : lnx L k xs h Q) : pr_T pL_law 301 [some (.ref 2000000), some (.ref 1), some (.ref 172), some (.int (nI k))] [] h M Q := by
  obtain ⟨⟨k2, n2⟩, hx, ⟨b, hl, hv⟩, hr, hw⟩ := id H
  have n1 : (1 : Nat) ≠ 0 := by decide
  have n172 : (172 : Nat) ≠ 0 := by decide
  refine pr_seqT (pc' := 302) 1 rfl ⟨trivial, n1⟩ ?_
  refine pr_cvX [] rfl rfl rfl rfl rfl (Nat.le_of_ble_eq_true rfl) hl.1.1 (Nat.le_of_ble_eq_true rfl) (p_fault  h M hl hv) (fun v1 M1 q1 => ?_)
  obtain ⟨rfl, H1⟩ := lm_c H q1
  obtain ⟨-, hx1, -, hr1, hw1⟩ := id H1
  refine pr_seqT (pc' := 306) 1 rfl ⟨trivial, n172⟩ ?_
  refine pr_cvX [] rfl rfl rfl rfl rfl (Nat.le_of_ble_eq_true rfl) hr1.1 (Nat.le_of_ble_eq_true rfl) (r_fault  h M1 hr1 hw1) (fun v2 M2 q2 => ?_)
  obtain ⟨rfl, H2⟩ := lm_r H1 q2
  exact pr_icT rfl (fun _ => nx _ _ H2) (fun q => (q rfl).elim)
set_option maxRecDepth 100000 in
theorem lc_rule {L k : Nat} {xs : Nat → Int32} {h : ab_H} {X : St} {Q : Option Value → ab_M → Prop} (M : ab_M) (hk : k + 5 ≤ L) (hL : L ≤ 2560) (H : lm L xs h X X M) (nx : lnx L k xs h Q) : pr_T pL_law 314 [some (.ref 2000000), some (.ref 1), some (.ref 172), some (.int (nI k))] [] h M Q := by
  obtain ⟨⟨k2, n2⟩, hx, ⟨b, hl, hv⟩, hr, hw⟩ := id H
  have w1 := lw_in (v := Int32.ofInt 1) hk hL k2 n2 (show 1 < 5 by decide) (by decide)
  have n0 : (2000000 : Nat) ≠ 0 := by decide
  have n1 : (1 : Nat) ≠ 0 := by decide
  have n172 : (172 : Nat) ≠ 0 := by decide
  refine pr_seqT (pc' := 320) 6 rfl ⟨⟨⟨⟨⟨⟨trivial, n1⟩, n0⟩, trivial⟩, trivial⟩, trivial⟩, w1⟩ ?_
  simp only [hx]
  refine pr_cvX [_] rfl rfl rfl rfl rfl (Nat.le_of_ble_eq_true rfl) hl.1.1 (Nat.le_of_ble_eq_true rfl) (p_rule _ h M hl hv) (fun v1 M1 q1 => ?_)
  obtain ⟨rfl, H1⟩ := lm_c H q1
  obtain ⟨-, hx1, -, hr1, hw1⟩ := id H1
  refine pr_seqT (pc' := 329) 6 rfl ⟨⟨⟨⟨⟨⟨trivial, n172⟩, n0⟩, trivial⟩, trivial⟩, trivial⟩, w1⟩ ?_
  simp only [hx1]
  refine pr_cvX [_] rfl rfl rfl rfl rfl (Nat.le_of_ble_eq_true rfl) hr1.1 (Nat.le_of_ble_eq_true rfl) (r_rule _ h M1 hr1 hw1) (fun v2 M2 q2 => ?_)
  obtain ⟨rfl, H2⟩ := lm_r H1 q2
  exact pr_icT rfl (fun _ => nx _ _ H2) (fun q => (q rfl).elim)
set_option maxRecDepth 100000 in
theorem lc_worth {L k : Nat} {xs : Nat → Int32} {h : ab_H} {X : St} {Q : Option Value → ab_M → Prop} (M : ab_M) (hk : k + 5 ≤ L) (hL : L ≤ 2560) (H : lm L xs h X X M) (nx : lnx L k xs h Q) : pr_T pL_law 337 [some (.ref 2000000), some (.ref 1), some (.ref 172), some (.int (nI k))] [] h M Q := by
  obtain ⟨⟨k2, n2⟩, hx, ⟨b, hl, hv⟩, hr, hw⟩ := id H
  have w1 := lw_in (v := Int32.ofInt 1) hk hL k2 n2 (show 1 < 5 by decide) (by decide)
  have n0 : (2000000 : Nat) ≠ 0 := by decide
  have n1 : (1 : Nat) ≠ 0 := by decide
  have n172 : (172 : Nat) ≠ 0 := by decide
  refine pr_seqT (pc' := 343) 6 rfl ⟨⟨⟨⟨⟨⟨trivial, n1⟩, n0⟩, trivial⟩, trivial⟩, trivial⟩, w1⟩ ?_
  simp only [hx]
  refine pr_cvX [_] rfl rfl rfl rfl rfl (Nat.le_of_ble_eq_true rfl) hl.1.1 (Nat.le_of_ble_eq_true rfl) (p_worth _ h M hl hv) (fun v1 M1 q1 => ?_)
  obtain ⟨rfl, H1⟩ := lm_c H q1
  obtain ⟨-, hx1, -, hr1, hw1⟩ := id H1
  refine pr_seqT (pc' := 352) 6 rfl ⟨⟨⟨⟨⟨⟨trivial, n172⟩, n0⟩, trivial⟩, trivial⟩, trivial⟩, w1⟩ ?_
  simp only [hx1]
  refine pr_cvX [_] rfl rfl rfl rfl rfl (Nat.le_of_ble_eq_true rfl) hr1.1 (Nat.le_of_ble_eq_true rfl) (r_worth _ h M1 hr1 hw1) (fun v2 M2 q2 => ?_)
  obtain ⟨rfl, H2⟩ := lm_r H1 q2
  exact pr_icT rfl (fun _ => nx _ _ H2) (fun q => (q rfl).elim)
set_option maxRecDepth 100000 in
theorem lc_one {L k : Nat} {xs : Nat → Int32} {h : ab_H} {X : St} {Q : Option Value → ab_M → Prop} (M : ab_M) (hk : k + 5 ≤ L) (hL : L ≤ 2560) (H : lm L xs h X X M) (nx : lnx L k xs h Q) : pr_T pL_law 360 [some (.ref 2000000), some (.ref 1), some (.ref 172), some (.int (nI k))] [] h M Q := by
  obtain ⟨⟨k2, n2⟩, hx, ⟨b, hl, hv⟩, hr, hw⟩ := id H
  have w1 := lw_in (v := Int32.ofInt 1) hk hL k2 n2 (show 1 < 5 by decide) (by decide)
  have w2 := lw_in (v := Int32.ofInt 2) hk hL k2 n2 (show 2 < 5 by decide) (by decide)
  have n0 : (2000000 : Nat) ≠ 0 := by decide
  have n1 : (1 : Nat) ≠ 0 := by decide
  have n172 : (172 : Nat) ≠ 0 := by decide
  refine pr_seqT (pc' := 371) 11 rfl ⟨⟨⟨⟨⟨⟨⟨⟨⟨⟨⟨trivial, n1⟩, n0⟩, trivial⟩, trivial⟩, trivial⟩, w1⟩, n0⟩, trivial⟩, trivial⟩, trivial⟩, w2⟩ ?_
  simp only [hx]
  refine pr_cvX [_, _] rfl rfl rfl rfl rfl (Nat.le_of_ble_eq_true rfl) hl.1.1 (Nat.le_of_ble_eq_true rfl) (p_one _ _ h M hl hv) (fun v1 M1 q1 => ?_)
  obtain ⟨rfl, H1⟩ := lm_c H q1
  obtain ⟨-, hx1, -, hr1, hw1⟩ := id H1
  refine pr_seqT (pc' := 385) 11 rfl ⟨⟨⟨⟨⟨⟨⟨⟨⟨⟨⟨trivial, n172⟩, n0⟩, trivial⟩, trivial⟩, trivial⟩, w1⟩, n0⟩, trivial⟩, trivial⟩, trivial⟩, w2⟩ ?_
  simp only [hx1]
  refine pr_cvX [_, _] rfl rfl rfl rfl rfl (Nat.le_of_ble_eq_true rfl) hr1.1 (Nat.le_of_ble_eq_true rfl) (r_one _ _ h M1 hr1 hw1) (fun v2 M2 q2 => ?_)
  obtain ⟨rfl, H2⟩ := lm_r H1 q2
  exact pr_icT rfl (fun _ => nx _ _ H2) (fun q => (q rfl).elim)
set_option maxRecDepth 100000 in
theorem lc_listed {L k : Nat} {xs : Nat → Int32} {h : ab_H} {X : St} {Q : Option Value → ab_M → Prop} (M : ab_M) (hk : k + 5 ≤ L) (hL : L ≤ 2560) (H : lm L xs h X X M) (nx : lnx L k xs h Q) : pr_T pL_law 393 [some (.ref 2000000), some (.ref 1), some (.ref 172), some (.int (nI k))] [] h M Q := by
  obtain ⟨⟨k2, n2⟩, hx, ⟨b, hl, hv⟩, hr, hw⟩ := id H
  have w1 := lw_in (v := Int32.ofInt 1) hk hL k2 n2 (show 1 < 5 by decide) (by decide)
  have w2 := lw_in (v := Int32.ofInt 2) hk hL k2 n2 (show 2 < 5 by decide) (by decide)
  have n0 : (2000000 : Nat) ≠ 0 := by decide
  have n1 : (1 : Nat) ≠ 0 := by decide
  have n172 : (172 : Nat) ≠ 0 := by decide
  refine pr_seqT (pc' := 404) 11 rfl ⟨⟨⟨⟨⟨⟨⟨⟨⟨⟨⟨trivial, n1⟩, n0⟩, trivial⟩, trivial⟩, trivial⟩, w1⟩, n0⟩, trivial⟩, trivial⟩, trivial⟩, w2⟩ ?_
  simp only [hx]
  refine pr_cvX [_, _] rfl rfl rfl rfl rfl (Nat.le_of_ble_eq_true rfl) hl.1.1 (Nat.le_of_ble_eq_true rfl) (p_listed _ _ h M hl hv) (fun v1 M1 q1 => ?_)
  obtain ⟨rfl, H1⟩ := lm_c H q1
  obtain ⟨-, hx1, -, hr1, hw1⟩ := id H1
  refine pr_seqT (pc' := 418) 11 rfl ⟨⟨⟨⟨⟨⟨⟨⟨⟨⟨⟨trivial, n172⟩, n0⟩, trivial⟩, trivial⟩, trivial⟩, w1⟩, n0⟩, trivial⟩, trivial⟩, trivial⟩, w2⟩ ?_
  simp only [hx1]
  refine pr_cvX [_, _] rfl rfl rfl rfl rfl (Nat.le_of_ble_eq_true rfl) hr1.1 (Nat.le_of_ble_eq_true rfl) (r_listed _ _ h M1 hr1 hw1) (fun v2 M2 q2 => ?_)
  obtain ⟨rfl, H2⟩ := lm_r H1 q2
  exact pr_icT rfl (fun _ => nx _ _ H2) (fun q => (q rfl).elim)
set_option maxRecDepth 100000 in
theorem lc_letter {L k : Nat} {xs : Nat → Int32} {h : ab_H} {X : St} {Q : Option Value → ab_M → Prop} (M : ab_M) (hk : k + 5 ≤ L) (hL : L ≤ 2560) (H : lm L xs h X X M) (nx : lnx L k xs h Q) : pr_T pL_law 426 [some (.ref 2000000), some (.ref 1), some (.ref 172), some (.int (nI k))] [] h M Q := by
  obtain ⟨⟨k2, n2⟩, hx, ⟨b, hl, hv⟩, hr, hw⟩ := id H
  have w1 := lw_in (v := Int32.ofInt 1) hk hL k2 n2 (show 1 < 5 by decide) (by decide)
  have w2 := lw_in (v := Int32.ofInt 2) hk hL k2 n2 (show 2 < 5 by decide) (by decide)
  have n0 : (2000000 : Nat) ≠ 0 := by decide
  have n1 : (1 : Nat) ≠ 0 := by decide
  have n172 : (172 : Nat) ≠ 0 := by decide
  refine pr_seqT (pc' := 437) 11 rfl ⟨⟨⟨⟨⟨⟨⟨⟨⟨⟨⟨trivial, n1⟩, n0⟩, trivial⟩, trivial⟩, trivial⟩, w1⟩, n0⟩, trivial⟩, trivial⟩, trivial⟩, w2⟩ ?_
  simp only [hx]
  refine pr_cvX [_, _] rfl rfl rfl rfl rfl (Nat.le_of_ble_eq_true rfl) hl.1.1 (Nat.le_of_ble_eq_true rfl) (p_letter _ _ h M hl hv) (fun v1 M1 q1 => ?_)
  obtain ⟨rfl, H1⟩ := lm_c H q1
  obtain ⟨-, hx1, -, hr1, hw1⟩ := id H1
  refine pr_seqT (pc' := 451) 11 rfl ⟨⟨⟨⟨⟨⟨⟨⟨⟨⟨⟨trivial, n172⟩, n0⟩, trivial⟩, trivial⟩, trivial⟩, w1⟩, n0⟩, trivial⟩, trivial⟩, trivial⟩, w2⟩ ?_
  simp only [hx1]
  refine pr_cvX [_, _] rfl rfl rfl rfl rfl (Nat.le_of_ble_eq_true rfl) hr1.1 (Nat.le_of_ble_eq_true rfl) (r_letter _ _ h M1 hr1 hw1) (fun v2 M2 q2 => ?_)
  obtain ⟨rfl, H2⟩ := lm_r H1 q2
  exact pr_icT rfl (fun _ => nx _ _ H2) (fun q => (q rfl).elim)
set_option maxRecDepth 100000 in
theorem lc_law {L k : Nat} {xs : Nat → Int32} {h : ab_H} {X : St} {Q : Option Value → ab_M → Prop} (M : ab_M) (hk : k + 5 ≤ L) (hL : L ≤ 2560) (H : lm L xs h X X M) (nx : lnx L k xs h Q) : pr_T pL_law 459 [some (.ref 2000000), some (.ref 1), some (.ref 172), some (.int (nI k))] [] h M Q := by
  obtain ⟨⟨k2, n2⟩, hx, ⟨b, hl, hv⟩, hr, hw⟩ := id H
  have w1 := lw_in (v := Int32.ofInt 1) hk hL k2 n2 (show 1 < 5 by decide) (by decide)
  have n0 : (2000000 : Nat) ≠ 0 := by decide
  have n1 : (1 : Nat) ≠ 0 := by decide
  have n172 : (172 : Nat) ≠ 0 := by decide
  refine pr_seqT (pc' := 465) 6 rfl ⟨⟨⟨⟨⟨⟨trivial, n1⟩, n0⟩, trivial⟩, trivial⟩, trivial⟩, w1⟩ ?_
  simp only [hx]
  refine pr_cvX [_] rfl rfl rfl rfl rfl (Nat.le_of_ble_eq_true rfl) hl.1.1 (Nat.le_of_ble_eq_true rfl) (p_law _ h M hl hv) (fun v1 M1 q1 => ?_)
  obtain ⟨rfl, H1⟩ := lm_c H q1
  obtain ⟨-, hx1, -, hr1, hw1⟩ := id H1
  refine pr_seqT (pc' := 474) 6 rfl ⟨⟨⟨⟨⟨⟨trivial, n172⟩, n0⟩, trivial⟩, trivial⟩, trivial⟩, w1⟩ ?_
  simp only [hx1]
  refine pr_cvX [_] rfl rfl rfl rfl rfl (Nat.le_of_ble_eq_true rfl) hr1.1 (Nat.le_of_ble_eq_true rfl) (r_law _ h M1 hr1 hw1) (fun v2 M2 q2 => ?_)
  obtain ⟨rfl, H2⟩ := lm_r H1 q2
  exact pr_icT rfl (fun _ => nx _ _ H2) (fun q => (q rfl).elim)
set_option maxRecDepth 100000 in
theorem lc_fee {L k : Nat} {xs : Nat → Int32} {h : ab_H} {X : St} {Q : Option Value → ab_M → Prop} (M : ab_M) (hk : k + 5 ≤ L) (hL : L ≤ 2560) (H : lm L xs h X X M) (nx : lnx L k xs h Q) : pr_T pL_law 482 [some (.ref 2000000), some (.ref 1), some (.ref 172), some (.int (nI k))] [] h M Q := by
  obtain ⟨⟨k2, n2⟩, hx, ⟨b, hl, hv⟩, hr, hw⟩ := id H
  have w1 := lw_in (v := Int32.ofInt 1) hk hL k2 n2 (show 1 < 5 by decide) (by decide)
  have n0 : (2000000 : Nat) ≠ 0 := by decide
  have n1 : (1 : Nat) ≠ 0 := by decide
  have n172 : (172 : Nat) ≠ 0 := by decide
  refine pr_seqT (pc' := 488) 6 rfl ⟨⟨⟨⟨⟨⟨trivial, n1⟩, n0⟩, trivial⟩, trivial⟩, trivial⟩, w1⟩ ?_
  simp only [hx]
  refine pr_cvX [_] rfl rfl rfl rfl rfl (Nat.le_of_ble_eq_true rfl) hl.1.1 (Nat.le_of_ble_eq_true rfl) (p_fee _ h M hl hv) (fun v1 M1 q1 => ?_)
  obtain ⟨rfl, H1⟩ := lm_c H q1
  obtain ⟨-, hx1, -, hr1, hw1⟩ := id H1
  refine pr_seqT (pc' := 497) 6 rfl ⟨⟨⟨⟨⟨⟨trivial, n172⟩, n0⟩, trivial⟩, trivial⟩, trivial⟩, w1⟩ ?_
  simp only [hx1]
  refine pr_cvX [_] rfl rfl rfl rfl rfl (Nat.le_of_ble_eq_true rfl) hr1.1 (Nat.le_of_ble_eq_true rfl) (r_fee _ h M1 hr1 hw1) (fun v2 M2 q2 => ?_)
  obtain ⟨rfl, H2⟩ := lm_r H1 q2
  exact pr_icT rfl (fun _ => nx _ _ H2) (fun q => (q rfl).elim)
set_option maxRecDepth 100000 in
theorem lc_debt {L k : Nat} {xs : Nat → Int32} {h : ab_H} {X : St} {Q : Option Value → ab_M → Prop} (M : ab_M) (hk : k + 5 ≤ L) (hL : L ≤ 2560) (H : lm L xs h X X M) (nx : lnx L k xs h Q) : pr_T pL_law 505 [some (.ref 2000000), some (.ref 1), some (.ref 172), some (.int (nI k))] [] h M Q := by
  obtain ⟨⟨k2, n2⟩, hx, ⟨b, hl, hv⟩, hr, hw⟩ := id H
  have w1 := lw_in (v := Int32.ofInt 1) hk hL k2 n2 (show 1 < 5 by decide) (by decide)
  have w2 := lw_in (v := Int32.ofInt 2) hk hL k2 n2 (show 2 < 5 by decide) (by decide)
  have n0 : (2000000 : Nat) ≠ 0 := by decide
  have n1 : (1 : Nat) ≠ 0 := by decide
  have n172 : (172 : Nat) ≠ 0 := by decide
  refine pr_seqT (pc' := 516) 11 rfl ⟨⟨⟨⟨⟨⟨⟨⟨⟨⟨⟨trivial, n1⟩, n0⟩, trivial⟩, trivial⟩, trivial⟩, w1⟩, n0⟩, trivial⟩, trivial⟩, trivial⟩, w2⟩ ?_
  simp only [hx]
  refine pr_cvX [_, _] rfl rfl rfl rfl rfl (Nat.le_of_ble_eq_true rfl) hl.1.1 (Nat.le_of_ble_eq_true rfl) (p_debt _ _ h M hl hv) (fun v1 M1 q1 => ?_)
  obtain ⟨rfl, H1⟩ := lm_c H q1
  obtain ⟨-, hx1, -, hr1, hw1⟩ := id H1
  refine pr_seqT (pc' := 530) 11 rfl ⟨⟨⟨⟨⟨⟨⟨⟨⟨⟨⟨trivial, n172⟩, n0⟩, trivial⟩, trivial⟩, trivial⟩, w1⟩, n0⟩, trivial⟩, trivial⟩, trivial⟩, w2⟩ ?_
  simp only [hx1]
  refine pr_cvX [_, _] rfl rfl rfl rfl rfl (Nat.le_of_ble_eq_true rfl) hr1.1 (Nat.le_of_ble_eq_true rfl) (r_debt _ _ h M1 hr1 hw1) (fun v2 M2 q2 => ?_)
  obtain ⟨rfl, H2⟩ := lm_r H1 q2
  exact pr_icT rfl (fun _ => nx _ _ H2) (fun q => (q rfl).elim)
set_option maxRecDepth 100000 in
theorem lc_wealth {L k : Nat} {xs : Nat → Int32} {h : ab_H} {X : St} {Q : Option Value → ab_M → Prop} (M : ab_M) (hk : k + 5 ≤ L) (hL : L ≤ 2560) (H : lm L xs h X X M) (nx : lnx L k xs h Q) : pr_T pL_law 538 [some (.ref 2000000), some (.ref 1), some (.ref 172), some (.int (nI k))] [] h M Q := by
  obtain ⟨⟨k2, n2⟩, hx, ⟨b, hl, hv⟩, hr, hw⟩ := id H
  have w1 := lw_in (v := Int32.ofInt 1) hk hL k2 n2 (show 1 < 5 by decide) (by decide)
  have w2 := lw_in (v := Int32.ofInt 2) hk hL k2 n2 (show 2 < 5 by decide) (by decide)
  have n0 : (2000000 : Nat) ≠ 0 := by decide
  have n1 : (1 : Nat) ≠ 0 := by decide
  have n172 : (172 : Nat) ≠ 0 := by decide
  refine pr_seqT (pc' := 549) 11 rfl ⟨⟨⟨⟨⟨⟨⟨⟨⟨⟨⟨trivial, n1⟩, n0⟩, trivial⟩, trivial⟩, trivial⟩, w1⟩, n0⟩, trivial⟩, trivial⟩, trivial⟩, w2⟩ ?_
  simp only [hx]
  refine pr_cvX [_, _] rfl rfl rfl rfl rfl (Nat.le_of_ble_eq_true rfl) hl.1.1 (Nat.le_of_ble_eq_true rfl) (p_wealth _ _ h M hl hv) (fun v1 M1 q1 => ?_)
  obtain ⟨rfl, H1⟩ := lm_c H q1
  obtain ⟨-, hx1, -, hr1, hw1⟩ := id H1
  refine pr_seqT (pc' := 563) 11 rfl ⟨⟨⟨⟨⟨⟨⟨⟨⟨⟨⟨trivial, n172⟩, n0⟩, trivial⟩, trivial⟩, trivial⟩, w1⟩, n0⟩, trivial⟩, trivial⟩, trivial⟩, w2⟩ ?_
  simp only [hx1]
  refine pr_cvX [_, _] rfl rfl rfl rfl rfl (Nat.le_of_ble_eq_true rfl) hr1.1 (Nat.le_of_ble_eq_true rfl) (r_wealth _ _ h M1 hr1 hw1) (fun v2 M2 q2 => ?_)
  obtain ⟨rfl, H2⟩ := lm_r H1 q2
  exact pr_icT rfl (fun _ => nx _ _ H2) (fun q => (q rfl).elim)
set_option maxRecDepth 100000 in
theorem lc_become {L k : Nat} {xs : Nat → Int32} {h : ab_H} {X : St} {Q : Option Value → ab_M → Prop} (M : ab_M) (hk : k + 5 ≤ L) (hL : L ≤ 2560) (H : lm L xs h X X M) (nx : lnx L k xs h Q) : pr_T pL_law 571 [some (.ref 2000000), some (.ref 1), some (.ref 172), some (.int (nI k))] [] h M Q := by
  obtain ⟨⟨k2, n2⟩, hx, ⟨b, hl, hv⟩, hr, hw⟩ := id H
  have w1 := lw_in (v := Int32.ofInt 1) hk hL k2 n2 (show 1 < 5 by decide) (by decide)
  have w2 := lw_in (v := Int32.ofInt 2) hk hL k2 n2 (show 2 < 5 by decide) (by decide)
  have n0 : (2000000 : Nat) ≠ 0 := by decide
  have n1 : (1 : Nat) ≠ 0 := by decide
  have n172 : (172 : Nat) ≠ 0 := by decide
  refine pr_seqT (pc' := 582) 11 rfl ⟨⟨⟨⟨⟨⟨⟨⟨⟨⟨⟨trivial, n1⟩, n0⟩, trivial⟩, trivial⟩, trivial⟩, w1⟩, n0⟩, trivial⟩, trivial⟩, trivial⟩, w2⟩ ?_
  simp only [hx]
  refine pr_cvX [_, _] rfl rfl rfl rfl rfl (Nat.le_of_ble_eq_true rfl) hl.1.1 (Nat.le_of_ble_eq_true rfl) (p_become _ _ h M hl hv) (fun v1 M1 q1 => ?_)
  obtain ⟨rfl, H1⟩ := lm_c H q1
  obtain ⟨-, hx1, -, hr1, hw1⟩ := id H1
  refine pr_seqT (pc' := 596) 11 rfl ⟨⟨⟨⟨⟨⟨⟨⟨⟨⟨⟨trivial, n172⟩, n0⟩, trivial⟩, trivial⟩, trivial⟩, w1⟩, n0⟩, trivial⟩, trivial⟩, trivial⟩, w2⟩ ?_
  simp only [hx1]
  refine pr_cvX [_, _] rfl rfl rfl rfl rfl (Nat.le_of_ble_eq_true rfl) hr1.1 (Nat.le_of_ble_eq_true rfl) (r_become _ _ h M1 hr1 hw1) (fun v2 M2 q2 => ?_)
  obtain ⟨rfl, H2⟩ := lm_r H1 q2
  exact pr_icT rfl (fun _ => nx _ _ H2) (fun q => (q rfl).elim)
set_option maxRecDepth 100000 in
theorem lc_bear {L k : Nat} {xs : Nat → Int32} {h : ab_H} {X : St} {Q : Option Value → ab_M → Prop} (M : ab_M) (hk : k + 5 ≤ L) (hL : L ≤ 2560) (H : lm L xs h X X M) (nx : lnx L k xs h Q) : pr_T pL_law 604 [some (.ref 2000000), some (.ref 1), some (.ref 172), some (.int (nI k))] [] h M Q := by
  obtain ⟨⟨k2, n2⟩, hx, ⟨b, hl, hv⟩, hr, hw⟩ := id H
  have w1 := lw_in (v := Int32.ofInt 1) hk hL k2 n2 (show 1 < 5 by decide) (by decide)
  have n0 : (2000000 : Nat) ≠ 0 := by decide
  have n1 : (1 : Nat) ≠ 0 := by decide
  have n172 : (172 : Nat) ≠ 0 := by decide
  refine pr_seqT (pc' := 610) 6 rfl ⟨⟨⟨⟨⟨⟨trivial, n1⟩, n0⟩, trivial⟩, trivial⟩, trivial⟩, w1⟩ ?_
  simp only [hx]
  refine pr_cvX [_] rfl rfl rfl rfl rfl (Nat.le_of_ble_eq_true rfl) hl.1.1 (Nat.le_of_ble_eq_true rfl) (p_bear _ h M hl hv) (fun v1 M1 q1 => ?_)
  obtain ⟨rfl, H1⟩ := lm_c H q1
  obtain ⟨-, hx1, -, hr1, hw1⟩ := id H1
  refine pr_seqT (pc' := 619) 6 rfl ⟨⟨⟨⟨⟨⟨trivial, n172⟩, n0⟩, trivial⟩, trivial⟩, trivial⟩, w1⟩ ?_
  simp only [hx1]
  refine pr_cvX [_] rfl rfl rfl rfl rfl (Nat.le_of_ble_eq_true rfl) hr1.1 (Nat.le_of_ble_eq_true rfl) (r_bear _ h M1 hr1 hw1) (fun v2 M2 q2 => ?_)
  obtain ⟨rfl, H2⟩ := lm_r H1 q2
  exact pr_icT rfl (fun _ => nx _ _ H2) (fun q => (q rfl).elim)
set_option maxRecDepth 100000 in
theorem lc_wed {L k : Nat} {xs : Nat → Int32} {h : ab_H} {X : St} {Q : Option Value → ab_M → Prop} (M : ab_M) (hk : k + 5 ≤ L) (hL : L ≤ 2560) (H : lm L xs h X X M) (nx : lnx L k xs h Q) : pr_T pL_law 627 [some (.ref 2000000), some (.ref 1), some (.ref 172), some (.int (nI k))] [] h M Q := by
  obtain ⟨⟨k2, n2⟩, hx, ⟨b, hl, hv⟩, hr, hw⟩ := id H
  have w1 := lw_in (v := Int32.ofInt 1) hk hL k2 n2 (show 1 < 5 by decide) (by decide)
  have w2 := lw_in (v := Int32.ofInt 2) hk hL k2 n2 (show 2 < 5 by decide) (by decide)
  have n0 : (2000000 : Nat) ≠ 0 := by decide
  have n1 : (1 : Nat) ≠ 0 := by decide
  have n172 : (172 : Nat) ≠ 0 := by decide
  refine pr_seqT (pc' := 638) 11 rfl ⟨⟨⟨⟨⟨⟨⟨⟨⟨⟨⟨trivial, n1⟩, n0⟩, trivial⟩, trivial⟩, trivial⟩, w1⟩, n0⟩, trivial⟩, trivial⟩, trivial⟩, w2⟩ ?_
  simp only [hx]
  refine pr_cvX [_, _] rfl rfl rfl rfl rfl (Nat.le_of_ble_eq_true rfl) hl.1.1 (Nat.le_of_ble_eq_true rfl) (p_wed _ _ h M hl hv) (fun v1 M1 q1 => ?_)
  obtain ⟨rfl, H1⟩ := lm_c H q1
  obtain ⟨-, hx1, -, hr1, hw1⟩ := id H1
  refine pr_seqT (pc' := 652) 11 rfl ⟨⟨⟨⟨⟨⟨⟨⟨⟨⟨⟨trivial, n172⟩, n0⟩, trivial⟩, trivial⟩, trivial⟩, w1⟩, n0⟩, trivial⟩, trivial⟩, trivial⟩, w2⟩ ?_
  simp only [hx1]
  refine pr_cvX [_, _] rfl rfl rfl rfl rfl (Nat.le_of_ble_eq_true rfl) hr1.1 (Nat.le_of_ble_eq_true rfl) (r_wed _ _ h M1 hr1 hw1) (fun v2 M2 q2 => ?_)
  obtain ⟨rfl, H2⟩ := lm_r H1 q2
  exact pr_icT rfl (fun _ => nx _ _ H2) (fun q => (q rfl).elim)
set_option maxRecDepth 100000 in
theorem lc_sum {L k : Nat} {xs : Nat → Int32} {h : ab_H} {X : St} {Q : Option Value → ab_M → Prop} (M : ab_M) (hk : k + 5 ≤ L) (hL : L ≤ 2560) (H : lm L xs h X X M) (nx : lnx L k xs h Q) : pr_T pL_law 660 [some (.ref 2000000), some (.ref 1), some (.ref 172), some (.int (nI k))] [] h M Q := by
  obtain ⟨⟨k2, n2⟩, hx, ⟨b, hl, hv⟩, hr, hw⟩ := id H
  have w1 := lw_in (v := Int32.ofInt 1) hk hL k2 n2 (show 1 < 5 by decide) (by decide)
  have n0 : (2000000 : Nat) ≠ 0 := by decide
  have n1 : (1 : Nat) ≠ 0 := by decide
  have n172 : (172 : Nat) ≠ 0 := by decide
  refine pr_seqT (pc' := 666) 6 rfl ⟨⟨⟨⟨⟨⟨trivial, n1⟩, n0⟩, trivial⟩, trivial⟩, trivial⟩, w1⟩ ?_
  simp only [hx]
  refine pr_cvX [_] rfl rfl rfl rfl rfl (Nat.le_of_ble_eq_true rfl) hl.1.1 (Nat.le_of_ble_eq_true rfl) (p_sum _ h M hl hv) (fun v1 M1 q1 => ?_)
  obtain ⟨rfl, H1⟩ := lm_c H q1
  obtain ⟨-, hx1, -, hr1, hw1⟩ := id H1
  refine pr_seqT (pc' := 675) 6 rfl ⟨⟨⟨⟨⟨⟨trivial, n172⟩, n0⟩, trivial⟩, trivial⟩, trivial⟩, w1⟩ ?_
  simp only [hx1]
  refine pr_cvX [_] rfl rfl rfl rfl rfl (Nat.le_of_ble_eq_true rfl) hr1.1 (Nat.le_of_ble_eq_true rfl) (r_sum _ h M1 hr1 hw1) (fun v2 M2 q2 => ?_)
  obtain ⟨rfl, H2⟩ := lm_r H1 q2
  exact pr_icT rfl (fun _ => nx _ _ H2) (fun q => (q rfl).elim)
set_option maxRecDepth 100000 in
theorem lc_person {L k : Nat} {xs : Nat → Int32} {h : ab_H} {X : St} {Q : Option Value → ab_M → Prop} (M : ab_M) (hk : k + 5 ≤ L) (hL : L ≤ 2560) (H : lm L xs h X X M) (nx : lnx L k xs h Q) : pr_T pL_law 683 [some (.ref 2000000), some (.ref 1), some (.ref 172), some (.int (nI k))] [] h M Q := by
  obtain ⟨⟨k2, n2⟩, hx, ⟨b, hl, hv⟩, hr, hw⟩ := id H
  have w1 := lw_in (v := Int32.ofInt 1) hk hL k2 n2 (show 1 < 5 by decide) (by decide)
  have n0 : (2000000 : Nat) ≠ 0 := by decide
  have n1 : (1 : Nat) ≠ 0 := by decide
  have n172 : (172 : Nat) ≠ 0 := by decide
  refine pr_seqT (pc' := 689) 6 rfl ⟨⟨⟨⟨⟨⟨trivial, n1⟩, n0⟩, trivial⟩, trivial⟩, trivial⟩, w1⟩ ?_
  simp only [hx]
  refine pr_cvX [_] rfl rfl rfl rfl rfl (Nat.le_of_ble_eq_true rfl) hl.1.1 (Nat.le_of_ble_eq_true rfl) (p_person _ h M hl hv) (fun v1 M1 q1 => ?_)
  obtain ⟨rfl, H1⟩ := lm_c H q1
  obtain ⟨-, hx1, -, hr1, hw1⟩ := id H1
  refine pr_seqT (pc' := 698) 6 rfl ⟨⟨⟨⟨⟨⟨trivial, n172⟩, n0⟩, trivial⟩, trivial⟩, trivial⟩, w1⟩ ?_
  simp only [hx1]
  refine pr_cvX [_] rfl rfl rfl rfl rfl (Nat.le_of_ble_eq_true rfl) hr1.1 (Nat.le_of_ble_eq_true rfl) (r_person _ h M1 hr1 hw1) (fun v2 M2 q2 => ?_)
  obtain ⟨rfl, H2⟩ := lm_r H1 q2
  exact pr_icT rfl (fun _ => nx _ _ H2) (fun q => (q rfl).elim)
set_option maxRecDepth 100000 in
theorem lc_persons {L k : Nat} {xs : Nat → Int32} {h : ab_H} {X : St} {Q : Option Value → ab_M → Prop} (M : ab_M) (hk : k + 5 ≤ L) (hL : L ≤ 2560) (H : lm L xs h X X M) (nx : lnx L k xs h Q) : pr_T pL_law 706 [some (.ref 2000000), some (.ref 1), some (.ref 172), some (.int (nI k))] [] h M Q := by
  obtain ⟨⟨k2, n2⟩, hx, ⟨b, hl, hv⟩, hr, hw⟩ := id H
  have n1 : (1 : Nat) ≠ 0 := by decide
  have n172 : (172 : Nat) ≠ 0 := by decide
  refine pr_seqT (pc' := 707) 1 rfl ⟨trivial, n1⟩ ?_
  refine pr_cvX [] rfl rfl rfl rfl rfl (Nat.le_of_ble_eq_true rfl) hl.1.1 (Nat.le_of_ble_eq_true rfl) (p_persons  h M hl hv) (fun v1 M1 q1 => ?_)
  obtain ⟨rfl, H1⟩ := lm_c H q1
  obtain ⟨-, hx1, -, hr1, hw1⟩ := id H1
  refine pr_seqT (pc' := 711) 1 rfl ⟨trivial, n172⟩ ?_
  refine pr_cvX [] rfl rfl rfl rfl rfl (Nat.le_of_ble_eq_true rfl) hr1.1 (Nat.le_of_ble_eq_true rfl) (r_persons  h M1 hr1 hw1) (fun v2 M2 q2 => ?_)
  obtain ⟨rfl, H2⟩ := lm_r H1 q2
  exact pr_icT rfl (fun _ => nx _ _ H2) (fun q => (q rfl).elim)
set_option maxRecDepth 100000 in
theorem lc_lone {L k : Nat} {xs : Nat → Int32} {h : ab_H} {X : St} {Q : Option Value → ab_M → Prop} (M : ab_M) (hk : k + 5 ≤ L) (hL : L ≤ 2560) (H : lm L xs h X X M) (nx : lnx L k xs h Q) : pr_T pL_law 719 [some (.ref 2000000), some (.ref 1), some (.ref 172), some (.int (nI k))] [] h M Q := by
  obtain ⟨⟨k2, n2⟩, hx, ⟨b, hl, hv⟩, hr, hw⟩ := id H
  have n1 : (1 : Nat) ≠ 0 := by decide
  have n172 : (172 : Nat) ≠ 0 := by decide
  refine pr_seqT (pc' := 720) 1 rfl ⟨trivial, n1⟩ ?_
  refine pr_cvX [] rfl rfl rfl rfl rfl (Nat.le_of_ble_eq_true rfl) hl.1.1 (Nat.le_of_ble_eq_true rfl) (p_lone  h M hl hv) (fun v1 M1 q1 => ?_)
  obtain ⟨rfl, H1⟩ := lm_c H q1
  obtain ⟨-, hx1, -, hr1, hw1⟩ := id H1
  refine pr_seqT (pc' := 724) 1 rfl ⟨trivial, n172⟩ ?_
  refine pr_cvX [] rfl rfl rfl rfl rfl (Nat.le_of_ble_eq_true rfl) hr1.1 (Nat.le_of_ble_eq_true rfl) (r_lone  h M1 hr1 hw1) (fun v2 M2 q2 => ?_)
  obtain ⟨rfl, H2⟩ := lm_r H1 q2
  exact pr_icT rfl (fun _ => nx _ _ H2) (fun q => (q rfl).elim)
set_option maxRecDepth 100000 in
theorem lc_owes {L k : Nat} {xs : Nat → Int32} {h : ab_H} {X : St} {Q : Option Value → ab_M → Prop} (M : ab_M) (hk : k + 5 ≤ L) (hL : L ≤ 2560) (H : lm L xs h X X M) (nx : lnx L k xs h Q) : pr_T pL_law 732 [some (.ref 2000000), some (.ref 1), some (.ref 172), some (.int (nI k))] [] h M Q := by
  obtain ⟨⟨k2, n2⟩, hx, ⟨b, hl, hv⟩, hr, hw⟩ := id H
  have w1 := lw_in (v := Int32.ofInt 1) hk hL k2 n2 (show 1 < 5 by decide) (by decide)
  have n0 : (2000000 : Nat) ≠ 0 := by decide
  have n1 : (1 : Nat) ≠ 0 := by decide
  have n172 : (172 : Nat) ≠ 0 := by decide
  refine pr_seqT (pc' := 738) 6 rfl ⟨⟨⟨⟨⟨⟨trivial, n1⟩, n0⟩, trivial⟩, trivial⟩, trivial⟩, w1⟩ ?_
  simp only [hx]
  refine pr_cvX [_] rfl rfl rfl rfl rfl (Nat.le_of_ble_eq_true rfl) hl.1.1 (Nat.le_of_ble_eq_true rfl) (p_owes _ h M hl hv) (fun v1 M1 q1 => ?_)
  obtain ⟨rfl, H1⟩ := lm_c H q1
  obtain ⟨-, hx1, -, hr1, hw1⟩ := id H1
  refine pr_seqT (pc' := 747) 6 rfl ⟨⟨⟨⟨⟨⟨trivial, n172⟩, n0⟩, trivial⟩, trivial⟩, trivial⟩, w1⟩ ?_
  simp only [hx1]
  refine pr_cvX [_] rfl rfl rfl rfl rfl (Nat.le_of_ble_eq_true rfl) hr1.1 (Nat.le_of_ble_eq_true rfl) (r_owes _ h M1 hr1 hw1) (fun v2 M2 q2 => ?_)
  obtain ⟨rfl, H2⟩ := lm_r H1 q2
  exact pr_icT rfl (fun _ => nx _ _ H2) (fun q => (q rfl).elim)
set_option maxRecDepth 100000 in
theorem lc_has {L k : Nat} {xs : Nat → Int32} {h : ab_H} {X : St} {Q : Option Value → ab_M → Prop} (M : ab_M) (hk : k + 5 ≤ L) (hL : L ≤ 2560) (H : lm L xs h X X M) (nx : lnx L k xs h Q) : pr_T pL_law 755 [some (.ref 2000000), some (.ref 1), some (.ref 172), some (.int (nI k))] [] h M Q := by
  obtain ⟨⟨k2, n2⟩, hx, ⟨b, hl, hv⟩, hr, hw⟩ := id H
  have w1 := lw_in (v := Int32.ofInt 1) hk hL k2 n2 (show 1 < 5 by decide) (by decide)
  have n0 : (2000000 : Nat) ≠ 0 := by decide
  have n1 : (1 : Nat) ≠ 0 := by decide
  have n172 : (172 : Nat) ≠ 0 := by decide
  refine pr_seqT (pc' := 761) 6 rfl ⟨⟨⟨⟨⟨⟨trivial, n1⟩, n0⟩, trivial⟩, trivial⟩, trivial⟩, w1⟩ ?_
  simp only [hx]
  refine pr_cvX [_] rfl rfl rfl rfl rfl (Nat.le_of_ble_eq_true rfl) hl.1.1 (Nat.le_of_ble_eq_true rfl) (p_has _ h M hl hv) (fun v1 M1 q1 => ?_)
  obtain ⟨rfl, H1⟩ := lm_c H q1
  obtain ⟨-, hx1, -, hr1, hw1⟩ := id H1
  refine pr_seqT (pc' := 770) 6 rfl ⟨⟨⟨⟨⟨⟨trivial, n172⟩, n0⟩, trivial⟩, trivial⟩, trivial⟩, w1⟩ ?_
  simp only [hx1]
  refine pr_cvX [_] rfl rfl rfl rfl rfl (Nat.le_of_ble_eq_true rfl) hr1.1 (Nat.le_of_ble_eq_true rfl) (r_has _ h M1 hr1 hw1) (fun v2 M2 q2 => ?_)
  obtain ⟨rfl, H2⟩ := lm_r H1 q2
  exact pr_icT rfl (fun _ => nx _ _ H2) (fun q => (q rfl).elim)
set_option maxRecDepth 100000 in
theorem lc_votes {L k : Nat} {xs : Nat → Int32} {h : ab_H} {X : St} {Q : Option Value → ab_M → Prop} (M : ab_M) (hk : k + 5 ≤ L) (hL : L ≤ 2560) (H : lm L xs h X X M) (nx : lnx L k xs h Q) : pr_T pL_law 778 [some (.ref 2000000), some (.ref 1), some (.ref 172), some (.int (nI k))] [] h M Q := by
  obtain ⟨⟨k2, n2⟩, hx, ⟨b, hl, hv⟩, hr, hw⟩ := id H
  have n1 : (1 : Nat) ≠ 0 := by decide
  have n172 : (172 : Nat) ≠ 0 := by decide
  refine pr_seqT (pc' := 779) 1 rfl ⟨trivial, n1⟩ ?_
  refine pr_cvX [] rfl rfl rfl rfl rfl (Nat.le_of_ble_eq_true rfl) hl.1.1 (Nat.le_of_ble_eq_true rfl) (p_votes  h M hl hv) (fun v1 M1 q1 => ?_)
  obtain ⟨rfl, H1⟩ := lm_c H q1
  obtain ⟨-, hx1, -, hr1, hw1⟩ := id H1
  refine pr_seqT (pc' := 783) 1 rfl ⟨trivial, n172⟩ ?_
  refine pr_cvX [] rfl rfl rfl rfl rfl (Nat.le_of_ble_eq_true rfl) hr1.1 (Nat.le_of_ble_eq_true rfl) (r_votes  h M1 hr1 hw1) (fun v2 M2 q2 => ?_)
  obtain ⟨rfl, H2⟩ := lm_r H1 q2
  exact pr_icT rfl (fun _ => nx _ _ H2) (fun q => (q rfl).elim)
set_option maxRecDepth 100000 in
theorem lc_heirs {L k : Nat} {xs : Nat → Int32} {h : ab_H} {X : St} {Q : Option Value → ab_M → Prop} (M : ab_M) (hk : k + 5 ≤ L) (hL : L ≤ 2560) (H : lm L xs h X X M) (nx : lnx L k xs h Q) : pr_T pL_law 791 [some (.ref 2000000), some (.ref 1), some (.ref 172), some (.int (nI k))] [] h M Q := by
  obtain ⟨⟨k2, n2⟩, hx, ⟨b, hl, hv⟩, hr, hw⟩ := id H
  have w1 := lw_in (v := Int32.ofInt 1) hk hL k2 n2 (show 1 < 5 by decide) (by decide)
  have n0 : (2000000 : Nat) ≠ 0 := by decide
  have n1 : (1 : Nat) ≠ 0 := by decide
  have n172 : (172 : Nat) ≠ 0 := by decide
  refine pr_seqT (pc' := 797) 6 rfl ⟨⟨⟨⟨⟨⟨trivial, n1⟩, n0⟩, trivial⟩, trivial⟩, trivial⟩, w1⟩ ?_
  simp only [hx]
  refine pr_cvX [_] rfl rfl rfl rfl rfl (Nat.le_of_ble_eq_true rfl) hl.1.1 (Nat.le_of_ble_eq_true rfl) (p_heirs _ h M hl hv) (fun v1 M1 q1 => ?_)
  obtain ⟨rfl, H1⟩ := lm_c H q1
  obtain ⟨-, hx1, -, hr1, hw1⟩ := id H1
  refine pr_seqT (pc' := 806) 6 rfl ⟨⟨⟨⟨⟨⟨trivial, n172⟩, n0⟩, trivial⟩, trivial⟩, trivial⟩, w1⟩ ?_
  simp only [hx1]
  refine pr_cvX [_] rfl rfl rfl rfl rfl (Nat.le_of_ble_eq_true rfl) hr1.1 (Nat.le_of_ble_eq_true rfl) (r_heirs _ h M1 hr1 hw1) (fun v2 M2 q2 => ?_)
  obtain ⟨rfl, H2⟩ := lm_r H1 q2
  exact pr_icT rfl (fun _ => nx _ _ H2) (fun q => (q rfl).elim)
set_option maxRecDepth 100000 in
theorem lc_change {L k : Nat} {xs : Nat → Int32} {h : ab_H} {X : St} {Q : Option Value → ab_M → Prop} (M : ab_M) (hk : k + 5 ≤ L) (hL : L ≤ 2560) (H : lm L xs h X X M) (nx : lnx L k xs h Q) : pr_T pL_law 814 [some (.ref 2000000), some (.ref 1), some (.ref 172), some (.int (nI k))] [] h M Q := by
  obtain ⟨⟨k2, n2⟩, hx, ⟨b, hl, hv⟩, hr, hw⟩ := id H
  have w1 := lw_in (v := Int32.ofInt 1) hk hL k2 n2 (show 1 < 5 by decide) (by decide)
  have w2 := lw_in (v := Int32.ofInt 2) hk hL k2 n2 (show 2 < 5 by decide) (by decide)
  have w3 := lw_in (v := Int32.ofInt 3) hk hL k2 n2 (show 3 < 5 by decide) (by decide)
  have n0 : (2000000 : Nat) ≠ 0 := by decide
  have n1 : (1 : Nat) ≠ 0 := by decide
  have n172 : (172 : Nat) ≠ 0 := by decide
  refine pr_seqT (pc' := 830) 16 rfl ⟨⟨⟨⟨⟨⟨⟨⟨⟨⟨⟨⟨⟨⟨⟨⟨trivial, n1⟩, n0⟩, trivial⟩, trivial⟩, trivial⟩, w1⟩, n0⟩, trivial⟩, trivial⟩, trivial⟩, w2⟩, n0⟩, trivial⟩, trivial⟩, trivial⟩, w3⟩ ?_
  simp only [hx]
  refine pr_cvX [_, _, _] rfl rfl rfl rfl rfl (Nat.le_of_ble_eq_true rfl) hl.1.1 (Nat.le_of_ble_eq_true rfl) (p_change _ _ _ h M hl hv) (fun v1 M1 q1 => ?_)
  obtain ⟨rfl, H1⟩ := lm_c H q1
  obtain ⟨-, hx1, -, hr1, hw1⟩ := id H1
  refine pr_seqT (pc' := 849) 16 rfl ⟨⟨⟨⟨⟨⟨⟨⟨⟨⟨⟨⟨⟨⟨⟨⟨trivial, n172⟩, n0⟩, trivial⟩, trivial⟩, trivial⟩, w1⟩, n0⟩, trivial⟩, trivial⟩, trivial⟩, w2⟩, n0⟩, trivial⟩, trivial⟩, trivial⟩, w3⟩ ?_
  simp only [hx1]
  refine pr_cvX [_, _, _] rfl rfl rfl rfl rfl (Nat.le_of_ble_eq_true rfl) hr1.1 (Nat.le_of_ble_eq_true rfl) (r_change _ _ _ h M1 hr1 hw1) (fun v2 M2 q2 => ?_)
  obtain ⟨rfl, H2⟩ := lm_r H1 q2
  exact pr_icT rfl (fun _ => nx _ _ H2) (fun q => (q rfl).elim)
set_option maxRecDepth 100000 in
theorem lc_rid {L k : Nat} {xs : Nat → Int32} {h : ab_H} {X : St} {Q : Option Value → ab_M → Prop} (M : ab_M) (hk : k + 5 ≤ L) (hL : L ≤ 2560) (H : lm L xs h X X M) (nx : lnx L k xs h Q) : pr_T pL_law 857 [some (.ref 2000000), some (.ref 1), some (.ref 172), some (.int (nI k))] [] h M Q := by
  obtain ⟨⟨k2, n2⟩, hx, ⟨b, hl, hv⟩, hr, hw⟩ := id H
  have w1 := lw_in (v := Int32.ofInt 1) hk hL k2 n2 (show 1 < 5 by decide) (by decide)
  have w2 := lw_in (v := Int32.ofInt 2) hk hL k2 n2 (show 2 < 5 by decide) (by decide)
  have n0 : (2000000 : Nat) ≠ 0 := by decide
  have n1 : (1 : Nat) ≠ 0 := by decide
  have n172 : (172 : Nat) ≠ 0 := by decide
  refine pr_seqT (pc' := 868) 11 rfl ⟨⟨⟨⟨⟨⟨⟨⟨⟨⟨⟨trivial, n1⟩, n0⟩, trivial⟩, trivial⟩, trivial⟩, w1⟩, n0⟩, trivial⟩, trivial⟩, trivial⟩, w2⟩ ?_
  simp only [hx]
  refine pr_cvX [_, _] rfl rfl rfl rfl rfl (Nat.le_of_ble_eq_true rfl) hl.1.1 (Nat.le_of_ble_eq_true rfl) (p_rid _ _ h M hl hv) (fun v1 M1 q1 => ?_)
  obtain ⟨rfl, H1⟩ := lm_c H q1
  obtain ⟨-, hx1, -, hr1, hw1⟩ := id H1
  refine pr_seqT (pc' := 882) 11 rfl ⟨⟨⟨⟨⟨⟨⟨⟨⟨⟨⟨trivial, n172⟩, n0⟩, trivial⟩, trivial⟩, trivial⟩, w1⟩, n0⟩, trivial⟩, trivial⟩, trivial⟩, w2⟩ ?_
  simp only [hx1]
  refine pr_cvX [_, _] rfl rfl rfl rfl rfl (Nat.le_of_ble_eq_true rfl) hr1.1 (Nat.le_of_ble_eq_true rfl) (r_rid _ _ h M1 hr1 hw1) (fun v2 M2 q2 => ?_)
  obtain ⟨rfl, H2⟩ := lm_r H1 q2
  exact pr_icT rfl (fun _ => nx _ _ H2) (fun q => (q rfl).elim)
set_option maxRecDepth 100000 in
theorem lc_call {L k : Nat} {xs : Nat → Int32} {h : ab_H} {X : St} {Q : Option Value → ab_M → Prop} (M : ab_M) (hk : k + 5 ≤ L) (hL : L ≤ 2560) (H : lm L xs h X X M) (nx : lnx L k xs h Q) : pr_T pL_law 890 [some (.ref 2000000), some (.ref 1), some (.ref 172), some (.int (nI k))] [] h M Q := by
  obtain ⟨⟨k2, n2⟩, hx, ⟨b, hl, hv⟩, hr, hw⟩ := id H
  have w1 := lw_in (v := Int32.ofInt 1) hk hL k2 n2 (show 1 < 5 by decide) (by decide)
  have n0 : (2000000 : Nat) ≠ 0 := by decide
  have n1 : (1 : Nat) ≠ 0 := by decide
  have n172 : (172 : Nat) ≠ 0 := by decide
  refine pr_seqT (pc' := 896) 6 rfl ⟨⟨⟨⟨⟨⟨trivial, n1⟩, n0⟩, trivial⟩, trivial⟩, trivial⟩, w1⟩ ?_
  simp only [hx]
  refine pr_cvX [_] rfl rfl rfl rfl rfl (Nat.le_of_ble_eq_true rfl) hl.1.1 (Nat.le_of_ble_eq_true rfl) (p_call _ h M hl hv) (fun v1 M1 q1 => ?_)
  obtain ⟨rfl, H1⟩ := lm_c H q1
  obtain ⟨-, hx1, -, hr1, hw1⟩ := id H1
  refine pr_seqT (pc' := 905) 6 rfl ⟨⟨⟨⟨⟨⟨trivial, n172⟩, n0⟩, trivial⟩, trivial⟩, trivial⟩, w1⟩ ?_
  simp only [hx1]
  refine pr_cvX [_] rfl rfl rfl rfl rfl (Nat.le_of_ble_eq_true rfl) hr1.1 (Nat.le_of_ble_eq_true rfl) (r_call _ h M1 hr1 hw1) (fun v2 M2 q2 => ?_)
  obtain ⟨rfl, H2⟩ := lm_r H1 q2
  exact pr_icT rfl (fun _ => nx _ _ H2) (fun q => (q rfl).elim)
set_option maxRecDepth 100000 in
theorem lc_match {L k : Nat} {xs : Nat → Int32} {h : ab_H} {X : St} {Q : Option Value → ab_M → Prop} (M : ab_M) (hk : k + 5 ≤ L) (hL : L ≤ 2560) (H : lm L xs h X X M) (nx : lnx L k xs h Q) : pr_T pL_law 913 [some (.ref 2000000), some (.ref 1), some (.ref 172), some (.int (nI k))] [] h M Q := by
  obtain ⟨⟨k2, n2⟩, hx, ⟨b, hl, hv⟩, hr, hw⟩ := id H
  have w1 := lw_in (v := Int32.ofInt 1) hk hL k2 n2 (show 1 < 5 by decide) (by decide)
  have n0 : (2000000 : Nat) ≠ 0 := by decide
  have n1 : (1 : Nat) ≠ 0 := by decide
  have n172 : (172 : Nat) ≠ 0 := by decide
  refine pr_seqT (pc' := 919) 6 rfl ⟨⟨⟨⟨⟨⟨trivial, n1⟩, n0⟩, trivial⟩, trivial⟩, trivial⟩, w1⟩ ?_
  simp only [hx]
  refine pr_cvX [_] rfl rfl rfl rfl rfl (Nat.le_of_ble_eq_true rfl) hl.1.1 (Nat.le_of_ble_eq_true rfl) (p_match _ h M hl hv) (fun v1 M1 q1 => ?_)
  obtain ⟨rfl, H1⟩ := lm_c H q1
  obtain ⟨-, hx1, -, hr1, hw1⟩ := id H1
  refine pr_seqT (pc' := 928) 6 rfl ⟨⟨⟨⟨⟨⟨trivial, n172⟩, n0⟩, trivial⟩, trivial⟩, trivial⟩, w1⟩ ?_
  simp only [hx1]
  refine pr_cvX [_] rfl rfl rfl rfl rfl (Nat.le_of_ble_eq_true rfl) hr1.1 (Nat.le_of_ble_eq_true rfl) (r_match _ h M1 hr1 hw1) (fun v2 M2 q2 => ?_)
  obtain ⟨rfl, H2⟩ := lm_r H1 q2
  exact pr_icT rfl (fun _ => nx _ _ H2) (fun q => (q rfl).elim)
set_option maxRecDepth 100000 in
theorem lc_crowd {L k : Nat} {xs : Nat → Int32} {h : ab_H} {X : St} {Q : Option Value → ab_M → Prop} (M : ab_M) (hk : k + 5 ≤ L) (hL : L ≤ 2560) (H : lm L xs h X X M) (nx : lnx L k xs h Q) : pr_T pL_law 936 [some (.ref 2000000), some (.ref 1), some (.ref 172), some (.int (nI k))] [] h M Q := by
  obtain ⟨⟨k2, n2⟩, hx, ⟨b, hl, hv⟩, hr, hw⟩ := id H
  have w1 := lw_in (v := Int32.ofInt 1) hk hL k2 n2 (show 1 < 5 by decide) (by decide)
  have w2 := lw_in (v := Int32.ofInt 2) hk hL k2 n2 (show 2 < 5 by decide) (by decide)
  have n0 : (2000000 : Nat) ≠ 0 := by decide
  have n1 : (1 : Nat) ≠ 0 := by decide
  have n172 : (172 : Nat) ≠ 0 := by decide
  refine pr_seqT (pc' := 947) 11 rfl ⟨⟨⟨⟨⟨⟨⟨⟨⟨⟨⟨trivial, n1⟩, n0⟩, trivial⟩, trivial⟩, trivial⟩, w1⟩, n0⟩, trivial⟩, trivial⟩, trivial⟩, w2⟩ ?_
  simp only [hx]
  refine pr_cvX [_, _] rfl rfl rfl rfl rfl (Nat.le_of_ble_eq_true rfl) hl.1.1 (Nat.le_of_ble_eq_true rfl) (p_crowd _ _ h M hl hv) (fun v1 M1 q1 => ?_)
  obtain ⟨rfl, H1⟩ := lm_c H q1
  obtain ⟨-, hx1, -, hr1, hw1⟩ := id H1
  refine pr_seqT (pc' := 961) 11 rfl ⟨⟨⟨⟨⟨⟨⟨⟨⟨⟨⟨trivial, n172⟩, n0⟩, trivial⟩, trivial⟩, trivial⟩, w1⟩, n0⟩, trivial⟩, trivial⟩, trivial⟩, w2⟩ ?_
  simp only [hx1]
  refine pr_cvX [_, _] rfl rfl rfl rfl rfl (Nat.le_of_ble_eq_true rfl) hr1.1 (Nat.le_of_ble_eq_true rfl) (r_crowd _ _ h M1 hr1 hw1) (fun v2 M2 q2 => ?_)
  obtain ⟨rfl, H2⟩ := lm_r H1 q2
  exact pr_icT rfl (fun _ => nx _ _ H2) (fun q => (q rfl).elim)
set_option maxRecDepth 100000 in
theorem lc_part {L k : Nat} {xs : Nat → Int32} {h : ab_H} {X : St} {Q : Option Value → ab_M → Prop} (M : ab_M) (hk : k + 5 ≤ L) (hL : L ≤ 2560) (H : lm L xs h X X M) (nx : lnx L k xs h Q) : pr_T pL_law 969 [some (.ref 2000000), some (.ref 1), some (.ref 172), some (.int (nI k))] [] h M Q := by
  obtain ⟨⟨k2, n2⟩, hx, ⟨b, hl, hv⟩, hr, hw⟩ := id H
  have w1 := lw_in (v := Int32.ofInt 1) hk hL k2 n2 (show 1 < 5 by decide) (by decide)
  have n0 : (2000000 : Nat) ≠ 0 := by decide
  have n1 : (1 : Nat) ≠ 0 := by decide
  have n172 : (172 : Nat) ≠ 0 := by decide
  refine pr_seqT (pc' := 975) 6 rfl ⟨⟨⟨⟨⟨⟨trivial, n1⟩, n0⟩, trivial⟩, trivial⟩, trivial⟩, w1⟩ ?_
  simp only [hx]
  refine pr_cvX [_] rfl rfl rfl rfl rfl (Nat.le_of_ble_eq_true rfl) hl.1.1 (Nat.le_of_ble_eq_true rfl) (p_part _ h M hl hv) (fun v1 M1 q1 => ?_)
  obtain ⟨rfl, H1⟩ := lm_c H q1
  obtain ⟨-, hx1, -, hr1, hw1⟩ := id H1
  refine pr_seqT (pc' := 984) 6 rfl ⟨⟨⟨⟨⟨⟨trivial, n172⟩, n0⟩, trivial⟩, trivial⟩, trivial⟩, w1⟩ ?_
  simp only [hx1]
  refine pr_cvX [_] rfl rfl rfl rfl rfl (Nat.le_of_ble_eq_true rfl) hr1.1 (Nat.le_of_ble_eq_true rfl) (r_part _ h M1 hr1 hw1) (fun v2 M2 q2 => ?_)
  obtain ⟨rfl, H2⟩ := lm_r H1 q2
  exact pr_icT rfl (fun _ => nx _ _ H2) (fun q => (q rfl).elim)
set_option maxRecDepth 100000 in
theorem lc_know {L k : Nat} {xs : Nat → Int32} {h : ab_H} {X : St} {Q : Option Value → ab_M → Prop} (M : ab_M) (hk : k + 5 ≤ L) (hL : L ≤ 2560) (H : lm L xs h X X M) (nx : lnx L k xs h Q) : pr_T pL_law 992 [some (.ref 2000000), some (.ref 1), some (.ref 172), some (.int (nI k))] [] h M Q := by
  obtain ⟨⟨k2, n2⟩, hx, ⟨b, hl, hv⟩, hr, hw⟩ := id H
  have w1 := lw_in (v := Int32.ofInt 1) hk hL k2 n2 (show 1 < 5 by decide) (by decide)
  have w2 := lw_in (v := Int32.ofInt 2) hk hL k2 n2 (show 2 < 5 by decide) (by decide)
  have n0 : (2000000 : Nat) ≠ 0 := by decide
  have n1 : (1 : Nat) ≠ 0 := by decide
  have n172 : (172 : Nat) ≠ 0 := by decide
  refine pr_seqT (pc' := 1003) 11 rfl ⟨⟨⟨⟨⟨⟨⟨⟨⟨⟨⟨trivial, n1⟩, n0⟩, trivial⟩, trivial⟩, trivial⟩, w1⟩, n0⟩, trivial⟩, trivial⟩, trivial⟩, w2⟩ ?_
  simp only [hx]
  refine pr_cvX [_, _] rfl rfl rfl rfl rfl (Nat.le_of_ble_eq_true rfl) hl.1.1 (Nat.le_of_ble_eq_true rfl) (p_know _ _ h M hl hv) (fun v1 M1 q1 => ?_)
  obtain ⟨rfl, H1⟩ := lm_c H q1
  obtain ⟨-, hx1, -, hr1, hw1⟩ := id H1
  refine pr_seqT (pc' := 1017) 11 rfl ⟨⟨⟨⟨⟨⟨⟨⟨⟨⟨⟨trivial, n172⟩, n0⟩, trivial⟩, trivial⟩, trivial⟩, w1⟩, n0⟩, trivial⟩, trivial⟩, trivial⟩, w2⟩ ?_
  simp only [hx1]
  refine pr_cvX [_, _] rfl rfl rfl rfl rfl (Nat.le_of_ble_eq_true rfl) hr1.1 (Nat.le_of_ble_eq_true rfl) (r_know _ _ h M1 hr1 hw1) (fun v2 M2 q2 => ?_)
  obtain ⟨rfl, H2⟩ := lm_r H1 q2
  exact pr_icT rfl (fun _ => nx _ _ H2) (fun q => (q rfl).elim)
set_option maxRecDepth 100000 in
theorem lc_forget {L k : Nat} {xs : Nat → Int32} {h : ab_H} {X : St} {Q : Option Value → ab_M → Prop} (M : ab_M) (hk : k + 5 ≤ L) (hL : L ≤ 2560) (H : lm L xs h X X M) (nx : lnx L k xs h Q) : pr_T pL_law 1025 [some (.ref 2000000), some (.ref 1), some (.ref 172), some (.int (nI k))] [] h M Q := by
  obtain ⟨⟨k2, n2⟩, hx, ⟨b, hl, hv⟩, hr, hw⟩ := id H
  have w1 := lw_in (v := Int32.ofInt 1) hk hL k2 n2 (show 1 < 5 by decide) (by decide)
  have n0 : (2000000 : Nat) ≠ 0 := by decide
  have n1 : (1 : Nat) ≠ 0 := by decide
  have n172 : (172 : Nat) ≠ 0 := by decide
  refine pr_seqT (pc' := 1031) 6 rfl ⟨⟨⟨⟨⟨⟨trivial, n1⟩, n0⟩, trivial⟩, trivial⟩, trivial⟩, w1⟩ ?_
  simp only [hx]
  refine pr_cvX [_] rfl rfl rfl rfl rfl (Nat.le_of_ble_eq_true rfl) hl.1.1 (Nat.le_of_ble_eq_true rfl) (p_forget _ h M hl hv) (fun v1 M1 q1 => ?_)
  obtain ⟨rfl, H1⟩ := lm_c H q1
  obtain ⟨-, hx1, -, hr1, hw1⟩ := id H1
  refine pr_seqT (pc' := 1040) 6 rfl ⟨⟨⟨⟨⟨⟨trivial, n172⟩, n0⟩, trivial⟩, trivial⟩, trivial⟩, w1⟩ ?_
  simp only [hx1]
  refine pr_cvX [_] rfl rfl rfl rfl rfl (Nat.le_of_ble_eq_true rfl) hr1.1 (Nat.le_of_ble_eq_true rfl) (r_forget _ h M1 hr1 hw1) (fun v2 M2 q2 => ?_)
  obtain ⟨rfl, H2⟩ := lm_r H1 q2
  exact pr_icT rfl (fun _ => nx _ _ H2) (fun q => (q rfl).elim)
set_option maxRecDepth 100000 in
theorem lc_solve {L k : Nat} {xs : Nat → Int32} {h : ab_H} {X : St} {Q : Option Value → ab_M → Prop} (M : ab_M) (hk : k + 5 ≤ L) (hL : L ≤ 2560) (H : lm L xs h X X M) (nx : lnx L k xs h Q) : pr_T pL_law 1048 [some (.ref 2000000), some (.ref 1), some (.ref 172), some (.int (nI k))] [] h M Q := by
  obtain ⟨⟨k2, n2⟩, hx, ⟨b, hl, hv⟩, hr, hw⟩ := id H
  have w1 := lw_in (v := Int32.ofInt 1) hk hL k2 n2 (show 1 < 5 by decide) (by decide)
  have w2 := lw_in (v := Int32.ofInt 2) hk hL k2 n2 (show 2 < 5 by decide) (by decide)
  have w3 := lw_in (v := Int32.ofInt 3) hk hL k2 n2 (show 3 < 5 by decide) (by decide)
  have n0 : (2000000 : Nat) ≠ 0 := by decide
  have n1 : (1 : Nat) ≠ 0 := by decide
  have n172 : (172 : Nat) ≠ 0 := by decide
  refine pr_seqT (pc' := 1064) 16 rfl ⟨⟨⟨⟨⟨⟨⟨⟨⟨⟨⟨⟨⟨⟨⟨⟨trivial, n1⟩, n0⟩, trivial⟩, trivial⟩, trivial⟩, w1⟩, n0⟩, trivial⟩, trivial⟩, trivial⟩, w2⟩, n0⟩, trivial⟩, trivial⟩, trivial⟩, w3⟩ ?_
  simp only [hx]
  refine pr_cvX [_, _, _] rfl rfl rfl rfl rfl (Nat.le_of_ble_eq_true rfl) hl.1.1 (Nat.le_of_ble_eq_true rfl) (p_solve _ _ _ h M hl hv) (fun v1 M1 q1 => ?_)
  obtain ⟨rfl, H1⟩ := lm_c H q1
  obtain ⟨-, hx1, -, hr1, hw1⟩ := id H1
  refine pr_seqT (pc' := 1083) 16 rfl ⟨⟨⟨⟨⟨⟨⟨⟨⟨⟨⟨⟨⟨⟨⟨⟨trivial, n172⟩, n0⟩, trivial⟩, trivial⟩, trivial⟩, w1⟩, n0⟩, trivial⟩, trivial⟩, trivial⟩, w2⟩, n0⟩, trivial⟩, trivial⟩, trivial⟩, w3⟩ ?_
  simp only [hx1]
  refine pr_cvX [_, _, _] rfl rfl rfl rfl rfl (Nat.le_of_ble_eq_true rfl) hr1.1 (Nat.le_of_ble_eq_true rfl) (r_solve _ _ _ h M1 hr1 hw1) (fun v2 M2 q2 => ?_)
  obtain ⟨rfl, H2⟩ := lm_r H1 q2
  exact pr_icT rfl (fun _ => nx _ _ H2) (fun q => (q rfl).elim)
set_option maxRecDepth 100000 in
theorem lc_year {L k : Nat} {xs : Nat → Int32} {h : ab_H} {X : St} {Q : Option Value → ab_M → Prop} (M : ab_M) (hk : k + 5 ≤ L) (hL : L ≤ 2560) (H : lm L xs h X X M) (nx : lnx L k xs h Q) : pr_T pL_law 1091 [some (.ref 2000000), some (.ref 1), some (.ref 172), some (.int (nI k))] [] h M Q := by
  obtain ⟨⟨k2, n2⟩, hx, ⟨b, hl, hv⟩, hr, hw⟩ := id H
  have w1 := lw_in (v := Int32.ofInt 1) hk hL k2 n2 (show 1 < 5 by decide) (by decide)
  have w2 := lw_in (v := Int32.ofInt 2) hk hL k2 n2 (show 2 < 5 by decide) (by decide)
  have w3 := lw_in (v := Int32.ofInt 3) hk hL k2 n2 (show 3 < 5 by decide) (by decide)
  have n0 : (2000000 : Nat) ≠ 0 := by decide
  have n1 : (1 : Nat) ≠ 0 := by decide
  have n172 : (172 : Nat) ≠ 0 := by decide
  refine pr_seqT (pc' := 1107) 16 rfl ⟨⟨⟨⟨⟨⟨⟨⟨⟨⟨⟨⟨⟨⟨⟨⟨trivial, n1⟩, n0⟩, trivial⟩, trivial⟩, trivial⟩, w1⟩, n0⟩, trivial⟩, trivial⟩, trivial⟩, w2⟩, n0⟩, trivial⟩, trivial⟩, trivial⟩, w3⟩ ?_
  simp only [hx]
  refine pr_cvX [_, _, _] rfl rfl rfl rfl rfl (Nat.le_of_ble_eq_true rfl) hl.1.1 (Nat.le_of_ble_eq_true rfl) (p_year _ _ _ h M hl hv) (fun v1 M1 q1 => ?_)
  obtain ⟨rfl, H1⟩ := lm_c H q1
  obtain ⟨-, hx1, -, hr1, hw1⟩ := id H1
  refine pr_seqT (pc' := 1126) 16 rfl ⟨⟨⟨⟨⟨⟨⟨⟨⟨⟨⟨⟨⟨⟨⟨⟨trivial, n172⟩, n0⟩, trivial⟩, trivial⟩, trivial⟩, w1⟩, n0⟩, trivial⟩, trivial⟩, trivial⟩, w2⟩, n0⟩, trivial⟩, trivial⟩, trivial⟩, w3⟩ ?_
  simp only [hx1]
  refine pr_cvX [_, _, _] rfl rfl rfl rfl rfl (Nat.le_of_ble_eq_true rfl) hr1.1 (Nat.le_of_ble_eq_true rfl) (r_year _ _ _ h M1 hr1 hw1) (fun v2 M2 q2 => ?_)
  obtain ⟨rfl, H2⟩ := lm_r H1 q2
  exact pr_icT rfl (fun _ => nx _ _ H2) (fun q => (q rfl).elim)
set_option maxRecDepth 100000 in
theorem lc_keep {L k : Nat} {xs : Nat → Int32} {h : ab_H} {X : St} {Q : Option Value → ab_M → Prop} (M : ab_M) (hk : k + 5 ≤ L) (hL : L ≤ 2560) (H : lm L xs h X X M) (nx : lnx L k xs h Q) : pr_T pL_law 1134 [some (.ref 2000000), some (.ref 1), some (.ref 172), some (.int (nI k))] [] h M Q := by
  obtain ⟨⟨k2, n2⟩, hx, ⟨b, hl, hv⟩, hr, hw⟩ := id H
  have w1 := lw_in (v := Int32.ofInt 1) hk hL k2 n2 (show 1 < 5 by decide) (by decide)
  have n0 : (2000000 : Nat) ≠ 0 := by decide
  have n1 : (1 : Nat) ≠ 0 := by decide
  have n172 : (172 : Nat) ≠ 0 := by decide
  refine pr_seqT (pc' := 1140) 6 rfl ⟨⟨⟨⟨⟨⟨trivial, n1⟩, n0⟩, trivial⟩, trivial⟩, trivial⟩, w1⟩ ?_
  simp only [hx]
  refine pr_cvX [_] rfl rfl rfl rfl rfl (Nat.le_of_ble_eq_true rfl) hl.1.1 (Nat.le_of_ble_eq_true rfl) (p_keep _ h M hl hv) (fun v1 M1 q1 => ?_)
  obtain ⟨rfl, H1⟩ := lm_c H q1
  obtain ⟨-, hx1, -, hr1, hw1⟩ := id H1
  refine pr_seqT (pc' := 1149) 6 rfl ⟨⟨⟨⟨⟨⟨trivial, n172⟩, n0⟩, trivial⟩, trivial⟩, trivial⟩, w1⟩ ?_
  simp only [hx1]
  refine pr_cvX [_] rfl rfl rfl rfl rfl (Nat.le_of_ble_eq_true rfl) hr1.1 (Nat.le_of_ble_eq_true rfl) (r_keep _ h M1 hr1 hw1) (fun v2 M2 q2 => ?_)
  obtain ⟨rfl, H2⟩ := lm_r H1 q2
  exact pr_icT rfl (fun _ => nx _ _ H2) (fun q => (q rfl).elim)
set_option maxRecDepth 100000 in
theorem lc_back {L k : Nat} {xs : Nat → Int32} {h : ab_H} {X : St} {Q : Option Value → ab_M → Prop} (M : ab_M) (hk : k + 5 ≤ L) (hL : L ≤ 2560) (H : lm L xs h X X M) (nx : lnx L k xs h Q) : pr_T pL_law 1157 [some (.ref 2000000), some (.ref 1), some (.ref 172), some (.int (nI k))] [] h M Q := by
  obtain ⟨⟨k2, n2⟩, hx, ⟨b, hl, hv⟩, hr, hw⟩ := id H
  have w1 := lw_in (v := Int32.ofInt 1) hk hL k2 n2 (show 1 < 5 by decide) (by decide)
  have n0 : (2000000 : Nat) ≠ 0 := by decide
  have n1 : (1 : Nat) ≠ 0 := by decide
  have n172 : (172 : Nat) ≠ 0 := by decide
  refine pr_seqT (pc' := 1163) 6 rfl ⟨⟨⟨⟨⟨⟨trivial, n1⟩, n0⟩, trivial⟩, trivial⟩, trivial⟩, w1⟩ ?_
  simp only [hx]
  refine pr_cvX [_] rfl rfl rfl rfl rfl (Nat.le_of_ble_eq_true rfl) hl.1.1 (Nat.le_of_ble_eq_true rfl) (p_back _ h M hl hv) (fun v1 M1 q1 => ?_)
  obtain ⟨rfl, H1⟩ := lm_c H q1
  obtain ⟨-, hx1, -, hr1, hw1⟩ := id H1
  refine pr_seqT (pc' := 1172) 6 rfl ⟨⟨⟨⟨⟨⟨trivial, n172⟩, n0⟩, trivial⟩, trivial⟩, trivial⟩, w1⟩ ?_
  simp only [hx1]
  refine pr_cvX [_] rfl rfl rfl rfl rfl (Nat.le_of_ble_eq_true rfl) hr1.1 (Nat.le_of_ble_eq_true rfl) (r_back _ h M1 hr1 hw1) (fun v2 M2 q2 => ?_)
  obtain ⟨rfl, H2⟩ := lm_r H1 q2
  exact pr_icT rfl (fun _ => nx _ _ H2) (fun q => (q rfl).elim)
set_option maxRecDepth 100000 in
theorem lc_sheet {L k : Nat} {xs : Nat → Int32} {h : ab_H} {X : St} {Q : Option Value → ab_M → Prop} (M : ab_M) (hk : k + 5 ≤ L) (hL : L ≤ 2560) (H : lm L xs h X X M) (nx : lnx L k xs h Q) : pr_T pL_law 1180 [some (.ref 2000000), some (.ref 1), some (.ref 172), some (.int (nI k))] [] h M Q := by
  obtain ⟨⟨k2, n2⟩, hx, ⟨b, hl, hv⟩, hr, hw⟩ := id H
  have w1 := lw_in (v := Int32.ofInt 1) hk hL k2 n2 (show 1 < 5 by decide) (by decide)
  have w2 := lw_in (v := Int32.ofInt 2) hk hL k2 n2 (show 2 < 5 by decide) (by decide)
  have w3 := lw_in (v := Int32.ofInt 3) hk hL k2 n2 (show 3 < 5 by decide) (by decide)
  have n0 : (2000000 : Nat) ≠ 0 := by decide
  have n1 : (1 : Nat) ≠ 0 := by decide
  have n172 : (172 : Nat) ≠ 0 := by decide
  refine pr_seqT (pc' := 1196) 16 rfl ⟨⟨⟨⟨⟨⟨⟨⟨⟨⟨⟨⟨⟨⟨⟨⟨trivial, n1⟩, n0⟩, trivial⟩, trivial⟩, trivial⟩, w1⟩, n0⟩, trivial⟩, trivial⟩, trivial⟩, w2⟩, n0⟩, trivial⟩, trivial⟩, trivial⟩, w3⟩ ?_
  simp only [hx]
  refine pr_cvX [_, _, _] rfl rfl rfl rfl rfl (Nat.le_of_ble_eq_true rfl) hl.1.1 (Nat.le_of_ble_eq_true rfl) (p_sheet _ _ _ h M hl hv) (fun v1 M1 q1 => ?_)
  obtain ⟨rfl, H1⟩ := lm_c H q1
  obtain ⟨-, hx1, -, hr1, hw1⟩ := id H1
  refine pr_seqT (pc' := 1215) 16 rfl ⟨⟨⟨⟨⟨⟨⟨⟨⟨⟨⟨⟨⟨⟨⟨⟨trivial, n172⟩, n0⟩, trivial⟩, trivial⟩, trivial⟩, w1⟩, n0⟩, trivial⟩, trivial⟩, trivial⟩, w2⟩, n0⟩, trivial⟩, trivial⟩, trivial⟩, w3⟩ ?_
  simp only [hx1]
  refine pr_cvX [_, _, _] rfl rfl rfl rfl rfl (Nat.le_of_ble_eq_true rfl) hr1.1 (Nat.le_of_ble_eq_true rfl) (r_sheet _ _ _ h M1 hr1 hw1) (fun v2 M2 q2 => ?_)
  obtain ⟨rfl, H2⟩ := lm_r H1 q2
  exact pr_icT rfl (fun _ => nx _ _ H2) (fun q => (q rfl).elim)
set_option maxRecDepth 100000 in
theorem lc_lay {L k : Nat} {xs : Nat → Int32} {h : ab_H} {X : St} {Q : Option Value → ab_M → Prop} (M : ab_M) (hk : k + 5 ≤ L) (hL : L ≤ 2560) (H : lm L xs h X X M) (nx : lnx L k xs h Q) : pr_T pL_law 1223 [some (.ref 2000000), some (.ref 1), some (.ref 172), some (.int (nI k))] [] h M Q := by
  obtain ⟨⟨k2, n2⟩, hx, ⟨b, hl, hv⟩, hr, hw⟩ := id H
  have w1 := lw_in (v := Int32.ofInt 1) hk hL k2 n2 (show 1 < 5 by decide) (by decide)
  have w2 := lw_in (v := Int32.ofInt 2) hk hL k2 n2 (show 2 < 5 by decide) (by decide)
  have w3 := lw_in (v := Int32.ofInt 3) hk hL k2 n2 (show 3 < 5 by decide) (by decide)
  have n0 : (2000000 : Nat) ≠ 0 := by decide
  have n1 : (1 : Nat) ≠ 0 := by decide
  have n172 : (172 : Nat) ≠ 0 := by decide
  refine pr_seqT (pc' := 1239) 16 rfl ⟨⟨⟨⟨⟨⟨⟨⟨⟨⟨⟨⟨⟨⟨⟨⟨trivial, n1⟩, n0⟩, trivial⟩, trivial⟩, trivial⟩, w1⟩, n0⟩, trivial⟩, trivial⟩, trivial⟩, w2⟩, n0⟩, trivial⟩, trivial⟩, trivial⟩, w3⟩ ?_
  simp only [hx]
  refine pr_cvX [_, _, _] rfl rfl rfl rfl rfl (Nat.le_of_ble_eq_true rfl) hl.1.1 (Nat.le_of_ble_eq_true rfl) (p_lay _ _ _ h M hl hv) (fun v1 M1 q1 => ?_)
  obtain ⟨rfl, H1⟩ := lm_c H q1
  obtain ⟨-, hx1, -, hr1, hw1⟩ := id H1
  refine pr_seqT (pc' := 1258) 16 rfl ⟨⟨⟨⟨⟨⟨⟨⟨⟨⟨⟨⟨⟨⟨⟨⟨trivial, n172⟩, n0⟩, trivial⟩, trivial⟩, trivial⟩, w1⟩, n0⟩, trivial⟩, trivial⟩, trivial⟩, w2⟩, n0⟩, trivial⟩, trivial⟩, trivial⟩, w3⟩ ?_
  simp only [hx1]
  refine pr_cvX [_, _, _] rfl rfl rfl rfl rfl (Nat.le_of_ble_eq_true rfl) hr1.1 (Nat.le_of_ble_eq_true rfl) (r_lay _ _ _ h M1 hr1 hw1) (fun v2 M2 q2 => ?_)
  obtain ⟨rfl, H2⟩ := lm_r H1 q2
  exact pr_icT rfl (fun _ => nx _ _ H2) (fun q => (q rfl).elim)
set_option maxRecDepth 100000 in
theorem lc_read {L k : Nat} {xs : Nat → Int32} {h : ab_H} {X : St} {Q : Option Value → ab_M → Prop} (M : ab_M) (hk : k + 5 ≤ L) (hL : L ≤ 2560) (H : lm L xs h X X M) (nx : lnx L k xs h Q) : pr_T pL_law 1266 [some (.ref 2000000), some (.ref 1), some (.ref 172), some (.int (nI k))] [] h M Q := by
  obtain ⟨⟨k2, n2⟩, hx, ⟨b, hl, hv⟩, hr, hw⟩ := id H
  have w1 := lw_in (v := Int32.ofInt 1) hk hL k2 n2 (show 1 < 5 by decide) (by decide)
  have w2 := lw_in (v := Int32.ofInt 2) hk hL k2 n2 (show 2 < 5 by decide) (by decide)
  have w3 := lw_in (v := Int32.ofInt 3) hk hL k2 n2 (show 3 < 5 by decide) (by decide)
  have w4 := lw_in (v := Int32.ofInt 4) hk hL k2 n2 (show 4 < 5 by decide) (by decide)
  have n0 : (2000000 : Nat) ≠ 0 := by decide
  have n1 : (1 : Nat) ≠ 0 := by decide
  have n172 : (172 : Nat) ≠ 0 := by decide
  refine pr_seqT (pc' := 1287) 21 rfl ⟨⟨⟨⟨⟨⟨⟨⟨⟨⟨⟨⟨⟨⟨⟨⟨⟨⟨⟨⟨⟨trivial, n1⟩, n0⟩, trivial⟩, trivial⟩, trivial⟩, w1⟩, n0⟩, trivial⟩, trivial⟩, trivial⟩, w2⟩, n0⟩, trivial⟩, trivial⟩, trivial⟩, w3⟩, n0⟩, trivial⟩, trivial⟩, trivial⟩, w4⟩ ?_
  simp only [hx]
  refine pr_cvX [_, _, _, _] rfl rfl rfl rfl rfl (Nat.le_of_ble_eq_true rfl) hl.1.1 (Nat.le_of_ble_eq_true rfl) (p_read _ _ _ _ h M hl hv) (fun v1 M1 q1 => ?_)
  obtain ⟨rfl, H1⟩ := lm_c H q1
  obtain ⟨-, hx1, -, hr1, hw1⟩ := id H1
  refine pr_seqT (pc' := 1311) 21 rfl ⟨⟨⟨⟨⟨⟨⟨⟨⟨⟨⟨⟨⟨⟨⟨⟨⟨⟨⟨⟨⟨trivial, n172⟩, n0⟩, trivial⟩, trivial⟩, trivial⟩, w1⟩, n0⟩, trivial⟩, trivial⟩, trivial⟩, w2⟩, n0⟩, trivial⟩, trivial⟩, trivial⟩, w3⟩, n0⟩, trivial⟩, trivial⟩, trivial⟩, w4⟩ ?_
  simp only [hx1]
  refine pr_cvX [_, _, _, _] rfl rfl rfl rfl rfl (Nat.le_of_ble_eq_true rfl) hr1.1 (Nat.le_of_ble_eq_true rfl) (r_read _ _ _ _ h M1 hr1 hw1) (fun v2 M2 q2 => ?_)
  obtain ⟨rfl, H2⟩ := lm_r H1 q2
  exact pr_icT rfl (fun _ => nx _ _ H2) (fun q => (q rfl).elim)
set_option maxRecDepth 100000 in
theorem lc_torn {L k : Nat} {xs : Nat → Int32} {h : ab_H} {X : St} {Q : Option Value → ab_M → Prop} (M : ab_M) (hk : k + 5 ≤ L) (hL : L ≤ 2560) (H : lm L xs h X X M) (nx : lnx L k xs h Q) : pr_T pL_law 1319 [some (.ref 2000000), some (.ref 1), some (.ref 172), some (.int (nI k))] [] h M Q := by
  obtain ⟨⟨k2, n2⟩, hx, ⟨b, hl, hv⟩, hr, hw⟩ := id H
  have n1 : (1 : Nat) ≠ 0 := by decide
  have n172 : (172 : Nat) ≠ 0 := by decide
  refine pr_seqT (pc' := 1320) 1 rfl ⟨trivial, n1⟩ ?_
  refine pr_cvX [] rfl rfl rfl rfl rfl (Nat.le_of_ble_eq_true rfl) hl.1.1 (Nat.le_of_ble_eq_true rfl) (p_torn  h M hl hv) (fun v1 M1 q1 => ?_)
  obtain ⟨rfl, H1⟩ := lm_c H q1
  obtain ⟨-, hx1, -, hr1, hw1⟩ := id H1
  refine pr_seqT (pc' := 1324) 1 rfl ⟨trivial, n172⟩ ?_
  refine pr_cvX [] rfl rfl rfl rfl rfl (Nat.le_of_ble_eq_true rfl) hr1.1 (Nat.le_of_ble_eq_true rfl) (r_torn  h M1 hr1 hw1) (fun v2 M2 q2 => ?_)
  obtain ⟨rfl, H2⟩ := lm_r H1 q2
  exact pr_icT rfl (fun _ => nx _ _ H2) (fun q => (q rfl).elim)
set_option maxRecDepth 100000 in
theorem lc_count {L k : Nat} {xs : Nat → Int32} {h : ab_H} {X : St} {Q : Option Value → ab_M → Prop} (M : ab_M) (hk : k + 5 ≤ L) (hL : L ≤ 2560) (H : lm L xs h X X M) (nx : lnx L k xs h Q) : pr_T pL_law 1332 [some (.ref 2000000), some (.ref 1), some (.ref 172), some (.int (nI k))] [] h M Q := by
  obtain ⟨⟨k2, n2⟩, hx, ⟨b, hl, hv⟩, hr, hw⟩ := id H
  have w1 := lw_in (v := Int32.ofInt 1) hk hL k2 n2 (show 1 < 5 by decide) (by decide)
  have n0 : (2000000 : Nat) ≠ 0 := by decide
  have n1 : (1 : Nat) ≠ 0 := by decide
  have n172 : (172 : Nat) ≠ 0 := by decide
  refine pr_seqT (pc' := 1338) 6 rfl ⟨⟨⟨⟨⟨⟨trivial, n1⟩, n0⟩, trivial⟩, trivial⟩, trivial⟩, w1⟩ ?_
  simp only [hx]
  refine pr_cvX [_] rfl rfl rfl rfl rfl (Nat.le_of_ble_eq_true rfl) hl.1.1 (Nat.le_of_ble_eq_true rfl) (p_count _ h M hl hv) (fun v1 M1 q1 => ?_)
  obtain ⟨rfl, H1⟩ := lm_c H q1
  obtain ⟨-, hx1, -, hr1, hw1⟩ := id H1
  refine pr_seqT (pc' := 1347) 6 rfl ⟨⟨⟨⟨⟨⟨trivial, n172⟩, n0⟩, trivial⟩, trivial⟩, trivial⟩, w1⟩ ?_
  simp only [hx1]
  refine pr_cvX [_] rfl rfl rfl rfl rfl (Nat.le_of_ble_eq_true rfl) hr1.1 (Nat.le_of_ble_eq_true rfl) (r_count _ h M1 hr1 hw1) (fun v2 M2 q2 => ?_)
  obtain ⟨rfl, H2⟩ := lm_r H1 q2
  exact pr_icT rfl (fun _ => nx _ _ H2) (fun q => (q rfl).elim)
