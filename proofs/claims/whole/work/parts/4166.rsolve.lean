
/-! ===== the reference: worths that are unknown ===== -/
theorem ab_u_c {α : Type} {f : Nat → Nat → α} {a k k' : Nat} {v w : α} (h : k ≠ k') : ab_u (ab_u f a k v) a k' w = ab_u (ab_u f a k' w) a k v := by
  funext b j
  unfold ab_u
  by_cases e1 : b = a ∧ j = k
  · rw [if_neg (fun q => h (by omega)), if_pos e1, if_pos e1]
  · rw [if_neg e1, if_neg e1]
theorem mL_swap {I : Nat → Nat → Int32} {a b x y x' : Nat} (hab : a ≠ b) : mL (mL (mL I a x) b y) a x' = mL (mL I a x') b y := by
  show ab_u (ab_u (ab_u I 173 (193 + a) _) 173 (193 + b) _) 173 (193 + a) _ = _
  rw [ab_u_c (show 193 + b ≠ 193 + a by omega), ab_u_u]
theorem mAB_pg {I : Nat → Nat → Int32} {X : St} {a b x y : Nat} (hv : pg_r (I 173) X.1.1) (ha : a < 26) (hb : b < 26) (hx : x ≤ 40) (hy : y ≤ 40) : pg_r (mL (mL I a x) b y 173) (svX X a b x y).1.1 := mL_pg (mL_pg hv ha hx) hb hy
theorem rsvc_b (X : St) (a b : Nat) : ∀ k, k ≤ 1681 → (svc X a b k).1 ≤ k ∧ (svc X a b k).2.1 ≤ 40 ∧ (svc X a b k).2.2.1 ≤ 40
  | 0, _ => ⟨Nat.le_refl _, Nat.zero_le _, Nat.zero_le _⟩
  | k + 1, h => by
    have ih := rsvc_b X a b k (by omega)
    show (if svF X a b (k / 41) (k % 41) then svt (svc X a b k) (k / 41) (k % 41) else svc X a b k).1 ≤ k + 1 ∧ (if svF X a b (k / 41) (k % 41) then svt (svc X a b k) (k / 41) (k % 41) else svc X a b k).2.1 ≤ 40 ∧ (if svF X a b (k / 41) (k % 41) then svt (svc X a b k) (k / 41) (k % 41) else svc X a b k).2.2.1 ≤ 40
    split
    · unfold svt
      split
      · exact ⟨by dsimp only; omega, by dsimp only; omega, by dsimp only; omega⟩
      · exact ⟨by dsimp only; omega, ih.2.1, ih.2.2⟩
    · exact ⟨by omega, ih.2.1, ih.2.2⟩
theorem nb_down {f : Nat → Bool} {t : Nat} (h : nb f t = false) : ∀ d, nb f (t + d) = false
  | 0 => h
  | d + 1 => by
    show (nb f (t + d) && !f (t + d)) = false
    rw [nb_down h d, Bool.false_and]
/-- the first pair as the reference keeps it -/
def sfs (s : Sv) : Int32 := if s.1 = 0 then -4 else nI (100 * s.2.1 + s.2.2.1)
def sv_L (a b : Nat) (w : Int32) (hA hB : Nat) (s : Sv) (k : Nat) (z11 z12 : Option Value) : ab_Ls := [some (.ref 172), some (.int (nI a)), some (.int (nI b)), some (.int w), some (.int (nI hA)), some (.int (nI hB)), some (.int (nI s.1)), some (.int (sfs s)), some (.int (pr_b s.2.2.2.1)), some (.int (pr_b s.2.2.2.2)), some (.int (nI k)), z11, z12]
set_option maxHeartbeats 8000000 in
theorem r_solve {X : St} (x y w : Int32) (h : ab_H) (M : ab_M) (hl : rL h M.2.2) (hv : rv M.1 X) : pr_X pX11_solve [.ref 172, .int x, .int y, .int w] h M (rp M (f_solve X x y w, X)) := by
  obtain ⟨k172, rS, rLs, rKn, rPg, rRl, rRk, rTp, rCu, rLe, rLt, rSm, rIk, rLn, rLg, rCe, ⟨kS, nS⟩, ⟨kLs, nLs⟩, ⟨kKn, nKn⟩, ⟨kPg, nPg⟩, ⟨kRl, nRl⟩, ⟨kRk, nRk⟩, ⟨kTp, nTp⟩, ⟨kCu, nCu⟩, ⟨kLe, nLe⟩, ⟨kLt, nLt⟩, ⟨kSm, nSm⟩, ⟨kIk, nIk⟩, ⟨kLn, nLn⟩, ⟨kLg, nLg⟩, kCe, nCe⟩ := id hl
  obtain ⟨l1, l2, l3⟩ := hv.2.1
  obtain ⟨k1, k2, k3⟩ := hv.2.2.1
  have g7 := hv.1.2.2.2.2.2.2.1
  have h1 := q_isLetter x h M
  have h2 := q_isLetter y h M
  have h3 := q_in (a := w.toInt64) (b := Int64.ofNat 0) (c := Int64.ofNat 3) w 0 3 h M rfl rfl rfl
  refine pr_ofC ?_ (rp_s hv)
  unfold f_solve
  rcases pr_rg x 25 25 rfl (by decide) with q | ⟨a, ha, rfl, q⟩
  · rw [q] at h1 ⊢
    refine pr_seq (pc' := 1) 1 rfl ⟨trivial, trivial⟩ ?_
    refine pr_cs [_] rfl rfl rfl rfl rfl (Nat.le_of_ble_eq_true rfl) (Nat.le_of_ble_eq_true rfl) (h1) ?_
    refine pr_if rfl (fun h4 => ?_) (fun h4 => ?_)
    · simp only [ab_cmp, pr_16_1681, pr_8_100, pr_8_41, pr_8_m4, pr_i_0, pr_i_1, pr_i_2, pr_i_m1] at h4
      first
      | contradiction
      | exact absurd trivial h4
      | exact absurd h4 (by decide)
      | exact absurd (Classical.not_not.mp h4) (by decide)
      | skip
        refine pr_seq (pc' := 32) 1 rfl ⟨trivial, trivial⟩ ?_
        exact pr_irM rfl (by first | rfl | (simp [pr_b, pr_16_1681, pr_8_100, pr_8_41, pr_8_m4, pr_i_0, pr_i_1, pr_i_2, pr_i_m1, *]; done) | (simp_all [pr_b, pr_16_1681, pr_8_100, pr_8_41, pr_8_m4, pr_i_0, pr_i_1, pr_i_2, pr_i_m1]; done)) trivial (by rfl)
    · simp only [ab_cmp, pr_16_1681, pr_8_100, pr_8_41, pr_8_m4, pr_i_0, pr_i_1, pr_i_2, pr_i_m1] at h4
      exact absurd rfl h4
  · rw [q] at h1 ⊢
    rcases pr_rg y 25 25 rfl (by decide) with q2 | ⟨b, hb, rfl, q2⟩
    · rw [q2] at h2 ⊢
      refine pr_seq (pc' := 1) 1 rfl ⟨trivial, trivial⟩ ?_
      refine pr_cs [_] rfl rfl rfl rfl rfl (Nat.le_of_ble_eq_true rfl) (Nat.le_of_ble_eq_true rfl) (h1) ?_
      refine pr_if rfl (fun h4 => ?_) (fun h4 => ?_)
      · simp only [ab_cmp, pr_16_1681, pr_8_100, pr_8_41, pr_8_m4, pr_i_0, pr_i_1, pr_i_2, pr_i_m1] at h4
        exact absurd h4 (by decide)
      · simp only [ab_cmp, pr_16_1681, pr_8_100, pr_8_41, pr_8_m4, pr_i_0, pr_i_1, pr_i_2, pr_i_m1] at h4
        first
        | contradiction
        | exact absurd trivial h4
        | exact absurd h4 (by decide)
        | exact absurd (Classical.not_not.mp h4) (by decide)
        | skip
          refine pr_seq (pc' := 8) 1 rfl ⟨trivial, trivial⟩ ?_
          refine pr_cs [_] rfl rfl rfl rfl rfl (Nat.le_of_ble_eq_true rfl) (Nat.le_of_ble_eq_true rfl) (h2) ?_
          refine pr_if rfl (fun h11 => ?_) (fun h11 => ?_)
          · simp only [ab_cmp, pr_16_1681, pr_8_100, pr_8_41, pr_8_m4, pr_i_0, pr_i_1, pr_i_2, pr_i_m1] at h11
            first
            | contradiction
            | exact absurd trivial h11
            | exact absurd h11 (by decide)
            | exact absurd (Classical.not_not.mp h11) (by decide)
            | skip
              refine pr_seq (pc' := 32) 1 rfl ⟨trivial, trivial⟩ ?_
              exact pr_irM rfl (by first | rfl | (simp [pr_b, pr_16_1681, pr_8_100, pr_8_41, pr_8_m4, pr_i_0, pr_i_1, pr_i_2, pr_i_m1, *]; done) | (simp_all [pr_b, pr_16_1681, pr_8_100, pr_8_41, pr_8_m4, pr_i_0, pr_i_1, pr_i_2, pr_i_m1]; done)) trivial (by rfl)
          · simp only [ab_cmp, pr_16_1681, pr_8_100, pr_8_41, pr_8_m4, pr_i_0, pr_i_1, pr_i_2, pr_i_m1] at h11
            exact absurd rfl h11
    · rw [q2] at h2 ⊢
      by_cases eab : a = b
      · subst eab
        rw [if_neg (by simp)]
        refine pr_seq (pc' := 1) 1 rfl ⟨trivial, trivial⟩ ?_
        refine pr_cs [_] rfl rfl rfl rfl rfl (Nat.le_of_ble_eq_true rfl) (Nat.le_of_ble_eq_true rfl) (h1) ?_
        refine pr_if rfl (fun h4 => ?_) (fun h4 => ?_)
        · simp only [ab_cmp, pr_16_1681, pr_8_100, pr_8_41, pr_8_m4, pr_i_0, pr_i_1, pr_i_2, pr_i_m1] at h4
          exact absurd h4 (by decide)
        · simp only [ab_cmp, pr_16_1681, pr_8_100, pr_8_41, pr_8_m4, pr_i_0, pr_i_1, pr_i_2, pr_i_m1] at h4
          first
          | contradiction
          | exact absurd trivial h4
          | exact absurd h4 (by decide)
          | exact absurd (Classical.not_not.mp h4) (by decide)
          | skip
            refine pr_seq (pc' := 8) 1 rfl ⟨trivial, trivial⟩ ?_
            refine pr_cs [_] rfl rfl rfl rfl rfl (Nat.le_of_ble_eq_true rfl) (Nat.le_of_ble_eq_true rfl) (h2) ?_
            refine pr_if rfl (fun h11 => ?_) (fun h11 => ?_)
            · simp only [ab_cmp, pr_16_1681, pr_8_100, pr_8_41, pr_8_m4, pr_i_0, pr_i_1, pr_i_2, pr_i_m1] at h11
              exact absurd h11 (by decide)
            · simp only [ab_cmp, pr_16_1681, pr_8_100, pr_8_41, pr_8_m4, pr_i_0, pr_i_1, pr_i_2, pr_i_m1] at h11
              first
              | contradiction
              | exact absurd trivial h11
              | exact absurd h11 (by decide)
              | exact absurd (Classical.not_not.mp h11) (by decide)
              | skip
                refine pr_seq (pc' := 16) 2 rfl ⟨⟨trivial, trivial⟩, trivial⟩ ?_
                refine pr_ic rfl (fun h16 => ?_) (fun h16 => ?_)
                · simp only [ab_cmp, pr_16_1681, pr_8_100, pr_8_41, pr_8_m4, pr_i_0, pr_i_1, pr_i_2, pr_i_m1] at h16
                  first
                  | contradiction
                  | exact absurd trivial h16
                  | exact absurd h16 (by decide)
                  | exact absurd (Classical.not_not.mp h16) (by decide)
                  | skip
                    refine pr_seq (pc' := 32) 1 rfl ⟨trivial, trivial⟩ ?_
                    exact pr_irM rfl (by first | rfl | (simp [pr_b, pr_16_1681, pr_8_100, pr_8_41, pr_8_m4, pr_i_0, pr_i_1, pr_i_2, pr_i_m1, *]; done) | (simp_all [pr_b, pr_16_1681, pr_8_100, pr_8_41, pr_8_m4, pr_i_0, pr_i_1, pr_i_2, pr_i_m1]; done)) trivial (by rfl)
                · simp only [ab_cmp, pr_16_1681, pr_8_100, pr_8_41, pr_8_m4, pr_i_0, pr_i_1, pr_i_2, pr_i_m1] at h16
                  exact absurd trivial h16
      · have nab : ¬ nI a = nI b := nI_ne eab (by omega) (by omega)
        rw [decide_eq_true nab]
        rcases pr_rg w 3 3 rfl (by decide) with q3 | ⟨wn, hwn, rfl, q3⟩
        · rw [q3] at h3 ⊢
          refine pr_seq (pc' := 1) 1 rfl ⟨trivial, trivial⟩ ?_
          refine pr_cs [_] rfl rfl rfl rfl rfl (Nat.le_of_ble_eq_true rfl) (Nat.le_of_ble_eq_true rfl) (h1) ?_
          refine pr_if rfl (fun h4 => ?_) (fun h4 => ?_)
          · simp only [ab_cmp, pr_16_1681, pr_8_100, pr_8_41, pr_8_m4, pr_i_0, pr_i_1, pr_i_2, pr_i_m1] at h4
            exact absurd h4 (by decide)
          · simp only [ab_cmp, pr_16_1681, pr_8_100, pr_8_41, pr_8_m4, pr_i_0, pr_i_1, pr_i_2, pr_i_m1] at h4
            first
            | contradiction
            | exact absurd trivial h4
            | exact absurd h4 (by decide)
            | exact absurd (Classical.not_not.mp h4) (by decide)
            | skip
              refine pr_seq (pc' := 8) 1 rfl ⟨trivial, trivial⟩ ?_
              refine pr_cs [_] rfl rfl rfl rfl rfl (Nat.le_of_ble_eq_true rfl) (Nat.le_of_ble_eq_true rfl) (h2) ?_
              refine pr_if rfl (fun h11 => ?_) (fun h11 => ?_)
              · simp only [ab_cmp, pr_16_1681, pr_8_100, pr_8_41, pr_8_m4, pr_i_0, pr_i_1, pr_i_2, pr_i_m1] at h11
                exact absurd h11 (by decide)
              · simp only [ab_cmp, pr_16_1681, pr_8_100, pr_8_41, pr_8_m4, pr_i_0, pr_i_1, pr_i_2, pr_i_m1] at h11
                first
                | contradiction
                | exact absurd trivial h11
                | exact absurd h11 (by decide)
                | exact absurd (Classical.not_not.mp h11) (by decide)
                | skip
                  refine pr_seq (pc' := 16) 2 rfl ⟨⟨trivial, trivial⟩, trivial⟩ ?_
                  refine pr_ic rfl (fun h16 => ?_) (fun h16 => ?_)
                  · simp only [ab_cmp, pr_16_1681, pr_8_100, pr_8_41, pr_8_m4, pr_i_0, pr_i_1, pr_i_2, pr_i_m1] at h16
                    exact absurd h16 nab
                  · simp only [ab_cmp, pr_16_1681, pr_8_100, pr_8_41, pr_8_m4, pr_i_0, pr_i_1, pr_i_2, pr_i_m1] at h16
                    first
                    | contradiction
                    | exact absurd trivial h16
                    | exact absurd h16 (by decide)
                    | exact absurd (Classical.not_not.mp h16) (by decide)
                    | skip
                      refine pr_seq (pc' := 25) 4 rfl ⟨⟨⟨⟨trivial, trivial⟩, trivial⟩, trivial⟩, trivial⟩ ?_
                      refine pr_cs [_, _, _] rfl rfl rfl rfl rfl (Nat.le_of_ble_eq_true rfl) (Nat.le_of_ble_eq_true rfl) (h3) ?_
                      refine pr_if rfl (fun h28 => ?_) (fun h28 => ?_)
                      · simp only [ab_cmp, pr_16_1681, pr_8_100, pr_8_41, pr_8_m4, pr_i_0, pr_i_1, pr_i_2, pr_i_m1] at h28
                        exact absurd rfl h28
                      · simp only [ab_cmp, pr_16_1681, pr_8_100, pr_8_41, pr_8_m4, pr_i_0, pr_i_1, pr_i_2, pr_i_m1] at h28
                        first
                        | contradiction
                        | exact absurd trivial h28
                        | exact absurd h28 (by decide)
                        | exact absurd (Classical.not_not.mp h28) (by decide)
                        | skip
                          refine pr_seq (pc' := 32) 1 rfl ⟨trivial, trivial⟩ ?_
                          exact pr_irM rfl (by first | rfl | (simp [pr_b, pr_16_1681, pr_8_100, pr_8_41, pr_8_m4, pr_i_0, pr_i_1, pr_i_2, pr_i_m1, *]; done) | (simp_all [pr_b, pr_16_1681, pr_8_100, pr_8_41, pr_8_m4, pr_i_0, pr_i_1, pr_i_2, pr_i_m1]; done)) trivial (by rfl)
        · rw [q3] at h3 ⊢
          rw [if_pos (show (true && true && true && true) = true from rfl), nI_clamp (by omega), nI_clamp (by omega)]
          have ha26 : a < 26 := by omega
          have hb26 : b < 26 := by omega
          have hA40 := (g7 a ha26).2
          have hB40 := (g7 b hb26).2
          have hwa := q_worthOf h M hl hv.1 ha26
          have hwb := q_worthOf h M hl hv.1 hb26
          have c41 : (41 : Int32) = nI 41 := rfl
          have c100 : (100 : Int32) = nI 100 := rfl
          have c1681 : (1681 : Int32) = nI 1681 := rfl
          have n0 : (0 : Int32) = nI 0 := rfl
          have setA : ∀ x y x', x ≤ 40 → y ≤ 40 → x' ≤ 40 → ∃ r, pr_C pX11_letterIs [.ref 172, .int (nI a), .int (nI x')] h (mL (mL M.1 a x) b y, M.2) (some (.int r)) h (mL (mL M.1 a x') b y, M.2) := fun x y x' hx hy hx' => by
            have := q_letterIs1 (l := a) (v := x') h (mL (mL M.1 a x) b y, M.2) hl (mAB_pg hv.1 ha26 hb26 hx hy) ha26 hx'
            rw [show ab_u (mL (mL M.1 a x) b y, M.2).1 173 (193 + a) (nI x' - nI a - 1) = mL (mL M.1 a x') b y from mL_swap eab] at this
            exact ⟨_, this⟩
          have setB : ∀ x y y', x ≤ 40 → y ≤ 40 → y' ≤ 40 → ∃ r, pr_C pX11_letterIs [.ref 172, .int (nI b), .int (nI y')] h (mL (mL M.1 a x) b y, M.2) (some (.int r)) h (mL (mL M.1 a x) b y', M.2) := fun x y y' hx hy hy' => by
            have := q_letterIs1 (l := b) (v := y') h (mL (mL M.1 a x) b y, M.2) hl (mAB_pg hv.1 ha26 hb26 hx hy) hb26 hy'
            rw [show ab_u (mL (mL M.1 a x) b y, M.2).1 173 (193 + b) (nI y' - nI b - 1) = mL (mL M.1 a x) b y' from ab_u_u] at this
            exact ⟨_, this⟩
          have idAB : mL (mL M.1 a (X.1.1.1 a)) b (X.1.1.1 b) = M.1 := by rw [mL_id hv.1 ha26, mL_id hv.1 hb26]
          generalize hfs : (if nI wn = 0 then nI (svc X a b 1681).1 else if (svc X a b 1681).1 = 0 then -4 else if nI wn = 1 then 100 * nI (svc X a b 1681).2.1 + nI (svc X a b 1681).2.2.1 else if nI wn = 2 then (if (svc X a b 1681).2.2.2.1 = true then nI (svc X a b 1681).2.1 else -4) else (if (svc X a b 1681).2.2.2.2 = true then nI (svc X a b 1681).2.2.1 else -4)) = R
          have fin : ∀ x y z11 z12, x ≤ 40 → y ≤ 40 → pr_E pX11_solve 243 (sv_L a b (nI wn) (X.1.1.1 a) (X.1.1.1 b) (svc X a b 1681) 1681 z11 z12) [] h (mL (mL M.1 a x) b y, M.2) (some (.int R)) h M := by
            intro x y z11 z12 hx hy
            obtain ⟨r1, s1⟩ := setA x y (X.1.1.1 a) hx hy hA40
            obtain ⟨r2, s2⟩ := setB (X.1.1.1 a) y (X.1.1.1 b) hA40 hy hB40
            rw [idAB] at s2
            have hsb := rsvc_b X a b 1681 (Nat.le_refl _)
            unfold sv_L
            generalize svc X a b 1681 = s at *
            obtain ⟨n, fa, fb, oa, ob⟩ := s
            obtain ⟨b1, b2, b3⟩ := hsb
            dsimp only at b1 b2 b3 hfs ⊢
            have d1 : (100 * fa + fb) / 100 = fa := by omega
            have d2 : 100 * fa + fb - fa * 100 = fb := by omega
            have e100 : 100 * nI fa + nI fb = nI (100 * fa + fb) := by rw [show (100 : Int32) = nI 100 from rfl, rI_mul, nI_add]
            have hsf : sfs (n, fa, fb, oa, ob) = if n = 0 then -4 else nI (100 * fa + fb) := rfl
            rw [hsf]
            rcases (show wn = 0 ∨ wn = 1 ∨ wn = 2 ∨ wn = 3 by omega) with rfl | rfl | rfl | rfl
            · have t2 : nI 0 < nI 2 := by decide
              rw [if_pos (show nI 0 = 0 from rfl)] at hfs
              subst hfs
              refine pr_seq (pc' := 247) 3 rfl ⟨⟨⟨trivial, (by first | decide | assumption)⟩, trivial⟩, trivial⟩ ?_
              try simp (disch := omega) only [c2, rKn, rI_mul, nI_add, nI_1, nI_clamp, pr_16_1681, pr_8_100, pr_8_41, pr_8_m4, pr_i_0, pr_i_1, pr_i_2, pr_i_m1]
              refine pr_cv [_, _] rfl rfl rfl rfl rfl (Nat.le_of_ble_eq_true rfl) (by first | assumption | decide | (simp (disch := omega) only [c2, rKn, rI_mul, nI_add, nI_1, nI_clamp, pr_16_1681, pr_8_100, pr_8_41, pr_8_m4, pr_i_0, pr_i_1, pr_i_2, pr_i_m1]; first | assumption | exact ⟨Or.inl (by assumption), rvin (by assumption) (by omega) (by decide)⟩ | exact ⟨by assumption, rvin (by assumption) (by omega) (by decide)⟩ | exact ⟨⟨by omega, by omega⟩, rvin (by assumption) (by omega) (by decide)⟩ | exact ⟨Or.inr (by assumption), rvin (by assumption) (by omega) (by decide)⟩ | exact ⟨Or.inr ⟨by assumption, (by first | exact Or.inl rfl | exact Or.inr rfl | exact pr_b01 _)⟩, rvin (by assumption) (by omega) (by decide)⟩ | exact ⟨by assumption, by assumption⟩ | decide | omega)) (Nat.le_of_ble_eq_true rfl) (s1) ?_
              refine pr_seq (pc' := 255) 4 rfl ⟨⟨⟨⟨trivial, trivial⟩, (by first | decide | assumption)⟩, trivial⟩, trivial⟩ ?_
              try simp (disch := omega) only [c2, rKn, rI_mul, nI_add, nI_1, nI_clamp, pr_16_1681, pr_8_100, pr_8_41, pr_8_m4, pr_i_0, pr_i_1, pr_i_2, pr_i_m1]
              refine pr_cv [_, _] rfl rfl rfl rfl rfl (Nat.le_of_ble_eq_true rfl) (by first | assumption | decide | (simp (disch := omega) only [c2, rKn, rI_mul, nI_add, nI_1, nI_clamp, pr_16_1681, pr_8_100, pr_8_41, pr_8_m4, pr_i_0, pr_i_1, pr_i_2, pr_i_m1]; first | assumption | exact ⟨Or.inl (by assumption), rvin (by assumption) (by omega) (by decide)⟩ | exact ⟨by assumption, rvin (by assumption) (by omega) (by decide)⟩ | exact ⟨⟨by omega, by omega⟩, rvin (by assumption) (by omega) (by decide)⟩ | exact ⟨Or.inr (by assumption), rvin (by assumption) (by omega) (by decide)⟩ | exact ⟨Or.inr ⟨by assumption, (by first | exact Or.inl rfl | exact Or.inr rfl | exact pr_b01 _)⟩, rvin (by assumption) (by omega) (by decide)⟩ | exact ⟨by assumption, by assumption⟩ | decide | omega)) (Nat.le_of_ble_eq_true rfl) (s2) ?_
              refine pr_seq (pc' := 261) 3 rfl ⟨⟨⟨trivial, trivial⟩, trivial⟩, trivial⟩ ?_
              try simp (disch := omega) only [c2, rKn, rI_mul, nI_add, nI_1, nI_clamp, pr_16_1681, pr_8_100, pr_8_41, pr_8_m4, pr_i_0, pr_i_1, pr_i_2, pr_i_m1]
              refine pr_ic rfl (fun h261 => ?_) (fun h261 => ?_)
              · simp only [ab_cmp, pr_16_1681, pr_8_100, pr_8_41, pr_8_m4, pr_i_0, pr_i_1, pr_i_2, pr_i_m1] at h261
                first
                | contradiction
                | exact absurd trivial h261
                | exact absurd h261 (by decide)
                | exact absurd (Classical.not_not.mp h261) (by decide)
                | skip
                  refine pr_seq (pc' := 270) 1 rfl ⟨trivial, trivial⟩ ?_
                  try simp (disch := omega) only [c2, rKn, rI_mul, nI_add, nI_1, nI_clamp, pr_16_1681, pr_8_100, pr_8_41, pr_8_m4, pr_i_0, pr_i_1, pr_i_2, pr_i_m1]
                  refine pr_if rfl (fun h270 => ?_) (fun h270 => ?_)
                  · simp only [ab_cmp, pr_16_1681, pr_8_100, pr_8_41, pr_8_m4, pr_i_0, pr_i_1, pr_i_2, pr_i_m1] at h270
                    exact absurd rfl h270
                  · simp only [ab_cmp, pr_16_1681, pr_8_100, pr_8_41, pr_8_m4, pr_i_0, pr_i_1, pr_i_2, pr_i_m1] at h270
                    first
                    | contradiction
                    | exact absurd trivial h270
                    | exact absurd h270 (by decide)
                    | exact absurd (Classical.not_not.mp h270) (by decide)
                    | skip
                      refine pr_seq (pc' := 280) 2 rfl ⟨⟨trivial, trivial⟩, trivial⟩ ?_
                      try simp (disch := omega) only [c2, rKn, rI_mul, nI_add, nI_1, nI_clamp, pr_16_1681, pr_8_100, pr_8_41, pr_8_m4, pr_i_0, pr_i_1, pr_i_2, pr_i_m1]
                      exact pr_irM rfl (by rfl) trivial (by rfl)
              · simp only [ab_cmp, pr_16_1681, pr_8_100, pr_8_41, pr_8_m4, pr_i_0, pr_i_1, pr_i_2, pr_i_m1] at h261
                exact absurd t2 h261
            · have t2 : nI 1 < nI 2 := by decide
              have t3 : ¬ nI 1 = 0 := by decide
              rw [if_neg t3, if_pos (show nI 1 = 1 from rfl), e100] at hfs
              rw [hfs]
              refine pr_seq (pc' := 247) 3 rfl ⟨⟨⟨trivial, (by first | decide | assumption)⟩, trivial⟩, trivial⟩ ?_
              try simp (disch := omega) only [c2, rKn, rI_mul, nI_add, nI_1, nI_clamp, pr_16_1681, pr_8_100, pr_8_41, pr_8_m4, pr_i_0, pr_i_1, pr_i_2, pr_i_m1]
              refine pr_cv [_, _] rfl rfl rfl rfl rfl (Nat.le_of_ble_eq_true rfl) (by first | assumption | decide | (simp (disch := omega) only [c2, rKn, rI_mul, nI_add, nI_1, nI_clamp, pr_16_1681, pr_8_100, pr_8_41, pr_8_m4, pr_i_0, pr_i_1, pr_i_2, pr_i_m1]; first | assumption | exact ⟨Or.inl (by assumption), rvin (by assumption) (by omega) (by decide)⟩ | exact ⟨by assumption, rvin (by assumption) (by omega) (by decide)⟩ | exact ⟨⟨by omega, by omega⟩, rvin (by assumption) (by omega) (by decide)⟩ | exact ⟨Or.inr (by assumption), rvin (by assumption) (by omega) (by decide)⟩ | exact ⟨Or.inr ⟨by assumption, (by first | exact Or.inl rfl | exact Or.inr rfl | exact pr_b01 _)⟩, rvin (by assumption) (by omega) (by decide)⟩ | exact ⟨by assumption, by assumption⟩ | decide | omega)) (Nat.le_of_ble_eq_true rfl) (s1) ?_
              refine pr_seq (pc' := 255) 4 rfl ⟨⟨⟨⟨trivial, trivial⟩, (by first | decide | assumption)⟩, trivial⟩, trivial⟩ ?_
              try simp (disch := omega) only [c2, rKn, rI_mul, nI_add, nI_1, nI_clamp, pr_16_1681, pr_8_100, pr_8_41, pr_8_m4, pr_i_0, pr_i_1, pr_i_2, pr_i_m1]
              refine pr_cv [_, _] rfl rfl rfl rfl rfl (Nat.le_of_ble_eq_true rfl) (by first | assumption | decide | (simp (disch := omega) only [c2, rKn, rI_mul, nI_add, nI_1, nI_clamp, pr_16_1681, pr_8_100, pr_8_41, pr_8_m4, pr_i_0, pr_i_1, pr_i_2, pr_i_m1]; first | assumption | exact ⟨Or.inl (by assumption), rvin (by assumption) (by omega) (by decide)⟩ | exact ⟨by assumption, rvin (by assumption) (by omega) (by decide)⟩ | exact ⟨⟨by omega, by omega⟩, rvin (by assumption) (by omega) (by decide)⟩ | exact ⟨Or.inr (by assumption), rvin (by assumption) (by omega) (by decide)⟩ | exact ⟨Or.inr ⟨by assumption, (by first | exact Or.inl rfl | exact Or.inr rfl | exact pr_b01 _)⟩, rvin (by assumption) (by omega) (by decide)⟩ | exact ⟨by assumption, by assumption⟩ | decide | omega)) (Nat.le_of_ble_eq_true rfl) (s2) ?_
              refine pr_seq (pc' := 261) 3 rfl ⟨⟨⟨trivial, trivial⟩, trivial⟩, trivial⟩ ?_
              try simp (disch := omega) only [c2, rKn, rI_mul, nI_add, nI_1, nI_clamp, pr_16_1681, pr_8_100, pr_8_41, pr_8_m4, pr_i_0, pr_i_1, pr_i_2, pr_i_m1]
              refine pr_ic rfl (fun h261 => ?_) (fun h261 => ?_)
              · simp only [ab_cmp, pr_16_1681, pr_8_100, pr_8_41, pr_8_m4, pr_i_0, pr_i_1, pr_i_2, pr_i_m1] at h261
                first
                | contradiction
                | exact absurd trivial h261
                | exact absurd h261 (by decide)
                | exact absurd (Classical.not_not.mp h261) (by decide)
                | skip
                  refine pr_seq (pc' := 270) 1 rfl ⟨trivial, trivial⟩ ?_
                  try simp (disch := omega) only [c2, rKn, rI_mul, nI_add, nI_1, nI_clamp, pr_16_1681, pr_8_100, pr_8_41, pr_8_m4, pr_i_0, pr_i_1, pr_i_2, pr_i_m1]
                  refine pr_if rfl (fun h270 => ?_) (fun h270 => ?_)
                  · simp only [ab_cmp, pr_16_1681, pr_8_100, pr_8_41, pr_8_m4, pr_i_0, pr_i_1, pr_i_2, pr_i_m1] at h270
                    first
                    | contradiction
                    | exact absurd trivial h270
                    | exact absurd h270 (by decide)
                    | exact absurd (Classical.not_not.mp h270) (by decide)
                    | skip
                      refine pr_seq (pc' := 280) 1 rfl ⟨trivial, trivial⟩ ?_
                      try simp (disch := omega) only [c2, rKn, rI_mul, nI_add, nI_1, nI_clamp, pr_16_1681, pr_8_100, pr_8_41, pr_8_m4, pr_i_0, pr_i_1, pr_i_2, pr_i_m1]
                      exact pr_irM rfl (by rfl) trivial (by rfl)
                  · simp only [ab_cmp, pr_16_1681, pr_8_100, pr_8_41, pr_8_m4, pr_i_0, pr_i_1, pr_i_2, pr_i_m1] at h270
                    exact absurd (Classical.not_not.mp h270) t3
              · simp only [ab_cmp, pr_16_1681, pr_8_100, pr_8_41, pr_8_m4, pr_i_0, pr_i_1, pr_i_2, pr_i_m1] at h261
                exact absurd t2 h261
            · have t2 : ¬ nI 2 < nI 2 := by decide
              have t3 : ¬ nI 2 = 0 := by decide
              rw [if_neg t3, if_neg (show ¬ nI 2 = 1 by decide), if_pos (show nI 2 = 2 from rfl)] at hfs
              by_cases nz : n = 0
              · have z : nI n = 0 := by rw [nz]; rfl
                rw [if_pos nz] at hfs
                rw [if_pos nz]
                subst hfs
                refine pr_seq (pc' := 247) 3 rfl ⟨⟨⟨trivial, (by first | decide | assumption)⟩, trivial⟩, trivial⟩ ?_
                try simp (disch := omega) only [c2, rKn, rI_mul, nI_add, nI_1, nI_clamp, pr_16_1681, pr_8_100, pr_8_41, pr_8_m4, pr_i_0, pr_i_1, pr_i_2, pr_i_m1]
                refine pr_cv [_, _] rfl rfl rfl rfl rfl (Nat.le_of_ble_eq_true rfl) (by first | assumption | decide | (simp (disch := omega) only [c2, rKn, rI_mul, nI_add, nI_1, nI_clamp, pr_16_1681, pr_8_100, pr_8_41, pr_8_m4, pr_i_0, pr_i_1, pr_i_2, pr_i_m1]; first | assumption | exact ⟨Or.inl (by assumption), rvin (by assumption) (by omega) (by decide)⟩ | exact ⟨by assumption, rvin (by assumption) (by omega) (by decide)⟩ | exact ⟨⟨by omega, by omega⟩, rvin (by assumption) (by omega) (by decide)⟩ | exact ⟨Or.inr (by assumption), rvin (by assumption) (by omega) (by decide)⟩ | exact ⟨Or.inr ⟨by assumption, (by first | exact Or.inl rfl | exact Or.inr rfl | exact pr_b01 _)⟩, rvin (by assumption) (by omega) (by decide)⟩ | exact ⟨by assumption, by assumption⟩ | decide | omega)) (Nat.le_of_ble_eq_true rfl) (s1) ?_
                refine pr_seq (pc' := 255) 4 rfl ⟨⟨⟨⟨trivial, trivial⟩, (by first | decide | assumption)⟩, trivial⟩, trivial⟩ ?_
                try simp (disch := omega) only [c2, rKn, rI_mul, nI_add, nI_1, nI_clamp, pr_16_1681, pr_8_100, pr_8_41, pr_8_m4, pr_i_0, pr_i_1, pr_i_2, pr_i_m1]
                refine pr_cv [_, _] rfl rfl rfl rfl rfl (Nat.le_of_ble_eq_true rfl) (by first | assumption | decide | (simp (disch := omega) only [c2, rKn, rI_mul, nI_add, nI_1, nI_clamp, pr_16_1681, pr_8_100, pr_8_41, pr_8_m4, pr_i_0, pr_i_1, pr_i_2, pr_i_m1]; first | assumption | exact ⟨Or.inl (by assumption), rvin (by assumption) (by omega) (by decide)⟩ | exact ⟨by assumption, rvin (by assumption) (by omega) (by decide)⟩ | exact ⟨⟨by omega, by omega⟩, rvin (by assumption) (by omega) (by decide)⟩ | exact ⟨Or.inr (by assumption), rvin (by assumption) (by omega) (by decide)⟩ | exact ⟨Or.inr ⟨by assumption, (by first | exact Or.inl rfl | exact Or.inr rfl | exact pr_b01 _)⟩, rvin (by assumption) (by omega) (by decide)⟩ | exact ⟨by assumption, by assumption⟩ | decide | omega)) (Nat.le_of_ble_eq_true rfl) (s2) ?_
                refine pr_seq (pc' := 261) 3 rfl ⟨⟨⟨trivial, trivial⟩, trivial⟩, trivial⟩ ?_
                try simp (disch := omega) only [c2, rKn, rI_mul, nI_add, nI_1, nI_clamp, pr_16_1681, pr_8_100, pr_8_41, pr_8_m4, pr_i_0, pr_i_1, pr_i_2, pr_i_m1]
                refine pr_ic rfl (fun h261 => ?_) (fun h261 => ?_)
                · simp only [ab_cmp, pr_16_1681, pr_8_100, pr_8_41, pr_8_m4, pr_i_0, pr_i_1, pr_i_2, pr_i_m1] at h261
                  exact absurd h261 t2
                · simp only [ab_cmp, pr_16_1681, pr_8_100, pr_8_41, pr_8_m4, pr_i_0, pr_i_1, pr_i_2, pr_i_m1] at h261
                  first
                  | contradiction
                  | exact absurd trivial h261
                  | exact absurd h261 (by decide)
                  | exact absurd (Classical.not_not.mp h261) (by decide)
                  | skip
                    refine pr_seq (pc' := 266) 1 rfl ⟨trivial, trivial⟩ ?_
                    try simp (disch := omega) only [c2, rKn, rI_mul, nI_add, nI_1, nI_clamp, pr_16_1681, pr_8_100, pr_8_41, pr_8_m4, pr_i_0, pr_i_1, pr_i_2, pr_i_m1]
                    refine pr_if rfl (fun h266 => ?_) (fun h266 => ?_)
                    · simp only [ab_cmp, pr_16_1681, pr_8_100, pr_8_41, pr_8_m4, pr_i_0, pr_i_1, pr_i_2, pr_i_m1] at h266
                      exact absurd z h266
                    · simp only [ab_cmp, pr_16_1681, pr_8_100, pr_8_41, pr_8_m4, pr_i_0, pr_i_1, pr_i_2, pr_i_m1] at h266
                      first
                      | contradiction
                      | exact absurd trivial h266
                      | exact absurd h266 (by decide)
                      | exact absurd (Classical.not_not.mp h266) (by decide)
                      | skip
                        refine pr_seq (pc' := 270) 1 rfl ⟨trivial, trivial⟩ ?_
                        try simp (disch := omega) only [c2, rKn, rI_mul, nI_add, nI_1, nI_clamp, pr_16_1681, pr_8_100, pr_8_41, pr_8_m4, pr_i_0, pr_i_1, pr_i_2, pr_i_m1]
                        refine pr_if rfl (fun h270 => ?_) (fun h270 => ?_)
                        · simp only [ab_cmp, pr_16_1681, pr_8_100, pr_8_41, pr_8_m4, pr_i_0, pr_i_1, pr_i_2, pr_i_m1] at h270
                          first
                          | contradiction
                          | exact absurd trivial h270
                          | exact absurd h270 (by decide)
                          | exact absurd (Classical.not_not.mp h270) (by decide)
                          | skip
                            refine pr_seq (pc' := 280) 1 rfl ⟨trivial, trivial⟩ ?_
                            try simp (disch := omega) only [c2, rKn, rI_mul, nI_add, nI_1, nI_clamp, pr_16_1681, pr_8_100, pr_8_41, pr_8_m4, pr_i_0, pr_i_1, pr_i_2, pr_i_m1]
                            exact pr_irM rfl (by rfl) trivial (by rfl)
                        · simp only [ab_cmp, pr_16_1681, pr_8_100, pr_8_41, pr_8_m4, pr_i_0, pr_i_1, pr_i_2, pr_i_m1] at h270
                          exact absurd (Classical.not_not.mp h270) t3
              · have z : ¬ nI n = 0 := nI_ne0 (by omega) (by omega)
                rw [if_neg nz] at hfs
                rw [if_neg nz]
                cases oa with
                | true =>
                  rw [if_pos rfl] at hfs
                  subst hfs
                  refine pr_seq (pc' := 247) 3 rfl ⟨⟨⟨trivial, (by first | decide | assumption)⟩, trivial⟩, trivial⟩ ?_
                  try simp (disch := omega) only [c2, c100, nI_div, d1, rKn, rI_mul, nI_add, nI_1, nI_clamp, pr_16_1681, pr_8_100, pr_8_41, pr_8_m4, pr_i_0, pr_i_1, pr_i_2, pr_i_m1]
                  refine pr_cv [_, _] rfl rfl rfl rfl rfl (Nat.le_of_ble_eq_true rfl) (by first | assumption | decide | (simp (disch := omega) only [c2, c100, nI_div, d1, rKn, rI_mul, nI_add, nI_1, nI_clamp, pr_16_1681, pr_8_100, pr_8_41, pr_8_m4, pr_i_0, pr_i_1, pr_i_2, pr_i_m1]; first | assumption | exact ⟨Or.inl (by assumption), rvin (by assumption) (by omega) (by decide)⟩ | exact ⟨by assumption, rvin (by assumption) (by omega) (by decide)⟩ | exact ⟨⟨by omega, by omega⟩, rvin (by assumption) (by omega) (by decide)⟩ | exact ⟨Or.inr (by assumption), rvin (by assumption) (by omega) (by decide)⟩ | exact ⟨Or.inr ⟨by assumption, (by first | exact Or.inl rfl | exact Or.inr rfl | exact pr_b01 _)⟩, rvin (by assumption) (by omega) (by decide)⟩ | exact ⟨by assumption, by assumption⟩ | decide | omega)) (Nat.le_of_ble_eq_true rfl) (s1) ?_
                  refine pr_seq (pc' := 255) 4 rfl ⟨⟨⟨⟨trivial, trivial⟩, (by first | decide | assumption)⟩, trivial⟩, trivial⟩ ?_
                  try simp (disch := omega) only [c2, c100, nI_div, d1, rKn, rI_mul, nI_add, nI_1, nI_clamp, pr_16_1681, pr_8_100, pr_8_41, pr_8_m4, pr_i_0, pr_i_1, pr_i_2, pr_i_m1]
                  refine pr_cv [_, _] rfl rfl rfl rfl rfl (Nat.le_of_ble_eq_true rfl) (by first | assumption | decide | (simp (disch := omega) only [c2, c100, nI_div, d1, rKn, rI_mul, nI_add, nI_1, nI_clamp, pr_16_1681, pr_8_100, pr_8_41, pr_8_m4, pr_i_0, pr_i_1, pr_i_2, pr_i_m1]; first | assumption | exact ⟨Or.inl (by assumption), rvin (by assumption) (by omega) (by decide)⟩ | exact ⟨by assumption, rvin (by assumption) (by omega) (by decide)⟩ | exact ⟨⟨by omega, by omega⟩, rvin (by assumption) (by omega) (by decide)⟩ | exact ⟨Or.inr (by assumption), rvin (by assumption) (by omega) (by decide)⟩ | exact ⟨Or.inr ⟨by assumption, (by first | exact Or.inl rfl | exact Or.inr rfl | exact pr_b01 _)⟩, rvin (by assumption) (by omega) (by decide)⟩ | exact ⟨by assumption, by assumption⟩ | decide | omega)) (Nat.le_of_ble_eq_true rfl) (s2) ?_
                  refine pr_seq (pc' := 261) 3 rfl ⟨⟨⟨trivial, trivial⟩, trivial⟩, trivial⟩ ?_
                  try simp (disch := omega) only [c2, c100, nI_div, d1, rKn, rI_mul, nI_add, nI_1, nI_clamp, pr_16_1681, pr_8_100, pr_8_41, pr_8_m4, pr_i_0, pr_i_1, pr_i_2, pr_i_m1]
                  refine pr_ic rfl (fun h261 => ?_) (fun h261 => ?_)
                  · simp only [ab_cmp, pr_16_1681, pr_8_100, pr_8_41, pr_8_m4, pr_i_0, pr_i_1, pr_i_2, pr_i_m1] at h261
                    exact absurd h261 t2
                  · simp only [ab_cmp, pr_16_1681, pr_8_100, pr_8_41, pr_8_m4, pr_i_0, pr_i_1, pr_i_2, pr_i_m1] at h261
                    first
                    | contradiction
                    | exact absurd trivial h261
                    | exact absurd h261 (by decide)
                    | exact absurd (Classical.not_not.mp h261) (by decide)
                    | skip
                      refine pr_seq (pc' := 266) 1 rfl ⟨trivial, trivial⟩ ?_
                      try simp (disch := omega) only [c2, c100, nI_div, d1, rKn, rI_mul, nI_add, nI_1, nI_clamp, pr_16_1681, pr_8_100, pr_8_41, pr_8_m4, pr_i_0, pr_i_1, pr_i_2, pr_i_m1]
                      refine pr_if rfl (fun h266 => ?_) (fun h266 => ?_)
                      · simp only [ab_cmp, pr_16_1681, pr_8_100, pr_8_41, pr_8_m4, pr_i_0, pr_i_1, pr_i_2, pr_i_m1] at h266
                        first
                        | contradiction
                        | exact absurd trivial h266
                        | exact absurd h266 (by decide)
                        | exact absurd (Classical.not_not.mp h266) (by decide)
                        | skip
                          refine pr_seq (pc' := 283) 2 rfl ⟨⟨trivial, trivial⟩, trivial⟩ ?_
                          try simp (disch := omega) only [c2, c100, nI_div, d1, rKn, rI_mul, nI_add, nI_1, nI_clamp, pr_16_1681, pr_8_100, pr_8_41, pr_8_m4, pr_i_0, pr_i_1, pr_i_2, pr_i_m1]
                          refine pr_ic rfl (fun h283 => ?_) (fun h283 => ?_)
                          · simp only [ab_cmp, pr_16_1681, pr_8_100, pr_8_41, pr_8_m4, pr_i_0, pr_i_1, pr_i_2, pr_i_m1] at h283
                            exact absurd trivial h283
                          · simp only [ab_cmp, pr_16_1681, pr_8_100, pr_8_41, pr_8_m4, pr_i_0, pr_i_1, pr_i_2, pr_i_m1] at h283
                            first
                            | contradiction
                            | exact absurd trivial h283
                            | exact absurd h283 (by decide)
                            | exact absurd (Classical.not_not.mp h283) (by decide)
                            | skip
                              refine pr_seq (pc' := 288) 1 rfl ⟨trivial, trivial⟩ ?_
                              try simp (disch := omega) only [c2, c100, nI_div, d1, rKn, rI_mul, nI_add, nI_1, nI_clamp, pr_16_1681, pr_8_100, pr_8_41, pr_8_m4, pr_i_0, pr_i_1, pr_i_2, pr_i_m1]
                              refine pr_if rfl (fun h288 => ?_) (fun h288 => ?_)
                              · simp only [ab_cmp, pr_16_1681, pr_8_100, pr_8_41, pr_8_m4, pr_i_0, pr_i_1, pr_i_2, pr_i_m1] at h288
                                exact absurd h288 (by decide)
                              · simp only [ab_cmp, pr_16_1681, pr_8_100, pr_8_41, pr_8_m4, pr_i_0, pr_i_1, pr_i_2, pr_i_m1] at h288
                                first
                                | contradiction
                                | exact absurd trivial h288
                                | exact absurd h288 (by decide)
                                | exact absurd (Classical.not_not.mp h288) (by decide)
                                | skip
                                  refine pr_seq (pc' := 319) 4 rfl ⟨⟨⟨⟨trivial, trivial⟩, trivial⟩, (by first | assumption | decide | (simp (disch := omega) only [c2, c100, nI_div, d1, rKn, rI_mul, nI_add, nI_1, nI_clamp, pr_16_1681, pr_8_100, pr_8_41, pr_8_m4, pr_i_0, pr_i_1, pr_i_2, pr_i_m1]; first | assumption | exact ⟨Or.inl (by assumption), rvin (by assumption) (by omega) (by decide)⟩ | exact ⟨by assumption, rvin (by assumption) (by omega) (by decide)⟩ | exact ⟨⟨by omega, by omega⟩, rvin (by assumption) (by omega) (by decide)⟩ | exact ⟨Or.inr (by assumption), rvin (by assumption) (by omega) (by decide)⟩ | exact ⟨Or.inr ⟨by assumption, (by first | exact Or.inl rfl | exact Or.inr rfl | exact pr_b01 _)⟩, rvin (by assumption) (by omega) (by decide)⟩ | exact ⟨by assumption, by assumption⟩ | decide | omega))⟩, trivial⟩ ?_
                                  try simp (disch := omega) only [c2, c100, nI_div, d1, rKn, rI_mul, nI_add, nI_1, nI_clamp, pr_16_1681, pr_8_100, pr_8_41, pr_8_m4, pr_i_0, pr_i_1, pr_i_2, pr_i_m1]
                                  exact pr_irM rfl (by rfl) trivial (by rfl)
                      · simp only [ab_cmp, pr_16_1681, pr_8_100, pr_8_41, pr_8_m4, pr_i_0, pr_i_1, pr_i_2, pr_i_m1] at h266
                        exact absurd (Classical.not_not.mp h266) z
                | false =>
                  rw [if_neg (by decide)] at hfs
                  subst hfs
                  refine pr_seq (pc' := 247) 3 rfl ⟨⟨⟨trivial, (by first | decide | assumption)⟩, trivial⟩, trivial⟩ ?_
                  try simp (disch := omega) only [c2, rKn, rI_mul, nI_add, nI_1, nI_clamp, pr_16_1681, pr_8_100, pr_8_41, pr_8_m4, pr_i_0, pr_i_1, pr_i_2, pr_i_m1]
                  refine pr_cv [_, _] rfl rfl rfl rfl rfl (Nat.le_of_ble_eq_true rfl) (by first | assumption | decide | (simp (disch := omega) only [c2, rKn, rI_mul, nI_add, nI_1, nI_clamp, pr_16_1681, pr_8_100, pr_8_41, pr_8_m4, pr_i_0, pr_i_1, pr_i_2, pr_i_m1]; first | assumption | exact ⟨Or.inl (by assumption), rvin (by assumption) (by omega) (by decide)⟩ | exact ⟨by assumption, rvin (by assumption) (by omega) (by decide)⟩ | exact ⟨⟨by omega, by omega⟩, rvin (by assumption) (by omega) (by decide)⟩ | exact ⟨Or.inr (by assumption), rvin (by assumption) (by omega) (by decide)⟩ | exact ⟨Or.inr ⟨by assumption, (by first | exact Or.inl rfl | exact Or.inr rfl | exact pr_b01 _)⟩, rvin (by assumption) (by omega) (by decide)⟩ | exact ⟨by assumption, by assumption⟩ | decide | omega)) (Nat.le_of_ble_eq_true rfl) (s1) ?_
                  refine pr_seq (pc' := 255) 4 rfl ⟨⟨⟨⟨trivial, trivial⟩, (by first | decide | assumption)⟩, trivial⟩, trivial⟩ ?_
                  try simp (disch := omega) only [c2, rKn, rI_mul, nI_add, nI_1, nI_clamp, pr_16_1681, pr_8_100, pr_8_41, pr_8_m4, pr_i_0, pr_i_1, pr_i_2, pr_i_m1]
                  refine pr_cv [_, _] rfl rfl rfl rfl rfl (Nat.le_of_ble_eq_true rfl) (by first | assumption | decide | (simp (disch := omega) only [c2, rKn, rI_mul, nI_add, nI_1, nI_clamp, pr_16_1681, pr_8_100, pr_8_41, pr_8_m4, pr_i_0, pr_i_1, pr_i_2, pr_i_m1]; first | assumption | exact ⟨Or.inl (by assumption), rvin (by assumption) (by omega) (by decide)⟩ | exact ⟨by assumption, rvin (by assumption) (by omega) (by decide)⟩ | exact ⟨⟨by omega, by omega⟩, rvin (by assumption) (by omega) (by decide)⟩ | exact ⟨Or.inr (by assumption), rvin (by assumption) (by omega) (by decide)⟩ | exact ⟨Or.inr ⟨by assumption, (by first | exact Or.inl rfl | exact Or.inr rfl | exact pr_b01 _)⟩, rvin (by assumption) (by omega) (by decide)⟩ | exact ⟨by assumption, by assumption⟩ | decide | omega)) (Nat.le_of_ble_eq_true rfl) (s2) ?_
                  refine pr_seq (pc' := 261) 3 rfl ⟨⟨⟨trivial, trivial⟩, trivial⟩, trivial⟩ ?_
                  try simp (disch := omega) only [c2, rKn, rI_mul, nI_add, nI_1, nI_clamp, pr_16_1681, pr_8_100, pr_8_41, pr_8_m4, pr_i_0, pr_i_1, pr_i_2, pr_i_m1]
                  refine pr_ic rfl (fun h261 => ?_) (fun h261 => ?_)
                  · simp only [ab_cmp, pr_16_1681, pr_8_100, pr_8_41, pr_8_m4, pr_i_0, pr_i_1, pr_i_2, pr_i_m1] at h261
                    exact absurd h261 t2
                  · simp only [ab_cmp, pr_16_1681, pr_8_100, pr_8_41, pr_8_m4, pr_i_0, pr_i_1, pr_i_2, pr_i_m1] at h261
                    first
                    | contradiction
                    | exact absurd trivial h261
                    | exact absurd h261 (by decide)
                    | exact absurd (Classical.not_not.mp h261) (by decide)
                    | skip
                      refine pr_seq (pc' := 266) 1 rfl ⟨trivial, trivial⟩ ?_
                      try simp (disch := omega) only [c2, rKn, rI_mul, nI_add, nI_1, nI_clamp, pr_16_1681, pr_8_100, pr_8_41, pr_8_m4, pr_i_0, pr_i_1, pr_i_2, pr_i_m1]
                      refine pr_if rfl (fun h266 => ?_) (fun h266 => ?_)
                      · simp only [ab_cmp, pr_16_1681, pr_8_100, pr_8_41, pr_8_m4, pr_i_0, pr_i_1, pr_i_2, pr_i_m1] at h266
                        first
                        | contradiction
                        | exact absurd trivial h266
                        | exact absurd h266 (by decide)
                        | exact absurd (Classical.not_not.mp h266) (by decide)
                        | skip
                          refine pr_seq (pc' := 283) 2 rfl ⟨⟨trivial, trivial⟩, trivial⟩ ?_
                          try simp (disch := omega) only [c2, rKn, rI_mul, nI_add, nI_1, nI_clamp, pr_16_1681, pr_8_100, pr_8_41, pr_8_m4, pr_i_0, pr_i_1, pr_i_2, pr_i_m1]
                          refine pr_ic rfl (fun h283 => ?_) (fun h283 => ?_)
                          · simp only [ab_cmp, pr_16_1681, pr_8_100, pr_8_41, pr_8_m4, pr_i_0, pr_i_1, pr_i_2, pr_i_m1] at h283
                            exact absurd trivial h283
                          · simp only [ab_cmp, pr_16_1681, pr_8_100, pr_8_41, pr_8_m4, pr_i_0, pr_i_1, pr_i_2, pr_i_m1] at h283
                            first
                            | contradiction
                            | exact absurd trivial h283
                            | exact absurd h283 (by decide)
                            | exact absurd (Classical.not_not.mp h283) (by decide)
                            | skip
                              refine pr_seq (pc' := 288) 1 rfl ⟨trivial, trivial⟩ ?_
                              try simp (disch := omega) only [c2, rKn, rI_mul, nI_add, nI_1, nI_clamp, pr_16_1681, pr_8_100, pr_8_41, pr_8_m4, pr_i_0, pr_i_1, pr_i_2, pr_i_m1]
                              refine pr_if rfl (fun h288 => ?_) (fun h288 => ?_)
                              · simp only [ab_cmp, pr_16_1681, pr_8_100, pr_8_41, pr_8_m4, pr_i_0, pr_i_1, pr_i_2, pr_i_m1] at h288
                                first
                                | contradiction
                                | exact absurd trivial h288
                                | exact absurd h288 (by decide)
                                | exact absurd (Classical.not_not.mp h288) (by decide)
                                | skip
                                  refine pr_seq (pc' := 319) 2 rfl ⟨⟨trivial, trivial⟩, trivial⟩ ?_
                                  try simp (disch := omega) only [c2, rKn, rI_mul, nI_add, nI_1, nI_clamp, pr_16_1681, pr_8_100, pr_8_41, pr_8_m4, pr_i_0, pr_i_1, pr_i_2, pr_i_m1]
                                  exact pr_irM rfl (by rfl) trivial (by rfl)
                              · simp only [ab_cmp, pr_16_1681, pr_8_100, pr_8_41, pr_8_m4, pr_i_0, pr_i_1, pr_i_2, pr_i_m1] at h288
                                exact absurd rfl h288
                      · simp only [ab_cmp, pr_16_1681, pr_8_100, pr_8_41, pr_8_m4, pr_i_0, pr_i_1, pr_i_2, pr_i_m1] at h266
                        exact absurd (Classical.not_not.mp h266) z
            · have t2 : ¬ nI 3 < nI 2 := by decide
              have t3 : ¬ nI 3 = 0 := by decide
              have t4 : ¬ nI 3 = nI 2 := by decide
              rw [if_neg t3, if_neg (show ¬ nI 3 = 1 by decide), if_neg (show ¬ nI 3 = 2 by decide)] at hfs
              by_cases nz : n = 0
              · have z : nI n = 0 := by rw [nz]; rfl
                rw [if_pos nz] at hfs
                rw [if_pos nz]
                subst hfs
                refine pr_seq (pc' := 247) 3 rfl ⟨⟨⟨trivial, (by first | decide | assumption)⟩, trivial⟩, trivial⟩ ?_
                try simp (disch := omega) only [c2, rKn, rI_mul, nI_add, nI_1, nI_clamp, pr_16_1681, pr_8_100, pr_8_41, pr_8_m4, pr_i_0, pr_i_1, pr_i_2, pr_i_m1]
                refine pr_cv [_, _] rfl rfl rfl rfl rfl (Nat.le_of_ble_eq_true rfl) (by first | assumption | decide | (simp (disch := omega) only [c2, rKn, rI_mul, nI_add, nI_1, nI_clamp, pr_16_1681, pr_8_100, pr_8_41, pr_8_m4, pr_i_0, pr_i_1, pr_i_2, pr_i_m1]; first | assumption | exact ⟨Or.inl (by assumption), rvin (by assumption) (by omega) (by decide)⟩ | exact ⟨by assumption, rvin (by assumption) (by omega) (by decide)⟩ | exact ⟨⟨by omega, by omega⟩, rvin (by assumption) (by omega) (by decide)⟩ | exact ⟨Or.inr (by assumption), rvin (by assumption) (by omega) (by decide)⟩ | exact ⟨Or.inr ⟨by assumption, (by first | exact Or.inl rfl | exact Or.inr rfl | exact pr_b01 _)⟩, rvin (by assumption) (by omega) (by decide)⟩ | exact ⟨by assumption, by assumption⟩ | decide | omega)) (Nat.le_of_ble_eq_true rfl) (s1) ?_
                refine pr_seq (pc' := 255) 4 rfl ⟨⟨⟨⟨trivial, trivial⟩, (by first | decide | assumption)⟩, trivial⟩, trivial⟩ ?_
                try simp (disch := omega) only [c2, rKn, rI_mul, nI_add, nI_1, nI_clamp, pr_16_1681, pr_8_100, pr_8_41, pr_8_m4, pr_i_0, pr_i_1, pr_i_2, pr_i_m1]
                refine pr_cv [_, _] rfl rfl rfl rfl rfl (Nat.le_of_ble_eq_true rfl) (by first | assumption | decide | (simp (disch := omega) only [c2, rKn, rI_mul, nI_add, nI_1, nI_clamp, pr_16_1681, pr_8_100, pr_8_41, pr_8_m4, pr_i_0, pr_i_1, pr_i_2, pr_i_m1]; first | assumption | exact ⟨Or.inl (by assumption), rvin (by assumption) (by omega) (by decide)⟩ | exact ⟨by assumption, rvin (by assumption) (by omega) (by decide)⟩ | exact ⟨⟨by omega, by omega⟩, rvin (by assumption) (by omega) (by decide)⟩ | exact ⟨Or.inr (by assumption), rvin (by assumption) (by omega) (by decide)⟩ | exact ⟨Or.inr ⟨by assumption, (by first | exact Or.inl rfl | exact Or.inr rfl | exact pr_b01 _)⟩, rvin (by assumption) (by omega) (by decide)⟩ | exact ⟨by assumption, by assumption⟩ | decide | omega)) (Nat.le_of_ble_eq_true rfl) (s2) ?_
                refine pr_seq (pc' := 261) 3 rfl ⟨⟨⟨trivial, trivial⟩, trivial⟩, trivial⟩ ?_
                try simp (disch := omega) only [c2, rKn, rI_mul, nI_add, nI_1, nI_clamp, pr_16_1681, pr_8_100, pr_8_41, pr_8_m4, pr_i_0, pr_i_1, pr_i_2, pr_i_m1]
                refine pr_ic rfl (fun h261 => ?_) (fun h261 => ?_)
                · simp only [ab_cmp, pr_16_1681, pr_8_100, pr_8_41, pr_8_m4, pr_i_0, pr_i_1, pr_i_2, pr_i_m1] at h261
                  exact absurd h261 t2
                · simp only [ab_cmp, pr_16_1681, pr_8_100, pr_8_41, pr_8_m4, pr_i_0, pr_i_1, pr_i_2, pr_i_m1] at h261
                  first
                  | contradiction
                  | exact absurd trivial h261
                  | exact absurd h261 (by decide)
                  | exact absurd (Classical.not_not.mp h261) (by decide)
                  | skip
                    refine pr_seq (pc' := 266) 1 rfl ⟨trivial, trivial⟩ ?_
                    try simp (disch := omega) only [c2, rKn, rI_mul, nI_add, nI_1, nI_clamp, pr_16_1681, pr_8_100, pr_8_41, pr_8_m4, pr_i_0, pr_i_1, pr_i_2, pr_i_m1]
                    refine pr_if rfl (fun h266 => ?_) (fun h266 => ?_)
                    · simp only [ab_cmp, pr_16_1681, pr_8_100, pr_8_41, pr_8_m4, pr_i_0, pr_i_1, pr_i_2, pr_i_m1] at h266
                      exact absurd z h266
                    · simp only [ab_cmp, pr_16_1681, pr_8_100, pr_8_41, pr_8_m4, pr_i_0, pr_i_1, pr_i_2, pr_i_m1] at h266
                      first
                      | contradiction
                      | exact absurd trivial h266
                      | exact absurd h266 (by decide)
                      | exact absurd (Classical.not_not.mp h266) (by decide)
                      | skip
                        refine pr_seq (pc' := 270) 1 rfl ⟨trivial, trivial⟩ ?_
                        try simp (disch := omega) only [c2, rKn, rI_mul, nI_add, nI_1, nI_clamp, pr_16_1681, pr_8_100, pr_8_41, pr_8_m4, pr_i_0, pr_i_1, pr_i_2, pr_i_m1]
                        refine pr_if rfl (fun h270 => ?_) (fun h270 => ?_)
                        · simp only [ab_cmp, pr_16_1681, pr_8_100, pr_8_41, pr_8_m4, pr_i_0, pr_i_1, pr_i_2, pr_i_m1] at h270
                          first
                          | contradiction
                          | exact absurd trivial h270
                          | exact absurd h270 (by decide)
                          | exact absurd (Classical.not_not.mp h270) (by decide)
                          | skip
                            refine pr_seq (pc' := 280) 1 rfl ⟨trivial, trivial⟩ ?_
                            try simp (disch := omega) only [c2, rKn, rI_mul, nI_add, nI_1, nI_clamp, pr_16_1681, pr_8_100, pr_8_41, pr_8_m4, pr_i_0, pr_i_1, pr_i_2, pr_i_m1]
                            exact pr_irM rfl (by rfl) trivial (by rfl)
                        · simp only [ab_cmp, pr_16_1681, pr_8_100, pr_8_41, pr_8_m4, pr_i_0, pr_i_1, pr_i_2, pr_i_m1] at h270
                          exact absurd (Classical.not_not.mp h270) t3
              · have z : ¬ nI n = 0 := nI_ne0 (by omega) (by omega)
                rw [if_neg nz] at hfs
                rw [if_neg nz]
                cases ob with
                | true =>
                  rw [if_pos rfl] at hfs
                  subst hfs
                  refine pr_seq (pc' := 247) 3 rfl ⟨⟨⟨trivial, (by first | decide | assumption)⟩, trivial⟩, trivial⟩ ?_
                  try simp (disch := omega) only [c2, c100, nI_div, i_sub, d1, d2, rKn, rI_mul, nI_add, nI_1, nI_clamp, pr_16_1681, pr_8_100, pr_8_41, pr_8_m4, pr_i_0, pr_i_1, pr_i_2, pr_i_m1]
                  refine pr_cv [_, _] rfl rfl rfl rfl rfl (Nat.le_of_ble_eq_true rfl) (by first | assumption | decide | (simp (disch := omega) only [c2, c100, nI_div, i_sub, d1, d2, rKn, rI_mul, nI_add, nI_1, nI_clamp, pr_16_1681, pr_8_100, pr_8_41, pr_8_m4, pr_i_0, pr_i_1, pr_i_2, pr_i_m1]; first | assumption | exact ⟨Or.inl (by assumption), rvin (by assumption) (by omega) (by decide)⟩ | exact ⟨by assumption, rvin (by assumption) (by omega) (by decide)⟩ | exact ⟨⟨by omega, by omega⟩, rvin (by assumption) (by omega) (by decide)⟩ | exact ⟨Or.inr (by assumption), rvin (by assumption) (by omega) (by decide)⟩ | exact ⟨Or.inr ⟨by assumption, (by first | exact Or.inl rfl | exact Or.inr rfl | exact pr_b01 _)⟩, rvin (by assumption) (by omega) (by decide)⟩ | exact ⟨by assumption, by assumption⟩ | decide | omega)) (Nat.le_of_ble_eq_true rfl) (s1) ?_
                  refine pr_seq (pc' := 255) 4 rfl ⟨⟨⟨⟨trivial, trivial⟩, (by first | decide | assumption)⟩, trivial⟩, trivial⟩ ?_
                  try simp (disch := omega) only [c2, c100, nI_div, i_sub, d1, d2, rKn, rI_mul, nI_add, nI_1, nI_clamp, pr_16_1681, pr_8_100, pr_8_41, pr_8_m4, pr_i_0, pr_i_1, pr_i_2, pr_i_m1]
                  refine pr_cv [_, _] rfl rfl rfl rfl rfl (Nat.le_of_ble_eq_true rfl) (by first | assumption | decide | (simp (disch := omega) only [c2, c100, nI_div, i_sub, d1, d2, rKn, rI_mul, nI_add, nI_1, nI_clamp, pr_16_1681, pr_8_100, pr_8_41, pr_8_m4, pr_i_0, pr_i_1, pr_i_2, pr_i_m1]; first | assumption | exact ⟨Or.inl (by assumption), rvin (by assumption) (by omega) (by decide)⟩ | exact ⟨by assumption, rvin (by assumption) (by omega) (by decide)⟩ | exact ⟨⟨by omega, by omega⟩, rvin (by assumption) (by omega) (by decide)⟩ | exact ⟨Or.inr (by assumption), rvin (by assumption) (by omega) (by decide)⟩ | exact ⟨Or.inr ⟨by assumption, (by first | exact Or.inl rfl | exact Or.inr rfl | exact pr_b01 _)⟩, rvin (by assumption) (by omega) (by decide)⟩ | exact ⟨by assumption, by assumption⟩ | decide | omega)) (Nat.le_of_ble_eq_true rfl) (s2) ?_
                  refine pr_seq (pc' := 261) 3 rfl ⟨⟨⟨trivial, trivial⟩, trivial⟩, trivial⟩ ?_
                  try simp (disch := omega) only [c2, c100, nI_div, i_sub, d1, d2, rKn, rI_mul, nI_add, nI_1, nI_clamp, pr_16_1681, pr_8_100, pr_8_41, pr_8_m4, pr_i_0, pr_i_1, pr_i_2, pr_i_m1]
                  refine pr_ic rfl (fun h261 => ?_) (fun h261 => ?_)
                  · simp only [ab_cmp, pr_16_1681, pr_8_100, pr_8_41, pr_8_m4, pr_i_0, pr_i_1, pr_i_2, pr_i_m1] at h261
                    exact absurd h261 t2
                  · simp only [ab_cmp, pr_16_1681, pr_8_100, pr_8_41, pr_8_m4, pr_i_0, pr_i_1, pr_i_2, pr_i_m1] at h261
                    first
                    | contradiction
                    | exact absurd trivial h261
                    | exact absurd h261 (by decide)
                    | exact absurd (Classical.not_not.mp h261) (by decide)
                    | skip
                      refine pr_seq (pc' := 266) 1 rfl ⟨trivial, trivial⟩ ?_
                      try simp (disch := omega) only [c2, c100, nI_div, i_sub, d1, d2, rKn, rI_mul, nI_add, nI_1, nI_clamp, pr_16_1681, pr_8_100, pr_8_41, pr_8_m4, pr_i_0, pr_i_1, pr_i_2, pr_i_m1]
                      refine pr_if rfl (fun h266 => ?_) (fun h266 => ?_)
                      · simp only [ab_cmp, pr_16_1681, pr_8_100, pr_8_41, pr_8_m4, pr_i_0, pr_i_1, pr_i_2, pr_i_m1] at h266
                        first
                        | contradiction
                        | exact absurd trivial h266
                        | exact absurd h266 (by decide)
                        | exact absurd (Classical.not_not.mp h266) (by decide)
                        | skip
                          refine pr_seq (pc' := 283) 2 rfl ⟨⟨trivial, trivial⟩, trivial⟩ ?_
                          try simp (disch := omega) only [c2, c100, nI_div, i_sub, d1, d2, rKn, rI_mul, nI_add, nI_1, nI_clamp, pr_16_1681, pr_8_100, pr_8_41, pr_8_m4, pr_i_0, pr_i_1, pr_i_2, pr_i_m1]
                          refine pr_ic rfl (fun h283 => ?_) (fun h283 => ?_)
                          · simp only [ab_cmp, pr_16_1681, pr_8_100, pr_8_41, pr_8_m4, pr_i_0, pr_i_1, pr_i_2, pr_i_m1] at h283
                            first
                            | contradiction
                            | exact absurd trivial h283
                            | exact absurd h283 (by decide)
                            | exact absurd (Classical.not_not.mp h283) (by decide)
                            | skip
                              refine pr_seq (pc' := 306) 1 rfl ⟨trivial, trivial⟩ ?_
                              try simp (disch := omega) only [c2, c100, nI_div, i_sub, d1, d2, rKn, rI_mul, nI_add, nI_1, nI_clamp, pr_16_1681, pr_8_100, pr_8_41, pr_8_m4, pr_i_0, pr_i_1, pr_i_2, pr_i_m1]
                              refine pr_if rfl (fun h306 => ?_) (fun h306 => ?_)
                              · simp only [ab_cmp, pr_16_1681, pr_8_100, pr_8_41, pr_8_m4, pr_i_0, pr_i_1, pr_i_2, pr_i_m1] at h306
                                exact absurd h306 (by decide)
                              · simp only [ab_cmp, pr_16_1681, pr_8_100, pr_8_41, pr_8_m4, pr_i_0, pr_i_1, pr_i_2, pr_i_m1] at h306
                                first
                                | contradiction
                                | exact absurd trivial h306
                                | exact absurd h306 (by decide)
                                | exact absurd (Classical.not_not.mp h306) (by decide)
                                | skip
                                  refine pr_seq (pc' := 319) 4 rfl ⟨⟨⟨⟨trivial, trivial⟩, trivial⟩, (by first | assumption | decide | (simp (disch := omega) only [c2, c100, nI_div, i_sub, d1, d2, rKn, rI_mul, nI_add, nI_1, nI_clamp, pr_16_1681, pr_8_100, pr_8_41, pr_8_m4, pr_i_0, pr_i_1, pr_i_2, pr_i_m1]; first | assumption | exact ⟨Or.inl (by assumption), rvin (by assumption) (by omega) (by decide)⟩ | exact ⟨by assumption, rvin (by assumption) (by omega) (by decide)⟩ | exact ⟨⟨by omega, by omega⟩, rvin (by assumption) (by omega) (by decide)⟩ | exact ⟨Or.inr (by assumption), rvin (by assumption) (by omega) (by decide)⟩ | exact ⟨Or.inr ⟨by assumption, (by first | exact Or.inl rfl | exact Or.inr rfl | exact pr_b01 _)⟩, rvin (by assumption) (by omega) (by decide)⟩ | exact ⟨by assumption, by assumption⟩ | decide | omega))⟩, trivial⟩ ?_
                                  try simp (disch := omega) only [c2, c100, nI_div, i_sub, d1, d2, rKn, rI_mul, nI_add, nI_1, nI_clamp, pr_16_1681, pr_8_100, pr_8_41, pr_8_m4, pr_i_0, pr_i_1, pr_i_2, pr_i_m1]
                                  exact pr_irM rfl (by rfl) trivial (by rfl)
                          · simp only [ab_cmp, pr_16_1681, pr_8_100, pr_8_41, pr_8_m4, pr_i_0, pr_i_1, pr_i_2, pr_i_m1] at h283
                            exact absurd (Classical.not_not.mp h283) t4
                      · simp only [ab_cmp, pr_16_1681, pr_8_100, pr_8_41, pr_8_m4, pr_i_0, pr_i_1, pr_i_2, pr_i_m1] at h266
                        exact absurd (Classical.not_not.mp h266) z
                | false =>
                  rw [if_neg (by decide)] at hfs
                  subst hfs
                  refine pr_seq (pc' := 247) 3 rfl ⟨⟨⟨trivial, (by first | decide | assumption)⟩, trivial⟩, trivial⟩ ?_
                  try simp (disch := omega) only [c2, rKn, rI_mul, nI_add, nI_1, nI_clamp, pr_16_1681, pr_8_100, pr_8_41, pr_8_m4, pr_i_0, pr_i_1, pr_i_2, pr_i_m1]
                  refine pr_cv [_, _] rfl rfl rfl rfl rfl (Nat.le_of_ble_eq_true rfl) (by first | assumption | decide | (simp (disch := omega) only [c2, rKn, rI_mul, nI_add, nI_1, nI_clamp, pr_16_1681, pr_8_100, pr_8_41, pr_8_m4, pr_i_0, pr_i_1, pr_i_2, pr_i_m1]; first | assumption | exact ⟨Or.inl (by assumption), rvin (by assumption) (by omega) (by decide)⟩ | exact ⟨by assumption, rvin (by assumption) (by omega) (by decide)⟩ | exact ⟨⟨by omega, by omega⟩, rvin (by assumption) (by omega) (by decide)⟩ | exact ⟨Or.inr (by assumption), rvin (by assumption) (by omega) (by decide)⟩ | exact ⟨Or.inr ⟨by assumption, (by first | exact Or.inl rfl | exact Or.inr rfl | exact pr_b01 _)⟩, rvin (by assumption) (by omega) (by decide)⟩ | exact ⟨by assumption, by assumption⟩ | decide | omega)) (Nat.le_of_ble_eq_true rfl) (s1) ?_
                  refine pr_seq (pc' := 255) 4 rfl ⟨⟨⟨⟨trivial, trivial⟩, (by first | decide | assumption)⟩, trivial⟩, trivial⟩ ?_
                  try simp (disch := omega) only [c2, rKn, rI_mul, nI_add, nI_1, nI_clamp, pr_16_1681, pr_8_100, pr_8_41, pr_8_m4, pr_i_0, pr_i_1, pr_i_2, pr_i_m1]
                  refine pr_cv [_, _] rfl rfl rfl rfl rfl (Nat.le_of_ble_eq_true rfl) (by first | assumption | decide | (simp (disch := omega) only [c2, rKn, rI_mul, nI_add, nI_1, nI_clamp, pr_16_1681, pr_8_100, pr_8_41, pr_8_m4, pr_i_0, pr_i_1, pr_i_2, pr_i_m1]; first | assumption | exact ⟨Or.inl (by assumption), rvin (by assumption) (by omega) (by decide)⟩ | exact ⟨by assumption, rvin (by assumption) (by omega) (by decide)⟩ | exact ⟨⟨by omega, by omega⟩, rvin (by assumption) (by omega) (by decide)⟩ | exact ⟨Or.inr (by assumption), rvin (by assumption) (by omega) (by decide)⟩ | exact ⟨Or.inr ⟨by assumption, (by first | exact Or.inl rfl | exact Or.inr rfl | exact pr_b01 _)⟩, rvin (by assumption) (by omega) (by decide)⟩ | exact ⟨by assumption, by assumption⟩ | decide | omega)) (Nat.le_of_ble_eq_true rfl) (s2) ?_
                  refine pr_seq (pc' := 261) 3 rfl ⟨⟨⟨trivial, trivial⟩, trivial⟩, trivial⟩ ?_
                  try simp (disch := omega) only [c2, rKn, rI_mul, nI_add, nI_1, nI_clamp, pr_16_1681, pr_8_100, pr_8_41, pr_8_m4, pr_i_0, pr_i_1, pr_i_2, pr_i_m1]
                  refine pr_ic rfl (fun h261 => ?_) (fun h261 => ?_)
                  · simp only [ab_cmp, pr_16_1681, pr_8_100, pr_8_41, pr_8_m4, pr_i_0, pr_i_1, pr_i_2, pr_i_m1] at h261
                    exact absurd h261 t2
                  · simp only [ab_cmp, pr_16_1681, pr_8_100, pr_8_41, pr_8_m4, pr_i_0, pr_i_1, pr_i_2, pr_i_m1] at h261
                    first
                    | contradiction
                    | exact absurd trivial h261
                    | exact absurd h261 (by decide)
                    | exact absurd (Classical.not_not.mp h261) (by decide)
                    | skip
                      refine pr_seq (pc' := 266) 1 rfl ⟨trivial, trivial⟩ ?_
                      try simp (disch := omega) only [c2, rKn, rI_mul, nI_add, nI_1, nI_clamp, pr_16_1681, pr_8_100, pr_8_41, pr_8_m4, pr_i_0, pr_i_1, pr_i_2, pr_i_m1]
                      refine pr_if rfl (fun h266 => ?_) (fun h266 => ?_)
                      · simp only [ab_cmp, pr_16_1681, pr_8_100, pr_8_41, pr_8_m4, pr_i_0, pr_i_1, pr_i_2, pr_i_m1] at h266
                        first
                        | contradiction
                        | exact absurd trivial h266
                        | exact absurd h266 (by decide)
                        | exact absurd (Classical.not_not.mp h266) (by decide)
                        | skip
                          refine pr_seq (pc' := 283) 2 rfl ⟨⟨trivial, trivial⟩, trivial⟩ ?_
                          try simp (disch := omega) only [c2, rKn, rI_mul, nI_add, nI_1, nI_clamp, pr_16_1681, pr_8_100, pr_8_41, pr_8_m4, pr_i_0, pr_i_1, pr_i_2, pr_i_m1]
                          refine pr_ic rfl (fun h283 => ?_) (fun h283 => ?_)
                          · simp only [ab_cmp, pr_16_1681, pr_8_100, pr_8_41, pr_8_m4, pr_i_0, pr_i_1, pr_i_2, pr_i_m1] at h283
                            first
                            | contradiction
                            | exact absurd trivial h283
                            | exact absurd h283 (by decide)
                            | exact absurd (Classical.not_not.mp h283) (by decide)
                            | skip
                              refine pr_seq (pc' := 306) 1 rfl ⟨trivial, trivial⟩ ?_
                              try simp (disch := omega) only [c2, rKn, rI_mul, nI_add, nI_1, nI_clamp, pr_16_1681, pr_8_100, pr_8_41, pr_8_m4, pr_i_0, pr_i_1, pr_i_2, pr_i_m1]
                              refine pr_if rfl (fun h306 => ?_) (fun h306 => ?_)
                              · simp only [ab_cmp, pr_16_1681, pr_8_100, pr_8_41, pr_8_m4, pr_i_0, pr_i_1, pr_i_2, pr_i_m1] at h306
                                first
                                | contradiction
                                | exact absurd trivial h306
                                | exact absurd h306 (by decide)
                                | exact absurd (Classical.not_not.mp h306) (by decide)
                                | skip
                                  refine pr_seq (pc' := 319) 1 rfl ⟨trivial, trivial⟩ ?_
                                  try simp (disch := omega) only [c2, rKn, rI_mul, nI_add, nI_1, nI_clamp, pr_16_1681, pr_8_100, pr_8_41, pr_8_m4, pr_i_0, pr_i_1, pr_i_2, pr_i_m1]
                                  exact pr_irM rfl (by rfl) trivial (by rfl)
                              · simp only [ab_cmp, pr_16_1681, pr_8_100, pr_8_41, pr_8_m4, pr_i_0, pr_i_1, pr_i_2, pr_i_m1] at h306
                                exact absurd rfl h306
                          · simp only [ab_cmp, pr_16_1681, pr_8_100, pr_8_41, pr_8_m4, pr_i_0, pr_i_1, pr_i_2, pr_i_m1] at h283
                            exact absurd (Classical.not_not.mp h283) t4
                      · simp only [ab_cmp, pr_16_1681, pr_8_100, pr_8_41, pr_8_m4, pr_i_0, pr_i_1, pr_i_2, pr_i_m1] at h266
                        exact absurd (Classical.not_not.mp h266) z
          have loop : ∀ dd k, k + dd = 1681 → ∀ x y z11 z12, x ≤ 40 → y ≤ 40 → pr_E pX11_solve 63 (sv_L a b (nI wn) (X.1.1.1 a) (X.1.1.1 b) (svc X a b k) k z11 z12) [] h (mL (mL M.1 a x) b y, M.2) (some (.int R)) h M := by
            intro dd
            induction dd with
            | zero =>
              intro k hk x y z11 z12 hx hy
              obtain rfl : k = 1681 := by omega
              have e1 : nI 1681 ≤ nI 1681 := nI_le (Nat.le_refl _) (by decide)
              have f0 := fin x y z11 z12 hx hy
              unfold sv_L at f0 ⊢
              refine pr_seq (pc' := 68) 2 rfl ⟨⟨trivial, trivial⟩, trivial⟩ ?_
              try simp (disch := omega) only [c1681, rKn, rI_mul, nI_add, nI_1, nI_clamp, pr_16_1681, pr_8_100, pr_8_41, pr_8_m4, pr_i_0, pr_i_1, pr_i_2, pr_i_m1]
              refine pr_ic rfl (fun h68 => ?_) (fun h68 => ?_)
              · simp only [ab_cmp, pr_16_1681, pr_8_100, pr_8_41, pr_8_m4, pr_i_0, pr_i_1, pr_i_2, pr_i_m1] at h68
                first
                | contradiction
                | exact absurd trivial h68
                | exact absurd h68 (by decide)
                | exact absurd (Classical.not_not.mp h68) (by decide)
                | skip
                  exact f0
              · simp only [ab_cmp, pr_16_1681, pr_8_100, pr_8_41, pr_8_m4, pr_i_0, pr_i_1, pr_i_2, pr_i_m1] at h68
                exact absurd e1 h68
            | succ dd ih =>
              intro k hk x0 y0 z11 z12 hx0 hy0
              have e1 : ¬ nI 1681 ≤ nI k := nI_ge (by omega) (by decide)
              obtain ⟨x, hx⟩ : ∃ x, k / 41 = x := ⟨_, rfl⟩
              obtain ⟨y, hy⟩ : ∃ y, k % 41 = y := ⟨_, rfl⟩
              have hy2 : k - x * 41 = y := by omega
              have hx40 : x ≤ 40 := by omega
              have hy40 : y ≤ 40 := by omega
              obtain ⟨r1, s1⟩ := setA x0 y0 x hx0 hy0 hx40
              obtain ⟨r2, s2⟩ := setB x y0 y hx40 hy0 hy40
              have hpg := mAB_pg (X := X) (x := x) (y := y) hv.1 ha26 hb26 hx40 hy40
              have m174 : mL (mL M.1 a x) b y 174 = M.1 174 := (ab_u_ne (show (174 : Nat) ≠ 173 by decide)).trans (ab_u_ne (show (174 : Nat) ≠ 173 by decide))
              have m175 : mL (mL M.1 a x) b y 175 = M.1 175 := (ab_u_ne (show (175 : Nat) ≠ 173 by decide)).trans (ab_u_ne (show (175 : Nat) ≠ 173 by decide))
              have m172 : mL (mL M.1 a x) b y 172 = M.1 172 := (ab_u_ne (show (172 : Nat) ≠ 173 by decide)).trans (ab_u_ne (show (172 : Nat) ≠ 173 by decide))
              have kz : mL (mL M.1 a x) b y 172 4 = nI X.1.2.2.length := by rw [m172]; exact k1
              have hsb := rsvc_b X a b k (by omega)
              have hst : svc X a b (k + 1) = if svF X a b x y then svt (svc X a b k) x y else svc X a b k := by rw [← hx, ← hy]; rfl
              have tail : ∀ z12', pr_E pX11_solve 153 (sv_L a b (nI wn) (X.1.1.1 a) (X.1.1.1 b) (svc X a b k) k (some (.int (pr_b (svF X a b x y)))) z12') [] h (mL (mL M.1 a x) b y, M.2) (some (.int R)) h M := by
                intro z12'
                have hh := ih (k + 1) (by omega) x y (some (.int (pr_b (svF X a b x y)))) z12' hx40 hy40
                rw [hst] at hh
                cases cF : svF X a b x y with
                | false =>
                  rw [cF, if_neg (by decide)] at hh
                  unfold sv_L at hh ⊢
                  refine pr_seq (pc' := 155) 1 rfl ⟨trivial, trivial⟩ ?_
                  try simp (disch := omega) only [rKn, rI_mul, nI_add, nI_1, nI_clamp, pr_16_1681, pr_8_100, pr_8_41, pr_8_m4, pr_i_0, pr_i_1, pr_i_2, pr_i_m1]
                  refine pr_if rfl (fun h155 => ?_) (fun h155 => ?_)
                  · simp only [ab_cmp, pr_16_1681, pr_8_100, pr_8_41, pr_8_m4, pr_i_0, pr_i_1, pr_i_2, pr_i_m1] at h155
                    first
                    | contradiction
                    | exact absurd trivial h155
                    | exact absurd h155 (by decide)
                    | exact absurd (Classical.not_not.mp h155) (by decide)
                    | skip
                      refine pr_seq (pc' := 63) 2 rfl ⟨⟨trivial, trivial⟩, trivial⟩ ?_
                      try simp (disch := omega) only [rKn, rI_mul, nI_add, nI_1, nI_clamp, pr_16_1681, pr_8_100, pr_8_41, pr_8_m4, pr_i_0, pr_i_1, pr_i_2, pr_i_m1]
                      exact hh
                  · simp only [ab_cmp, pr_16_1681, pr_8_100, pr_8_41, pr_8_m4, pr_i_0, pr_i_1, pr_i_2, pr_i_m1] at h155
                    exact absurd rfl h155
                | true =>
                  rw [cF, if_pos rfl] at hh
                  generalize svc X a b k = s at *
                  obtain ⟨n, fa, fb, oa, ob⟩ := s
                  obtain ⟨b1, b2, b3⟩ := hsb
                  dsimp only at b1 b2 b3
                  have d1 : (100 * x + y) / 100 = x := by omega
                  have d2 : 100 * x + y - x * 100 = y := by omega
                  have d3 : (100 * fa + fb) / 100 = fa := by omega
                  have d4 : 100 * fa + fb - fa * 100 = fb := by omega
                  unfold svt at hh
                  by_cases nz : n = 0
                  · have z : nI n = 0 := by rw [nz]; rfl
                    rw [if_pos (show (n, fa, fb, oa, ob).1 = 0 from nz)] at hh
                    have hn1 : nI n + 1 = nI 1 := by rw [nz]; rfl
                    unfold sv_L sfs at hh ⊢
                    dsimp only at hh ⊢
                    rw [if_neg (by decide)] at hh
                    cases oa <;> cases ob
                    · refine pr_seq (pc' := 155) 1 rfl ⟨trivial, trivial⟩ ?_
                      try simp (disch := omega) only [c41, c100, nI_div, i_sub, hx, hy2, d1, d2, rKn, rI_mul, nI_add, nI_1, nI_clamp, pr_16_1681, pr_8_100, pr_8_41, pr_8_m4, pr_i_0, pr_i_1, pr_i_2, pr_i_m1]
                      refine pr_if rfl (fun h155 => ?_) (fun h155 => ?_)
                      · simp only [ab_cmp, pr_16_1681, pr_8_100, pr_8_41, pr_8_m4, pr_i_0, pr_i_1, pr_i_2, pr_i_m1] at h155
                        exact absurd h155 (by decide)
                      · simp only [ab_cmp, pr_16_1681, pr_8_100, pr_8_41, pr_8_m4, pr_i_0, pr_i_1, pr_i_2, pr_i_m1] at h155
                        first
                        | contradiction
                        | exact absurd trivial h155
                        | exact absurd h155 (by decide)
                        | exact absurd (Classical.not_not.mp h155) (by decide)
                        | skip
                          refine pr_seq (pc' := 160) 1 rfl ⟨trivial, trivial⟩ ?_
                          try simp (disch := omega) only [c41, c100, nI_div, i_sub, hx, hy2, d1, d2, rKn, rI_mul, nI_add, nI_1, nI_clamp, pr_16_1681, pr_8_100, pr_8_41, pr_8_m4, pr_i_0, pr_i_1, pr_i_2, pr_i_m1]
                          refine pr_if rfl (fun h160 => ?_) (fun h160 => ?_)
                          · simp only [ab_cmp, pr_16_1681, pr_8_100, pr_8_41, pr_8_m4, pr_i_0, pr_i_1, pr_i_2, pr_i_m1] at h160
                            exact absurd z h160
                          · simp only [ab_cmp, pr_16_1681, pr_8_100, pr_8_41, pr_8_m4, pr_i_0, pr_i_1, pr_i_2, pr_i_m1] at h160
                            first
                            | contradiction
                            | exact absurd trivial h160
                            | exact absurd h160 (by decide)
                            | exact absurd (Classical.not_not.mp h160) (by decide)
                            | skip
                              refine pr_seq (pc' := 186) 12 rfl ⟨⟨⟨⟨⟨⟨⟨⟨⟨⟨⟨⟨trivial, trivial⟩, trivial⟩, trivial⟩, (by first | assumption | decide | (simp (disch := omega) only [c41, c100, nI_div, i_sub, hx, hy2, d1, d2, rKn, rI_mul, nI_add, nI_1, nI_clamp, pr_16_1681, pr_8_100, pr_8_41, pr_8_m4, pr_i_0, pr_i_1, pr_i_2, pr_i_m1]; first | assumption | exact ⟨Or.inl (by assumption), rvin (by assumption) (by omega) (by decide)⟩ | exact ⟨by assumption, rvin (by assumption) (by omega) (by decide)⟩ | exact ⟨⟨by omega, by omega⟩, rvin (by assumption) (by omega) (by decide)⟩ | exact ⟨Or.inr (by assumption), rvin (by assumption) (by omega) (by decide)⟩ | exact ⟨Or.inr ⟨by assumption, (by first | exact Or.inl rfl | exact Or.inr rfl | exact pr_b01 _)⟩, rvin (by assumption) (by omega) (by decide)⟩ | exact ⟨by assumption, by assumption⟩ | decide | omega))⟩, trivial⟩, trivial⟩, trivial⟩, (by first | assumption | decide | (simp (disch := omega) only [c41, c100, nI_div, i_sub, hx, hy2, d1, d2, rKn, rI_mul, nI_add, nI_1, nI_clamp, pr_16_1681, pr_8_100, pr_8_41, pr_8_m4, pr_i_0, pr_i_1, pr_i_2, pr_i_m1]; first | assumption | exact ⟨Or.inl (by assumption), rvin (by assumption) (by omega) (by decide)⟩ | exact ⟨by assumption, rvin (by assumption) (by omega) (by decide)⟩ | exact ⟨⟨by omega, by omega⟩, rvin (by assumption) (by omega) (by decide)⟩ | exact ⟨Or.inr (by assumption), rvin (by assumption) (by omega) (by decide)⟩ | exact ⟨Or.inr ⟨by assumption, (by first | exact Or.inl rfl | exact Or.inr rfl | exact pr_b01 _)⟩, rvin (by assumption) (by omega) (by decide)⟩ | exact ⟨by assumption, by assumption⟩ | decide | omega))⟩, trivial⟩, trivial⟩, trivial⟩, trivial⟩ ?_
                              try simp (disch := omega) only [c41, c100, nI_div, i_sub, hx, hy2, d1, d2, rKn, rI_mul, nI_add, nI_1, nI_clamp, pr_16_1681, pr_8_100, pr_8_41, pr_8_m4, pr_i_0, pr_i_1, pr_i_2, pr_i_m1]
                              refine pr_if rfl (fun h186 => ?_) (fun h186 => ?_)
                              · simp only [ab_cmp, pr_16_1681, pr_8_100, pr_8_41, pr_8_m4, pr_i_0, pr_i_1, pr_i_2, pr_i_m1] at h186
                                first
                                | contradiction
                                | exact absurd trivial h186
                                | exact absurd h186 (by decide)
                                | exact absurd (Classical.not_not.mp h186) (by decide)
                                | skip
                                  refine pr_seq (pc' := 211) 3 rfl ⟨⟨⟨trivial, trivial⟩, trivial⟩, trivial⟩ ?_
                                  try simp (disch := omega) only [c41, c100, nI_div, i_sub, hx, hy2, d1, d2, rKn, rI_mul, nI_add, nI_1, nI_clamp, pr_16_1681, pr_8_100, pr_8_41, pr_8_m4, pr_i_0, pr_i_1, pr_i_2, pr_i_m1]
                                  refine pr_if rfl (fun h211 => ?_) (fun h211 => ?_)
                                  · simp only [ab_cmp, pr_16_1681, pr_8_100, pr_8_41, pr_8_m4, pr_i_0, pr_i_1, pr_i_2, pr_i_m1] at h211
                                    first
                                    | contradiction
                                    | exact absurd trivial h211
                                    | exact absurd h211 (by decide)
                                    | exact absurd (Classical.not_not.mp h211) (by decide)
                                    | skip
                                      refine pr_seq (pc' := 63) 5 rfl ⟨⟨⟨⟨⟨trivial, trivial⟩, trivial⟩, trivial⟩, trivial⟩, trivial⟩ ?_
                                      try simp (disch := omega) only [c41, c100, nI_div, i_sub, hx, hy2, d1, d2, rKn, rI_mul, nI_add, nI_1, nI_clamp, pr_16_1681, pr_8_100, pr_8_41, pr_8_m4, pr_i_0, pr_i_1, pr_i_2, pr_i_m1]
                                      subst nz; exact hh
                                  · simp only [ab_cmp, pr_16_1681, pr_8_100, pr_8_41, pr_8_m4, pr_i_0, pr_i_1, pr_i_2, pr_i_m1] at h211
                                    exact absurd rfl h211
                              · simp only [ab_cmp, pr_16_1681, pr_8_100, pr_8_41, pr_8_m4, pr_i_0, pr_i_1, pr_i_2, pr_i_m1] at h186
                                exact absurd rfl h186
                    · refine pr_seq (pc' := 155) 1 rfl ⟨trivial, trivial⟩ ?_
                      try simp (disch := omega) only [c41, c100, nI_div, i_sub, hx, hy2, d1, d2, rKn, rI_mul, nI_add, nI_1, nI_clamp, pr_16_1681, pr_8_100, pr_8_41, pr_8_m4, pr_i_0, pr_i_1, pr_i_2, pr_i_m1]
                      refine pr_if rfl (fun h155 => ?_) (fun h155 => ?_)
                      · simp only [ab_cmp, pr_16_1681, pr_8_100, pr_8_41, pr_8_m4, pr_i_0, pr_i_1, pr_i_2, pr_i_m1] at h155
                        exact absurd h155 (by decide)
                      · simp only [ab_cmp, pr_16_1681, pr_8_100, pr_8_41, pr_8_m4, pr_i_0, pr_i_1, pr_i_2, pr_i_m1] at h155
                        first
                        | contradiction
                        | exact absurd trivial h155
                        | exact absurd h155 (by decide)
                        | exact absurd (Classical.not_not.mp h155) (by decide)
                        | skip
                          refine pr_seq (pc' := 160) 1 rfl ⟨trivial, trivial⟩ ?_
                          try simp (disch := omega) only [c41, c100, nI_div, i_sub, hx, hy2, d1, d2, rKn, rI_mul, nI_add, nI_1, nI_clamp, pr_16_1681, pr_8_100, pr_8_41, pr_8_m4, pr_i_0, pr_i_1, pr_i_2, pr_i_m1]
                          refine pr_if rfl (fun h160 => ?_) (fun h160 => ?_)
                          · simp only [ab_cmp, pr_16_1681, pr_8_100, pr_8_41, pr_8_m4, pr_i_0, pr_i_1, pr_i_2, pr_i_m1] at h160
                            exact absurd z h160
                          · simp only [ab_cmp, pr_16_1681, pr_8_100, pr_8_41, pr_8_m4, pr_i_0, pr_i_1, pr_i_2, pr_i_m1] at h160
                            first
                            | contradiction
                            | exact absurd trivial h160
                            | exact absurd h160 (by decide)
                            | exact absurd (Classical.not_not.mp h160) (by decide)
                            | skip
                              refine pr_seq (pc' := 186) 12 rfl ⟨⟨⟨⟨⟨⟨⟨⟨⟨⟨⟨⟨trivial, trivial⟩, trivial⟩, trivial⟩, (by first | assumption | decide | (simp (disch := omega) only [c41, c100, nI_div, i_sub, hx, hy2, d1, d2, rKn, rI_mul, nI_add, nI_1, nI_clamp, pr_16_1681, pr_8_100, pr_8_41, pr_8_m4, pr_i_0, pr_i_1, pr_i_2, pr_i_m1]; first | assumption | exact ⟨Or.inl (by assumption), rvin (by assumption) (by omega) (by decide)⟩ | exact ⟨by assumption, rvin (by assumption) (by omega) (by decide)⟩ | exact ⟨⟨by omega, by omega⟩, rvin (by assumption) (by omega) (by decide)⟩ | exact ⟨Or.inr (by assumption), rvin (by assumption) (by omega) (by decide)⟩ | exact ⟨Or.inr ⟨by assumption, (by first | exact Or.inl rfl | exact Or.inr rfl | exact pr_b01 _)⟩, rvin (by assumption) (by omega) (by decide)⟩ | exact ⟨by assumption, by assumption⟩ | decide | omega))⟩, trivial⟩, trivial⟩, trivial⟩, (by first | assumption | decide | (simp (disch := omega) only [c41, c100, nI_div, i_sub, hx, hy2, d1, d2, rKn, rI_mul, nI_add, nI_1, nI_clamp, pr_16_1681, pr_8_100, pr_8_41, pr_8_m4, pr_i_0, pr_i_1, pr_i_2, pr_i_m1]; first | assumption | exact ⟨Or.inl (by assumption), rvin (by assumption) (by omega) (by decide)⟩ | exact ⟨by assumption, rvin (by assumption) (by omega) (by decide)⟩ | exact ⟨⟨by omega, by omega⟩, rvin (by assumption) (by omega) (by decide)⟩ | exact ⟨Or.inr (by assumption), rvin (by assumption) (by omega) (by decide)⟩ | exact ⟨Or.inr ⟨by assumption, (by first | exact Or.inl rfl | exact Or.inr rfl | exact pr_b01 _)⟩, rvin (by assumption) (by omega) (by decide)⟩ | exact ⟨by assumption, by assumption⟩ | decide | omega))⟩, trivial⟩, trivial⟩, trivial⟩, trivial⟩ ?_
                              try simp (disch := omega) only [c41, c100, nI_div, i_sub, hx, hy2, d1, d2, rKn, rI_mul, nI_add, nI_1, nI_clamp, pr_16_1681, pr_8_100, pr_8_41, pr_8_m4, pr_i_0, pr_i_1, pr_i_2, pr_i_m1]
                              refine pr_if rfl (fun h186 => ?_) (fun h186 => ?_)
                              · simp only [ab_cmp, pr_16_1681, pr_8_100, pr_8_41, pr_8_m4, pr_i_0, pr_i_1, pr_i_2, pr_i_m1] at h186
                                first
                                | contradiction
                                | exact absurd trivial h186
                                | exact absurd h186 (by decide)
                                | exact absurd (Classical.not_not.mp h186) (by decide)
                                | skip
                                  refine pr_seq (pc' := 211) 3 rfl ⟨⟨⟨trivial, trivial⟩, trivial⟩, trivial⟩ ?_
                                  try simp (disch := omega) only [c41, c100, nI_div, i_sub, hx, hy2, d1, d2, rKn, rI_mul, nI_add, nI_1, nI_clamp, pr_16_1681, pr_8_100, pr_8_41, pr_8_m4, pr_i_0, pr_i_1, pr_i_2, pr_i_m1]
                                  refine pr_if rfl (fun h211 => ?_) (fun h211 => ?_)
                                  · simp only [ab_cmp, pr_16_1681, pr_8_100, pr_8_41, pr_8_m4, pr_i_0, pr_i_1, pr_i_2, pr_i_m1] at h211
                                    exact absurd h211 (by decide)
                                  · simp only [ab_cmp, pr_16_1681, pr_8_100, pr_8_41, pr_8_m4, pr_i_0, pr_i_1, pr_i_2, pr_i_m1] at h211
                                    first
                                    | contradiction
                                    | exact absurd trivial h211
                                    | exact absurd h211 (by decide)
                                    | exact absurd (Classical.not_not.mp h211) (by decide)
                                    | skip
                                      refine pr_seq (pc' := 224) 6 rfl ⟨⟨⟨⟨⟨⟨trivial, trivial⟩, trivial⟩, (by first | assumption | decide | (simp (disch := omega) only [c41, c100, nI_div, i_sub, hx, hy2, d1, d2, rKn, rI_mul, nI_add, nI_1, nI_clamp, pr_16_1681, pr_8_100, pr_8_41, pr_8_m4, pr_i_0, pr_i_1, pr_i_2, pr_i_m1]; first | assumption | exact ⟨Or.inl (by assumption), rvin (by assumption) (by omega) (by decide)⟩ | exact ⟨by assumption, rvin (by assumption) (by omega) (by decide)⟩ | exact ⟨⟨by omega, by omega⟩, rvin (by assumption) (by omega) (by decide)⟩ | exact ⟨Or.inr (by assumption), rvin (by assumption) (by omega) (by decide)⟩ | exact ⟨Or.inr ⟨by assumption, (by first | exact Or.inl rfl | exact Or.inr rfl | exact pr_b01 _)⟩, rvin (by assumption) (by omega) (by decide)⟩ | exact ⟨by assumption, by assumption⟩ | decide | omega))⟩, trivial⟩, trivial⟩, (by first | assumption | decide | (simp (disch := omega) only [c41, c100, nI_div, i_sub, hx, hy2, d1, d2, rKn, rI_mul, nI_add, nI_1, nI_clamp, pr_16_1681, pr_8_100, pr_8_41, pr_8_m4, pr_i_0, pr_i_1, pr_i_2, pr_i_m1]; first | assumption | exact ⟨Or.inl (by assumption), rvin (by assumption) (by omega) (by decide)⟩ | exact ⟨by assumption, rvin (by assumption) (by omega) (by decide)⟩ | exact ⟨⟨by omega, by omega⟩, rvin (by assumption) (by omega) (by decide)⟩ | exact ⟨Or.inr (by assumption), rvin (by assumption) (by omega) (by decide)⟩ | exact ⟨Or.inr ⟨by assumption, (by first | exact Or.inl rfl | exact Or.inr rfl | exact pr_b01 _)⟩, rvin (by assumption) (by omega) (by decide)⟩ | exact ⟨by assumption, by assumption⟩ | decide | omega))⟩ ?_
                                      try simp (disch := omega) only [c41, c100, nI_div, i_sub, hx, hy2, d1, d2, rKn, rI_mul, nI_add, nI_1, nI_clamp, pr_16_1681, pr_8_100, pr_8_41, pr_8_m4, pr_i_0, pr_i_1, pr_i_2, pr_i_m1]
                                      refine pr_ic rfl (fun h224 => ?_) (fun h224 => ?_)
                                      · simp only [ab_cmp, pr_16_1681, pr_8_100, pr_8_41, pr_8_m4, pr_i_0, pr_i_1, pr_i_2, pr_i_m1] at h224
                                        exact absurd trivial h224
                                      · simp only [ab_cmp, pr_16_1681, pr_8_100, pr_8_41, pr_8_m4, pr_i_0, pr_i_1, pr_i_2, pr_i_m1] at h224
                                        first
                                        | contradiction
                                        | exact absurd trivial h224
                                        | exact absurd h224 (by decide)
                                        | exact absurd (Classical.not_not.mp h224) (by decide)
                                        | skip
                                          refine pr_seq (pc' := 63) 6 rfl ⟨⟨⟨⟨⟨⟨trivial, trivial⟩, trivial⟩, trivial⟩, trivial⟩, trivial⟩, trivial⟩ ?_
                                          try simp (disch := omega) only [c41, c100, nI_div, i_sub, hx, hy2, d1, d2, rKn, rI_mul, nI_add, nI_1, nI_clamp, pr_16_1681, pr_8_100, pr_8_41, pr_8_m4, pr_i_0, pr_i_1, pr_i_2, pr_i_m1]
                                          subst nz; exact hh
                              · simp only [ab_cmp, pr_16_1681, pr_8_100, pr_8_41, pr_8_m4, pr_i_0, pr_i_1, pr_i_2, pr_i_m1] at h186
                                exact absurd rfl h186
                    · refine pr_seq (pc' := 155) 1 rfl ⟨trivial, trivial⟩ ?_
                      try simp (disch := omega) only [c41, c100, nI_div, i_sub, hx, hy2, d1, d2, rKn, rI_mul, nI_add, nI_1, nI_clamp, pr_16_1681, pr_8_100, pr_8_41, pr_8_m4, pr_i_0, pr_i_1, pr_i_2, pr_i_m1]
                      refine pr_if rfl (fun h155 => ?_) (fun h155 => ?_)
                      · simp only [ab_cmp, pr_16_1681, pr_8_100, pr_8_41, pr_8_m4, pr_i_0, pr_i_1, pr_i_2, pr_i_m1] at h155
                        exact absurd h155 (by decide)
                      · simp only [ab_cmp, pr_16_1681, pr_8_100, pr_8_41, pr_8_m4, pr_i_0, pr_i_1, pr_i_2, pr_i_m1] at h155
                        first
                        | contradiction
                        | exact absurd trivial h155
                        | exact absurd h155 (by decide)
                        | exact absurd (Classical.not_not.mp h155) (by decide)
                        | skip
                          refine pr_seq (pc' := 160) 1 rfl ⟨trivial, trivial⟩ ?_
                          try simp (disch := omega) only [c41, c100, nI_div, i_sub, hx, hy2, d1, d2, rKn, rI_mul, nI_add, nI_1, nI_clamp, pr_16_1681, pr_8_100, pr_8_41, pr_8_m4, pr_i_0, pr_i_1, pr_i_2, pr_i_m1]
                          refine pr_if rfl (fun h160 => ?_) (fun h160 => ?_)
                          · simp only [ab_cmp, pr_16_1681, pr_8_100, pr_8_41, pr_8_m4, pr_i_0, pr_i_1, pr_i_2, pr_i_m1] at h160
                            exact absurd z h160
                          · simp only [ab_cmp, pr_16_1681, pr_8_100, pr_8_41, pr_8_m4, pr_i_0, pr_i_1, pr_i_2, pr_i_m1] at h160
                            first
                            | contradiction
                            | exact absurd trivial h160
                            | exact absurd h160 (by decide)
                            | exact absurd (Classical.not_not.mp h160) (by decide)
                            | skip
                              refine pr_seq (pc' := 186) 12 rfl ⟨⟨⟨⟨⟨⟨⟨⟨⟨⟨⟨⟨trivial, trivial⟩, trivial⟩, trivial⟩, (by first | assumption | decide | (simp (disch := omega) only [c41, c100, nI_div, i_sub, hx, hy2, d1, d2, rKn, rI_mul, nI_add, nI_1, nI_clamp, pr_16_1681, pr_8_100, pr_8_41, pr_8_m4, pr_i_0, pr_i_1, pr_i_2, pr_i_m1]; first | assumption | exact ⟨Or.inl (by assumption), rvin (by assumption) (by omega) (by decide)⟩ | exact ⟨by assumption, rvin (by assumption) (by omega) (by decide)⟩ | exact ⟨⟨by omega, by omega⟩, rvin (by assumption) (by omega) (by decide)⟩ | exact ⟨Or.inr (by assumption), rvin (by assumption) (by omega) (by decide)⟩ | exact ⟨Or.inr ⟨by assumption, (by first | exact Or.inl rfl | exact Or.inr rfl | exact pr_b01 _)⟩, rvin (by assumption) (by omega) (by decide)⟩ | exact ⟨by assumption, by assumption⟩ | decide | omega))⟩, trivial⟩, trivial⟩, trivial⟩, (by first | assumption | decide | (simp (disch := omega) only [c41, c100, nI_div, i_sub, hx, hy2, d1, d2, rKn, rI_mul, nI_add, nI_1, nI_clamp, pr_16_1681, pr_8_100, pr_8_41, pr_8_m4, pr_i_0, pr_i_1, pr_i_2, pr_i_m1]; first | assumption | exact ⟨Or.inl (by assumption), rvin (by assumption) (by omega) (by decide)⟩ | exact ⟨by assumption, rvin (by assumption) (by omega) (by decide)⟩ | exact ⟨⟨by omega, by omega⟩, rvin (by assumption) (by omega) (by decide)⟩ | exact ⟨Or.inr (by assumption), rvin (by assumption) (by omega) (by decide)⟩ | exact ⟨Or.inr ⟨by assumption, (by first | exact Or.inl rfl | exact Or.inr rfl | exact pr_b01 _)⟩, rvin (by assumption) (by omega) (by decide)⟩ | exact ⟨by assumption, by assumption⟩ | decide | omega))⟩, trivial⟩, trivial⟩, trivial⟩, trivial⟩ ?_
                              try simp (disch := omega) only [c41, c100, nI_div, i_sub, hx, hy2, d1, d2, rKn, rI_mul, nI_add, nI_1, nI_clamp, pr_16_1681, pr_8_100, pr_8_41, pr_8_m4, pr_i_0, pr_i_1, pr_i_2, pr_i_m1]
                              refine pr_if rfl (fun h186 => ?_) (fun h186 => ?_)
                              · simp only [ab_cmp, pr_16_1681, pr_8_100, pr_8_41, pr_8_m4, pr_i_0, pr_i_1, pr_i_2, pr_i_m1] at h186
                                exact absurd h186 (by decide)
                              · simp only [ab_cmp, pr_16_1681, pr_8_100, pr_8_41, pr_8_m4, pr_i_0, pr_i_1, pr_i_2, pr_i_m1] at h186
                                first
                                | contradiction
                                | exact absurd trivial h186
                                | exact absurd h186 (by decide)
                                | exact absurd (Classical.not_not.mp h186) (by decide)
                                | skip
                                  refine pr_seq (pc' := 199) 6 rfl ⟨⟨⟨⟨⟨⟨trivial, trivial⟩, trivial⟩, (by first | assumption | decide | (simp (disch := omega) only [c41, c100, nI_div, i_sub, hx, hy2, d1, d2, rKn, rI_mul, nI_add, nI_1, nI_clamp, pr_16_1681, pr_8_100, pr_8_41, pr_8_m4, pr_i_0, pr_i_1, pr_i_2, pr_i_m1]; first | assumption | exact ⟨Or.inl (by assumption), rvin (by assumption) (by omega) (by decide)⟩ | exact ⟨by assumption, rvin (by assumption) (by omega) (by decide)⟩ | exact ⟨⟨by omega, by omega⟩, rvin (by assumption) (by omega) (by decide)⟩ | exact ⟨Or.inr (by assumption), rvin (by assumption) (by omega) (by decide)⟩ | exact ⟨Or.inr ⟨by assumption, (by first | exact Or.inl rfl | exact Or.inr rfl | exact pr_b01 _)⟩, rvin (by assumption) (by omega) (by decide)⟩ | exact ⟨by assumption, by assumption⟩ | decide | omega))⟩, trivial⟩, trivial⟩, (by first | assumption | decide | (simp (disch := omega) only [c41, c100, nI_div, i_sub, hx, hy2, d1, d2, rKn, rI_mul, nI_add, nI_1, nI_clamp, pr_16_1681, pr_8_100, pr_8_41, pr_8_m4, pr_i_0, pr_i_1, pr_i_2, pr_i_m1]; first | assumption | exact ⟨Or.inl (by assumption), rvin (by assumption) (by omega) (by decide)⟩ | exact ⟨by assumption, rvin (by assumption) (by omega) (by decide)⟩ | exact ⟨⟨by omega, by omega⟩, rvin (by assumption) (by omega) (by decide)⟩ | exact ⟨Or.inr (by assumption), rvin (by assumption) (by omega) (by decide)⟩ | exact ⟨Or.inr ⟨by assumption, (by first | exact Or.inl rfl | exact Or.inr rfl | exact pr_b01 _)⟩, rvin (by assumption) (by omega) (by decide)⟩ | exact ⟨by assumption, by assumption⟩ | decide | omega))⟩ ?_
                                  try simp (disch := omega) only [c41, c100, nI_div, i_sub, hx, hy2, d1, d2, rKn, rI_mul, nI_add, nI_1, nI_clamp, pr_16_1681, pr_8_100, pr_8_41, pr_8_m4, pr_i_0, pr_i_1, pr_i_2, pr_i_m1]
                                  refine pr_ic rfl (fun h199 => ?_) (fun h199 => ?_)
                                  · simp only [ab_cmp, pr_16_1681, pr_8_100, pr_8_41, pr_8_m4, pr_i_0, pr_i_1, pr_i_2, pr_i_m1] at h199
                                    exact absurd trivial h199
                                  · simp only [ab_cmp, pr_16_1681, pr_8_100, pr_8_41, pr_8_m4, pr_i_0, pr_i_1, pr_i_2, pr_i_m1] at h199
                                    first
                                    | contradiction
                                    | exact absurd trivial h199
                                    | exact absurd h199 (by decide)
                                    | exact absurd (Classical.not_not.mp h199) (by decide)
                                    | skip
                                      refine pr_seq (pc' := 211) 4 rfl ⟨⟨⟨⟨trivial, trivial⟩, trivial⟩, trivial⟩, trivial⟩ ?_
                                      try simp (disch := omega) only [c41, c100, nI_div, i_sub, hx, hy2, d1, d2, rKn, rI_mul, nI_add, nI_1, nI_clamp, pr_16_1681, pr_8_100, pr_8_41, pr_8_m4, pr_i_0, pr_i_1, pr_i_2, pr_i_m1]
                                      refine pr_if rfl (fun h211 => ?_) (fun h211 => ?_)
                                      · simp only [ab_cmp, pr_16_1681, pr_8_100, pr_8_41, pr_8_m4, pr_i_0, pr_i_1, pr_i_2, pr_i_m1] at h211
                                        first
                                        | contradiction
                                        | exact absurd trivial h211
                                        | exact absurd h211 (by decide)
                                        | exact absurd (Classical.not_not.mp h211) (by decide)
                                        | skip
                                          refine pr_seq (pc' := 63) 5 rfl ⟨⟨⟨⟨⟨trivial, trivial⟩, trivial⟩, trivial⟩, trivial⟩, trivial⟩ ?_
                                          try simp (disch := omega) only [c41, c100, nI_div, i_sub, hx, hy2, d1, d2, rKn, rI_mul, nI_add, nI_1, nI_clamp, pr_16_1681, pr_8_100, pr_8_41, pr_8_m4, pr_i_0, pr_i_1, pr_i_2, pr_i_m1]
                                          subst nz; exact hh
                                      · simp only [ab_cmp, pr_16_1681, pr_8_100, pr_8_41, pr_8_m4, pr_i_0, pr_i_1, pr_i_2, pr_i_m1] at h211
                                        exact absurd rfl h211
                    · refine pr_seq (pc' := 155) 1 rfl ⟨trivial, trivial⟩ ?_
                      try simp (disch := omega) only [c41, c100, nI_div, i_sub, hx, hy2, d1, d2, rKn, rI_mul, nI_add, nI_1, nI_clamp, pr_16_1681, pr_8_100, pr_8_41, pr_8_m4, pr_i_0, pr_i_1, pr_i_2, pr_i_m1]
                      refine pr_if rfl (fun h155 => ?_) (fun h155 => ?_)
                      · simp only [ab_cmp, pr_16_1681, pr_8_100, pr_8_41, pr_8_m4, pr_i_0, pr_i_1, pr_i_2, pr_i_m1] at h155
                        exact absurd h155 (by decide)
                      · simp only [ab_cmp, pr_16_1681, pr_8_100, pr_8_41, pr_8_m4, pr_i_0, pr_i_1, pr_i_2, pr_i_m1] at h155
                        first
                        | contradiction
                        | exact absurd trivial h155
                        | exact absurd h155 (by decide)
                        | exact absurd (Classical.not_not.mp h155) (by decide)
                        | skip
                          refine pr_seq (pc' := 160) 1 rfl ⟨trivial, trivial⟩ ?_
                          try simp (disch := omega) only [c41, c100, nI_div, i_sub, hx, hy2, d1, d2, rKn, rI_mul, nI_add, nI_1, nI_clamp, pr_16_1681, pr_8_100, pr_8_41, pr_8_m4, pr_i_0, pr_i_1, pr_i_2, pr_i_m1]
                          refine pr_if rfl (fun h160 => ?_) (fun h160 => ?_)
                          · simp only [ab_cmp, pr_16_1681, pr_8_100, pr_8_41, pr_8_m4, pr_i_0, pr_i_1, pr_i_2, pr_i_m1] at h160
                            exact absurd z h160
                          · simp only [ab_cmp, pr_16_1681, pr_8_100, pr_8_41, pr_8_m4, pr_i_0, pr_i_1, pr_i_2, pr_i_m1] at h160
                            first
                            | contradiction
                            | exact absurd trivial h160
                            | exact absurd h160 (by decide)
                            | exact absurd (Classical.not_not.mp h160) (by decide)
                            | skip
                              refine pr_seq (pc' := 186) 12 rfl ⟨⟨⟨⟨⟨⟨⟨⟨⟨⟨⟨⟨trivial, trivial⟩, trivial⟩, trivial⟩, (by first | assumption | decide | (simp (disch := omega) only [c41, c100, nI_div, i_sub, hx, hy2, d1, d2, rKn, rI_mul, nI_add, nI_1, nI_clamp, pr_16_1681, pr_8_100, pr_8_41, pr_8_m4, pr_i_0, pr_i_1, pr_i_2, pr_i_m1]; first | assumption | exact ⟨Or.inl (by assumption), rvin (by assumption) (by omega) (by decide)⟩ | exact ⟨by assumption, rvin (by assumption) (by omega) (by decide)⟩ | exact ⟨⟨by omega, by omega⟩, rvin (by assumption) (by omega) (by decide)⟩ | exact ⟨Or.inr (by assumption), rvin (by assumption) (by omega) (by decide)⟩ | exact ⟨Or.inr ⟨by assumption, (by first | exact Or.inl rfl | exact Or.inr rfl | exact pr_b01 _)⟩, rvin (by assumption) (by omega) (by decide)⟩ | exact ⟨by assumption, by assumption⟩ | decide | omega))⟩, trivial⟩, trivial⟩, trivial⟩, (by first | assumption | decide | (simp (disch := omega) only [c41, c100, nI_div, i_sub, hx, hy2, d1, d2, rKn, rI_mul, nI_add, nI_1, nI_clamp, pr_16_1681, pr_8_100, pr_8_41, pr_8_m4, pr_i_0, pr_i_1, pr_i_2, pr_i_m1]; first | assumption | exact ⟨Or.inl (by assumption), rvin (by assumption) (by omega) (by decide)⟩ | exact ⟨by assumption, rvin (by assumption) (by omega) (by decide)⟩ | exact ⟨⟨by omega, by omega⟩, rvin (by assumption) (by omega) (by decide)⟩ | exact ⟨Or.inr (by assumption), rvin (by assumption) (by omega) (by decide)⟩ | exact ⟨Or.inr ⟨by assumption, (by first | exact Or.inl rfl | exact Or.inr rfl | exact pr_b01 _)⟩, rvin (by assumption) (by omega) (by decide)⟩ | exact ⟨by assumption, by assumption⟩ | decide | omega))⟩, trivial⟩, trivial⟩, trivial⟩, trivial⟩ ?_
                              try simp (disch := omega) only [c41, c100, nI_div, i_sub, hx, hy2, d1, d2, rKn, rI_mul, nI_add, nI_1, nI_clamp, pr_16_1681, pr_8_100, pr_8_41, pr_8_m4, pr_i_0, pr_i_1, pr_i_2, pr_i_m1]
                              refine pr_if rfl (fun h186 => ?_) (fun h186 => ?_)
                              · simp only [ab_cmp, pr_16_1681, pr_8_100, pr_8_41, pr_8_m4, pr_i_0, pr_i_1, pr_i_2, pr_i_m1] at h186
                                exact absurd h186 (by decide)
                              · simp only [ab_cmp, pr_16_1681, pr_8_100, pr_8_41, pr_8_m4, pr_i_0, pr_i_1, pr_i_2, pr_i_m1] at h186
                                first
                                | contradiction
                                | exact absurd trivial h186
                                | exact absurd h186 (by decide)
                                | exact absurd (Classical.not_not.mp h186) (by decide)
                                | skip
                                  refine pr_seq (pc' := 199) 6 rfl ⟨⟨⟨⟨⟨⟨trivial, trivial⟩, trivial⟩, (by first | assumption | decide | (simp (disch := omega) only [c41, c100, nI_div, i_sub, hx, hy2, d1, d2, rKn, rI_mul, nI_add, nI_1, nI_clamp, pr_16_1681, pr_8_100, pr_8_41, pr_8_m4, pr_i_0, pr_i_1, pr_i_2, pr_i_m1]; first | assumption | exact ⟨Or.inl (by assumption), rvin (by assumption) (by omega) (by decide)⟩ | exact ⟨by assumption, rvin (by assumption) (by omega) (by decide)⟩ | exact ⟨⟨by omega, by omega⟩, rvin (by assumption) (by omega) (by decide)⟩ | exact ⟨Or.inr (by assumption), rvin (by assumption) (by omega) (by decide)⟩ | exact ⟨Or.inr ⟨by assumption, (by first | exact Or.inl rfl | exact Or.inr rfl | exact pr_b01 _)⟩, rvin (by assumption) (by omega) (by decide)⟩ | exact ⟨by assumption, by assumption⟩ | decide | omega))⟩, trivial⟩, trivial⟩, (by first | assumption | decide | (simp (disch := omega) only [c41, c100, nI_div, i_sub, hx, hy2, d1, d2, rKn, rI_mul, nI_add, nI_1, nI_clamp, pr_16_1681, pr_8_100, pr_8_41, pr_8_m4, pr_i_0, pr_i_1, pr_i_2, pr_i_m1]; first | assumption | exact ⟨Or.inl (by assumption), rvin (by assumption) (by omega) (by decide)⟩ | exact ⟨by assumption, rvin (by assumption) (by omega) (by decide)⟩ | exact ⟨⟨by omega, by omega⟩, rvin (by assumption) (by omega) (by decide)⟩ | exact ⟨Or.inr (by assumption), rvin (by assumption) (by omega) (by decide)⟩ | exact ⟨Or.inr ⟨by assumption, (by first | exact Or.inl rfl | exact Or.inr rfl | exact pr_b01 _)⟩, rvin (by assumption) (by omega) (by decide)⟩ | exact ⟨by assumption, by assumption⟩ | decide | omega))⟩ ?_
                                  try simp (disch := omega) only [c41, c100, nI_div, i_sub, hx, hy2, d1, d2, rKn, rI_mul, nI_add, nI_1, nI_clamp, pr_16_1681, pr_8_100, pr_8_41, pr_8_m4, pr_i_0, pr_i_1, pr_i_2, pr_i_m1]
                                  refine pr_ic rfl (fun h199 => ?_) (fun h199 => ?_)
                                  · simp only [ab_cmp, pr_16_1681, pr_8_100, pr_8_41, pr_8_m4, pr_i_0, pr_i_1, pr_i_2, pr_i_m1] at h199
                                    exact absurd trivial h199
                                  · simp only [ab_cmp, pr_16_1681, pr_8_100, pr_8_41, pr_8_m4, pr_i_0, pr_i_1, pr_i_2, pr_i_m1] at h199
                                    first
                                    | contradiction
                                    | exact absurd trivial h199
                                    | exact absurd h199 (by decide)
                                    | exact absurd (Classical.not_not.mp h199) (by decide)
                                    | skip
                                      refine pr_seq (pc' := 211) 4 rfl ⟨⟨⟨⟨trivial, trivial⟩, trivial⟩, trivial⟩, trivial⟩ ?_
                                      try simp (disch := omega) only [c41, c100, nI_div, i_sub, hx, hy2, d1, d2, rKn, rI_mul, nI_add, nI_1, nI_clamp, pr_16_1681, pr_8_100, pr_8_41, pr_8_m4, pr_i_0, pr_i_1, pr_i_2, pr_i_m1]
                                      refine pr_if rfl (fun h211 => ?_) (fun h211 => ?_)
                                      · simp only [ab_cmp, pr_16_1681, pr_8_100, pr_8_41, pr_8_m4, pr_i_0, pr_i_1, pr_i_2, pr_i_m1] at h211
                                        exact absurd h211 (by decide)
                                      · simp only [ab_cmp, pr_16_1681, pr_8_100, pr_8_41, pr_8_m4, pr_i_0, pr_i_1, pr_i_2, pr_i_m1] at h211
                                        first
                                        | contradiction
                                        | exact absurd trivial h211
                                        | exact absurd h211 (by decide)
                                        | exact absurd (Classical.not_not.mp h211) (by decide)
                                        | skip
                                          refine pr_seq (pc' := 224) 6 rfl ⟨⟨⟨⟨⟨⟨trivial, trivial⟩, trivial⟩, (by first | assumption | decide | (simp (disch := omega) only [c41, c100, nI_div, i_sub, hx, hy2, d1, d2, rKn, rI_mul, nI_add, nI_1, nI_clamp, pr_16_1681, pr_8_100, pr_8_41, pr_8_m4, pr_i_0, pr_i_1, pr_i_2, pr_i_m1]; first | assumption | exact ⟨Or.inl (by assumption), rvin (by assumption) (by omega) (by decide)⟩ | exact ⟨by assumption, rvin (by assumption) (by omega) (by decide)⟩ | exact ⟨⟨by omega, by omega⟩, rvin (by assumption) (by omega) (by decide)⟩ | exact ⟨Or.inr (by assumption), rvin (by assumption) (by omega) (by decide)⟩ | exact ⟨Or.inr ⟨by assumption, (by first | exact Or.inl rfl | exact Or.inr rfl | exact pr_b01 _)⟩, rvin (by assumption) (by omega) (by decide)⟩ | exact ⟨by assumption, by assumption⟩ | decide | omega))⟩, trivial⟩, trivial⟩, (by first | assumption | decide | (simp (disch := omega) only [c41, c100, nI_div, i_sub, hx, hy2, d1, d2, rKn, rI_mul, nI_add, nI_1, nI_clamp, pr_16_1681, pr_8_100, pr_8_41, pr_8_m4, pr_i_0, pr_i_1, pr_i_2, pr_i_m1]; first | assumption | exact ⟨Or.inl (by assumption), rvin (by assumption) (by omega) (by decide)⟩ | exact ⟨by assumption, rvin (by assumption) (by omega) (by decide)⟩ | exact ⟨⟨by omega, by omega⟩, rvin (by assumption) (by omega) (by decide)⟩ | exact ⟨Or.inr (by assumption), rvin (by assumption) (by omega) (by decide)⟩ | exact ⟨Or.inr ⟨by assumption, (by first | exact Or.inl rfl | exact Or.inr rfl | exact pr_b01 _)⟩, rvin (by assumption) (by omega) (by decide)⟩ | exact ⟨by assumption, by assumption⟩ | decide | omega))⟩ ?_
                                          try simp (disch := omega) only [c41, c100, nI_div, i_sub, hx, hy2, d1, d2, rKn, rI_mul, nI_add, nI_1, nI_clamp, pr_16_1681, pr_8_100, pr_8_41, pr_8_m4, pr_i_0, pr_i_1, pr_i_2, pr_i_m1]
                                          refine pr_ic rfl (fun h224 => ?_) (fun h224 => ?_)
                                          · simp only [ab_cmp, pr_16_1681, pr_8_100, pr_8_41, pr_8_m4, pr_i_0, pr_i_1, pr_i_2, pr_i_m1] at h224
                                            exact absurd trivial h224
                                          · simp only [ab_cmp, pr_16_1681, pr_8_100, pr_8_41, pr_8_m4, pr_i_0, pr_i_1, pr_i_2, pr_i_m1] at h224
                                            first
                                            | contradiction
                                            | exact absurd trivial h224
                                            | exact absurd h224 (by decide)
                                            | exact absurd (Classical.not_not.mp h224) (by decide)
                                            | skip
                                              refine pr_seq (pc' := 63) 6 rfl ⟨⟨⟨⟨⟨⟨trivial, trivial⟩, trivial⟩, trivial⟩, trivial⟩, trivial⟩, trivial⟩ ?_
                                              try simp (disch := omega) only [c41, c100, nI_div, i_sub, hx, hy2, d1, d2, rKn, rI_mul, nI_add, nI_1, nI_clamp, pr_16_1681, pr_8_100, pr_8_41, pr_8_m4, pr_i_0, pr_i_1, pr_i_2, pr_i_m1]
                                              subst nz; exact hh
                  · have z : ¬ nI n = 0 := nI_ne0 (by omega) (by omega)
                    rw [if_neg (show ¬ (n, fa, fb, oa, ob).1 = 0 from nz)] at hh
                    unfold sv_L sfs at hh ⊢
                    dsimp only at hh ⊢
                    rw [if_neg (by omega)] at hh
                    rw [if_neg nz]
                    by_cases cx : x = fa <;> by_cases cy : y = fb
                    · have zx : nI x = nI fa := by rw [cx]
                      have zy : nI y = nI fb := by rw [cy]
                      rw [decide_eq_true cx, decide_eq_true cy, Bool.and_true, Bool.and_true] at hh
                      cases oa <;> cases ob
                      · refine pr_seq (pc' := 155) 1 rfl ⟨trivial, trivial⟩ ?_
                        try simp (disch := omega) only [c41, c100, nI_div, i_sub, hx, hy2, d3, d4, rKn, rI_mul, nI_add, nI_1, nI_clamp, pr_16_1681, pr_8_100, pr_8_41, pr_8_m4, pr_i_0, pr_i_1, pr_i_2, pr_i_m1]
                        refine pr_if rfl (fun h155 => ?_) (fun h155 => ?_)
                        · simp only [ab_cmp, pr_16_1681, pr_8_100, pr_8_41, pr_8_m4, pr_i_0, pr_i_1, pr_i_2, pr_i_m1] at h155
                          exact absurd h155 (by decide)
                        · simp only [ab_cmp, pr_16_1681, pr_8_100, pr_8_41, pr_8_m4, pr_i_0, pr_i_1, pr_i_2, pr_i_m1] at h155
                          first
                          | contradiction
                          | exact absurd trivial h155
                          | exact absurd h155 (by decide)
                          | exact absurd (Classical.not_not.mp h155) (by decide)
                          | skip
                            refine pr_seq (pc' := 160) 1 rfl ⟨trivial, trivial⟩ ?_
                            try simp (disch := omega) only [c41, c100, nI_div, i_sub, hx, hy2, d3, d4, rKn, rI_mul, nI_add, nI_1, nI_clamp, pr_16_1681, pr_8_100, pr_8_41, pr_8_m4, pr_i_0, pr_i_1, pr_i_2, pr_i_m1]
                            refine pr_if rfl (fun h160 => ?_) (fun h160 => ?_)
                            · simp only [ab_cmp, pr_16_1681, pr_8_100, pr_8_41, pr_8_m4, pr_i_0, pr_i_1, pr_i_2, pr_i_m1] at h160
                              first
                              | contradiction
                              | exact absurd trivial h160
                              | exact absurd h160 (by decide)
                              | exact absurd (Classical.not_not.mp h160) (by decide)
                              | skip
                                refine pr_seq (pc' := 186) 3 rfl ⟨⟨⟨trivial, trivial⟩, trivial⟩, trivial⟩ ?_
                                try simp (disch := omega) only [c41, c100, nI_div, i_sub, hx, hy2, d3, d4, rKn, rI_mul, nI_add, nI_1, nI_clamp, pr_16_1681, pr_8_100, pr_8_41, pr_8_m4, pr_i_0, pr_i_1, pr_i_2, pr_i_m1]
                                refine pr_if rfl (fun h186 => ?_) (fun h186 => ?_)
                                · simp only [ab_cmp, pr_16_1681, pr_8_100, pr_8_41, pr_8_m4, pr_i_0, pr_i_1, pr_i_2, pr_i_m1] at h186
                                  first
                                  | contradiction
                                  | exact absurd trivial h186
                                  | exact absurd h186 (by decide)
                                  | exact absurd (Classical.not_not.mp h186) (by decide)
                                  | skip
                                    refine pr_seq (pc' := 211) 3 rfl ⟨⟨⟨trivial, trivial⟩, trivial⟩, trivial⟩ ?_
                                    try simp (disch := omega) only [c41, c100, nI_div, i_sub, hx, hy2, d3, d4, rKn, rI_mul, nI_add, nI_1, nI_clamp, pr_16_1681, pr_8_100, pr_8_41, pr_8_m4, pr_i_0, pr_i_1, pr_i_2, pr_i_m1]
                                    refine pr_if rfl (fun h211 => ?_) (fun h211 => ?_)
                                    · simp only [ab_cmp, pr_16_1681, pr_8_100, pr_8_41, pr_8_m4, pr_i_0, pr_i_1, pr_i_2, pr_i_m1] at h211
                                      first
                                      | contradiction
                                      | exact absurd trivial h211
                                      | exact absurd h211 (by decide)
                                      | exact absurd (Classical.not_not.mp h211) (by decide)
                                      | skip
                                        refine pr_seq (pc' := 63) 5 rfl ⟨⟨⟨⟨⟨trivial, trivial⟩, trivial⟩, trivial⟩, trivial⟩, trivial⟩ ?_
                                        try simp (disch := omega) only [c41, c100, nI_div, i_sub, hx, hy2, d3, d4, rKn, rI_mul, nI_add, nI_1, nI_clamp, pr_16_1681, pr_8_100, pr_8_41, pr_8_m4, pr_i_0, pr_i_1, pr_i_2, pr_i_m1]
                                        exact hh
                                    · simp only [ab_cmp, pr_16_1681, pr_8_100, pr_8_41, pr_8_m4, pr_i_0, pr_i_1, pr_i_2, pr_i_m1] at h211
                                      exact absurd rfl h211
                                · simp only [ab_cmp, pr_16_1681, pr_8_100, pr_8_41, pr_8_m4, pr_i_0, pr_i_1, pr_i_2, pr_i_m1] at h186
                                  exact absurd rfl h186
                            · simp only [ab_cmp, pr_16_1681, pr_8_100, pr_8_41, pr_8_m4, pr_i_0, pr_i_1, pr_i_2, pr_i_m1] at h160
                              exact absurd (Classical.not_not.mp h160) z
                      · refine pr_seq (pc' := 155) 1 rfl ⟨trivial, trivial⟩ ?_
                        try simp (disch := omega) only [c41, c100, nI_div, i_sub, hx, hy2, d3, d4, rKn, rI_mul, nI_add, nI_1, nI_clamp, pr_16_1681, pr_8_100, pr_8_41, pr_8_m4, pr_i_0, pr_i_1, pr_i_2, pr_i_m1]
                        refine pr_if rfl (fun h155 => ?_) (fun h155 => ?_)
                        · simp only [ab_cmp, pr_16_1681, pr_8_100, pr_8_41, pr_8_m4, pr_i_0, pr_i_1, pr_i_2, pr_i_m1] at h155
                          exact absurd h155 (by decide)
                        · simp only [ab_cmp, pr_16_1681, pr_8_100, pr_8_41, pr_8_m4, pr_i_0, pr_i_1, pr_i_2, pr_i_m1] at h155
                          first
                          | contradiction
                          | exact absurd trivial h155
                          | exact absurd h155 (by decide)
                          | exact absurd (Classical.not_not.mp h155) (by decide)
                          | skip
                            refine pr_seq (pc' := 160) 1 rfl ⟨trivial, trivial⟩ ?_
                            try simp (disch := omega) only [c41, c100, nI_div, i_sub, hx, hy2, d3, d4, rKn, rI_mul, nI_add, nI_1, nI_clamp, pr_16_1681, pr_8_100, pr_8_41, pr_8_m4, pr_i_0, pr_i_1, pr_i_2, pr_i_m1]
                            refine pr_if rfl (fun h160 => ?_) (fun h160 => ?_)
                            · simp only [ab_cmp, pr_16_1681, pr_8_100, pr_8_41, pr_8_m4, pr_i_0, pr_i_1, pr_i_2, pr_i_m1] at h160
                              first
                              | contradiction
                              | exact absurd trivial h160
                              | exact absurd h160 (by decide)
                              | exact absurd (Classical.not_not.mp h160) (by decide)
                              | skip
                                refine pr_seq (pc' := 186) 3 rfl ⟨⟨⟨trivial, trivial⟩, trivial⟩, trivial⟩ ?_
                                try simp (disch := omega) only [c41, c100, nI_div, i_sub, hx, hy2, d3, d4, rKn, rI_mul, nI_add, nI_1, nI_clamp, pr_16_1681, pr_8_100, pr_8_41, pr_8_m4, pr_i_0, pr_i_1, pr_i_2, pr_i_m1]
                                refine pr_if rfl (fun h186 => ?_) (fun h186 => ?_)
                                · simp only [ab_cmp, pr_16_1681, pr_8_100, pr_8_41, pr_8_m4, pr_i_0, pr_i_1, pr_i_2, pr_i_m1] at h186
                                  first
                                  | contradiction
                                  | exact absurd trivial h186
                                  | exact absurd h186 (by decide)
                                  | exact absurd (Classical.not_not.mp h186) (by decide)
                                  | skip
                                    refine pr_seq (pc' := 211) 3 rfl ⟨⟨⟨trivial, trivial⟩, trivial⟩, trivial⟩ ?_
                                    try simp (disch := omega) only [c41, c100, nI_div, i_sub, hx, hy2, d3, d4, rKn, rI_mul, nI_add, nI_1, nI_clamp, pr_16_1681, pr_8_100, pr_8_41, pr_8_m4, pr_i_0, pr_i_1, pr_i_2, pr_i_m1]
                                    refine pr_if rfl (fun h211 => ?_) (fun h211 => ?_)
                                    · simp only [ab_cmp, pr_16_1681, pr_8_100, pr_8_41, pr_8_m4, pr_i_0, pr_i_1, pr_i_2, pr_i_m1] at h211
                                      exact absurd h211 (by decide)
                                    · simp only [ab_cmp, pr_16_1681, pr_8_100, pr_8_41, pr_8_m4, pr_i_0, pr_i_1, pr_i_2, pr_i_m1] at h211
                                      first
                                      | contradiction
                                      | exact absurd trivial h211
                                      | exact absurd h211 (by decide)
                                      | exact absurd (Classical.not_not.mp h211) (by decide)
                                      | skip
                                        refine pr_seq (pc' := 224) 6 rfl ⟨⟨⟨⟨⟨⟨trivial, trivial⟩, trivial⟩, (by first | assumption | decide | (simp (disch := omega) only [c41, c100, nI_div, i_sub, hx, hy2, d3, d4, rKn, rI_mul, nI_add, nI_1, nI_clamp, pr_16_1681, pr_8_100, pr_8_41, pr_8_m4, pr_i_0, pr_i_1, pr_i_2, pr_i_m1]; first | assumption | exact ⟨Or.inl (by assumption), rvin (by assumption) (by omega) (by decide)⟩ | exact ⟨by assumption, rvin (by assumption) (by omega) (by decide)⟩ | exact ⟨⟨by omega, by omega⟩, rvin (by assumption) (by omega) (by decide)⟩ | exact ⟨Or.inr (by assumption), rvin (by assumption) (by omega) (by decide)⟩ | exact ⟨Or.inr ⟨by assumption, (by first | exact Or.inl rfl | exact Or.inr rfl | exact pr_b01 _)⟩, rvin (by assumption) (by omega) (by decide)⟩ | exact ⟨by assumption, by assumption⟩ | decide | omega))⟩, trivial⟩, trivial⟩, (by first | assumption | decide | (simp (disch := omega) only [c41, c100, nI_div, i_sub, hx, hy2, d3, d4, rKn, rI_mul, nI_add, nI_1, nI_clamp, pr_16_1681, pr_8_100, pr_8_41, pr_8_m4, pr_i_0, pr_i_1, pr_i_2, pr_i_m1]; first | assumption | exact ⟨Or.inl (by assumption), rvin (by assumption) (by omega) (by decide)⟩ | exact ⟨by assumption, rvin (by assumption) (by omega) (by decide)⟩ | exact ⟨⟨by omega, by omega⟩, rvin (by assumption) (by omega) (by decide)⟩ | exact ⟨Or.inr (by assumption), rvin (by assumption) (by omega) (by decide)⟩ | exact ⟨Or.inr ⟨by assumption, (by first | exact Or.inl rfl | exact Or.inr rfl | exact pr_b01 _)⟩, rvin (by assumption) (by omega) (by decide)⟩ | exact ⟨by assumption, by assumption⟩ | decide | omega))⟩ ?_
                                        try simp (disch := omega) only [c41, c100, nI_div, i_sub, hx, hy2, d3, d4, rKn, rI_mul, nI_add, nI_1, nI_clamp, pr_16_1681, pr_8_100, pr_8_41, pr_8_m4, pr_i_0, pr_i_1, pr_i_2, pr_i_m1]
                                        refine pr_ic rfl (fun h224 => ?_) (fun h224 => ?_)
                                        · simp only [ab_cmp, pr_16_1681, pr_8_100, pr_8_41, pr_8_m4, pr_i_0, pr_i_1, pr_i_2, pr_i_m1] at h224
                                          exact absurd zy h224
                                        · simp only [ab_cmp, pr_16_1681, pr_8_100, pr_8_41, pr_8_m4, pr_i_0, pr_i_1, pr_i_2, pr_i_m1] at h224
                                          first
                                          | contradiction
                                          | exact absurd trivial h224
                                          | exact absurd h224 (by decide)
                                          | exact absurd (Classical.not_not.mp h224) (by decide)
                                          | skip
                                            refine pr_seq (pc' := 63) 6 rfl ⟨⟨⟨⟨⟨⟨trivial, trivial⟩, trivial⟩, trivial⟩, trivial⟩, trivial⟩, trivial⟩ ?_
                                            try simp (disch := omega) only [c41, c100, nI_div, i_sub, hx, hy2, d3, d4, rKn, rI_mul, nI_add, nI_1, nI_clamp, pr_16_1681, pr_8_100, pr_8_41, pr_8_m4, pr_i_0, pr_i_1, pr_i_2, pr_i_m1]
                                            exact hh
                                · simp only [ab_cmp, pr_16_1681, pr_8_100, pr_8_41, pr_8_m4, pr_i_0, pr_i_1, pr_i_2, pr_i_m1] at h186
                                  exact absurd rfl h186
                            · simp only [ab_cmp, pr_16_1681, pr_8_100, pr_8_41, pr_8_m4, pr_i_0, pr_i_1, pr_i_2, pr_i_m1] at h160
                              exact absurd (Classical.not_not.mp h160) z
                      · refine pr_seq (pc' := 155) 1 rfl ⟨trivial, trivial⟩ ?_
                        try simp (disch := omega) only [c41, c100, nI_div, i_sub, hx, hy2, d3, d4, rKn, rI_mul, nI_add, nI_1, nI_clamp, pr_16_1681, pr_8_100, pr_8_41, pr_8_m4, pr_i_0, pr_i_1, pr_i_2, pr_i_m1]
                        refine pr_if rfl (fun h155 => ?_) (fun h155 => ?_)
                        · simp only [ab_cmp, pr_16_1681, pr_8_100, pr_8_41, pr_8_m4, pr_i_0, pr_i_1, pr_i_2, pr_i_m1] at h155
                          exact absurd h155 (by decide)
                        · simp only [ab_cmp, pr_16_1681, pr_8_100, pr_8_41, pr_8_m4, pr_i_0, pr_i_1, pr_i_2, pr_i_m1] at h155
                          first
                          | contradiction
                          | exact absurd trivial h155
                          | exact absurd h155 (by decide)
                          | exact absurd (Classical.not_not.mp h155) (by decide)
                          | skip
                            refine pr_seq (pc' := 160) 1 rfl ⟨trivial, trivial⟩ ?_
                            try simp (disch := omega) only [c41, c100, nI_div, i_sub, hx, hy2, d3, d4, rKn, rI_mul, nI_add, nI_1, nI_clamp, pr_16_1681, pr_8_100, pr_8_41, pr_8_m4, pr_i_0, pr_i_1, pr_i_2, pr_i_m1]
                            refine pr_if rfl (fun h160 => ?_) (fun h160 => ?_)
                            · simp only [ab_cmp, pr_16_1681, pr_8_100, pr_8_41, pr_8_m4, pr_i_0, pr_i_1, pr_i_2, pr_i_m1] at h160
                              first
                              | contradiction
                              | exact absurd trivial h160
                              | exact absurd h160 (by decide)
                              | exact absurd (Classical.not_not.mp h160) (by decide)
                              | skip
                                refine pr_seq (pc' := 186) 3 rfl ⟨⟨⟨trivial, trivial⟩, trivial⟩, trivial⟩ ?_
                                try simp (disch := omega) only [c41, c100, nI_div, i_sub, hx, hy2, d3, d4, rKn, rI_mul, nI_add, nI_1, nI_clamp, pr_16_1681, pr_8_100, pr_8_41, pr_8_m4, pr_i_0, pr_i_1, pr_i_2, pr_i_m1]
                                refine pr_if rfl (fun h186 => ?_) (fun h186 => ?_)
                                · simp only [ab_cmp, pr_16_1681, pr_8_100, pr_8_41, pr_8_m4, pr_i_0, pr_i_1, pr_i_2, pr_i_m1] at h186
                                  exact absurd h186 (by decide)
                                · simp only [ab_cmp, pr_16_1681, pr_8_100, pr_8_41, pr_8_m4, pr_i_0, pr_i_1, pr_i_2, pr_i_m1] at h186
                                  first
                                  | contradiction
                                  | exact absurd trivial h186
                                  | exact absurd h186 (by decide)
                                  | exact absurd (Classical.not_not.mp h186) (by decide)
                                  | skip
                                    refine pr_seq (pc' := 199) 6 rfl ⟨⟨⟨⟨⟨⟨trivial, trivial⟩, trivial⟩, (by first | assumption | decide | (simp (disch := omega) only [c41, c100, nI_div, i_sub, hx, hy2, d3, d4, rKn, rI_mul, nI_add, nI_1, nI_clamp, pr_16_1681, pr_8_100, pr_8_41, pr_8_m4, pr_i_0, pr_i_1, pr_i_2, pr_i_m1]; first | assumption | exact ⟨Or.inl (by assumption), rvin (by assumption) (by omega) (by decide)⟩ | exact ⟨by assumption, rvin (by assumption) (by omega) (by decide)⟩ | exact ⟨⟨by omega, by omega⟩, rvin (by assumption) (by omega) (by decide)⟩ | exact ⟨Or.inr (by assumption), rvin (by assumption) (by omega) (by decide)⟩ | exact ⟨Or.inr ⟨by assumption, (by first | exact Or.inl rfl | exact Or.inr rfl | exact pr_b01 _)⟩, rvin (by assumption) (by omega) (by decide)⟩ | exact ⟨by assumption, by assumption⟩ | decide | omega))⟩, trivial⟩, trivial⟩, (by first | assumption | decide | (simp (disch := omega) only [c41, c100, nI_div, i_sub, hx, hy2, d3, d4, rKn, rI_mul, nI_add, nI_1, nI_clamp, pr_16_1681, pr_8_100, pr_8_41, pr_8_m4, pr_i_0, pr_i_1, pr_i_2, pr_i_m1]; first | assumption | exact ⟨Or.inl (by assumption), rvin (by assumption) (by omega) (by decide)⟩ | exact ⟨by assumption, rvin (by assumption) (by omega) (by decide)⟩ | exact ⟨⟨by omega, by omega⟩, rvin (by assumption) (by omega) (by decide)⟩ | exact ⟨Or.inr (by assumption), rvin (by assumption) (by omega) (by decide)⟩ | exact ⟨Or.inr ⟨by assumption, (by first | exact Or.inl rfl | exact Or.inr rfl | exact pr_b01 _)⟩, rvin (by assumption) (by omega) (by decide)⟩ | exact ⟨by assumption, by assumption⟩ | decide | omega))⟩ ?_
                                    try simp (disch := omega) only [c41, c100, nI_div, i_sub, hx, hy2, d3, d4, rKn, rI_mul, nI_add, nI_1, nI_clamp, pr_16_1681, pr_8_100, pr_8_41, pr_8_m4, pr_i_0, pr_i_1, pr_i_2, pr_i_m1]
                                    refine pr_ic rfl (fun h199 => ?_) (fun h199 => ?_)
                                    · simp only [ab_cmp, pr_16_1681, pr_8_100, pr_8_41, pr_8_m4, pr_i_0, pr_i_1, pr_i_2, pr_i_m1] at h199
                                      exact absurd zx h199
                                    · simp only [ab_cmp, pr_16_1681, pr_8_100, pr_8_41, pr_8_m4, pr_i_0, pr_i_1, pr_i_2, pr_i_m1] at h199
                                      first
                                      | contradiction
                                      | exact absurd trivial h199
                                      | exact absurd h199 (by decide)
                                      | exact absurd (Classical.not_not.mp h199) (by decide)
                                      | skip
                                        refine pr_seq (pc' := 211) 4 rfl ⟨⟨⟨⟨trivial, trivial⟩, trivial⟩, trivial⟩, trivial⟩ ?_
                                        try simp (disch := omega) only [c41, c100, nI_div, i_sub, hx, hy2, d3, d4, rKn, rI_mul, nI_add, nI_1, nI_clamp, pr_16_1681, pr_8_100, pr_8_41, pr_8_m4, pr_i_0, pr_i_1, pr_i_2, pr_i_m1]
                                        refine pr_if rfl (fun h211 => ?_) (fun h211 => ?_)
                                        · simp only [ab_cmp, pr_16_1681, pr_8_100, pr_8_41, pr_8_m4, pr_i_0, pr_i_1, pr_i_2, pr_i_m1] at h211
                                          first
                                          | contradiction
                                          | exact absurd trivial h211
                                          | exact absurd h211 (by decide)
                                          | exact absurd (Classical.not_not.mp h211) (by decide)
                                          | skip
                                            refine pr_seq (pc' := 63) 5 rfl ⟨⟨⟨⟨⟨trivial, trivial⟩, trivial⟩, trivial⟩, trivial⟩, trivial⟩ ?_
                                            try simp (disch := omega) only [c41, c100, nI_div, i_sub, hx, hy2, d3, d4, rKn, rI_mul, nI_add, nI_1, nI_clamp, pr_16_1681, pr_8_100, pr_8_41, pr_8_m4, pr_i_0, pr_i_1, pr_i_2, pr_i_m1]
                                            exact hh
                                        · simp only [ab_cmp, pr_16_1681, pr_8_100, pr_8_41, pr_8_m4, pr_i_0, pr_i_1, pr_i_2, pr_i_m1] at h211
                                          exact absurd rfl h211
                            · simp only [ab_cmp, pr_16_1681, pr_8_100, pr_8_41, pr_8_m4, pr_i_0, pr_i_1, pr_i_2, pr_i_m1] at h160
                              exact absurd (Classical.not_not.mp h160) z
                      · refine pr_seq (pc' := 155) 1 rfl ⟨trivial, trivial⟩ ?_
                        try simp (disch := omega) only [c41, c100, nI_div, i_sub, hx, hy2, d3, d4, rKn, rI_mul, nI_add, nI_1, nI_clamp, pr_16_1681, pr_8_100, pr_8_41, pr_8_m4, pr_i_0, pr_i_1, pr_i_2, pr_i_m1]
                        refine pr_if rfl (fun h155 => ?_) (fun h155 => ?_)
                        · simp only [ab_cmp, pr_16_1681, pr_8_100, pr_8_41, pr_8_m4, pr_i_0, pr_i_1, pr_i_2, pr_i_m1] at h155
                          exact absurd h155 (by decide)
                        · simp only [ab_cmp, pr_16_1681, pr_8_100, pr_8_41, pr_8_m4, pr_i_0, pr_i_1, pr_i_2, pr_i_m1] at h155
                          first
                          | contradiction
                          | exact absurd trivial h155
                          | exact absurd h155 (by decide)
                          | exact absurd (Classical.not_not.mp h155) (by decide)
                          | skip
                            refine pr_seq (pc' := 160) 1 rfl ⟨trivial, trivial⟩ ?_
                            try simp (disch := omega) only [c41, c100, nI_div, i_sub, hx, hy2, d3, d4, rKn, rI_mul, nI_add, nI_1, nI_clamp, pr_16_1681, pr_8_100, pr_8_41, pr_8_m4, pr_i_0, pr_i_1, pr_i_2, pr_i_m1]
                            refine pr_if rfl (fun h160 => ?_) (fun h160 => ?_)
                            · simp only [ab_cmp, pr_16_1681, pr_8_100, pr_8_41, pr_8_m4, pr_i_0, pr_i_1, pr_i_2, pr_i_m1] at h160
                              first
                              | contradiction
                              | exact absurd trivial h160
                              | exact absurd h160 (by decide)
                              | exact absurd (Classical.not_not.mp h160) (by decide)
                              | skip
                                refine pr_seq (pc' := 186) 3 rfl ⟨⟨⟨trivial, trivial⟩, trivial⟩, trivial⟩ ?_
                                try simp (disch := omega) only [c41, c100, nI_div, i_sub, hx, hy2, d3, d4, rKn, rI_mul, nI_add, nI_1, nI_clamp, pr_16_1681, pr_8_100, pr_8_41, pr_8_m4, pr_i_0, pr_i_1, pr_i_2, pr_i_m1]
                                refine pr_if rfl (fun h186 => ?_) (fun h186 => ?_)
                                · simp only [ab_cmp, pr_16_1681, pr_8_100, pr_8_41, pr_8_m4, pr_i_0, pr_i_1, pr_i_2, pr_i_m1] at h186
                                  exact absurd h186 (by decide)
                                · simp only [ab_cmp, pr_16_1681, pr_8_100, pr_8_41, pr_8_m4, pr_i_0, pr_i_1, pr_i_2, pr_i_m1] at h186
                                  first
                                  | contradiction
                                  | exact absurd trivial h186
                                  | exact absurd h186 (by decide)
                                  | exact absurd (Classical.not_not.mp h186) (by decide)
                                  | skip
                                    refine pr_seq (pc' := 199) 6 rfl ⟨⟨⟨⟨⟨⟨trivial, trivial⟩, trivial⟩, (by first | assumption | decide | (simp (disch := omega) only [c41, c100, nI_div, i_sub, hx, hy2, d3, d4, rKn, rI_mul, nI_add, nI_1, nI_clamp, pr_16_1681, pr_8_100, pr_8_41, pr_8_m4, pr_i_0, pr_i_1, pr_i_2, pr_i_m1]; first | assumption | exact ⟨Or.inl (by assumption), rvin (by assumption) (by omega) (by decide)⟩ | exact ⟨by assumption, rvin (by assumption) (by omega) (by decide)⟩ | exact ⟨⟨by omega, by omega⟩, rvin (by assumption) (by omega) (by decide)⟩ | exact ⟨Or.inr (by assumption), rvin (by assumption) (by omega) (by decide)⟩ | exact ⟨Or.inr ⟨by assumption, (by first | exact Or.inl rfl | exact Or.inr rfl | exact pr_b01 _)⟩, rvin (by assumption) (by omega) (by decide)⟩ | exact ⟨by assumption, by assumption⟩ | decide | omega))⟩, trivial⟩, trivial⟩, (by first | assumption | decide | (simp (disch := omega) only [c41, c100, nI_div, i_sub, hx, hy2, d3, d4, rKn, rI_mul, nI_add, nI_1, nI_clamp, pr_16_1681, pr_8_100, pr_8_41, pr_8_m4, pr_i_0, pr_i_1, pr_i_2, pr_i_m1]; first | assumption | exact ⟨Or.inl (by assumption), rvin (by assumption) (by omega) (by decide)⟩ | exact ⟨by assumption, rvin (by assumption) (by omega) (by decide)⟩ | exact ⟨⟨by omega, by omega⟩, rvin (by assumption) (by omega) (by decide)⟩ | exact ⟨Or.inr (by assumption), rvin (by assumption) (by omega) (by decide)⟩ | exact ⟨Or.inr ⟨by assumption, (by first | exact Or.inl rfl | exact Or.inr rfl | exact pr_b01 _)⟩, rvin (by assumption) (by omega) (by decide)⟩ | exact ⟨by assumption, by assumption⟩ | decide | omega))⟩ ?_
                                    try simp (disch := omega) only [c41, c100, nI_div, i_sub, hx, hy2, d3, d4, rKn, rI_mul, nI_add, nI_1, nI_clamp, pr_16_1681, pr_8_100, pr_8_41, pr_8_m4, pr_i_0, pr_i_1, pr_i_2, pr_i_m1]
                                    refine pr_ic rfl (fun h199 => ?_) (fun h199 => ?_)
                                    · simp only [ab_cmp, pr_16_1681, pr_8_100, pr_8_41, pr_8_m4, pr_i_0, pr_i_1, pr_i_2, pr_i_m1] at h199
                                      exact absurd zx h199
                                    · simp only [ab_cmp, pr_16_1681, pr_8_100, pr_8_41, pr_8_m4, pr_i_0, pr_i_1, pr_i_2, pr_i_m1] at h199
                                      first
                                      | contradiction
                                      | exact absurd trivial h199
                                      | exact absurd h199 (by decide)
                                      | exact absurd (Classical.not_not.mp h199) (by decide)
                                      | skip
                                        refine pr_seq (pc' := 211) 4 rfl ⟨⟨⟨⟨trivial, trivial⟩, trivial⟩, trivial⟩, trivial⟩ ?_
                                        try simp (disch := omega) only [c41, c100, nI_div, i_sub, hx, hy2, d3, d4, rKn, rI_mul, nI_add, nI_1, nI_clamp, pr_16_1681, pr_8_100, pr_8_41, pr_8_m4, pr_i_0, pr_i_1, pr_i_2, pr_i_m1]
                                        refine pr_if rfl (fun h211 => ?_) (fun h211 => ?_)
                                        · simp only [ab_cmp, pr_16_1681, pr_8_100, pr_8_41, pr_8_m4, pr_i_0, pr_i_1, pr_i_2, pr_i_m1] at h211
                                          exact absurd h211 (by decide)
                                        · simp only [ab_cmp, pr_16_1681, pr_8_100, pr_8_41, pr_8_m4, pr_i_0, pr_i_1, pr_i_2, pr_i_m1] at h211
                                          first
                                          | contradiction
                                          | exact absurd trivial h211
                                          | exact absurd h211 (by decide)
                                          | exact absurd (Classical.not_not.mp h211) (by decide)
                                          | skip
                                            refine pr_seq (pc' := 224) 6 rfl ⟨⟨⟨⟨⟨⟨trivial, trivial⟩, trivial⟩, (by first | assumption | decide | (simp (disch := omega) only [c41, c100, nI_div, i_sub, hx, hy2, d3, d4, rKn, rI_mul, nI_add, nI_1, nI_clamp, pr_16_1681, pr_8_100, pr_8_41, pr_8_m4, pr_i_0, pr_i_1, pr_i_2, pr_i_m1]; first | assumption | exact ⟨Or.inl (by assumption), rvin (by assumption) (by omega) (by decide)⟩ | exact ⟨by assumption, rvin (by assumption) (by omega) (by decide)⟩ | exact ⟨⟨by omega, by omega⟩, rvin (by assumption) (by omega) (by decide)⟩ | exact ⟨Or.inr (by assumption), rvin (by assumption) (by omega) (by decide)⟩ | exact ⟨Or.inr ⟨by assumption, (by first | exact Or.inl rfl | exact Or.inr rfl | exact pr_b01 _)⟩, rvin (by assumption) (by omega) (by decide)⟩ | exact ⟨by assumption, by assumption⟩ | decide | omega))⟩, trivial⟩, trivial⟩, (by first | assumption | decide | (simp (disch := omega) only [c41, c100, nI_div, i_sub, hx, hy2, d3, d4, rKn, rI_mul, nI_add, nI_1, nI_clamp, pr_16_1681, pr_8_100, pr_8_41, pr_8_m4, pr_i_0, pr_i_1, pr_i_2, pr_i_m1]; first | assumption | exact ⟨Or.inl (by assumption), rvin (by assumption) (by omega) (by decide)⟩ | exact ⟨by assumption, rvin (by assumption) (by omega) (by decide)⟩ | exact ⟨⟨by omega, by omega⟩, rvin (by assumption) (by omega) (by decide)⟩ | exact ⟨Or.inr (by assumption), rvin (by assumption) (by omega) (by decide)⟩ | exact ⟨Or.inr ⟨by assumption, (by first | exact Or.inl rfl | exact Or.inr rfl | exact pr_b01 _)⟩, rvin (by assumption) (by omega) (by decide)⟩ | exact ⟨by assumption, by assumption⟩ | decide | omega))⟩ ?_
                                            try simp (disch := omega) only [c41, c100, nI_div, i_sub, hx, hy2, d3, d4, rKn, rI_mul, nI_add, nI_1, nI_clamp, pr_16_1681, pr_8_100, pr_8_41, pr_8_m4, pr_i_0, pr_i_1, pr_i_2, pr_i_m1]
                                            refine pr_ic rfl (fun h224 => ?_) (fun h224 => ?_)
                                            · simp only [ab_cmp, pr_16_1681, pr_8_100, pr_8_41, pr_8_m4, pr_i_0, pr_i_1, pr_i_2, pr_i_m1] at h224
                                              exact absurd zy h224
                                            · simp only [ab_cmp, pr_16_1681, pr_8_100, pr_8_41, pr_8_m4, pr_i_0, pr_i_1, pr_i_2, pr_i_m1] at h224
                                              first
                                              | contradiction
                                              | exact absurd trivial h224
                                              | exact absurd h224 (by decide)
                                              | exact absurd (Classical.not_not.mp h224) (by decide)
                                              | skip
                                                refine pr_seq (pc' := 63) 6 rfl ⟨⟨⟨⟨⟨⟨trivial, trivial⟩, trivial⟩, trivial⟩, trivial⟩, trivial⟩, trivial⟩ ?_
                                                try simp (disch := omega) only [c41, c100, nI_div, i_sub, hx, hy2, d3, d4, rKn, rI_mul, nI_add, nI_1, nI_clamp, pr_16_1681, pr_8_100, pr_8_41, pr_8_m4, pr_i_0, pr_i_1, pr_i_2, pr_i_m1]
                                                exact hh
                            · simp only [ab_cmp, pr_16_1681, pr_8_100, pr_8_41, pr_8_m4, pr_i_0, pr_i_1, pr_i_2, pr_i_m1] at h160
                              exact absurd (Classical.not_not.mp h160) z
                    · have zx : nI x = nI fa := by rw [cx]
                      have zy : ¬ nI y = nI fb := nI_ne cy (by omega) (by omega)
                      rw [decide_eq_true cx, decide_eq_false cy, Bool.and_true, Bool.and_false] at hh
                      cases oa <;> cases ob
                      · refine pr_seq (pc' := 155) 1 rfl ⟨trivial, trivial⟩ ?_
                        try simp (disch := omega) only [c41, c100, nI_div, i_sub, hx, hy2, d3, d4, rKn, rI_mul, nI_add, nI_1, nI_clamp, pr_16_1681, pr_8_100, pr_8_41, pr_8_m4, pr_i_0, pr_i_1, pr_i_2, pr_i_m1]
                        refine pr_if rfl (fun h155 => ?_) (fun h155 => ?_)
                        · simp only [ab_cmp, pr_16_1681, pr_8_100, pr_8_41, pr_8_m4, pr_i_0, pr_i_1, pr_i_2, pr_i_m1] at h155
                          exact absurd h155 (by decide)
                        · simp only [ab_cmp, pr_16_1681, pr_8_100, pr_8_41, pr_8_m4, pr_i_0, pr_i_1, pr_i_2, pr_i_m1] at h155
                          first
                          | contradiction
                          | exact absurd trivial h155
                          | exact absurd h155 (by decide)
                          | exact absurd (Classical.not_not.mp h155) (by decide)
                          | skip
                            refine pr_seq (pc' := 160) 1 rfl ⟨trivial, trivial⟩ ?_
                            try simp (disch := omega) only [c41, c100, nI_div, i_sub, hx, hy2, d3, d4, rKn, rI_mul, nI_add, nI_1, nI_clamp, pr_16_1681, pr_8_100, pr_8_41, pr_8_m4, pr_i_0, pr_i_1, pr_i_2, pr_i_m1]
                            refine pr_if rfl (fun h160 => ?_) (fun h160 => ?_)
                            · simp only [ab_cmp, pr_16_1681, pr_8_100, pr_8_41, pr_8_m4, pr_i_0, pr_i_1, pr_i_2, pr_i_m1] at h160
                              first
                              | contradiction
                              | exact absurd trivial h160
                              | exact absurd h160 (by decide)
                              | exact absurd (Classical.not_not.mp h160) (by decide)
                              | skip
                                refine pr_seq (pc' := 186) 3 rfl ⟨⟨⟨trivial, trivial⟩, trivial⟩, trivial⟩ ?_
                                try simp (disch := omega) only [c41, c100, nI_div, i_sub, hx, hy2, d3, d4, rKn, rI_mul, nI_add, nI_1, nI_clamp, pr_16_1681, pr_8_100, pr_8_41, pr_8_m4, pr_i_0, pr_i_1, pr_i_2, pr_i_m1]
                                refine pr_if rfl (fun h186 => ?_) (fun h186 => ?_)
                                · simp only [ab_cmp, pr_16_1681, pr_8_100, pr_8_41, pr_8_m4, pr_i_0, pr_i_1, pr_i_2, pr_i_m1] at h186
                                  first
                                  | contradiction
                                  | exact absurd trivial h186
                                  | exact absurd h186 (by decide)
                                  | exact absurd (Classical.not_not.mp h186) (by decide)
                                  | skip
                                    refine pr_seq (pc' := 211) 3 rfl ⟨⟨⟨trivial, trivial⟩, trivial⟩, trivial⟩ ?_
                                    try simp (disch := omega) only [c41, c100, nI_div, i_sub, hx, hy2, d3, d4, rKn, rI_mul, nI_add, nI_1, nI_clamp, pr_16_1681, pr_8_100, pr_8_41, pr_8_m4, pr_i_0, pr_i_1, pr_i_2, pr_i_m1]
                                    refine pr_if rfl (fun h211 => ?_) (fun h211 => ?_)
                                    · simp only [ab_cmp, pr_16_1681, pr_8_100, pr_8_41, pr_8_m4, pr_i_0, pr_i_1, pr_i_2, pr_i_m1] at h211
                                      first
                                      | contradiction
                                      | exact absurd trivial h211
                                      | exact absurd h211 (by decide)
                                      | exact absurd (Classical.not_not.mp h211) (by decide)
                                      | skip
                                        refine pr_seq (pc' := 63) 5 rfl ⟨⟨⟨⟨⟨trivial, trivial⟩, trivial⟩, trivial⟩, trivial⟩, trivial⟩ ?_
                                        try simp (disch := omega) only [c41, c100, nI_div, i_sub, hx, hy2, d3, d4, rKn, rI_mul, nI_add, nI_1, nI_clamp, pr_16_1681, pr_8_100, pr_8_41, pr_8_m4, pr_i_0, pr_i_1, pr_i_2, pr_i_m1]
                                        exact hh
                                    · simp only [ab_cmp, pr_16_1681, pr_8_100, pr_8_41, pr_8_m4, pr_i_0, pr_i_1, pr_i_2, pr_i_m1] at h211
                                      exact absurd rfl h211
                                · simp only [ab_cmp, pr_16_1681, pr_8_100, pr_8_41, pr_8_m4, pr_i_0, pr_i_1, pr_i_2, pr_i_m1] at h186
                                  exact absurd rfl h186
                            · simp only [ab_cmp, pr_16_1681, pr_8_100, pr_8_41, pr_8_m4, pr_i_0, pr_i_1, pr_i_2, pr_i_m1] at h160
                              exact absurd (Classical.not_not.mp h160) z
                      · refine pr_seq (pc' := 155) 1 rfl ⟨trivial, trivial⟩ ?_
                        try simp (disch := omega) only [c41, c100, nI_div, i_sub, hx, hy2, d3, d4, rKn, rI_mul, nI_add, nI_1, nI_clamp, pr_16_1681, pr_8_100, pr_8_41, pr_8_m4, pr_i_0, pr_i_1, pr_i_2, pr_i_m1]
                        refine pr_if rfl (fun h155 => ?_) (fun h155 => ?_)
                        · simp only [ab_cmp, pr_16_1681, pr_8_100, pr_8_41, pr_8_m4, pr_i_0, pr_i_1, pr_i_2, pr_i_m1] at h155
                          exact absurd h155 (by decide)
                        · simp only [ab_cmp, pr_16_1681, pr_8_100, pr_8_41, pr_8_m4, pr_i_0, pr_i_1, pr_i_2, pr_i_m1] at h155
                          first
                          | contradiction
                          | exact absurd trivial h155
                          | exact absurd h155 (by decide)
                          | exact absurd (Classical.not_not.mp h155) (by decide)
                          | skip
                            refine pr_seq (pc' := 160) 1 rfl ⟨trivial, trivial⟩ ?_
                            try simp (disch := omega) only [c41, c100, nI_div, i_sub, hx, hy2, d3, d4, rKn, rI_mul, nI_add, nI_1, nI_clamp, pr_16_1681, pr_8_100, pr_8_41, pr_8_m4, pr_i_0, pr_i_1, pr_i_2, pr_i_m1]
                            refine pr_if rfl (fun h160 => ?_) (fun h160 => ?_)
                            · simp only [ab_cmp, pr_16_1681, pr_8_100, pr_8_41, pr_8_m4, pr_i_0, pr_i_1, pr_i_2, pr_i_m1] at h160
                              first
                              | contradiction
                              | exact absurd trivial h160
                              | exact absurd h160 (by decide)
                              | exact absurd (Classical.not_not.mp h160) (by decide)
                              | skip
                                refine pr_seq (pc' := 186) 3 rfl ⟨⟨⟨trivial, trivial⟩, trivial⟩, trivial⟩ ?_
                                try simp (disch := omega) only [c41, c100, nI_div, i_sub, hx, hy2, d3, d4, rKn, rI_mul, nI_add, nI_1, nI_clamp, pr_16_1681, pr_8_100, pr_8_41, pr_8_m4, pr_i_0, pr_i_1, pr_i_2, pr_i_m1]
                                refine pr_if rfl (fun h186 => ?_) (fun h186 => ?_)
                                · simp only [ab_cmp, pr_16_1681, pr_8_100, pr_8_41, pr_8_m4, pr_i_0, pr_i_1, pr_i_2, pr_i_m1] at h186
                                  first
                                  | contradiction
                                  | exact absurd trivial h186
                                  | exact absurd h186 (by decide)
                                  | exact absurd (Classical.not_not.mp h186) (by decide)
                                  | skip
                                    refine pr_seq (pc' := 211) 3 rfl ⟨⟨⟨trivial, trivial⟩, trivial⟩, trivial⟩ ?_
                                    try simp (disch := omega) only [c41, c100, nI_div, i_sub, hx, hy2, d3, d4, rKn, rI_mul, nI_add, nI_1, nI_clamp, pr_16_1681, pr_8_100, pr_8_41, pr_8_m4, pr_i_0, pr_i_1, pr_i_2, pr_i_m1]
                                    refine pr_if rfl (fun h211 => ?_) (fun h211 => ?_)
                                    · simp only [ab_cmp, pr_16_1681, pr_8_100, pr_8_41, pr_8_m4, pr_i_0, pr_i_1, pr_i_2, pr_i_m1] at h211
                                      exact absurd h211 (by decide)
                                    · simp only [ab_cmp, pr_16_1681, pr_8_100, pr_8_41, pr_8_m4, pr_i_0, pr_i_1, pr_i_2, pr_i_m1] at h211
                                      first
                                      | contradiction
                                      | exact absurd trivial h211
                                      | exact absurd h211 (by decide)
                                      | exact absurd (Classical.not_not.mp h211) (by decide)
                                      | skip
                                        refine pr_seq (pc' := 224) 6 rfl ⟨⟨⟨⟨⟨⟨trivial, trivial⟩, trivial⟩, (by first | assumption | decide | (simp (disch := omega) only [c41, c100, nI_div, i_sub, hx, hy2, d3, d4, rKn, rI_mul, nI_add, nI_1, nI_clamp, pr_16_1681, pr_8_100, pr_8_41, pr_8_m4, pr_i_0, pr_i_1, pr_i_2, pr_i_m1]; first | assumption | exact ⟨Or.inl (by assumption), rvin (by assumption) (by omega) (by decide)⟩ | exact ⟨by assumption, rvin (by assumption) (by omega) (by decide)⟩ | exact ⟨⟨by omega, by omega⟩, rvin (by assumption) (by omega) (by decide)⟩ | exact ⟨Or.inr (by assumption), rvin (by assumption) (by omega) (by decide)⟩ | exact ⟨Or.inr ⟨by assumption, (by first | exact Or.inl rfl | exact Or.inr rfl | exact pr_b01 _)⟩, rvin (by assumption) (by omega) (by decide)⟩ | exact ⟨by assumption, by assumption⟩ | decide | omega))⟩, trivial⟩, trivial⟩, (by first | assumption | decide | (simp (disch := omega) only [c41, c100, nI_div, i_sub, hx, hy2, d3, d4, rKn, rI_mul, nI_add, nI_1, nI_clamp, pr_16_1681, pr_8_100, pr_8_41, pr_8_m4, pr_i_0, pr_i_1, pr_i_2, pr_i_m1]; first | assumption | exact ⟨Or.inl (by assumption), rvin (by assumption) (by omega) (by decide)⟩ | exact ⟨by assumption, rvin (by assumption) (by omega) (by decide)⟩ | exact ⟨⟨by omega, by omega⟩, rvin (by assumption) (by omega) (by decide)⟩ | exact ⟨Or.inr (by assumption), rvin (by assumption) (by omega) (by decide)⟩ | exact ⟨Or.inr ⟨by assumption, (by first | exact Or.inl rfl | exact Or.inr rfl | exact pr_b01 _)⟩, rvin (by assumption) (by omega) (by decide)⟩ | exact ⟨by assumption, by assumption⟩ | decide | omega))⟩ ?_
                                        try simp (disch := omega) only [c41, c100, nI_div, i_sub, hx, hy2, d3, d4, rKn, rI_mul, nI_add, nI_1, nI_clamp, pr_16_1681, pr_8_100, pr_8_41, pr_8_m4, pr_i_0, pr_i_1, pr_i_2, pr_i_m1]
                                        refine pr_ic rfl (fun h224 => ?_) (fun h224 => ?_)
                                        · simp only [ab_cmp, pr_16_1681, pr_8_100, pr_8_41, pr_8_m4, pr_i_0, pr_i_1, pr_i_2, pr_i_m1] at h224
                                          first
                                          | contradiction
                                          | exact absurd trivial h224
                                          | exact absurd h224 (by decide)
                                          | exact absurd (Classical.not_not.mp h224) (by decide)
                                          | skip
                                            refine pr_seq (pc' := 63) 5 rfl ⟨⟨⟨⟨⟨trivial, trivial⟩, trivial⟩, trivial⟩, trivial⟩, trivial⟩ ?_
                                            try simp (disch := omega) only [c41, c100, nI_div, i_sub, hx, hy2, d3, d4, rKn, rI_mul, nI_add, nI_1, nI_clamp, pr_16_1681, pr_8_100, pr_8_41, pr_8_m4, pr_i_0, pr_i_1, pr_i_2, pr_i_m1]
                                            exact hh
                                        · simp only [ab_cmp, pr_16_1681, pr_8_100, pr_8_41, pr_8_m4, pr_i_0, pr_i_1, pr_i_2, pr_i_m1] at h224
                                          exact absurd (Classical.not_not.mp h224) zy
                                · simp only [ab_cmp, pr_16_1681, pr_8_100, pr_8_41, pr_8_m4, pr_i_0, pr_i_1, pr_i_2, pr_i_m1] at h186
                                  exact absurd rfl h186
                            · simp only [ab_cmp, pr_16_1681, pr_8_100, pr_8_41, pr_8_m4, pr_i_0, pr_i_1, pr_i_2, pr_i_m1] at h160
                              exact absurd (Classical.not_not.mp h160) z
                      · refine pr_seq (pc' := 155) 1 rfl ⟨trivial, trivial⟩ ?_
                        try simp (disch := omega) only [c41, c100, nI_div, i_sub, hx, hy2, d3, d4, rKn, rI_mul, nI_add, nI_1, nI_clamp, pr_16_1681, pr_8_100, pr_8_41, pr_8_m4, pr_i_0, pr_i_1, pr_i_2, pr_i_m1]
                        refine pr_if rfl (fun h155 => ?_) (fun h155 => ?_)
                        · simp only [ab_cmp, pr_16_1681, pr_8_100, pr_8_41, pr_8_m4, pr_i_0, pr_i_1, pr_i_2, pr_i_m1] at h155
                          exact absurd h155 (by decide)
                        · simp only [ab_cmp, pr_16_1681, pr_8_100, pr_8_41, pr_8_m4, pr_i_0, pr_i_1, pr_i_2, pr_i_m1] at h155
                          first
                          | contradiction
                          | exact absurd trivial h155
                          | exact absurd h155 (by decide)
                          | exact absurd (Classical.not_not.mp h155) (by decide)
                          | skip
                            refine pr_seq (pc' := 160) 1 rfl ⟨trivial, trivial⟩ ?_
                            try simp (disch := omega) only [c41, c100, nI_div, i_sub, hx, hy2, d3, d4, rKn, rI_mul, nI_add, nI_1, nI_clamp, pr_16_1681, pr_8_100, pr_8_41, pr_8_m4, pr_i_0, pr_i_1, pr_i_2, pr_i_m1]
                            refine pr_if rfl (fun h160 => ?_) (fun h160 => ?_)
                            · simp only [ab_cmp, pr_16_1681, pr_8_100, pr_8_41, pr_8_m4, pr_i_0, pr_i_1, pr_i_2, pr_i_m1] at h160
                              first
                              | contradiction
                              | exact absurd trivial h160
                              | exact absurd h160 (by decide)
                              | exact absurd (Classical.not_not.mp h160) (by decide)
                              | skip
                                refine pr_seq (pc' := 186) 3 rfl ⟨⟨⟨trivial, trivial⟩, trivial⟩, trivial⟩ ?_
                                try simp (disch := omega) only [c41, c100, nI_div, i_sub, hx, hy2, d3, d4, rKn, rI_mul, nI_add, nI_1, nI_clamp, pr_16_1681, pr_8_100, pr_8_41, pr_8_m4, pr_i_0, pr_i_1, pr_i_2, pr_i_m1]
                                refine pr_if rfl (fun h186 => ?_) (fun h186 => ?_)
                                · simp only [ab_cmp, pr_16_1681, pr_8_100, pr_8_41, pr_8_m4, pr_i_0, pr_i_1, pr_i_2, pr_i_m1] at h186
                                  exact absurd h186 (by decide)
                                · simp only [ab_cmp, pr_16_1681, pr_8_100, pr_8_41, pr_8_m4, pr_i_0, pr_i_1, pr_i_2, pr_i_m1] at h186
                                  first
                                  | contradiction
                                  | exact absurd trivial h186
                                  | exact absurd h186 (by decide)
                                  | exact absurd (Classical.not_not.mp h186) (by decide)
                                  | skip
                                    refine pr_seq (pc' := 199) 6 rfl ⟨⟨⟨⟨⟨⟨trivial, trivial⟩, trivial⟩, (by first | assumption | decide | (simp (disch := omega) only [c41, c100, nI_div, i_sub, hx, hy2, d3, d4, rKn, rI_mul, nI_add, nI_1, nI_clamp, pr_16_1681, pr_8_100, pr_8_41, pr_8_m4, pr_i_0, pr_i_1, pr_i_2, pr_i_m1]; first | assumption | exact ⟨Or.inl (by assumption), rvin (by assumption) (by omega) (by decide)⟩ | exact ⟨by assumption, rvin (by assumption) (by omega) (by decide)⟩ | exact ⟨⟨by omega, by omega⟩, rvin (by assumption) (by omega) (by decide)⟩ | exact ⟨Or.inr (by assumption), rvin (by assumption) (by omega) (by decide)⟩ | exact ⟨Or.inr ⟨by assumption, (by first | exact Or.inl rfl | exact Or.inr rfl | exact pr_b01 _)⟩, rvin (by assumption) (by omega) (by decide)⟩ | exact ⟨by assumption, by assumption⟩ | decide | omega))⟩, trivial⟩, trivial⟩, (by first | assumption | decide | (simp (disch := omega) only [c41, c100, nI_div, i_sub, hx, hy2, d3, d4, rKn, rI_mul, nI_add, nI_1, nI_clamp, pr_16_1681, pr_8_100, pr_8_41, pr_8_m4, pr_i_0, pr_i_1, pr_i_2, pr_i_m1]; first | assumption | exact ⟨Or.inl (by assumption), rvin (by assumption) (by omega) (by decide)⟩ | exact ⟨by assumption, rvin (by assumption) (by omega) (by decide)⟩ | exact ⟨⟨by omega, by omega⟩, rvin (by assumption) (by omega) (by decide)⟩ | exact ⟨Or.inr (by assumption), rvin (by assumption) (by omega) (by decide)⟩ | exact ⟨Or.inr ⟨by assumption, (by first | exact Or.inl rfl | exact Or.inr rfl | exact pr_b01 _)⟩, rvin (by assumption) (by omega) (by decide)⟩ | exact ⟨by assumption, by assumption⟩ | decide | omega))⟩ ?_
                                    try simp (disch := omega) only [c41, c100, nI_div, i_sub, hx, hy2, d3, d4, rKn, rI_mul, nI_add, nI_1, nI_clamp, pr_16_1681, pr_8_100, pr_8_41, pr_8_m4, pr_i_0, pr_i_1, pr_i_2, pr_i_m1]
                                    refine pr_ic rfl (fun h199 => ?_) (fun h199 => ?_)
                                    · simp only [ab_cmp, pr_16_1681, pr_8_100, pr_8_41, pr_8_m4, pr_i_0, pr_i_1, pr_i_2, pr_i_m1] at h199
                                      exact absurd zx h199
                                    · simp only [ab_cmp, pr_16_1681, pr_8_100, pr_8_41, pr_8_m4, pr_i_0, pr_i_1, pr_i_2, pr_i_m1] at h199
                                      first
                                      | contradiction
                                      | exact absurd trivial h199
                                      | exact absurd h199 (by decide)
                                      | exact absurd (Classical.not_not.mp h199) (by decide)
                                      | skip
                                        refine pr_seq (pc' := 211) 4 rfl ⟨⟨⟨⟨trivial, trivial⟩, trivial⟩, trivial⟩, trivial⟩ ?_
                                        try simp (disch := omega) only [c41, c100, nI_div, i_sub, hx, hy2, d3, d4, rKn, rI_mul, nI_add, nI_1, nI_clamp, pr_16_1681, pr_8_100, pr_8_41, pr_8_m4, pr_i_0, pr_i_1, pr_i_2, pr_i_m1]
                                        refine pr_if rfl (fun h211 => ?_) (fun h211 => ?_)
                                        · simp only [ab_cmp, pr_16_1681, pr_8_100, pr_8_41, pr_8_m4, pr_i_0, pr_i_1, pr_i_2, pr_i_m1] at h211
                                          first
                                          | contradiction
                                          | exact absurd trivial h211
                                          | exact absurd h211 (by decide)
                                          | exact absurd (Classical.not_not.mp h211) (by decide)
                                          | skip
                                            refine pr_seq (pc' := 63) 5 rfl ⟨⟨⟨⟨⟨trivial, trivial⟩, trivial⟩, trivial⟩, trivial⟩, trivial⟩ ?_
                                            try simp (disch := omega) only [c41, c100, nI_div, i_sub, hx, hy2, d3, d4, rKn, rI_mul, nI_add, nI_1, nI_clamp, pr_16_1681, pr_8_100, pr_8_41, pr_8_m4, pr_i_0, pr_i_1, pr_i_2, pr_i_m1]
                                            exact hh
                                        · simp only [ab_cmp, pr_16_1681, pr_8_100, pr_8_41, pr_8_m4, pr_i_0, pr_i_1, pr_i_2, pr_i_m1] at h211
                                          exact absurd rfl h211
                            · simp only [ab_cmp, pr_16_1681, pr_8_100, pr_8_41, pr_8_m4, pr_i_0, pr_i_1, pr_i_2, pr_i_m1] at h160
                              exact absurd (Classical.not_not.mp h160) z
                      · refine pr_seq (pc' := 155) 1 rfl ⟨trivial, trivial⟩ ?_
                        try simp (disch := omega) only [c41, c100, nI_div, i_sub, hx, hy2, d3, d4, rKn, rI_mul, nI_add, nI_1, nI_clamp, pr_16_1681, pr_8_100, pr_8_41, pr_8_m4, pr_i_0, pr_i_1, pr_i_2, pr_i_m1]
                        refine pr_if rfl (fun h155 => ?_) (fun h155 => ?_)
                        · simp only [ab_cmp, pr_16_1681, pr_8_100, pr_8_41, pr_8_m4, pr_i_0, pr_i_1, pr_i_2, pr_i_m1] at h155
                          exact absurd h155 (by decide)
                        · simp only [ab_cmp, pr_16_1681, pr_8_100, pr_8_41, pr_8_m4, pr_i_0, pr_i_1, pr_i_2, pr_i_m1] at h155
                          first
                          | contradiction
                          | exact absurd trivial h155
                          | exact absurd h155 (by decide)
                          | exact absurd (Classical.not_not.mp h155) (by decide)
                          | skip
                            refine pr_seq (pc' := 160) 1 rfl ⟨trivial, trivial⟩ ?_
                            try simp (disch := omega) only [c41, c100, nI_div, i_sub, hx, hy2, d3, d4, rKn, rI_mul, nI_add, nI_1, nI_clamp, pr_16_1681, pr_8_100, pr_8_41, pr_8_m4, pr_i_0, pr_i_1, pr_i_2, pr_i_m1]
                            refine pr_if rfl (fun h160 => ?_) (fun h160 => ?_)
                            · simp only [ab_cmp, pr_16_1681, pr_8_100, pr_8_41, pr_8_m4, pr_i_0, pr_i_1, pr_i_2, pr_i_m1] at h160
                              first
                              | contradiction
                              | exact absurd trivial h160
                              | exact absurd h160 (by decide)
                              | exact absurd (Classical.not_not.mp h160) (by decide)
                              | skip
                                refine pr_seq (pc' := 186) 3 rfl ⟨⟨⟨trivial, trivial⟩, trivial⟩, trivial⟩ ?_
                                try simp (disch := omega) only [c41, c100, nI_div, i_sub, hx, hy2, d3, d4, rKn, rI_mul, nI_add, nI_1, nI_clamp, pr_16_1681, pr_8_100, pr_8_41, pr_8_m4, pr_i_0, pr_i_1, pr_i_2, pr_i_m1]
                                refine pr_if rfl (fun h186 => ?_) (fun h186 => ?_)
                                · simp only [ab_cmp, pr_16_1681, pr_8_100, pr_8_41, pr_8_m4, pr_i_0, pr_i_1, pr_i_2, pr_i_m1] at h186
                                  exact absurd h186 (by decide)
                                · simp only [ab_cmp, pr_16_1681, pr_8_100, pr_8_41, pr_8_m4, pr_i_0, pr_i_1, pr_i_2, pr_i_m1] at h186
                                  first
                                  | contradiction
                                  | exact absurd trivial h186
                                  | exact absurd h186 (by decide)
                                  | exact absurd (Classical.not_not.mp h186) (by decide)
                                  | skip
                                    refine pr_seq (pc' := 199) 6 rfl ⟨⟨⟨⟨⟨⟨trivial, trivial⟩, trivial⟩, (by first | assumption | decide | (simp (disch := omega) only [c41, c100, nI_div, i_sub, hx, hy2, d3, d4, rKn, rI_mul, nI_add, nI_1, nI_clamp, pr_16_1681, pr_8_100, pr_8_41, pr_8_m4, pr_i_0, pr_i_1, pr_i_2, pr_i_m1]; first | assumption | exact ⟨Or.inl (by assumption), rvin (by assumption) (by omega) (by decide)⟩ | exact ⟨by assumption, rvin (by assumption) (by omega) (by decide)⟩ | exact ⟨⟨by omega, by omega⟩, rvin (by assumption) (by omega) (by decide)⟩ | exact ⟨Or.inr (by assumption), rvin (by assumption) (by omega) (by decide)⟩ | exact ⟨Or.inr ⟨by assumption, (by first | exact Or.inl rfl | exact Or.inr rfl | exact pr_b01 _)⟩, rvin (by assumption) (by omega) (by decide)⟩ | exact ⟨by assumption, by assumption⟩ | decide | omega))⟩, trivial⟩, trivial⟩, (by first | assumption | decide | (simp (disch := omega) only [c41, c100, nI_div, i_sub, hx, hy2, d3, d4, rKn, rI_mul, nI_add, nI_1, nI_clamp, pr_16_1681, pr_8_100, pr_8_41, pr_8_m4, pr_i_0, pr_i_1, pr_i_2, pr_i_m1]; first | assumption | exact ⟨Or.inl (by assumption), rvin (by assumption) (by omega) (by decide)⟩ | exact ⟨by assumption, rvin (by assumption) (by omega) (by decide)⟩ | exact ⟨⟨by omega, by omega⟩, rvin (by assumption) (by omega) (by decide)⟩ | exact ⟨Or.inr (by assumption), rvin (by assumption) (by omega) (by decide)⟩ | exact ⟨Or.inr ⟨by assumption, (by first | exact Or.inl rfl | exact Or.inr rfl | exact pr_b01 _)⟩, rvin (by assumption) (by omega) (by decide)⟩ | exact ⟨by assumption, by assumption⟩ | decide | omega))⟩ ?_
                                    try simp (disch := omega) only [c41, c100, nI_div, i_sub, hx, hy2, d3, d4, rKn, rI_mul, nI_add, nI_1, nI_clamp, pr_16_1681, pr_8_100, pr_8_41, pr_8_m4, pr_i_0, pr_i_1, pr_i_2, pr_i_m1]
                                    refine pr_ic rfl (fun h199 => ?_) (fun h199 => ?_)
                                    · simp only [ab_cmp, pr_16_1681, pr_8_100, pr_8_41, pr_8_m4, pr_i_0, pr_i_1, pr_i_2, pr_i_m1] at h199
                                      exact absurd zx h199
                                    · simp only [ab_cmp, pr_16_1681, pr_8_100, pr_8_41, pr_8_m4, pr_i_0, pr_i_1, pr_i_2, pr_i_m1] at h199
                                      first
                                      | contradiction
                                      | exact absurd trivial h199
                                      | exact absurd h199 (by decide)
                                      | exact absurd (Classical.not_not.mp h199) (by decide)
                                      | skip
                                        refine pr_seq (pc' := 211) 4 rfl ⟨⟨⟨⟨trivial, trivial⟩, trivial⟩, trivial⟩, trivial⟩ ?_
                                        try simp (disch := omega) only [c41, c100, nI_div, i_sub, hx, hy2, d3, d4, rKn, rI_mul, nI_add, nI_1, nI_clamp, pr_16_1681, pr_8_100, pr_8_41, pr_8_m4, pr_i_0, pr_i_1, pr_i_2, pr_i_m1]
                                        refine pr_if rfl (fun h211 => ?_) (fun h211 => ?_)
                                        · simp only [ab_cmp, pr_16_1681, pr_8_100, pr_8_41, pr_8_m4, pr_i_0, pr_i_1, pr_i_2, pr_i_m1] at h211
                                          exact absurd h211 (by decide)
                                        · simp only [ab_cmp, pr_16_1681, pr_8_100, pr_8_41, pr_8_m4, pr_i_0, pr_i_1, pr_i_2, pr_i_m1] at h211
                                          first
                                          | contradiction
                                          | exact absurd trivial h211
                                          | exact absurd h211 (by decide)
                                          | exact absurd (Classical.not_not.mp h211) (by decide)
                                          | skip
                                            refine pr_seq (pc' := 224) 6 rfl ⟨⟨⟨⟨⟨⟨trivial, trivial⟩, trivial⟩, (by first | assumption | decide | (simp (disch := omega) only [c41, c100, nI_div, i_sub, hx, hy2, d3, d4, rKn, rI_mul, nI_add, nI_1, nI_clamp, pr_16_1681, pr_8_100, pr_8_41, pr_8_m4, pr_i_0, pr_i_1, pr_i_2, pr_i_m1]; first | assumption | exact ⟨Or.inl (by assumption), rvin (by assumption) (by omega) (by decide)⟩ | exact ⟨by assumption, rvin (by assumption) (by omega) (by decide)⟩ | exact ⟨⟨by omega, by omega⟩, rvin (by assumption) (by omega) (by decide)⟩ | exact ⟨Or.inr (by assumption), rvin (by assumption) (by omega) (by decide)⟩ | exact ⟨Or.inr ⟨by assumption, (by first | exact Or.inl rfl | exact Or.inr rfl | exact pr_b01 _)⟩, rvin (by assumption) (by omega) (by decide)⟩ | exact ⟨by assumption, by assumption⟩ | decide | omega))⟩, trivial⟩, trivial⟩, (by first | assumption | decide | (simp (disch := omega) only [c41, c100, nI_div, i_sub, hx, hy2, d3, d4, rKn, rI_mul, nI_add, nI_1, nI_clamp, pr_16_1681, pr_8_100, pr_8_41, pr_8_m4, pr_i_0, pr_i_1, pr_i_2, pr_i_m1]; first | assumption | exact ⟨Or.inl (by assumption), rvin (by assumption) (by omega) (by decide)⟩ | exact ⟨by assumption, rvin (by assumption) (by omega) (by decide)⟩ | exact ⟨⟨by omega, by omega⟩, rvin (by assumption) (by omega) (by decide)⟩ | exact ⟨Or.inr (by assumption), rvin (by assumption) (by omega) (by decide)⟩ | exact ⟨Or.inr ⟨by assumption, (by first | exact Or.inl rfl | exact Or.inr rfl | exact pr_b01 _)⟩, rvin (by assumption) (by omega) (by decide)⟩ | exact ⟨by assumption, by assumption⟩ | decide | omega))⟩ ?_
                                            try simp (disch := omega) only [c41, c100, nI_div, i_sub, hx, hy2, d3, d4, rKn, rI_mul, nI_add, nI_1, nI_clamp, pr_16_1681, pr_8_100, pr_8_41, pr_8_m4, pr_i_0, pr_i_1, pr_i_2, pr_i_m1]
                                            refine pr_ic rfl (fun h224 => ?_) (fun h224 => ?_)
                                            · simp only [ab_cmp, pr_16_1681, pr_8_100, pr_8_41, pr_8_m4, pr_i_0, pr_i_1, pr_i_2, pr_i_m1] at h224
                                              first
                                              | contradiction
                                              | exact absurd trivial h224
                                              | exact absurd h224 (by decide)
                                              | exact absurd (Classical.not_not.mp h224) (by decide)
                                              | skip
                                                refine pr_seq (pc' := 63) 5 rfl ⟨⟨⟨⟨⟨trivial, trivial⟩, trivial⟩, trivial⟩, trivial⟩, trivial⟩ ?_
                                                try simp (disch := omega) only [c41, c100, nI_div, i_sub, hx, hy2, d3, d4, rKn, rI_mul, nI_add, nI_1, nI_clamp, pr_16_1681, pr_8_100, pr_8_41, pr_8_m4, pr_i_0, pr_i_1, pr_i_2, pr_i_m1]
                                                exact hh
                                            · simp only [ab_cmp, pr_16_1681, pr_8_100, pr_8_41, pr_8_m4, pr_i_0, pr_i_1, pr_i_2, pr_i_m1] at h224
                                              exact absurd (Classical.not_not.mp h224) zy
                            · simp only [ab_cmp, pr_16_1681, pr_8_100, pr_8_41, pr_8_m4, pr_i_0, pr_i_1, pr_i_2, pr_i_m1] at h160
                              exact absurd (Classical.not_not.mp h160) z
                    · have zx : ¬ nI x = nI fa := nI_ne cx (by omega) (by omega)
                      have zy : nI y = nI fb := by rw [cy]
                      rw [decide_eq_false cx, decide_eq_true cy, Bool.and_true, Bool.and_false] at hh
                      cases oa <;> cases ob
                      · refine pr_seq (pc' := 155) 1 rfl ⟨trivial, trivial⟩ ?_
                        try simp (disch := omega) only [c41, c100, nI_div, i_sub, hx, hy2, d3, d4, rKn, rI_mul, nI_add, nI_1, nI_clamp, pr_16_1681, pr_8_100, pr_8_41, pr_8_m4, pr_i_0, pr_i_1, pr_i_2, pr_i_m1]
                        refine pr_if rfl (fun h155 => ?_) (fun h155 => ?_)
                        · simp only [ab_cmp, pr_16_1681, pr_8_100, pr_8_41, pr_8_m4, pr_i_0, pr_i_1, pr_i_2, pr_i_m1] at h155
                          exact absurd h155 (by decide)
                        · simp only [ab_cmp, pr_16_1681, pr_8_100, pr_8_41, pr_8_m4, pr_i_0, pr_i_1, pr_i_2, pr_i_m1] at h155
                          first
                          | contradiction
                          | exact absurd trivial h155
                          | exact absurd h155 (by decide)
                          | exact absurd (Classical.not_not.mp h155) (by decide)
                          | skip
                            refine pr_seq (pc' := 160) 1 rfl ⟨trivial, trivial⟩ ?_
                            try simp (disch := omega) only [c41, c100, nI_div, i_sub, hx, hy2, d3, d4, rKn, rI_mul, nI_add, nI_1, nI_clamp, pr_16_1681, pr_8_100, pr_8_41, pr_8_m4, pr_i_0, pr_i_1, pr_i_2, pr_i_m1]
                            refine pr_if rfl (fun h160 => ?_) (fun h160 => ?_)
                            · simp only [ab_cmp, pr_16_1681, pr_8_100, pr_8_41, pr_8_m4, pr_i_0, pr_i_1, pr_i_2, pr_i_m1] at h160
                              first
                              | contradiction
                              | exact absurd trivial h160
                              | exact absurd h160 (by decide)
                              | exact absurd (Classical.not_not.mp h160) (by decide)
                              | skip
                                refine pr_seq (pc' := 186) 3 rfl ⟨⟨⟨trivial, trivial⟩, trivial⟩, trivial⟩ ?_
                                try simp (disch := omega) only [c41, c100, nI_div, i_sub, hx, hy2, d3, d4, rKn, rI_mul, nI_add, nI_1, nI_clamp, pr_16_1681, pr_8_100, pr_8_41, pr_8_m4, pr_i_0, pr_i_1, pr_i_2, pr_i_m1]
                                refine pr_if rfl (fun h186 => ?_) (fun h186 => ?_)
                                · simp only [ab_cmp, pr_16_1681, pr_8_100, pr_8_41, pr_8_m4, pr_i_0, pr_i_1, pr_i_2, pr_i_m1] at h186
                                  first
                                  | contradiction
                                  | exact absurd trivial h186
                                  | exact absurd h186 (by decide)
                                  | exact absurd (Classical.not_not.mp h186) (by decide)
                                  | skip
                                    refine pr_seq (pc' := 211) 3 rfl ⟨⟨⟨trivial, trivial⟩, trivial⟩, trivial⟩ ?_
                                    try simp (disch := omega) only [c41, c100, nI_div, i_sub, hx, hy2, d3, d4, rKn, rI_mul, nI_add, nI_1, nI_clamp, pr_16_1681, pr_8_100, pr_8_41, pr_8_m4, pr_i_0, pr_i_1, pr_i_2, pr_i_m1]
                                    refine pr_if rfl (fun h211 => ?_) (fun h211 => ?_)
                                    · simp only [ab_cmp, pr_16_1681, pr_8_100, pr_8_41, pr_8_m4, pr_i_0, pr_i_1, pr_i_2, pr_i_m1] at h211
                                      first
                                      | contradiction
                                      | exact absurd trivial h211
                                      | exact absurd h211 (by decide)
                                      | exact absurd (Classical.not_not.mp h211) (by decide)
                                      | skip
                                        refine pr_seq (pc' := 63) 5 rfl ⟨⟨⟨⟨⟨trivial, trivial⟩, trivial⟩, trivial⟩, trivial⟩, trivial⟩ ?_
                                        try simp (disch := omega) only [c41, c100, nI_div, i_sub, hx, hy2, d3, d4, rKn, rI_mul, nI_add, nI_1, nI_clamp, pr_16_1681, pr_8_100, pr_8_41, pr_8_m4, pr_i_0, pr_i_1, pr_i_2, pr_i_m1]
                                        exact hh
                                    · simp only [ab_cmp, pr_16_1681, pr_8_100, pr_8_41, pr_8_m4, pr_i_0, pr_i_1, pr_i_2, pr_i_m1] at h211
                                      exact absurd rfl h211
                                · simp only [ab_cmp, pr_16_1681, pr_8_100, pr_8_41, pr_8_m4, pr_i_0, pr_i_1, pr_i_2, pr_i_m1] at h186
                                  exact absurd rfl h186
                            · simp only [ab_cmp, pr_16_1681, pr_8_100, pr_8_41, pr_8_m4, pr_i_0, pr_i_1, pr_i_2, pr_i_m1] at h160
                              exact absurd (Classical.not_not.mp h160) z
                      · refine pr_seq (pc' := 155) 1 rfl ⟨trivial, trivial⟩ ?_
                        try simp (disch := omega) only [c41, c100, nI_div, i_sub, hx, hy2, d3, d4, rKn, rI_mul, nI_add, nI_1, nI_clamp, pr_16_1681, pr_8_100, pr_8_41, pr_8_m4, pr_i_0, pr_i_1, pr_i_2, pr_i_m1]
                        refine pr_if rfl (fun h155 => ?_) (fun h155 => ?_)
                        · simp only [ab_cmp, pr_16_1681, pr_8_100, pr_8_41, pr_8_m4, pr_i_0, pr_i_1, pr_i_2, pr_i_m1] at h155
                          exact absurd h155 (by decide)
                        · simp only [ab_cmp, pr_16_1681, pr_8_100, pr_8_41, pr_8_m4, pr_i_0, pr_i_1, pr_i_2, pr_i_m1] at h155
                          first
                          | contradiction
                          | exact absurd trivial h155
                          | exact absurd h155 (by decide)
                          | exact absurd (Classical.not_not.mp h155) (by decide)
                          | skip
                            refine pr_seq (pc' := 160) 1 rfl ⟨trivial, trivial⟩ ?_
                            try simp (disch := omega) only [c41, c100, nI_div, i_sub, hx, hy2, d3, d4, rKn, rI_mul, nI_add, nI_1, nI_clamp, pr_16_1681, pr_8_100, pr_8_41, pr_8_m4, pr_i_0, pr_i_1, pr_i_2, pr_i_m1]
                            refine pr_if rfl (fun h160 => ?_) (fun h160 => ?_)
                            · simp only [ab_cmp, pr_16_1681, pr_8_100, pr_8_41, pr_8_m4, pr_i_0, pr_i_1, pr_i_2, pr_i_m1] at h160
                              first
                              | contradiction
                              | exact absurd trivial h160
                              | exact absurd h160 (by decide)
                              | exact absurd (Classical.not_not.mp h160) (by decide)
                              | skip
                                refine pr_seq (pc' := 186) 3 rfl ⟨⟨⟨trivial, trivial⟩, trivial⟩, trivial⟩ ?_
                                try simp (disch := omega) only [c41, c100, nI_div, i_sub, hx, hy2, d3, d4, rKn, rI_mul, nI_add, nI_1, nI_clamp, pr_16_1681, pr_8_100, pr_8_41, pr_8_m4, pr_i_0, pr_i_1, pr_i_2, pr_i_m1]
                                refine pr_if rfl (fun h186 => ?_) (fun h186 => ?_)
                                · simp only [ab_cmp, pr_16_1681, pr_8_100, pr_8_41, pr_8_m4, pr_i_0, pr_i_1, pr_i_2, pr_i_m1] at h186
                                  first
                                  | contradiction
                                  | exact absurd trivial h186
                                  | exact absurd h186 (by decide)
                                  | exact absurd (Classical.not_not.mp h186) (by decide)
                                  | skip
                                    refine pr_seq (pc' := 211) 3 rfl ⟨⟨⟨trivial, trivial⟩, trivial⟩, trivial⟩ ?_
                                    try simp (disch := omega) only [c41, c100, nI_div, i_sub, hx, hy2, d3, d4, rKn, rI_mul, nI_add, nI_1, nI_clamp, pr_16_1681, pr_8_100, pr_8_41, pr_8_m4, pr_i_0, pr_i_1, pr_i_2, pr_i_m1]
                                    refine pr_if rfl (fun h211 => ?_) (fun h211 => ?_)
                                    · simp only [ab_cmp, pr_16_1681, pr_8_100, pr_8_41, pr_8_m4, pr_i_0, pr_i_1, pr_i_2, pr_i_m1] at h211
                                      exact absurd h211 (by decide)
                                    · simp only [ab_cmp, pr_16_1681, pr_8_100, pr_8_41, pr_8_m4, pr_i_0, pr_i_1, pr_i_2, pr_i_m1] at h211
                                      first
                                      | contradiction
                                      | exact absurd trivial h211
                                      | exact absurd h211 (by decide)
                                      | exact absurd (Classical.not_not.mp h211) (by decide)
                                      | skip
                                        refine pr_seq (pc' := 224) 6 rfl ⟨⟨⟨⟨⟨⟨trivial, trivial⟩, trivial⟩, (by first | assumption | decide | (simp (disch := omega) only [c41, c100, nI_div, i_sub, hx, hy2, d3, d4, rKn, rI_mul, nI_add, nI_1, nI_clamp, pr_16_1681, pr_8_100, pr_8_41, pr_8_m4, pr_i_0, pr_i_1, pr_i_2, pr_i_m1]; first | assumption | exact ⟨Or.inl (by assumption), rvin (by assumption) (by omega) (by decide)⟩ | exact ⟨by assumption, rvin (by assumption) (by omega) (by decide)⟩ | exact ⟨⟨by omega, by omega⟩, rvin (by assumption) (by omega) (by decide)⟩ | exact ⟨Or.inr (by assumption), rvin (by assumption) (by omega) (by decide)⟩ | exact ⟨Or.inr ⟨by assumption, (by first | exact Or.inl rfl | exact Or.inr rfl | exact pr_b01 _)⟩, rvin (by assumption) (by omega) (by decide)⟩ | exact ⟨by assumption, by assumption⟩ | decide | omega))⟩, trivial⟩, trivial⟩, (by first | assumption | decide | (simp (disch := omega) only [c41, c100, nI_div, i_sub, hx, hy2, d3, d4, rKn, rI_mul, nI_add, nI_1, nI_clamp, pr_16_1681, pr_8_100, pr_8_41, pr_8_m4, pr_i_0, pr_i_1, pr_i_2, pr_i_m1]; first | assumption | exact ⟨Or.inl (by assumption), rvin (by assumption) (by omega) (by decide)⟩ | exact ⟨by assumption, rvin (by assumption) (by omega) (by decide)⟩ | exact ⟨⟨by omega, by omega⟩, rvin (by assumption) (by omega) (by decide)⟩ | exact ⟨Or.inr (by assumption), rvin (by assumption) (by omega) (by decide)⟩ | exact ⟨Or.inr ⟨by assumption, (by first | exact Or.inl rfl | exact Or.inr rfl | exact pr_b01 _)⟩, rvin (by assumption) (by omega) (by decide)⟩ | exact ⟨by assumption, by assumption⟩ | decide | omega))⟩ ?_
                                        try simp (disch := omega) only [c41, c100, nI_div, i_sub, hx, hy2, d3, d4, rKn, rI_mul, nI_add, nI_1, nI_clamp, pr_16_1681, pr_8_100, pr_8_41, pr_8_m4, pr_i_0, pr_i_1, pr_i_2, pr_i_m1]
                                        refine pr_ic rfl (fun h224 => ?_) (fun h224 => ?_)
                                        · simp only [ab_cmp, pr_16_1681, pr_8_100, pr_8_41, pr_8_m4, pr_i_0, pr_i_1, pr_i_2, pr_i_m1] at h224
                                          exact absurd zy h224
                                        · simp only [ab_cmp, pr_16_1681, pr_8_100, pr_8_41, pr_8_m4, pr_i_0, pr_i_1, pr_i_2, pr_i_m1] at h224
                                          first
                                          | contradiction
                                          | exact absurd trivial h224
                                          | exact absurd h224 (by decide)
                                          | exact absurd (Classical.not_not.mp h224) (by decide)
                                          | skip
                                            refine pr_seq (pc' := 63) 6 rfl ⟨⟨⟨⟨⟨⟨trivial, trivial⟩, trivial⟩, trivial⟩, trivial⟩, trivial⟩, trivial⟩ ?_
                                            try simp (disch := omega) only [c41, c100, nI_div, i_sub, hx, hy2, d3, d4, rKn, rI_mul, nI_add, nI_1, nI_clamp, pr_16_1681, pr_8_100, pr_8_41, pr_8_m4, pr_i_0, pr_i_1, pr_i_2, pr_i_m1]
                                            exact hh
                                · simp only [ab_cmp, pr_16_1681, pr_8_100, pr_8_41, pr_8_m4, pr_i_0, pr_i_1, pr_i_2, pr_i_m1] at h186
                                  exact absurd rfl h186
                            · simp only [ab_cmp, pr_16_1681, pr_8_100, pr_8_41, pr_8_m4, pr_i_0, pr_i_1, pr_i_2, pr_i_m1] at h160
                              exact absurd (Classical.not_not.mp h160) z
                      · refine pr_seq (pc' := 155) 1 rfl ⟨trivial, trivial⟩ ?_
                        try simp (disch := omega) only [c41, c100, nI_div, i_sub, hx, hy2, d3, d4, rKn, rI_mul, nI_add, nI_1, nI_clamp, pr_16_1681, pr_8_100, pr_8_41, pr_8_m4, pr_i_0, pr_i_1, pr_i_2, pr_i_m1]
                        refine pr_if rfl (fun h155 => ?_) (fun h155 => ?_)
                        · simp only [ab_cmp, pr_16_1681, pr_8_100, pr_8_41, pr_8_m4, pr_i_0, pr_i_1, pr_i_2, pr_i_m1] at h155
                          exact absurd h155 (by decide)
                        · simp only [ab_cmp, pr_16_1681, pr_8_100, pr_8_41, pr_8_m4, pr_i_0, pr_i_1, pr_i_2, pr_i_m1] at h155
                          first
                          | contradiction
                          | exact absurd trivial h155
                          | exact absurd h155 (by decide)
                          | exact absurd (Classical.not_not.mp h155) (by decide)
                          | skip
                            refine pr_seq (pc' := 160) 1 rfl ⟨trivial, trivial⟩ ?_
                            try simp (disch := omega) only [c41, c100, nI_div, i_sub, hx, hy2, d3, d4, rKn, rI_mul, nI_add, nI_1, nI_clamp, pr_16_1681, pr_8_100, pr_8_41, pr_8_m4, pr_i_0, pr_i_1, pr_i_2, pr_i_m1]
                            refine pr_if rfl (fun h160 => ?_) (fun h160 => ?_)
                            · simp only [ab_cmp, pr_16_1681, pr_8_100, pr_8_41, pr_8_m4, pr_i_0, pr_i_1, pr_i_2, pr_i_m1] at h160
                              first
                              | contradiction
                              | exact absurd trivial h160
                              | exact absurd h160 (by decide)
                              | exact absurd (Classical.not_not.mp h160) (by decide)
                              | skip
                                refine pr_seq (pc' := 186) 3 rfl ⟨⟨⟨trivial, trivial⟩, trivial⟩, trivial⟩ ?_
                                try simp (disch := omega) only [c41, c100, nI_div, i_sub, hx, hy2, d3, d4, rKn, rI_mul, nI_add, nI_1, nI_clamp, pr_16_1681, pr_8_100, pr_8_41, pr_8_m4, pr_i_0, pr_i_1, pr_i_2, pr_i_m1]
                                refine pr_if rfl (fun h186 => ?_) (fun h186 => ?_)
                                · simp only [ab_cmp, pr_16_1681, pr_8_100, pr_8_41, pr_8_m4, pr_i_0, pr_i_1, pr_i_2, pr_i_m1] at h186
                                  exact absurd h186 (by decide)
                                · simp only [ab_cmp, pr_16_1681, pr_8_100, pr_8_41, pr_8_m4, pr_i_0, pr_i_1, pr_i_2, pr_i_m1] at h186
                                  first
                                  | contradiction
                                  | exact absurd trivial h186
                                  | exact absurd h186 (by decide)
                                  | exact absurd (Classical.not_not.mp h186) (by decide)
                                  | skip
                                    refine pr_seq (pc' := 199) 6 rfl ⟨⟨⟨⟨⟨⟨trivial, trivial⟩, trivial⟩, (by first | assumption | decide | (simp (disch := omega) only [c41, c100, nI_div, i_sub, hx, hy2, d3, d4, rKn, rI_mul, nI_add, nI_1, nI_clamp, pr_16_1681, pr_8_100, pr_8_41, pr_8_m4, pr_i_0, pr_i_1, pr_i_2, pr_i_m1]; first | assumption | exact ⟨Or.inl (by assumption), rvin (by assumption) (by omega) (by decide)⟩ | exact ⟨by assumption, rvin (by assumption) (by omega) (by decide)⟩ | exact ⟨⟨by omega, by omega⟩, rvin (by assumption) (by omega) (by decide)⟩ | exact ⟨Or.inr (by assumption), rvin (by assumption) (by omega) (by decide)⟩ | exact ⟨Or.inr ⟨by assumption, (by first | exact Or.inl rfl | exact Or.inr rfl | exact pr_b01 _)⟩, rvin (by assumption) (by omega) (by decide)⟩ | exact ⟨by assumption, by assumption⟩ | decide | omega))⟩, trivial⟩, trivial⟩, (by first | assumption | decide | (simp (disch := omega) only [c41, c100, nI_div, i_sub, hx, hy2, d3, d4, rKn, rI_mul, nI_add, nI_1, nI_clamp, pr_16_1681, pr_8_100, pr_8_41, pr_8_m4, pr_i_0, pr_i_1, pr_i_2, pr_i_m1]; first | assumption | exact ⟨Or.inl (by assumption), rvin (by assumption) (by omega) (by decide)⟩ | exact ⟨by assumption, rvin (by assumption) (by omega) (by decide)⟩ | exact ⟨⟨by omega, by omega⟩, rvin (by assumption) (by omega) (by decide)⟩ | exact ⟨Or.inr (by assumption), rvin (by assumption) (by omega) (by decide)⟩ | exact ⟨Or.inr ⟨by assumption, (by first | exact Or.inl rfl | exact Or.inr rfl | exact pr_b01 _)⟩, rvin (by assumption) (by omega) (by decide)⟩ | exact ⟨by assumption, by assumption⟩ | decide | omega))⟩ ?_
                                    try simp (disch := omega) only [c41, c100, nI_div, i_sub, hx, hy2, d3, d4, rKn, rI_mul, nI_add, nI_1, nI_clamp, pr_16_1681, pr_8_100, pr_8_41, pr_8_m4, pr_i_0, pr_i_1, pr_i_2, pr_i_m1]
                                    refine pr_ic rfl (fun h199 => ?_) (fun h199 => ?_)
                                    · simp only [ab_cmp, pr_16_1681, pr_8_100, pr_8_41, pr_8_m4, pr_i_0, pr_i_1, pr_i_2, pr_i_m1] at h199
                                      first
                                      | contradiction
                                      | exact absurd trivial h199
                                      | exact absurd h199 (by decide)
                                      | exact absurd (Classical.not_not.mp h199) (by decide)
                                      | skip
                                        refine pr_seq (pc' := 211) 3 rfl ⟨⟨⟨trivial, trivial⟩, trivial⟩, trivial⟩ ?_
                                        try simp (disch := omega) only [c41, c100, nI_div, i_sub, hx, hy2, d3, d4, rKn, rI_mul, nI_add, nI_1, nI_clamp, pr_16_1681, pr_8_100, pr_8_41, pr_8_m4, pr_i_0, pr_i_1, pr_i_2, pr_i_m1]
                                        refine pr_if rfl (fun h211 => ?_) (fun h211 => ?_)
                                        · simp only [ab_cmp, pr_16_1681, pr_8_100, pr_8_41, pr_8_m4, pr_i_0, pr_i_1, pr_i_2, pr_i_m1] at h211
                                          first
                                          | contradiction
                                          | exact absurd trivial h211
                                          | exact absurd h211 (by decide)
                                          | exact absurd (Classical.not_not.mp h211) (by decide)
                                          | skip
                                            refine pr_seq (pc' := 63) 5 rfl ⟨⟨⟨⟨⟨trivial, trivial⟩, trivial⟩, trivial⟩, trivial⟩, trivial⟩ ?_
                                            try simp (disch := omega) only [c41, c100, nI_div, i_sub, hx, hy2, d3, d4, rKn, rI_mul, nI_add, nI_1, nI_clamp, pr_16_1681, pr_8_100, pr_8_41, pr_8_m4, pr_i_0, pr_i_1, pr_i_2, pr_i_m1]
                                            exact hh
                                        · simp only [ab_cmp, pr_16_1681, pr_8_100, pr_8_41, pr_8_m4, pr_i_0, pr_i_1, pr_i_2, pr_i_m1] at h211
                                          exact absurd rfl h211
                                    · simp only [ab_cmp, pr_16_1681, pr_8_100, pr_8_41, pr_8_m4, pr_i_0, pr_i_1, pr_i_2, pr_i_m1] at h199
                                      exact absurd (Classical.not_not.mp h199) zx
                            · simp only [ab_cmp, pr_16_1681, pr_8_100, pr_8_41, pr_8_m4, pr_i_0, pr_i_1, pr_i_2, pr_i_m1] at h160
                              exact absurd (Classical.not_not.mp h160) z
                      · refine pr_seq (pc' := 155) 1 rfl ⟨trivial, trivial⟩ ?_
                        try simp (disch := omega) only [c41, c100, nI_div, i_sub, hx, hy2, d3, d4, rKn, rI_mul, nI_add, nI_1, nI_clamp, pr_16_1681, pr_8_100, pr_8_41, pr_8_m4, pr_i_0, pr_i_1, pr_i_2, pr_i_m1]
                        refine pr_if rfl (fun h155 => ?_) (fun h155 => ?_)
                        · simp only [ab_cmp, pr_16_1681, pr_8_100, pr_8_41, pr_8_m4, pr_i_0, pr_i_1, pr_i_2, pr_i_m1] at h155
                          exact absurd h155 (by decide)
                        · simp only [ab_cmp, pr_16_1681, pr_8_100, pr_8_41, pr_8_m4, pr_i_0, pr_i_1, pr_i_2, pr_i_m1] at h155
                          first
                          | contradiction
                          | exact absurd trivial h155
                          | exact absurd h155 (by decide)
                          | exact absurd (Classical.not_not.mp h155) (by decide)
                          | skip
                            refine pr_seq (pc' := 160) 1 rfl ⟨trivial, trivial⟩ ?_
                            try simp (disch := omega) only [c41, c100, nI_div, i_sub, hx, hy2, d3, d4, rKn, rI_mul, nI_add, nI_1, nI_clamp, pr_16_1681, pr_8_100, pr_8_41, pr_8_m4, pr_i_0, pr_i_1, pr_i_2, pr_i_m1]
                            refine pr_if rfl (fun h160 => ?_) (fun h160 => ?_)
                            · simp only [ab_cmp, pr_16_1681, pr_8_100, pr_8_41, pr_8_m4, pr_i_0, pr_i_1, pr_i_2, pr_i_m1] at h160
                              first
                              | contradiction
                              | exact absurd trivial h160
                              | exact absurd h160 (by decide)
                              | exact absurd (Classical.not_not.mp h160) (by decide)
                              | skip
                                refine pr_seq (pc' := 186) 3 rfl ⟨⟨⟨trivial, trivial⟩, trivial⟩, trivial⟩ ?_
                                try simp (disch := omega) only [c41, c100, nI_div, i_sub, hx, hy2, d3, d4, rKn, rI_mul, nI_add, nI_1, nI_clamp, pr_16_1681, pr_8_100, pr_8_41, pr_8_m4, pr_i_0, pr_i_1, pr_i_2, pr_i_m1]
                                refine pr_if rfl (fun h186 => ?_) (fun h186 => ?_)
                                · simp only [ab_cmp, pr_16_1681, pr_8_100, pr_8_41, pr_8_m4, pr_i_0, pr_i_1, pr_i_2, pr_i_m1] at h186
                                  exact absurd h186 (by decide)
                                · simp only [ab_cmp, pr_16_1681, pr_8_100, pr_8_41, pr_8_m4, pr_i_0, pr_i_1, pr_i_2, pr_i_m1] at h186
                                  first
                                  | contradiction
                                  | exact absurd trivial h186
                                  | exact absurd h186 (by decide)
                                  | exact absurd (Classical.not_not.mp h186) (by decide)
                                  | skip
                                    refine pr_seq (pc' := 199) 6 rfl ⟨⟨⟨⟨⟨⟨trivial, trivial⟩, trivial⟩, (by first | assumption | decide | (simp (disch := omega) only [c41, c100, nI_div, i_sub, hx, hy2, d3, d4, rKn, rI_mul, nI_add, nI_1, nI_clamp, pr_16_1681, pr_8_100, pr_8_41, pr_8_m4, pr_i_0, pr_i_1, pr_i_2, pr_i_m1]; first | assumption | exact ⟨Or.inl (by assumption), rvin (by assumption) (by omega) (by decide)⟩ | exact ⟨by assumption, rvin (by assumption) (by omega) (by decide)⟩ | exact ⟨⟨by omega, by omega⟩, rvin (by assumption) (by omega) (by decide)⟩ | exact ⟨Or.inr (by assumption), rvin (by assumption) (by omega) (by decide)⟩ | exact ⟨Or.inr ⟨by assumption, (by first | exact Or.inl rfl | exact Or.inr rfl | exact pr_b01 _)⟩, rvin (by assumption) (by omega) (by decide)⟩ | exact ⟨by assumption, by assumption⟩ | decide | omega))⟩, trivial⟩, trivial⟩, (by first | assumption | decide | (simp (disch := omega) only [c41, c100, nI_div, i_sub, hx, hy2, d3, d4, rKn, rI_mul, nI_add, nI_1, nI_clamp, pr_16_1681, pr_8_100, pr_8_41, pr_8_m4, pr_i_0, pr_i_1, pr_i_2, pr_i_m1]; first | assumption | exact ⟨Or.inl (by assumption), rvin (by assumption) (by omega) (by decide)⟩ | exact ⟨by assumption, rvin (by assumption) (by omega) (by decide)⟩ | exact ⟨⟨by omega, by omega⟩, rvin (by assumption) (by omega) (by decide)⟩ | exact ⟨Or.inr (by assumption), rvin (by assumption) (by omega) (by decide)⟩ | exact ⟨Or.inr ⟨by assumption, (by first | exact Or.inl rfl | exact Or.inr rfl | exact pr_b01 _)⟩, rvin (by assumption) (by omega) (by decide)⟩ | exact ⟨by assumption, by assumption⟩ | decide | omega))⟩ ?_
                                    try simp (disch := omega) only [c41, c100, nI_div, i_sub, hx, hy2, d3, d4, rKn, rI_mul, nI_add, nI_1, nI_clamp, pr_16_1681, pr_8_100, pr_8_41, pr_8_m4, pr_i_0, pr_i_1, pr_i_2, pr_i_m1]
                                    refine pr_ic rfl (fun h199 => ?_) (fun h199 => ?_)
                                    · simp only [ab_cmp, pr_16_1681, pr_8_100, pr_8_41, pr_8_m4, pr_i_0, pr_i_1, pr_i_2, pr_i_m1] at h199
                                      first
                                      | contradiction
                                      | exact absurd trivial h199
                                      | exact absurd h199 (by decide)
                                      | exact absurd (Classical.not_not.mp h199) (by decide)
                                      | skip
                                        refine pr_seq (pc' := 211) 3 rfl ⟨⟨⟨trivial, trivial⟩, trivial⟩, trivial⟩ ?_
                                        try simp (disch := omega) only [c41, c100, nI_div, i_sub, hx, hy2, d3, d4, rKn, rI_mul, nI_add, nI_1, nI_clamp, pr_16_1681, pr_8_100, pr_8_41, pr_8_m4, pr_i_0, pr_i_1, pr_i_2, pr_i_m1]
                                        refine pr_if rfl (fun h211 => ?_) (fun h211 => ?_)
                                        · simp only [ab_cmp, pr_16_1681, pr_8_100, pr_8_41, pr_8_m4, pr_i_0, pr_i_1, pr_i_2, pr_i_m1] at h211
                                          exact absurd h211 (by decide)
                                        · simp only [ab_cmp, pr_16_1681, pr_8_100, pr_8_41, pr_8_m4, pr_i_0, pr_i_1, pr_i_2, pr_i_m1] at h211
                                          first
                                          | contradiction
                                          | exact absurd trivial h211
                                          | exact absurd h211 (by decide)
                                          | exact absurd (Classical.not_not.mp h211) (by decide)
                                          | skip
                                            refine pr_seq (pc' := 224) 6 rfl ⟨⟨⟨⟨⟨⟨trivial, trivial⟩, trivial⟩, (by first | assumption | decide | (simp (disch := omega) only [c41, c100, nI_div, i_sub, hx, hy2, d3, d4, rKn, rI_mul, nI_add, nI_1, nI_clamp, pr_16_1681, pr_8_100, pr_8_41, pr_8_m4, pr_i_0, pr_i_1, pr_i_2, pr_i_m1]; first | assumption | exact ⟨Or.inl (by assumption), rvin (by assumption) (by omega) (by decide)⟩ | exact ⟨by assumption, rvin (by assumption) (by omega) (by decide)⟩ | exact ⟨⟨by omega, by omega⟩, rvin (by assumption) (by omega) (by decide)⟩ | exact ⟨Or.inr (by assumption), rvin (by assumption) (by omega) (by decide)⟩ | exact ⟨Or.inr ⟨by assumption, (by first | exact Or.inl rfl | exact Or.inr rfl | exact pr_b01 _)⟩, rvin (by assumption) (by omega) (by decide)⟩ | exact ⟨by assumption, by assumption⟩ | decide | omega))⟩, trivial⟩, trivial⟩, (by first | assumption | decide | (simp (disch := omega) only [c41, c100, nI_div, i_sub, hx, hy2, d3, d4, rKn, rI_mul, nI_add, nI_1, nI_clamp, pr_16_1681, pr_8_100, pr_8_41, pr_8_m4, pr_i_0, pr_i_1, pr_i_2, pr_i_m1]; first | assumption | exact ⟨Or.inl (by assumption), rvin (by assumption) (by omega) (by decide)⟩ | exact ⟨by assumption, rvin (by assumption) (by omega) (by decide)⟩ | exact ⟨⟨by omega, by omega⟩, rvin (by assumption) (by omega) (by decide)⟩ | exact ⟨Or.inr (by assumption), rvin (by assumption) (by omega) (by decide)⟩ | exact ⟨Or.inr ⟨by assumption, (by first | exact Or.inl rfl | exact Or.inr rfl | exact pr_b01 _)⟩, rvin (by assumption) (by omega) (by decide)⟩ | exact ⟨by assumption, by assumption⟩ | decide | omega))⟩ ?_
                                            try simp (disch := omega) only [c41, c100, nI_div, i_sub, hx, hy2, d3, d4, rKn, rI_mul, nI_add, nI_1, nI_clamp, pr_16_1681, pr_8_100, pr_8_41, pr_8_m4, pr_i_0, pr_i_1, pr_i_2, pr_i_m1]
                                            refine pr_ic rfl (fun h224 => ?_) (fun h224 => ?_)
                                            · simp only [ab_cmp, pr_16_1681, pr_8_100, pr_8_41, pr_8_m4, pr_i_0, pr_i_1, pr_i_2, pr_i_m1] at h224
                                              exact absurd zy h224
                                            · simp only [ab_cmp, pr_16_1681, pr_8_100, pr_8_41, pr_8_m4, pr_i_0, pr_i_1, pr_i_2, pr_i_m1] at h224
                                              first
                                              | contradiction
                                              | exact absurd trivial h224
                                              | exact absurd h224 (by decide)
                                              | exact absurd (Classical.not_not.mp h224) (by decide)
                                              | skip
                                                refine pr_seq (pc' := 63) 6 rfl ⟨⟨⟨⟨⟨⟨trivial, trivial⟩, trivial⟩, trivial⟩, trivial⟩, trivial⟩, trivial⟩ ?_
                                                try simp (disch := omega) only [c41, c100, nI_div, i_sub, hx, hy2, d3, d4, rKn, rI_mul, nI_add, nI_1, nI_clamp, pr_16_1681, pr_8_100, pr_8_41, pr_8_m4, pr_i_0, pr_i_1, pr_i_2, pr_i_m1]
                                                exact hh
                                    · simp only [ab_cmp, pr_16_1681, pr_8_100, pr_8_41, pr_8_m4, pr_i_0, pr_i_1, pr_i_2, pr_i_m1] at h199
                                      exact absurd (Classical.not_not.mp h199) zx
                            · simp only [ab_cmp, pr_16_1681, pr_8_100, pr_8_41, pr_8_m4, pr_i_0, pr_i_1, pr_i_2, pr_i_m1] at h160
                              exact absurd (Classical.not_not.mp h160) z
                    · have zx : ¬ nI x = nI fa := nI_ne cx (by omega) (by omega)
                      have zy : ¬ nI y = nI fb := nI_ne cy (by omega) (by omega)
                      rw [decide_eq_false cx, decide_eq_false cy, Bool.and_false, Bool.and_false] at hh
                      cases oa <;> cases ob
                      · refine pr_seq (pc' := 155) 1 rfl ⟨trivial, trivial⟩ ?_
                        try simp (disch := omega) only [c41, c100, nI_div, i_sub, hx, hy2, d3, d4, rKn, rI_mul, nI_add, nI_1, nI_clamp, pr_16_1681, pr_8_100, pr_8_41, pr_8_m4, pr_i_0, pr_i_1, pr_i_2, pr_i_m1]
                        refine pr_if rfl (fun h155 => ?_) (fun h155 => ?_)
                        · simp only [ab_cmp, pr_16_1681, pr_8_100, pr_8_41, pr_8_m4, pr_i_0, pr_i_1, pr_i_2, pr_i_m1] at h155
                          exact absurd h155 (by decide)
                        · simp only [ab_cmp, pr_16_1681, pr_8_100, pr_8_41, pr_8_m4, pr_i_0, pr_i_1, pr_i_2, pr_i_m1] at h155
                          first
                          | contradiction
                          | exact absurd trivial h155
                          | exact absurd h155 (by decide)
                          | exact absurd (Classical.not_not.mp h155) (by decide)
                          | skip
                            refine pr_seq (pc' := 160) 1 rfl ⟨trivial, trivial⟩ ?_
                            try simp (disch := omega) only [c41, c100, nI_div, i_sub, hx, hy2, d3, d4, rKn, rI_mul, nI_add, nI_1, nI_clamp, pr_16_1681, pr_8_100, pr_8_41, pr_8_m4, pr_i_0, pr_i_1, pr_i_2, pr_i_m1]
                            refine pr_if rfl (fun h160 => ?_) (fun h160 => ?_)
                            · simp only [ab_cmp, pr_16_1681, pr_8_100, pr_8_41, pr_8_m4, pr_i_0, pr_i_1, pr_i_2, pr_i_m1] at h160
                              first
                              | contradiction
                              | exact absurd trivial h160
                              | exact absurd h160 (by decide)
                              | exact absurd (Classical.not_not.mp h160) (by decide)
                              | skip
                                refine pr_seq (pc' := 186) 3 rfl ⟨⟨⟨trivial, trivial⟩, trivial⟩, trivial⟩ ?_
                                try simp (disch := omega) only [c41, c100, nI_div, i_sub, hx, hy2, d3, d4, rKn, rI_mul, nI_add, nI_1, nI_clamp, pr_16_1681, pr_8_100, pr_8_41, pr_8_m4, pr_i_0, pr_i_1, pr_i_2, pr_i_m1]
                                refine pr_if rfl (fun h186 => ?_) (fun h186 => ?_)
                                · simp only [ab_cmp, pr_16_1681, pr_8_100, pr_8_41, pr_8_m4, pr_i_0, pr_i_1, pr_i_2, pr_i_m1] at h186
                                  first
                                  | contradiction
                                  | exact absurd trivial h186
                                  | exact absurd h186 (by decide)
                                  | exact absurd (Classical.not_not.mp h186) (by decide)
                                  | skip
                                    refine pr_seq (pc' := 211) 3 rfl ⟨⟨⟨trivial, trivial⟩, trivial⟩, trivial⟩ ?_
                                    try simp (disch := omega) only [c41, c100, nI_div, i_sub, hx, hy2, d3, d4, rKn, rI_mul, nI_add, nI_1, nI_clamp, pr_16_1681, pr_8_100, pr_8_41, pr_8_m4, pr_i_0, pr_i_1, pr_i_2, pr_i_m1]
                                    refine pr_if rfl (fun h211 => ?_) (fun h211 => ?_)
                                    · simp only [ab_cmp, pr_16_1681, pr_8_100, pr_8_41, pr_8_m4, pr_i_0, pr_i_1, pr_i_2, pr_i_m1] at h211
                                      first
                                      | contradiction
                                      | exact absurd trivial h211
                                      | exact absurd h211 (by decide)
                                      | exact absurd (Classical.not_not.mp h211) (by decide)
                                      | skip
                                        refine pr_seq (pc' := 63) 5 rfl ⟨⟨⟨⟨⟨trivial, trivial⟩, trivial⟩, trivial⟩, trivial⟩, trivial⟩ ?_
                                        try simp (disch := omega) only [c41, c100, nI_div, i_sub, hx, hy2, d3, d4, rKn, rI_mul, nI_add, nI_1, nI_clamp, pr_16_1681, pr_8_100, pr_8_41, pr_8_m4, pr_i_0, pr_i_1, pr_i_2, pr_i_m1]
                                        exact hh
                                    · simp only [ab_cmp, pr_16_1681, pr_8_100, pr_8_41, pr_8_m4, pr_i_0, pr_i_1, pr_i_2, pr_i_m1] at h211
                                      exact absurd rfl h211
                                · simp only [ab_cmp, pr_16_1681, pr_8_100, pr_8_41, pr_8_m4, pr_i_0, pr_i_1, pr_i_2, pr_i_m1] at h186
                                  exact absurd rfl h186
                            · simp only [ab_cmp, pr_16_1681, pr_8_100, pr_8_41, pr_8_m4, pr_i_0, pr_i_1, pr_i_2, pr_i_m1] at h160
                              exact absurd (Classical.not_not.mp h160) z
                      · refine pr_seq (pc' := 155) 1 rfl ⟨trivial, trivial⟩ ?_
                        try simp (disch := omega) only [c41, c100, nI_div, i_sub, hx, hy2, d3, d4, rKn, rI_mul, nI_add, nI_1, nI_clamp, pr_16_1681, pr_8_100, pr_8_41, pr_8_m4, pr_i_0, pr_i_1, pr_i_2, pr_i_m1]
                        refine pr_if rfl (fun h155 => ?_) (fun h155 => ?_)
                        · simp only [ab_cmp, pr_16_1681, pr_8_100, pr_8_41, pr_8_m4, pr_i_0, pr_i_1, pr_i_2, pr_i_m1] at h155
                          exact absurd h155 (by decide)
                        · simp only [ab_cmp, pr_16_1681, pr_8_100, pr_8_41, pr_8_m4, pr_i_0, pr_i_1, pr_i_2, pr_i_m1] at h155
                          first
                          | contradiction
                          | exact absurd trivial h155
                          | exact absurd h155 (by decide)
                          | exact absurd (Classical.not_not.mp h155) (by decide)
                          | skip
                            refine pr_seq (pc' := 160) 1 rfl ⟨trivial, trivial⟩ ?_
                            try simp (disch := omega) only [c41, c100, nI_div, i_sub, hx, hy2, d3, d4, rKn, rI_mul, nI_add, nI_1, nI_clamp, pr_16_1681, pr_8_100, pr_8_41, pr_8_m4, pr_i_0, pr_i_1, pr_i_2, pr_i_m1]
                            refine pr_if rfl (fun h160 => ?_) (fun h160 => ?_)
                            · simp only [ab_cmp, pr_16_1681, pr_8_100, pr_8_41, pr_8_m4, pr_i_0, pr_i_1, pr_i_2, pr_i_m1] at h160
                              first
                              | contradiction
                              | exact absurd trivial h160
                              | exact absurd h160 (by decide)
                              | exact absurd (Classical.not_not.mp h160) (by decide)
                              | skip
                                refine pr_seq (pc' := 186) 3 rfl ⟨⟨⟨trivial, trivial⟩, trivial⟩, trivial⟩ ?_
                                try simp (disch := omega) only [c41, c100, nI_div, i_sub, hx, hy2, d3, d4, rKn, rI_mul, nI_add, nI_1, nI_clamp, pr_16_1681, pr_8_100, pr_8_41, pr_8_m4, pr_i_0, pr_i_1, pr_i_2, pr_i_m1]
                                refine pr_if rfl (fun h186 => ?_) (fun h186 => ?_)
                                · simp only [ab_cmp, pr_16_1681, pr_8_100, pr_8_41, pr_8_m4, pr_i_0, pr_i_1, pr_i_2, pr_i_m1] at h186
                                  first
                                  | contradiction
                                  | exact absurd trivial h186
                                  | exact absurd h186 (by decide)
                                  | exact absurd (Classical.not_not.mp h186) (by decide)
                                  | skip
                                    refine pr_seq (pc' := 211) 3 rfl ⟨⟨⟨trivial, trivial⟩, trivial⟩, trivial⟩ ?_
                                    try simp (disch := omega) only [c41, c100, nI_div, i_sub, hx, hy2, d3, d4, rKn, rI_mul, nI_add, nI_1, nI_clamp, pr_16_1681, pr_8_100, pr_8_41, pr_8_m4, pr_i_0, pr_i_1, pr_i_2, pr_i_m1]
                                    refine pr_if rfl (fun h211 => ?_) (fun h211 => ?_)
                                    · simp only [ab_cmp, pr_16_1681, pr_8_100, pr_8_41, pr_8_m4, pr_i_0, pr_i_1, pr_i_2, pr_i_m1] at h211
                                      exact absurd h211 (by decide)
                                    · simp only [ab_cmp, pr_16_1681, pr_8_100, pr_8_41, pr_8_m4, pr_i_0, pr_i_1, pr_i_2, pr_i_m1] at h211
                                      first
                                      | contradiction
                                      | exact absurd trivial h211
                                      | exact absurd h211 (by decide)
                                      | exact absurd (Classical.not_not.mp h211) (by decide)
                                      | skip
                                        refine pr_seq (pc' := 224) 6 rfl ⟨⟨⟨⟨⟨⟨trivial, trivial⟩, trivial⟩, (by first | assumption | decide | (simp (disch := omega) only [c41, c100, nI_div, i_sub, hx, hy2, d3, d4, rKn, rI_mul, nI_add, nI_1, nI_clamp, pr_16_1681, pr_8_100, pr_8_41, pr_8_m4, pr_i_0, pr_i_1, pr_i_2, pr_i_m1]; first | assumption | exact ⟨Or.inl (by assumption), rvin (by assumption) (by omega) (by decide)⟩ | exact ⟨by assumption, rvin (by assumption) (by omega) (by decide)⟩ | exact ⟨⟨by omega, by omega⟩, rvin (by assumption) (by omega) (by decide)⟩ | exact ⟨Or.inr (by assumption), rvin (by assumption) (by omega) (by decide)⟩ | exact ⟨Or.inr ⟨by assumption, (by first | exact Or.inl rfl | exact Or.inr rfl | exact pr_b01 _)⟩, rvin (by assumption) (by omega) (by decide)⟩ | exact ⟨by assumption, by assumption⟩ | decide | omega))⟩, trivial⟩, trivial⟩, (by first | assumption | decide | (simp (disch := omega) only [c41, c100, nI_div, i_sub, hx, hy2, d3, d4, rKn, rI_mul, nI_add, nI_1, nI_clamp, pr_16_1681, pr_8_100, pr_8_41, pr_8_m4, pr_i_0, pr_i_1, pr_i_2, pr_i_m1]; first | assumption | exact ⟨Or.inl (by assumption), rvin (by assumption) (by omega) (by decide)⟩ | exact ⟨by assumption, rvin (by assumption) (by omega) (by decide)⟩ | exact ⟨⟨by omega, by omega⟩, rvin (by assumption) (by omega) (by decide)⟩ | exact ⟨Or.inr (by assumption), rvin (by assumption) (by omega) (by decide)⟩ | exact ⟨Or.inr ⟨by assumption, (by first | exact Or.inl rfl | exact Or.inr rfl | exact pr_b01 _)⟩, rvin (by assumption) (by omega) (by decide)⟩ | exact ⟨by assumption, by assumption⟩ | decide | omega))⟩ ?_
                                        try simp (disch := omega) only [c41, c100, nI_div, i_sub, hx, hy2, d3, d4, rKn, rI_mul, nI_add, nI_1, nI_clamp, pr_16_1681, pr_8_100, pr_8_41, pr_8_m4, pr_i_0, pr_i_1, pr_i_2, pr_i_m1]
                                        refine pr_ic rfl (fun h224 => ?_) (fun h224 => ?_)
                                        · simp only [ab_cmp, pr_16_1681, pr_8_100, pr_8_41, pr_8_m4, pr_i_0, pr_i_1, pr_i_2, pr_i_m1] at h224
                                          first
                                          | contradiction
                                          | exact absurd trivial h224
                                          | exact absurd h224 (by decide)
                                          | exact absurd (Classical.not_not.mp h224) (by decide)
                                          | skip
                                            refine pr_seq (pc' := 63) 5 rfl ⟨⟨⟨⟨⟨trivial, trivial⟩, trivial⟩, trivial⟩, trivial⟩, trivial⟩ ?_
                                            try simp (disch := omega) only [c41, c100, nI_div, i_sub, hx, hy2, d3, d4, rKn, rI_mul, nI_add, nI_1, nI_clamp, pr_16_1681, pr_8_100, pr_8_41, pr_8_m4, pr_i_0, pr_i_1, pr_i_2, pr_i_m1]
                                            exact hh
                                        · simp only [ab_cmp, pr_16_1681, pr_8_100, pr_8_41, pr_8_m4, pr_i_0, pr_i_1, pr_i_2, pr_i_m1] at h224
                                          exact absurd (Classical.not_not.mp h224) zy
                                · simp only [ab_cmp, pr_16_1681, pr_8_100, pr_8_41, pr_8_m4, pr_i_0, pr_i_1, pr_i_2, pr_i_m1] at h186
                                  exact absurd rfl h186
                            · simp only [ab_cmp, pr_16_1681, pr_8_100, pr_8_41, pr_8_m4, pr_i_0, pr_i_1, pr_i_2, pr_i_m1] at h160
                              exact absurd (Classical.not_not.mp h160) z
                      · refine pr_seq (pc' := 155) 1 rfl ⟨trivial, trivial⟩ ?_
                        try simp (disch := omega) only [c41, c100, nI_div, i_sub, hx, hy2, d3, d4, rKn, rI_mul, nI_add, nI_1, nI_clamp, pr_16_1681, pr_8_100, pr_8_41, pr_8_m4, pr_i_0, pr_i_1, pr_i_2, pr_i_m1]
                        refine pr_if rfl (fun h155 => ?_) (fun h155 => ?_)
                        · simp only [ab_cmp, pr_16_1681, pr_8_100, pr_8_41, pr_8_m4, pr_i_0, pr_i_1, pr_i_2, pr_i_m1] at h155
                          exact absurd h155 (by decide)
                        · simp only [ab_cmp, pr_16_1681, pr_8_100, pr_8_41, pr_8_m4, pr_i_0, pr_i_1, pr_i_2, pr_i_m1] at h155
                          first
                          | contradiction
                          | exact absurd trivial h155
                          | exact absurd h155 (by decide)
                          | exact absurd (Classical.not_not.mp h155) (by decide)
                          | skip
                            refine pr_seq (pc' := 160) 1 rfl ⟨trivial, trivial⟩ ?_
                            try simp (disch := omega) only [c41, c100, nI_div, i_sub, hx, hy2, d3, d4, rKn, rI_mul, nI_add, nI_1, nI_clamp, pr_16_1681, pr_8_100, pr_8_41, pr_8_m4, pr_i_0, pr_i_1, pr_i_2, pr_i_m1]
                            refine pr_if rfl (fun h160 => ?_) (fun h160 => ?_)
                            · simp only [ab_cmp, pr_16_1681, pr_8_100, pr_8_41, pr_8_m4, pr_i_0, pr_i_1, pr_i_2, pr_i_m1] at h160
                              first
                              | contradiction
                              | exact absurd trivial h160
                              | exact absurd h160 (by decide)
                              | exact absurd (Classical.not_not.mp h160) (by decide)
                              | skip
                                refine pr_seq (pc' := 186) 3 rfl ⟨⟨⟨trivial, trivial⟩, trivial⟩, trivial⟩ ?_
                                try simp (disch := omega) only [c41, c100, nI_div, i_sub, hx, hy2, d3, d4, rKn, rI_mul, nI_add, nI_1, nI_clamp, pr_16_1681, pr_8_100, pr_8_41, pr_8_m4, pr_i_0, pr_i_1, pr_i_2, pr_i_m1]
                                refine pr_if rfl (fun h186 => ?_) (fun h186 => ?_)
                                · simp only [ab_cmp, pr_16_1681, pr_8_100, pr_8_41, pr_8_m4, pr_i_0, pr_i_1, pr_i_2, pr_i_m1] at h186
                                  exact absurd h186 (by decide)
                                · simp only [ab_cmp, pr_16_1681, pr_8_100, pr_8_41, pr_8_m4, pr_i_0, pr_i_1, pr_i_2, pr_i_m1] at h186
                                  first
                                  | contradiction
                                  | exact absurd trivial h186
                                  | exact absurd h186 (by decide)
                                  | exact absurd (Classical.not_not.mp h186) (by decide)
                                  | skip
                                    refine pr_seq (pc' := 199) 6 rfl ⟨⟨⟨⟨⟨⟨trivial, trivial⟩, trivial⟩, (by first | assumption | decide | (simp (disch := omega) only [c41, c100, nI_div, i_sub, hx, hy2, d3, d4, rKn, rI_mul, nI_add, nI_1, nI_clamp, pr_16_1681, pr_8_100, pr_8_41, pr_8_m4, pr_i_0, pr_i_1, pr_i_2, pr_i_m1]; first | assumption | exact ⟨Or.inl (by assumption), rvin (by assumption) (by omega) (by decide)⟩ | exact ⟨by assumption, rvin (by assumption) (by omega) (by decide)⟩ | exact ⟨⟨by omega, by omega⟩, rvin (by assumption) (by omega) (by decide)⟩ | exact ⟨Or.inr (by assumption), rvin (by assumption) (by omega) (by decide)⟩ | exact ⟨Or.inr ⟨by assumption, (by first | exact Or.inl rfl | exact Or.inr rfl | exact pr_b01 _)⟩, rvin (by assumption) (by omega) (by decide)⟩ | exact ⟨by assumption, by assumption⟩ | decide | omega))⟩, trivial⟩, trivial⟩, (by first | assumption | decide | (simp (disch := omega) only [c41, c100, nI_div, i_sub, hx, hy2, d3, d4, rKn, rI_mul, nI_add, nI_1, nI_clamp, pr_16_1681, pr_8_100, pr_8_41, pr_8_m4, pr_i_0, pr_i_1, pr_i_2, pr_i_m1]; first | assumption | exact ⟨Or.inl (by assumption), rvin (by assumption) (by omega) (by decide)⟩ | exact ⟨by assumption, rvin (by assumption) (by omega) (by decide)⟩ | exact ⟨⟨by omega, by omega⟩, rvin (by assumption) (by omega) (by decide)⟩ | exact ⟨Or.inr (by assumption), rvin (by assumption) (by omega) (by decide)⟩ | exact ⟨Or.inr ⟨by assumption, (by first | exact Or.inl rfl | exact Or.inr rfl | exact pr_b01 _)⟩, rvin (by assumption) (by omega) (by decide)⟩ | exact ⟨by assumption, by assumption⟩ | decide | omega))⟩ ?_
                                    try simp (disch := omega) only [c41, c100, nI_div, i_sub, hx, hy2, d3, d4, rKn, rI_mul, nI_add, nI_1, nI_clamp, pr_16_1681, pr_8_100, pr_8_41, pr_8_m4, pr_i_0, pr_i_1, pr_i_2, pr_i_m1]
                                    refine pr_ic rfl (fun h199 => ?_) (fun h199 => ?_)
                                    · simp only [ab_cmp, pr_16_1681, pr_8_100, pr_8_41, pr_8_m4, pr_i_0, pr_i_1, pr_i_2, pr_i_m1] at h199
                                      first
                                      | contradiction
                                      | exact absurd trivial h199
                                      | exact absurd h199 (by decide)
                                      | exact absurd (Classical.not_not.mp h199) (by decide)
                                      | skip
                                        refine pr_seq (pc' := 211) 3 rfl ⟨⟨⟨trivial, trivial⟩, trivial⟩, trivial⟩ ?_
                                        try simp (disch := omega) only [c41, c100, nI_div, i_sub, hx, hy2, d3, d4, rKn, rI_mul, nI_add, nI_1, nI_clamp, pr_16_1681, pr_8_100, pr_8_41, pr_8_m4, pr_i_0, pr_i_1, pr_i_2, pr_i_m1]
                                        refine pr_if rfl (fun h211 => ?_) (fun h211 => ?_)
                                        · simp only [ab_cmp, pr_16_1681, pr_8_100, pr_8_41, pr_8_m4, pr_i_0, pr_i_1, pr_i_2, pr_i_m1] at h211
                                          first
                                          | contradiction
                                          | exact absurd trivial h211
                                          | exact absurd h211 (by decide)
                                          | exact absurd (Classical.not_not.mp h211) (by decide)
                                          | skip
                                            refine pr_seq (pc' := 63) 5 rfl ⟨⟨⟨⟨⟨trivial, trivial⟩, trivial⟩, trivial⟩, trivial⟩, trivial⟩ ?_
                                            try simp (disch := omega) only [c41, c100, nI_div, i_sub, hx, hy2, d3, d4, rKn, rI_mul, nI_add, nI_1, nI_clamp, pr_16_1681, pr_8_100, pr_8_41, pr_8_m4, pr_i_0, pr_i_1, pr_i_2, pr_i_m1]
                                            exact hh
                                        · simp only [ab_cmp, pr_16_1681, pr_8_100, pr_8_41, pr_8_m4, pr_i_0, pr_i_1, pr_i_2, pr_i_m1] at h211
                                          exact absurd rfl h211
                                    · simp only [ab_cmp, pr_16_1681, pr_8_100, pr_8_41, pr_8_m4, pr_i_0, pr_i_1, pr_i_2, pr_i_m1] at h199
                                      exact absurd (Classical.not_not.mp h199) zx
                            · simp only [ab_cmp, pr_16_1681, pr_8_100, pr_8_41, pr_8_m4, pr_i_0, pr_i_1, pr_i_2, pr_i_m1] at h160
                              exact absurd (Classical.not_not.mp h160) z
                      · refine pr_seq (pc' := 155) 1 rfl ⟨trivial, trivial⟩ ?_
                        try simp (disch := omega) only [c41, c100, nI_div, i_sub, hx, hy2, d3, d4, rKn, rI_mul, nI_add, nI_1, nI_clamp, pr_16_1681, pr_8_100, pr_8_41, pr_8_m4, pr_i_0, pr_i_1, pr_i_2, pr_i_m1]
                        refine pr_if rfl (fun h155 => ?_) (fun h155 => ?_)
                        · simp only [ab_cmp, pr_16_1681, pr_8_100, pr_8_41, pr_8_m4, pr_i_0, pr_i_1, pr_i_2, pr_i_m1] at h155
                          exact absurd h155 (by decide)
                        · simp only [ab_cmp, pr_16_1681, pr_8_100, pr_8_41, pr_8_m4, pr_i_0, pr_i_1, pr_i_2, pr_i_m1] at h155
                          first
                          | contradiction
                          | exact absurd trivial h155
                          | exact absurd h155 (by decide)
                          | exact absurd (Classical.not_not.mp h155) (by decide)
                          | skip
                            refine pr_seq (pc' := 160) 1 rfl ⟨trivial, trivial⟩ ?_
                            try simp (disch := omega) only [c41, c100, nI_div, i_sub, hx, hy2, d3, d4, rKn, rI_mul, nI_add, nI_1, nI_clamp, pr_16_1681, pr_8_100, pr_8_41, pr_8_m4, pr_i_0, pr_i_1, pr_i_2, pr_i_m1]
                            refine pr_if rfl (fun h160 => ?_) (fun h160 => ?_)
                            · simp only [ab_cmp, pr_16_1681, pr_8_100, pr_8_41, pr_8_m4, pr_i_0, pr_i_1, pr_i_2, pr_i_m1] at h160
                              first
                              | contradiction
                              | exact absurd trivial h160
                              | exact absurd h160 (by decide)
                              | exact absurd (Classical.not_not.mp h160) (by decide)
                              | skip
                                refine pr_seq (pc' := 186) 3 rfl ⟨⟨⟨trivial, trivial⟩, trivial⟩, trivial⟩ ?_
                                try simp (disch := omega) only [c41, c100, nI_div, i_sub, hx, hy2, d3, d4, rKn, rI_mul, nI_add, nI_1, nI_clamp, pr_16_1681, pr_8_100, pr_8_41, pr_8_m4, pr_i_0, pr_i_1, pr_i_2, pr_i_m1]
                                refine pr_if rfl (fun h186 => ?_) (fun h186 => ?_)
                                · simp only [ab_cmp, pr_16_1681, pr_8_100, pr_8_41, pr_8_m4, pr_i_0, pr_i_1, pr_i_2, pr_i_m1] at h186
                                  exact absurd h186 (by decide)
                                · simp only [ab_cmp, pr_16_1681, pr_8_100, pr_8_41, pr_8_m4, pr_i_0, pr_i_1, pr_i_2, pr_i_m1] at h186
                                  first
                                  | contradiction
                                  | exact absurd trivial h186
                                  | exact absurd h186 (by decide)
                                  | exact absurd (Classical.not_not.mp h186) (by decide)
                                  | skip
                                    refine pr_seq (pc' := 199) 6 rfl ⟨⟨⟨⟨⟨⟨trivial, trivial⟩, trivial⟩, (by first | assumption | decide | (simp (disch := omega) only [c41, c100, nI_div, i_sub, hx, hy2, d3, d4, rKn, rI_mul, nI_add, nI_1, nI_clamp, pr_16_1681, pr_8_100, pr_8_41, pr_8_m4, pr_i_0, pr_i_1, pr_i_2, pr_i_m1]; first | assumption | exact ⟨Or.inl (by assumption), rvin (by assumption) (by omega) (by decide)⟩ | exact ⟨by assumption, rvin (by assumption) (by omega) (by decide)⟩ | exact ⟨⟨by omega, by omega⟩, rvin (by assumption) (by omega) (by decide)⟩ | exact ⟨Or.inr (by assumption), rvin (by assumption) (by omega) (by decide)⟩ | exact ⟨Or.inr ⟨by assumption, (by first | exact Or.inl rfl | exact Or.inr rfl | exact pr_b01 _)⟩, rvin (by assumption) (by omega) (by decide)⟩ | exact ⟨by assumption, by assumption⟩ | decide | omega))⟩, trivial⟩, trivial⟩, (by first | assumption | decide | (simp (disch := omega) only [c41, c100, nI_div, i_sub, hx, hy2, d3, d4, rKn, rI_mul, nI_add, nI_1, nI_clamp, pr_16_1681, pr_8_100, pr_8_41, pr_8_m4, pr_i_0, pr_i_1, pr_i_2, pr_i_m1]; first | assumption | exact ⟨Or.inl (by assumption), rvin (by assumption) (by omega) (by decide)⟩ | exact ⟨by assumption, rvin (by assumption) (by omega) (by decide)⟩ | exact ⟨⟨by omega, by omega⟩, rvin (by assumption) (by omega) (by decide)⟩ | exact ⟨Or.inr (by assumption), rvin (by assumption) (by omega) (by decide)⟩ | exact ⟨Or.inr ⟨by assumption, (by first | exact Or.inl rfl | exact Or.inr rfl | exact pr_b01 _)⟩, rvin (by assumption) (by omega) (by decide)⟩ | exact ⟨by assumption, by assumption⟩ | decide | omega))⟩ ?_
                                    try simp (disch := omega) only [c41, c100, nI_div, i_sub, hx, hy2, d3, d4, rKn, rI_mul, nI_add, nI_1, nI_clamp, pr_16_1681, pr_8_100, pr_8_41, pr_8_m4, pr_i_0, pr_i_1, pr_i_2, pr_i_m1]
                                    refine pr_ic rfl (fun h199 => ?_) (fun h199 => ?_)
                                    · simp only [ab_cmp, pr_16_1681, pr_8_100, pr_8_41, pr_8_m4, pr_i_0, pr_i_1, pr_i_2, pr_i_m1] at h199
                                      first
                                      | contradiction
                                      | exact absurd trivial h199
                                      | exact absurd h199 (by decide)
                                      | exact absurd (Classical.not_not.mp h199) (by decide)
                                      | skip
                                        refine pr_seq (pc' := 211) 3 rfl ⟨⟨⟨trivial, trivial⟩, trivial⟩, trivial⟩ ?_
                                        try simp (disch := omega) only [c41, c100, nI_div, i_sub, hx, hy2, d3, d4, rKn, rI_mul, nI_add, nI_1, nI_clamp, pr_16_1681, pr_8_100, pr_8_41, pr_8_m4, pr_i_0, pr_i_1, pr_i_2, pr_i_m1]
                                        refine pr_if rfl (fun h211 => ?_) (fun h211 => ?_)
                                        · simp only [ab_cmp, pr_16_1681, pr_8_100, pr_8_41, pr_8_m4, pr_i_0, pr_i_1, pr_i_2, pr_i_m1] at h211
                                          exact absurd h211 (by decide)
                                        · simp only [ab_cmp, pr_16_1681, pr_8_100, pr_8_41, pr_8_m4, pr_i_0, pr_i_1, pr_i_2, pr_i_m1] at h211
                                          first
                                          | contradiction
                                          | exact absurd trivial h211
                                          | exact absurd h211 (by decide)
                                          | exact absurd (Classical.not_not.mp h211) (by decide)
                                          | skip
                                            refine pr_seq (pc' := 224) 6 rfl ⟨⟨⟨⟨⟨⟨trivial, trivial⟩, trivial⟩, (by first | assumption | decide | (simp (disch := omega) only [c41, c100, nI_div, i_sub, hx, hy2, d3, d4, rKn, rI_mul, nI_add, nI_1, nI_clamp, pr_16_1681, pr_8_100, pr_8_41, pr_8_m4, pr_i_0, pr_i_1, pr_i_2, pr_i_m1]; first | assumption | exact ⟨Or.inl (by assumption), rvin (by assumption) (by omega) (by decide)⟩ | exact ⟨by assumption, rvin (by assumption) (by omega) (by decide)⟩ | exact ⟨⟨by omega, by omega⟩, rvin (by assumption) (by omega) (by decide)⟩ | exact ⟨Or.inr (by assumption), rvin (by assumption) (by omega) (by decide)⟩ | exact ⟨Or.inr ⟨by assumption, (by first | exact Or.inl rfl | exact Or.inr rfl | exact pr_b01 _)⟩, rvin (by assumption) (by omega) (by decide)⟩ | exact ⟨by assumption, by assumption⟩ | decide | omega))⟩, trivial⟩, trivial⟩, (by first | assumption | decide | (simp (disch := omega) only [c41, c100, nI_div, i_sub, hx, hy2, d3, d4, rKn, rI_mul, nI_add, nI_1, nI_clamp, pr_16_1681, pr_8_100, pr_8_41, pr_8_m4, pr_i_0, pr_i_1, pr_i_2, pr_i_m1]; first | assumption | exact ⟨Or.inl (by assumption), rvin (by assumption) (by omega) (by decide)⟩ | exact ⟨by assumption, rvin (by assumption) (by omega) (by decide)⟩ | exact ⟨⟨by omega, by omega⟩, rvin (by assumption) (by omega) (by decide)⟩ | exact ⟨Or.inr (by assumption), rvin (by assumption) (by omega) (by decide)⟩ | exact ⟨Or.inr ⟨by assumption, (by first | exact Or.inl rfl | exact Or.inr rfl | exact pr_b01 _)⟩, rvin (by assumption) (by omega) (by decide)⟩ | exact ⟨by assumption, by assumption⟩ | decide | omega))⟩ ?_
                                            try simp (disch := omega) only [c41, c100, nI_div, i_sub, hx, hy2, d3, d4, rKn, rI_mul, nI_add, nI_1, nI_clamp, pr_16_1681, pr_8_100, pr_8_41, pr_8_m4, pr_i_0, pr_i_1, pr_i_2, pr_i_m1]
                                            refine pr_ic rfl (fun h224 => ?_) (fun h224 => ?_)
                                            · simp only [ab_cmp, pr_16_1681, pr_8_100, pr_8_41, pr_8_m4, pr_i_0, pr_i_1, pr_i_2, pr_i_m1] at h224
                                              first
                                              | contradiction
                                              | exact absurd trivial h224
                                              | exact absurd h224 (by decide)
                                              | exact absurd (Classical.not_not.mp h224) (by decide)
                                              | skip
                                                refine pr_seq (pc' := 63) 5 rfl ⟨⟨⟨⟨⟨trivial, trivial⟩, trivial⟩, trivial⟩, trivial⟩, trivial⟩ ?_
                                                try simp (disch := omega) only [c41, c100, nI_div, i_sub, hx, hy2, d3, d4, rKn, rI_mul, nI_add, nI_1, nI_clamp, pr_16_1681, pr_8_100, pr_8_41, pr_8_m4, pr_i_0, pr_i_1, pr_i_2, pr_i_m1]
                                                exact hh
                                            · simp only [ab_cmp, pr_16_1681, pr_8_100, pr_8_41, pr_8_m4, pr_i_0, pr_i_1, pr_i_2, pr_i_m1] at h224
                                              exact absurd (Classical.not_not.mp h224) zy
                                    · simp only [ab_cmp, pr_16_1681, pr_8_100, pr_8_41, pr_8_m4, pr_i_0, pr_i_1, pr_i_2, pr_i_m1] at h199
                                      exact absurd (Classical.not_not.mp h199) zx
                            · simp only [ab_cmp, pr_16_1681, pr_8_100, pr_8_41, pr_8_m4, pr_i_0, pr_i_1, pr_i_2, pr_i_m1] at h160
                              exact absurd (Classical.not_not.mp h160) z
              have inner : ∀ ee t, t + ee = X.1.2.2.length → pr_E pX11_solve 99 (sv_L a b (nI wn) (X.1.1.1 a) (X.1.1.1 b) (svc X a b k) k (some (.int (pr_b (nb (fun t => !svO X a b x y t) t)))) (some (.int (nI t)))) [] h (mL (mL M.1 a x) b y, M.2) (some (.int R)) h M := by
                intro ee
                induction ee with
                | zero =>
                  intro t ht
                  obtain rfl : t = X.1.2.2.length := by omega
                  have e2 : nI X.1.2.2.length ≤ nI X.1.2.2.length := nI_le (Nat.le_refl _) (by omega)
                  have tl := tail (some (.int (nI X.1.2.2.length)))
                  unfold svF at tl
                  unfold sv_L at tl ⊢
                  refine pr_seq (pc' := 105) 3 rfl ⟨⟨⟨trivial, trivial⟩, (by first | decide | assumption)⟩, (by assumption)⟩ ?_
                  try simp (disch := omega) only [kz, rKn, rI_mul, nI_add, nI_1, nI_clamp, pr_16_1681, pr_8_100, pr_8_41, pr_8_m4, pr_i_0, pr_i_1, pr_i_2, pr_i_m1]
                  refine pr_ic rfl (fun h105 => ?_) (fun h105 => ?_)
                  · simp only [ab_cmp, pr_16_1681, pr_8_100, pr_8_41, pr_8_m4, pr_i_0, pr_i_1, pr_i_2, pr_i_m1] at h105
                    first
                    | contradiction
                    | exact absurd trivial h105
                    | exact absurd h105 (by decide)
                    | exact absurd (Classical.not_not.mp h105) (by decide)
                    | skip
                      exact tl
                  · simp only [ab_cmp, pr_16_1681, pr_8_100, pr_8_41, pr_8_m4, pr_i_0, pr_i_1, pr_i_2, pr_i_m1] at h105
                    exact absurd e2 h105
                | succ ee ih2 =>
                  intro t ht
                  have ht2 : t < X.1.2.2.length := by omega
                  have e2 : ¬ nI X.1.2.2.length ≤ nI t := nI_ge ht2 (by omega)
                  cases cn : nb (fun t => !svO X a b x y t) t with
                  | false =>
                    have tl := tail (some (.int (nI t)))
                    have : svF X a b x y = false := by
                      unfold svF
                      rw [show X.1.2.2.length = t + (X.1.2.2.length - t) by omega]
                      exact nb_down cn _
                    rw [this] at tl
                    unfold sv_L at tl ⊢
                    refine pr_seq (pc' := 105) 3 rfl ⟨⟨⟨trivial, trivial⟩, (by first | decide | assumption)⟩, (by assumption)⟩ ?_
                    try simp (disch := omega) only [kz, rKn, rI_mul, nI_add, nI_1, nI_clamp, pr_16_1681, pr_8_100, pr_8_41, pr_8_m4, pr_i_0, pr_i_1, pr_i_2, pr_i_m1]
                    refine pr_ic rfl (fun h105 => ?_) (fun h105 => ?_)
                    · simp only [ab_cmp, pr_16_1681, pr_8_100, pr_8_41, pr_8_m4, pr_i_0, pr_i_1, pr_i_2, pr_i_m1] at h105
                      exact absurd h105 e2
                    · simp only [ab_cmp, pr_16_1681, pr_8_100, pr_8_41, pr_8_m4, pr_i_0, pr_i_1, pr_i_2, pr_i_m1] at h105
                      first
                      | contradiction
                      | exact absurd trivial h105
                      | exact absurd h105 (by decide)
                      | exact absurd (Classical.not_not.mp h105) (by decide)
                      | skip
                        refine pr_seq (pc' := 110) 1 rfl ⟨trivial, trivial⟩ ?_
                        try simp (disch := omega) only [kz, rKn, rI_mul, nI_add, nI_1, nI_clamp, pr_16_1681, pr_8_100, pr_8_41, pr_8_m4, pr_i_0, pr_i_1, pr_i_2, pr_i_m1]
                        refine pr_if rfl (fun h110 => ?_) (fun h110 => ?_)
                        · simp only [ab_cmp, pr_16_1681, pr_8_100, pr_8_41, pr_8_m4, pr_i_0, pr_i_1, pr_i_2, pr_i_m1] at h110
                          first
                          | contradiction
                          | exact absurd trivial h110
                          | exact absurd h110 (by decide)
                          | exact absurd (Classical.not_not.mp h110) (by decide)
                          | skip
                            exact tl
                        · simp only [ab_cmp, pr_16_1681, pr_8_100, pr_8_41, pr_8_m4, pr_i_0, pr_i_1, pr_i_2, pr_i_m1] at h110
                          exact absurd rfl h110
                  | true =>
                    obtain ⟨u1, u2, u3, u4⟩ := k3 t ht2
                    have v1 : mL (mL M.1 a x) b y 175 (2 * t) = nI (kn X t).1 := by rw [m175]; exact u1
                    have v2 : mL (mL M.1 a x) b y 175 (2 * t + 1) = nI (kn X t).2 := by rw [m175]; exact u2
                    have hls := q_listSum (X := svX X a b x y) (n := (kn X t).1) h (mL (mL M.1 a x) b y, M.2) hl hpg (by show ls_r (mL (mL M.1 a x) b y 174) X.1.2.1; rw [m174]; exact l3) l2 u3
                    have hh := ih2 (t + 1) (by omega)
                    rw [show nb (fun t => !svO X a b x y t) (t + 1) = (nb (fun t => !svO X a b x y t) t && !!svO X a b x y t) from rfl, cn, Bool.true_and, Bool.not_not] at hh
                    unfold svO at hh
                    by_cases cs : nI (x_ls (svX X a b x y) (kn X t).1) = nI (kn X t).2
                    · rw [decide_eq_true cs] at hh
                      unfold sv_L at hh ⊢
                      refine pr_seq (pc' := 105) 3 rfl ⟨⟨⟨trivial, trivial⟩, (by first | decide | assumption)⟩, (by assumption)⟩ ?_
                      try simp (disch := omega) only [kz, c2, v1, v2, rKn, rI_mul, nI_add, nI_1, nI_clamp, pr_16_1681, pr_8_100, pr_8_41, pr_8_m4, pr_i_0, pr_i_1, pr_i_2, pr_i_m1]
                      refine pr_ic rfl (fun h105 => ?_) (fun h105 => ?_)
                      · simp only [ab_cmp, pr_16_1681, pr_8_100, pr_8_41, pr_8_m4, pr_i_0, pr_i_1, pr_i_2, pr_i_m1] at h105
                        exact absurd h105 e2
                      · simp only [ab_cmp, pr_16_1681, pr_8_100, pr_8_41, pr_8_m4, pr_i_0, pr_i_1, pr_i_2, pr_i_m1] at h105
                        first
                        | contradiction
                        | exact absurd trivial h105
                        | exact absurd h105 (by decide)
                        | exact absurd (Classical.not_not.mp h105) (by decide)
                        | skip
                          refine pr_seq (pc' := 110) 1 rfl ⟨trivial, trivial⟩ ?_
                          try simp (disch := omega) only [kz, c2, v1, v2, rKn, rI_mul, nI_add, nI_1, nI_clamp, pr_16_1681, pr_8_100, pr_8_41, pr_8_m4, pr_i_0, pr_i_1, pr_i_2, pr_i_m1]
                          refine pr_if rfl (fun h110 => ?_) (fun h110 => ?_)
                          · simp only [ab_cmp, pr_16_1681, pr_8_100, pr_8_41, pr_8_m4, pr_i_0, pr_i_1, pr_i_2, pr_i_m1] at h110
                            exact absurd h110 (by decide)
                          · simp only [ab_cmp, pr_16_1681, pr_8_100, pr_8_41, pr_8_m4, pr_i_0, pr_i_1, pr_i_2, pr_i_m1] at h110
                            first
                            | contradiction
                            | exact absurd trivial h110
                            | exact absurd h110 (by decide)
                            | exact absurd (Classical.not_not.mp h110) (by decide)
                            | skip
                              refine pr_seq (pc' := 123) 7 rfl ⟨⟨⟨⟨⟨⟨⟨trivial, (by first | decide | assumption)⟩, (by first | decide | assumption)⟩, (by assumption)⟩, trivial⟩, trivial⟩, trivial⟩, (by (try simp (disch := omega) only [kz, c2, v1, v2, rKn, rI_mul, nI_add, nI_1, nI_clamp, pr_16_1681, pr_8_100, pr_8_41, pr_8_m4, pr_i_0, pr_i_1, pr_i_2, pr_i_m1]); exact ⟨Or.inl (by assumption), rvin (by assumption) (by omega) (by decide)⟩)⟩ ?_
                              try simp (disch := omega) only [kz, c2, v1, v2, rKn, rI_mul, nI_add, nI_1, nI_clamp, pr_16_1681, pr_8_100, pr_8_41, pr_8_m4, pr_i_0, pr_i_1, pr_i_2, pr_i_m1]
                              refine pr_cv [_] rfl rfl rfl rfl rfl (Nat.le_of_ble_eq_true rfl) (by first | assumption | decide | (simp (disch := omega) only [kz, c2, v1, v2, rKn, rI_mul, nI_add, nI_1, nI_clamp, pr_16_1681, pr_8_100, pr_8_41, pr_8_m4, pr_i_0, pr_i_1, pr_i_2, pr_i_m1]; first | assumption | exact ⟨Or.inl (by assumption), rvin (by assumption) (by omega) (by decide)⟩ | exact ⟨by assumption, rvin (by assumption) (by omega) (by decide)⟩ | exact ⟨⟨by omega, by omega⟩, rvin (by assumption) (by omega) (by decide)⟩ | exact ⟨Or.inr (by assumption), rvin (by assumption) (by omega) (by decide)⟩ | exact ⟨Or.inr ⟨by assumption, (by first | exact Or.inl rfl | exact Or.inr rfl | exact pr_b01 _)⟩, rvin (by assumption) (by omega) (by decide)⟩ | exact ⟨by assumption, by assumption⟩ | decide | omega)) (Nat.le_of_ble_eq_true rfl) (hls) ?_
                              refine pr_seq (pc' := 137) 8 rfl ⟨⟨⟨⟨⟨⟨⟨⟨trivial, (by first | decide | assumption)⟩, (by assumption)⟩, trivial⟩, trivial⟩, trivial⟩, trivial⟩, trivial⟩, (by (try simp (disch := omega) only [kz, c2, v1, v2, rKn, rI_mul, nI_add, nI_1, nI_clamp, pr_16_1681, pr_8_100, pr_8_41, pr_8_m4, pr_i_0, pr_i_1, pr_i_2, pr_i_m1]); exact ⟨Or.inl (by assumption), rvin (by assumption) (by omega) (by decide)⟩)⟩ ?_
                              try simp (disch := omega) only [kz, c2, v1, v2, rKn, rI_mul, nI_add, nI_1, nI_clamp, pr_16_1681, pr_8_100, pr_8_41, pr_8_m4, pr_i_0, pr_i_1, pr_i_2, pr_i_m1]
                              refine pr_ic rfl (fun h137 => ?_) (fun h137 => ?_)
                              · simp only [ab_cmp, pr_16_1681, pr_8_100, pr_8_41, pr_8_m4, pr_i_0, pr_i_1, pr_i_2, pr_i_m1] at h137
                                exact absurd cs h137
                              · simp only [ab_cmp, pr_16_1681, pr_8_100, pr_8_41, pr_8_m4, pr_i_0, pr_i_1, pr_i_2, pr_i_m1] at h137
                                first
                                | contradiction
                                | exact absurd trivial h137
                                | exact absurd h137 (by decide)
                                | exact absurd (Classical.not_not.mp h137) (by decide)
                                | skip
                                  refine pr_seq (pc' := 99) 5 rfl ⟨⟨⟨⟨⟨trivial, trivial⟩, trivial⟩, trivial⟩, trivial⟩, trivial⟩ ?_
                                  try simp (disch := omega) only [kz, c2, v1, v2, rKn, rI_mul, nI_add, nI_1, nI_clamp, pr_16_1681, pr_8_100, pr_8_41, pr_8_m4, pr_i_0, pr_i_1, pr_i_2, pr_i_m1]
                                  exact hh
                    · rw [decide_eq_false cs] at hh
                      unfold sv_L at hh ⊢
                      refine pr_seq (pc' := 105) 3 rfl ⟨⟨⟨trivial, trivial⟩, (by first | decide | assumption)⟩, (by assumption)⟩ ?_
                      try simp (disch := omega) only [kz, c2, v1, v2, rKn, rI_mul, nI_add, nI_1, nI_clamp, pr_16_1681, pr_8_100, pr_8_41, pr_8_m4, pr_i_0, pr_i_1, pr_i_2, pr_i_m1]
                      refine pr_ic rfl (fun h105 => ?_) (fun h105 => ?_)
                      · simp only [ab_cmp, pr_16_1681, pr_8_100, pr_8_41, pr_8_m4, pr_i_0, pr_i_1, pr_i_2, pr_i_m1] at h105
                        exact absurd h105 e2
                      · simp only [ab_cmp, pr_16_1681, pr_8_100, pr_8_41, pr_8_m4, pr_i_0, pr_i_1, pr_i_2, pr_i_m1] at h105
                        first
                        | contradiction
                        | exact absurd trivial h105
                        | exact absurd h105 (by decide)
                        | exact absurd (Classical.not_not.mp h105) (by decide)
                        | skip
                          refine pr_seq (pc' := 110) 1 rfl ⟨trivial, trivial⟩ ?_
                          try simp (disch := omega) only [kz, c2, v1, v2, rKn, rI_mul, nI_add, nI_1, nI_clamp, pr_16_1681, pr_8_100, pr_8_41, pr_8_m4, pr_i_0, pr_i_1, pr_i_2, pr_i_m1]
                          refine pr_if rfl (fun h110 => ?_) (fun h110 => ?_)
                          · simp only [ab_cmp, pr_16_1681, pr_8_100, pr_8_41, pr_8_m4, pr_i_0, pr_i_1, pr_i_2, pr_i_m1] at h110
                            exact absurd h110 (by decide)
                          · simp only [ab_cmp, pr_16_1681, pr_8_100, pr_8_41, pr_8_m4, pr_i_0, pr_i_1, pr_i_2, pr_i_m1] at h110
                            first
                            | contradiction
                            | exact absurd trivial h110
                            | exact absurd h110 (by decide)
                            | exact absurd (Classical.not_not.mp h110) (by decide)
                            | skip
                              refine pr_seq (pc' := 123) 7 rfl ⟨⟨⟨⟨⟨⟨⟨trivial, (by first | decide | assumption)⟩, (by first | decide | assumption)⟩, (by assumption)⟩, trivial⟩, trivial⟩, trivial⟩, (by (try simp (disch := omega) only [kz, c2, v1, v2, rKn, rI_mul, nI_add, nI_1, nI_clamp, pr_16_1681, pr_8_100, pr_8_41, pr_8_m4, pr_i_0, pr_i_1, pr_i_2, pr_i_m1]); exact ⟨Or.inl (by assumption), rvin (by assumption) (by omega) (by decide)⟩)⟩ ?_
                              try simp (disch := omega) only [kz, c2, v1, v2, rKn, rI_mul, nI_add, nI_1, nI_clamp, pr_16_1681, pr_8_100, pr_8_41, pr_8_m4, pr_i_0, pr_i_1, pr_i_2, pr_i_m1]
                              refine pr_cv [_] rfl rfl rfl rfl rfl (Nat.le_of_ble_eq_true rfl) (by first | assumption | decide | (simp (disch := omega) only [kz, c2, v1, v2, rKn, rI_mul, nI_add, nI_1, nI_clamp, pr_16_1681, pr_8_100, pr_8_41, pr_8_m4, pr_i_0, pr_i_1, pr_i_2, pr_i_m1]; first | assumption | exact ⟨Or.inl (by assumption), rvin (by assumption) (by omega) (by decide)⟩ | exact ⟨by assumption, rvin (by assumption) (by omega) (by decide)⟩ | exact ⟨⟨by omega, by omega⟩, rvin (by assumption) (by omega) (by decide)⟩ | exact ⟨Or.inr (by assumption), rvin (by assumption) (by omega) (by decide)⟩ | exact ⟨Or.inr ⟨by assumption, (by first | exact Or.inl rfl | exact Or.inr rfl | exact pr_b01 _)⟩, rvin (by assumption) (by omega) (by decide)⟩ | exact ⟨by assumption, by assumption⟩ | decide | omega)) (Nat.le_of_ble_eq_true rfl) (hls) ?_
                              refine pr_seq (pc' := 137) 8 rfl ⟨⟨⟨⟨⟨⟨⟨⟨trivial, (by first | decide | assumption)⟩, (by assumption)⟩, trivial⟩, trivial⟩, trivial⟩, trivial⟩, trivial⟩, (by (try simp (disch := omega) only [kz, c2, v1, v2, rKn, rI_mul, nI_add, nI_1, nI_clamp, pr_16_1681, pr_8_100, pr_8_41, pr_8_m4, pr_i_0, pr_i_1, pr_i_2, pr_i_m1]); exact ⟨Or.inl (by assumption), rvin (by assumption) (by omega) (by decide)⟩)⟩ ?_
                              try simp (disch := omega) only [kz, c2, v1, v2, rKn, rI_mul, nI_add, nI_1, nI_clamp, pr_16_1681, pr_8_100, pr_8_41, pr_8_m4, pr_i_0, pr_i_1, pr_i_2, pr_i_m1]
                              refine pr_ic rfl (fun h137 => ?_) (fun h137 => ?_)
                              · simp only [ab_cmp, pr_16_1681, pr_8_100, pr_8_41, pr_8_m4, pr_i_0, pr_i_1, pr_i_2, pr_i_m1] at h137
                                first
                                | contradiction
                                | exact absurd trivial h137
                                | exact absurd h137 (by decide)
                                | exact absurd (Classical.not_not.mp h137) (by decide)
                                | skip
                                  refine pr_seq (pc' := 99) 4 rfl ⟨⟨⟨⟨trivial, trivial⟩, trivial⟩, trivial⟩, trivial⟩ ?_
                                  try simp (disch := omega) only [kz, c2, v1, v2, rKn, rI_mul, nI_add, nI_1, nI_clamp, pr_16_1681, pr_8_100, pr_8_41, pr_8_m4, pr_i_0, pr_i_1, pr_i_2, pr_i_m1]
                                  exact hh
                              · simp only [ab_cmp, pr_16_1681, pr_8_100, pr_8_41, pr_8_m4, pr_i_0, pr_i_1, pr_i_2, pr_i_m1] at h137
                                exact absurd (Classical.not_not.mp h137) cs
              have h0 := inner X.1.2.2.length 0 (by omega)
              unfold sv_L at h0 ⊢
              refine pr_seq (pc' := 68) 2 rfl ⟨⟨trivial, trivial⟩, trivial⟩ ?_
              try simp (disch := omega) only [c1681, c41, nI_div, i_sub, hx, hy2, rKn, rI_mul, nI_add, nI_1, nI_clamp, pr_16_1681, pr_8_100, pr_8_41, pr_8_m4, pr_i_0, pr_i_1, pr_i_2, pr_i_m1]
              refine pr_ic rfl (fun h68 => ?_) (fun h68 => ?_)
              · simp only [ab_cmp, pr_16_1681, pr_8_100, pr_8_41, pr_8_m4, pr_i_0, pr_i_1, pr_i_2, pr_i_m1] at h68
                exact absurd h68 e1
              · simp only [ab_cmp, pr_16_1681, pr_8_100, pr_8_41, pr_8_m4, pr_i_0, pr_i_1, pr_i_2, pr_i_m1] at h68
                first
                | contradiction
                | exact absurd trivial h68
                | exact absurd h68 (by decide)
                | exact absurd (Classical.not_not.mp h68) (by decide)
                | skip
                  refine pr_seq (pc' := 78) 5 rfl ⟨⟨⟨⟨⟨trivial, (by first | decide | assumption)⟩, trivial⟩, trivial⟩, trivial⟩, (by first | assumption | decide | (simp (disch := omega) only [c1681, c41, nI_div, i_sub, hx, hy2, rKn, rI_mul, nI_add, nI_1, nI_clamp, pr_16_1681, pr_8_100, pr_8_41, pr_8_m4, pr_i_0, pr_i_1, pr_i_2, pr_i_m1]; first | assumption | exact ⟨Or.inl (by assumption), rvin (by assumption) (by omega) (by decide)⟩ | exact ⟨by assumption, rvin (by assumption) (by omega) (by decide)⟩ | exact ⟨⟨by omega, by omega⟩, rvin (by assumption) (by omega) (by decide)⟩ | exact ⟨Or.inr (by assumption), rvin (by assumption) (by omega) (by decide)⟩ | exact ⟨Or.inr ⟨by assumption, (by first | exact Or.inl rfl | exact Or.inr rfl | exact pr_b01 _)⟩, rvin (by assumption) (by omega) (by decide)⟩ | exact ⟨by assumption, by assumption⟩ | decide | omega))⟩ ?_
                  try simp (disch := omega) only [c1681, c41, nI_div, i_sub, hx, hy2, rKn, rI_mul, nI_add, nI_1, nI_clamp, pr_16_1681, pr_8_100, pr_8_41, pr_8_m4, pr_i_0, pr_i_1, pr_i_2, pr_i_m1]
                  refine pr_cv [_, _] rfl rfl rfl rfl rfl (Nat.le_of_ble_eq_true rfl) (by first | assumption | decide | (simp (disch := omega) only [c1681, c41, nI_div, i_sub, hx, hy2, rKn, rI_mul, nI_add, nI_1, nI_clamp, pr_16_1681, pr_8_100, pr_8_41, pr_8_m4, pr_i_0, pr_i_1, pr_i_2, pr_i_m1]; first | assumption | exact ⟨Or.inl (by assumption), rvin (by assumption) (by omega) (by decide)⟩ | exact ⟨by assumption, rvin (by assumption) (by omega) (by decide)⟩ | exact ⟨⟨by omega, by omega⟩, rvin (by assumption) (by omega) (by decide)⟩ | exact ⟨Or.inr (by assumption), rvin (by assumption) (by omega) (by decide)⟩ | exact ⟨Or.inr ⟨by assumption, (by first | exact Or.inl rfl | exact Or.inr rfl | exact pr_b01 _)⟩, rvin (by assumption) (by omega) (by decide)⟩ | exact ⟨by assumption, by assumption⟩ | decide | omega)) (Nat.le_of_ble_eq_true rfl) (s1) ?_
                  refine pr_seq (pc' := 89) 6 rfl ⟨⟨⟨⟨⟨⟨trivial, trivial⟩, (by first | decide | assumption)⟩, trivial⟩, trivial⟩, trivial⟩, (by first | assumption | decide | (simp (disch := omega) only [c1681, c41, nI_div, i_sub, hx, hy2, rKn, rI_mul, nI_add, nI_1, nI_clamp, pr_16_1681, pr_8_100, pr_8_41, pr_8_m4, pr_i_0, pr_i_1, pr_i_2, pr_i_m1]; first | assumption | exact ⟨Or.inl (by assumption), rvin (by assumption) (by omega) (by decide)⟩ | exact ⟨by assumption, rvin (by assumption) (by omega) (by decide)⟩ | exact ⟨⟨by omega, by omega⟩, rvin (by assumption) (by omega) (by decide)⟩ | exact ⟨Or.inr (by assumption), rvin (by assumption) (by omega) (by decide)⟩ | exact ⟨Or.inr ⟨by assumption, (by first | exact Or.inl rfl | exact Or.inr rfl | exact pr_b01 _)⟩, rvin (by assumption) (by omega) (by decide)⟩ | exact ⟨by assumption, by assumption⟩ | decide | omega))⟩ ?_
                  try simp (disch := omega) only [c1681, c41, nI_div, i_sub, hx, hy2, rKn, rI_mul, nI_add, nI_1, nI_clamp, pr_16_1681, pr_8_100, pr_8_41, pr_8_m4, pr_i_0, pr_i_1, pr_i_2, pr_i_m1]
                  refine pr_cv [_, _] rfl rfl rfl rfl rfl (Nat.le_of_ble_eq_true rfl) (by first | assumption | decide | (simp (disch := omega) only [c1681, c41, nI_div, i_sub, hx, hy2, rKn, rI_mul, nI_add, nI_1, nI_clamp, pr_16_1681, pr_8_100, pr_8_41, pr_8_m4, pr_i_0, pr_i_1, pr_i_2, pr_i_m1]; first | assumption | exact ⟨Or.inl (by assumption), rvin (by assumption) (by omega) (by decide)⟩ | exact ⟨by assumption, rvin (by assumption) (by omega) (by decide)⟩ | exact ⟨⟨by omega, by omega⟩, rvin (by assumption) (by omega) (by decide)⟩ | exact ⟨Or.inr (by assumption), rvin (by assumption) (by omega) (by decide)⟩ | exact ⟨Or.inr ⟨by assumption, (by first | exact Or.inl rfl | exact Or.inr rfl | exact pr_b01 _)⟩, rvin (by assumption) (by omega) (by decide)⟩ | exact ⟨by assumption, by assumption⟩ | decide | omega)) (Nat.le_of_ble_eq_true rfl) (s2) ?_
                  refine pr_seq (pc' := 99) 5 rfl ⟨⟨⟨⟨⟨trivial, trivial⟩, trivial⟩, trivial⟩, trivial⟩, trivial⟩ ?_
                  try simp (disch := omega) only [c1681, c41, nI_div, i_sub, hx, hy2, rKn, rI_mul, nI_add, nI_1, nI_clamp, pr_16_1681, pr_8_100, pr_8_41, pr_8_m4, pr_i_0, pr_i_1, pr_i_2, pr_i_m1]
                  exact h0
          have h0 := loop 1681 0 (by omega) (X.1.1.1 a) (X.1.1.1 b) none none hA40 hB40
          rw [idAB] at h0
          unfold sv_L at h0
          refine pr_seq (pc' := 1) 1 rfl ⟨trivial, trivial⟩ ?_
          try simp (disch := omega) only [rKn, rI_mul, nI_add, nI_1, nI_clamp, pr_16_1681, pr_8_100, pr_8_41, pr_8_m4, pr_i_0, pr_i_1, pr_i_2, pr_i_m1]
          refine pr_cs [_] rfl rfl rfl rfl rfl (Nat.le_of_ble_eq_true rfl) (Nat.le_of_ble_eq_true rfl) (h1) ?_
          refine pr_if rfl (fun h4 => ?_) (fun h4 => ?_)
          · simp only [ab_cmp, pr_16_1681, pr_8_100, pr_8_41, pr_8_m4, pr_i_0, pr_i_1, pr_i_2, pr_i_m1] at h4
            exact absurd h4 (by decide)
          · simp only [ab_cmp, pr_16_1681, pr_8_100, pr_8_41, pr_8_m4, pr_i_0, pr_i_1, pr_i_2, pr_i_m1] at h4
            first
            | contradiction
            | exact absurd trivial h4
            | exact absurd h4 (by decide)
            | exact absurd (Classical.not_not.mp h4) (by decide)
            | skip
              refine pr_seq (pc' := 8) 1 rfl ⟨trivial, trivial⟩ ?_
              try simp (disch := omega) only [rKn, rI_mul, nI_add, nI_1, nI_clamp, pr_16_1681, pr_8_100, pr_8_41, pr_8_m4, pr_i_0, pr_i_1, pr_i_2, pr_i_m1]
              refine pr_cs [_] rfl rfl rfl rfl rfl (Nat.le_of_ble_eq_true rfl) (Nat.le_of_ble_eq_true rfl) (h2) ?_
              refine pr_if rfl (fun h11 => ?_) (fun h11 => ?_)
              · simp only [ab_cmp, pr_16_1681, pr_8_100, pr_8_41, pr_8_m4, pr_i_0, pr_i_1, pr_i_2, pr_i_m1] at h11
                exact absurd h11 (by decide)
              · simp only [ab_cmp, pr_16_1681, pr_8_100, pr_8_41, pr_8_m4, pr_i_0, pr_i_1, pr_i_2, pr_i_m1] at h11
                first
                | contradiction
                | exact absurd trivial h11
                | exact absurd h11 (by decide)
                | exact absurd (Classical.not_not.mp h11) (by decide)
                | skip
                  refine pr_seq (pc' := 16) 2 rfl ⟨⟨trivial, trivial⟩, trivial⟩ ?_
                  try simp (disch := omega) only [rKn, rI_mul, nI_add, nI_1, nI_clamp, pr_16_1681, pr_8_100, pr_8_41, pr_8_m4, pr_i_0, pr_i_1, pr_i_2, pr_i_m1]
                  refine pr_ic rfl (fun h16 => ?_) (fun h16 => ?_)
                  · simp only [ab_cmp, pr_16_1681, pr_8_100, pr_8_41, pr_8_m4, pr_i_0, pr_i_1, pr_i_2, pr_i_m1] at h16
                    exact absurd h16 nab
                  · simp only [ab_cmp, pr_16_1681, pr_8_100, pr_8_41, pr_8_m4, pr_i_0, pr_i_1, pr_i_2, pr_i_m1] at h16
                    first
                    | contradiction
                    | exact absurd trivial h16
                    | exact absurd h16 (by decide)
                    | exact absurd (Classical.not_not.mp h16) (by decide)
                    | skip
                      refine pr_seq (pc' := 25) 4 rfl ⟨⟨⟨⟨trivial, trivial⟩, trivial⟩, trivial⟩, trivial⟩ ?_
                      try simp (disch := omega) only [rKn, rI_mul, nI_add, nI_1, nI_clamp, pr_16_1681, pr_8_100, pr_8_41, pr_8_m4, pr_i_0, pr_i_1, pr_i_2, pr_i_m1]
                      refine pr_cs [_, _, _] rfl rfl rfl rfl rfl (Nat.le_of_ble_eq_true rfl) (Nat.le_of_ble_eq_true rfl) (h3) ?_
                      refine pr_if rfl (fun h28 => ?_) (fun h28 => ?_)
                      · simp only [ab_cmp, pr_16_1681, pr_8_100, pr_8_41, pr_8_m4, pr_i_0, pr_i_1, pr_i_2, pr_i_m1] at h28
                        first
                        | contradiction
                        | exact absurd trivial h28
                        | exact absurd h28 (by decide)
                        | exact absurd (Classical.not_not.mp h28) (by decide)
                        | skip
                          refine pr_seq (pc' := 35) 2 rfl ⟨⟨trivial, (by first | decide | assumption)⟩, trivial⟩ ?_
                          try simp (disch := omega) only [rKn, rI_mul, nI_add, nI_1, nI_clamp, pr_16_1681, pr_8_100, pr_8_41, pr_8_m4, pr_i_0, pr_i_1, pr_i_2, pr_i_m1]
                          refine pr_cv [_] rfl rfl rfl rfl rfl (Nat.le_of_ble_eq_true rfl) (by first | assumption | decide | (simp (disch := omega) only [rKn, rI_mul, nI_add, nI_1, nI_clamp, pr_16_1681, pr_8_100, pr_8_41, pr_8_m4, pr_i_0, pr_i_1, pr_i_2, pr_i_m1]; first | assumption | exact ⟨Or.inl (by assumption), rvin (by assumption) (by omega) (by decide)⟩ | exact ⟨by assumption, rvin (by assumption) (by omega) (by decide)⟩ | exact ⟨⟨by omega, by omega⟩, rvin (by assumption) (by omega) (by decide)⟩ | exact ⟨Or.inr (by assumption), rvin (by assumption) (by omega) (by decide)⟩ | exact ⟨Or.inr ⟨by assumption, (by first | exact Or.inl rfl | exact Or.inr rfl | exact pr_b01 _)⟩, rvin (by assumption) (by omega) (by decide)⟩ | exact ⟨by assumption, by assumption⟩ | decide | omega)) (Nat.le_of_ble_eq_true rfl) (hwa) ?_
                          refine pr_seq (pc' := 42) 3 rfl ⟨⟨⟨trivial, trivial⟩, (by first | decide | assumption)⟩, trivial⟩ ?_
                          try simp (disch := omega) only [rKn, rI_mul, nI_add, nI_1, nI_clamp, pr_16_1681, pr_8_100, pr_8_41, pr_8_m4, pr_i_0, pr_i_1, pr_i_2, pr_i_m1]
                          refine pr_cv [_] rfl rfl rfl rfl rfl (Nat.le_of_ble_eq_true rfl) (by first | assumption | decide | (simp (disch := omega) only [rKn, rI_mul, nI_add, nI_1, nI_clamp, pr_16_1681, pr_8_100, pr_8_41, pr_8_m4, pr_i_0, pr_i_1, pr_i_2, pr_i_m1]; first | assumption | exact ⟨Or.inl (by assumption), rvin (by assumption) (by omega) (by decide)⟩ | exact ⟨by assumption, rvin (by assumption) (by omega) (by decide)⟩ | exact ⟨⟨by omega, by omega⟩, rvin (by assumption) (by omega) (by decide)⟩ | exact ⟨Or.inr (by assumption), rvin (by assumption) (by omega) (by decide)⟩ | exact ⟨Or.inr ⟨by assumption, (by first | exact Or.inl rfl | exact Or.inr rfl | exact pr_b01 _)⟩, rvin (by assumption) (by omega) (by decide)⟩ | exact ⟨by assumption, by assumption⟩ | decide | omega)) (Nat.le_of_ble_eq_true rfl) (hwb) ?_
                          refine pr_seq (pc' := 63) 11 rfl ⟨⟨⟨⟨⟨⟨⟨⟨⟨⟨⟨trivial, trivial⟩, trivial⟩, trivial⟩, trivial⟩, trivial⟩, trivial⟩, trivial⟩, trivial⟩, trivial⟩, trivial⟩, trivial⟩ ?_
                          try simp (disch := omega) only [rKn, rI_mul, nI_add, nI_1, nI_clamp, pr_16_1681, pr_8_100, pr_8_41, pr_8_m4, pr_i_0, pr_i_1, pr_i_2, pr_i_m1]
                          exact h0
                      · simp only [ab_cmp, pr_16_1681, pr_8_100, pr_8_41, pr_8_m4, pr_i_0, pr_i_1, pr_i_2, pr_i_m1] at h28
                        exact absurd (Classical.not_not.mp h28) (by decide)
