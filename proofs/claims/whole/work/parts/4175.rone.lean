
/-! ===== the reference's reader: which word, ones ===== -/
theorem kw_len : ∀ i, i < 11 → (kwd i).length ≤ 7 := by decide
theorem kw_inj (i j : Nat) (hi : i < 11) (hj : j < 11) (h : kwd i = kwd j) : i = j := by
  have : ∀ i j : Fin 11, kwd i.val = kwd j.val → i.val = j.val := by decide
  exact this ⟨i, hi⟩ ⟨j, hj⟩ h
theorem list_eq {a b : List Nat} (h : a.length = b.length) (h2 : ∀ i, i < a.length → a.getD i 0 = b.getD i 0) : a = b := by
  apply List.ext_getElem? 
  intro i
  by_cases c : i < a.length
  · have := h2 i c
    rw [List.getD_eq_getElem?_getD, List.getD_eq_getElem?_getD, List.getElem?_eq_getElem c, List.getElem?_eq_getElem (by omega)] at this
    rw [List.getElem?_eq_getElem c, List.getElem?_eq_getElem (by omega)]
    exact congrArg some this
  · rw [List.getElem?_eq_none (by omega), List.getElem?_eq_none (by omega)]
theorem b_nf {b : Bool} (h : (!b) = false) : b = true := by
  cases b
  · cases h
  · rfl
theorem sy_u {w : List Nat} {T : Tk} {i j : Nat} (hi : i < 11) (hj : j < 11) (h1 : sy w T i = true) (h2 : sy w T j = true) : i = j := by
  unfold sy at h1 h2
  rw [Bool.and_eq_true, Bool.and_eq_true, nb_iff] at h1 h2
  obtain ⟨-, a1, a2⟩ := h1
  obtain ⟨-, b1, b2⟩ := h2
  have a1 := of_decide_eq_true a1
  have b1 := of_decide_eq_true b1
  refine kw_inj i j hi hj (list_eq (by omega) (fun k hk => ?_))
  have c1 := of_decide_eq_true (b_nf (a2 k hk))
  have c2 := of_decide_eq_true (b_nf (b2 k (by omega)))
  exact c1.symm.trans c2
theorem wkR_spec (w : List Nat) (T : Tk) : ∀ d n, n + d = 11 → (∀ m, m < n → sy w T m = false) → (∃ i, i < 11 ∧ sy w T i = true ∧ wkR w T d n = nI i) ∨ ((∀ i, i < 11 → sy w T i = false) ∧ wkR w T d n = -4)
  | 0, n, h, hm => Or.inr ⟨fun i hi => hm i (by omega), rfl⟩
  | d + 1, n, h, hm => by
    cases c : sy w T n with
    | true =>
      refine Or.inl ⟨n, by omega, c, ?_⟩
      show (if sy w T n then nI n else _) = nI n
      rw [c, if_pos rfl]
    | false =>
      have := wkR_spec w T d (n + 1) (by omega) (fun m hm2 => by
        by_cases e : m = n
        · subst e; exact c
        · exact hm m (by omega))
      rw [show wkR w T (d + 1) n = wkR w T d (n + 1) by show (if sy w T n then nI n else _) = _; rw [c, if_neg (by decide)]]
      exact this
theorem wk_c (w : List Nat) (T : Tk) : (∃ i, i < 11 ∧ sy w T i = true ∧ (∀ j, j < 11 → j ≠ i → sy w T j = false) ∧ wkR w T 11 0 = nI i) ∨ ((∀ i, i < 11 → sy w T i = false) ∧ wkR w T 11 0 = -4) := by
  rcases wkR_spec w T 11 0 (by decide) (fun m hm => absurd hm (by omega)) with ⟨i, h1, h2, h3⟩ | h
  · refine Or.inl ⟨i, h1, h2, fun j hj hji => ?_, h3⟩
    cases c : sy w T j with
    | false => rfl
    | true => exact absurd (sy_u hj h1 c h2) hji
  · exact Or.inr h
/-- tKind by the word -/
theorem tK_ok {w : List Nat} {p i : Nat} (h4 : ¬ (tok w p).1 = 4) (h6 : 6 ≤ i) (hi : i < 11) (hs : sy w (tok w p) i = true) (hu : ∀ j, j < 11 → j ≠ i → sy w (tok w p) j = false) : tKind w p = .ok (i - 6, (tok w p).2.2.1) := by
  unfold tKind
  rw [if_neg h4]
  rcases (show i = 6 ∨ i = 7 ∨ i = 8 ∨ i = 9 ∨ i = 10 by omega) with rfl | rfl | rfl | rfl | rfl
  · rw [hs, if_pos rfl]
  · rw [hu 6 (by decide) (by decide), hs, if_neg (by decide), if_pos rfl]
  · rw [hu 6 (by decide) (by decide), hu 7 (by decide) (by decide), hs, if_neg (by decide), if_neg (by decide), if_pos rfl]
  · rw [hu 6 (by decide) (by decide), hu 7 (by decide) (by decide), hu 8 (by decide) (by decide), hs, if_neg (by decide), if_neg (by decide), if_neg (by decide), if_pos rfl]
  · rw [hu 6 (by decide) (by decide), hu 7 (by decide) (by decide), hu 8 (by decide) (by decide), hu 9 (by decide) (by decide), hs, if_neg (by decide), if_neg (by decide), if_neg (by decide), if_neg (by decide), if_pos rfl]
theorem tK_er {w : List Nat} {p : Nat} (h4 : ¬ (tok w p).1 = 4) (hu : ∀ j, 6 ≤ j → j < 11 → sy w (tok w p) j = false) : tKind w p = .error (2, (tok w p).2.1) := by
  unfold tKind
  rw [if_neg h4, hu 6 (by decide) (by decide), hu 7 (by decide) (by decide), hu 8 (by decide) (by decide), hu 9 (by decide) (by decide), hu 10 (by decide) (by decide)]
  rfl
/-- the states of a one, one behind the other: k the kind, e the reader behind it -/
def onN (w : List Nat) (e : Er) : List Nat := match e with
  | .error _ => []
  | .ok p => match tWord w 10 p with
    | .error _ => []
    | .ok x => ltrs w x.1 (x.2 - x.1)
def on4 (w : List Nat) (e : Er) : Er := adN w (loE w 10 e)
def on5 (w : List Nat) (e : Er) : Er := nuE w 0 99 (on4 w e)
def on6 (w : List Nat) (e : Er) : Er := nuE w 0 99 (on5 w e)
def onP (w : List Nat) (P : PS) (k : Nat) (e : Er) : PS := pOne P k (nuV w 0 99 (on4 w e)) (nuV w 0 99 (on5 w e)) (onN w e)
/-- what is kept while a one is read: nothing of the page but the place a -/
def onK (M : ab_M) (P : PS) (I : Nat → Nat → Int32) : Prop := lfr M.1 I ∧ (∀ a, a ≠ 172 → a ≠ 176 → I a = M.1 a) ∧ (∀ j, j < 16 → I 172 j = M.1 172 j) ∧ ∀ j, (j < 24 * P.1.1.2.1.length ∨ 24 * P.1.1.2.1.length + 24 ≤ j) → I 176 j = M.1 176 j
theorem onK_r {M : ab_M} {P : PS} {I I' : Nat → Nat → Int32} (h : onK M P I) (hf : rfr I I') : onK M P I' := ⟨lfr_tr h.1 (lfr_r hf), fun a a1 a2 => by rw [hf.1 a a1]; exact h.2.1 a a1 a2, fun j hj => by rw [hf.2 j (by omega)]; exact h.2.2.1 j hj, fun j hj => by rw [hf.1 176 (by decide)]; exact h.2.2.2 j hj⟩
theorem onK_u {M : ab_M} {P : PS} {I : Nat → Nat → Int32} {k : Nat} {v : Int32} (h : onK M P I) (hk : 24 * P.1.1.2.1.length ≤ k ∧ k < 24 * P.1.1.2.1.length + 24) : onK M P (ab_u I 176 k v) := ⟨lfr_tr h.1 (lfr_w (Or.inl rfl)), fun a a1 a2 => by rw [ab_u_ne a2]; exact h.2.1 a a1 a2, fun j hj => by rw [ab_u_ne (by decide)]; exact h.2.2.1 j hj, fun j hj => by rw [ab_u_j (by omega)]; exact h.2.2.2 j hj⟩
theorem onK_pv {M : ab_M} {P : PS} {I : Nat → Nat → Int32} {k d m : Nat} {nm : List Nat} (hv : pv M.1 P) (h : onK M P I) (h8 : P.1.1.2.1.length < 8) (hq : pn_r (I 176) (24 * P.1.1.2.1.length) (k, d, m, nm)) : pv (ab_u I 176 192 (nI (P.1.1.2.1.length + 1))) (pOne P k d m nm) := by
  obtain ⟨v1, ⟨v2, v3, v4⟩, ⟨v5, v6, v7⟩, v8, v9, v10⟩ := hv
  obtain ⟨k1, k2, k3, k4⟩ := h
  have e : ab_u I 176 192 (nI (P.1.1.2.1.length + 1)) 172 = I 172 := ab_u_ne (by decide)
  refine ⟨?_, ⟨by rw [e, k3 8 (by decide)]; exact v2, v3, by rw [ab_u_ne (by decide), k2 177 (by decide) (by decide)]; exact v4⟩, ⟨by rw [e, k3 9 (by decide)]; exact v5, v6, by rw [ab_u_ne (by decide), k2 178 (by decide) (by decide)]; exact v7⟩, by rw [e, k3 10 (by decide)]; exact v8, by rw [e, k3 11 (by decide)]; exact v9, by rw [e, k3 12 (by decide)]; exact v10⟩
  rw [ab_u_r]
  exact pg_push v1 h8 (fun j j1 j2 j3 => by rw [va_up_n j3]; exact k4 j j2) (va_up_at _ _ _) (pn_cong (fun j j1 j2 => va_up_n (by omega)) hq)
theorem ro_5 {w : List Nat} {P : PS} {k n v5 v6 : Nat} {nm : List Nat} {e : Er} {z3 z4 : Option Value} {I I2 I3 : Nat → Nat → Int32} (h : ab_H) (M : ab_M) (hl : rL h M.2.2) (hv : pv M.1 P) (h8 : n < 8) (hn : P.1.1.2.1.length = n) (hK : onK M P I) (c0 : I 176 (24 * n) = nI k) (hk4 : k ≤ 4) (c3' : I 176 (24 * n + 3) = nI nm.length) (h20 : nm.length ≤ 20) (cl : ∀ j, j < nm.length → I 176 (24 * n + 4 + j) = nI (nm.getD j 0) ∧ nm.getD j 0 < 26) (K3 : onK M P I3) (r2 : rfr I I2) (r3 : rfr (ab_u I2 176 (24 * n + 1) (nI v5)) I3) (he : rs2 I3 w e) (h5 : v5 ≤ 99) (h6 : v6 ≤ 99) : pr_T pX11_readOne 130 [some (.ref 172), some (.int (nI k)), some (.int (nI (24 * n))), z3, z4] [.int (nI v6), .int (nI (24 * n + 2)), .ref 176] h (I3, M.2) (ln2_p M w e (pOne P k v5 v6 nm) none) := by
  obtain ⟨k172, rS, rLs, rKn, rPg, rRl, rRk, rTp, rCu, rLe, rLt, rSm, rIk, rLn, rLg, rCe, ⟨kS, nS⟩, ⟨kLs, nLs⟩, ⟨kKn, nKn⟩, ⟨kPg, nPg⟩, ⟨kRl, nRl⟩, ⟨kRk, nRk⟩, ⟨kTp, nTp⟩, ⟨kCu, nCu⟩, ⟨kLe, nLe⟩, ⟨kLt, nLt⟩, ⟨kSm, nSm⟩, ⟨kIk, nIk⟩, ⟨kLn, nLn⟩, ⟨kLg, nLg⟩, kCe, nCe⟩ := id hl
  have g192 : M.1 176 192 = nI n := by rw [← hn]; exact hv.1.1
  have K4 := onK_u (k := 24 * n + 2) (v := nI v6) K3 (by rw [hn]; omega)
  have z192 : ab_u I3 176 (24 * n + 2) (nI v6) 176 192 = nI n := by rw [K4.2.2.2 192 (by rw [hn]; omega)]; exact g192
  have cell : ∀ j, j ≠ 24 * n + 1 → I3 176 j = I 176 j := fun j hj => by rw [r3.1 176 (by decide), ab_u_j hj, r2.1 176 (by decide)]
  have hq : pn_r (ab_u I3 176 (24 * n + 2) (nI v6) 176) (24 * P.1.1.2.1.length) (k, v5, v6, nm) := by
    rw [hn, ab_u_r]
    exact ⟨by rw [va_up_n (by omega), cell _ (by omega)]; exact c0, hk4, by show va_up (I3 176) (24 * n + 2) (nI v6) (24 * n + 1) = nI v5; rw [va_up_n (by omega), r3.1 176 (by decide), ab_u_at], h5, va_up_at _ _ _, h6, by show va_up (I3 176) (24 * n + 2) (nI v6) (24 * n + 3) = nI nm.length; rw [va_up_n (by omega), cell _ (by omega)]; exact c3', h20, fun j hj => by have hj : j < nm.length := hj; rw [va_up_n (by omega), cell _ (by omega)]; exact cl j hj⟩
  have hp := onK_pv hv K4 (by rw [hn]; exact h8) hq
  rw [hn] at hp
  refine pr_seqT (pc' := 143) 9 rfl ⟨⟨⟨⟨⟨⟨⟨⟨⟨trivial, (by (try simp (disch := omega) only [z192, rPg, rI_mul, nI_add, nI_1, nI_clamp, c24, c192, pr_16_192, pr_8_10, pr_8_24, pr_8_6, pr_8_97, pr_8_99, pr_i_0, pr_i_1, pr_i_2, pr_i_3, pr_i_4]); exact ⟨by assumption, rvin (by assumption) (by omega) (by decide)⟩)⟩, (by first | decide | assumption)⟩, (by assumption)⟩, trivial⟩, trivial⟩, (by (try simp (disch := omega) only [z192, rPg, rI_mul, nI_add, nI_1, nI_clamp, c24, c192, pr_16_192, pr_8_10, pr_8_24, pr_8_6, pr_8_97, pr_8_99, pr_i_0, pr_i_1, pr_i_2, pr_i_3, pr_i_4]); exact ⟨Or.inl (by assumption), rvin (by assumption) (by omega) (by decide)⟩)⟩, trivial⟩, trivial⟩, (by (try simp (disch := omega) only [z192, rPg, rI_mul, nI_add, nI_1, nI_clamp, c24, c192, pr_16_192, pr_8_10, pr_8_24, pr_8_6, pr_8_97, pr_8_99, pr_i_0, pr_i_1, pr_i_2, pr_i_3, pr_i_4]); exact ⟨by assumption, rvin (by assumption) (by omega) (by decide)⟩)⟩ ?_
  try simp (disch := omega) only [z192, rPg, rI_mul, nI_add, nI_1, nI_clamp, c24, c192, pr_16_192, pr_8_10, pr_8_24, pr_8_6, pr_8_97, pr_8_99, pr_i_0, pr_i_1, pr_i_2, pr_i_3, pr_i_4]
  exact pr_vrT rfl rfl (by exact ⟨rfl, rfl, lfr_tr K4.1 (lfr_w (Or.inl rfl)), rs2_u (Or.inl (by decide)) (rs2_u (Or.inl (by decide)) he), fun _ => hp⟩)
theorem ro_4 {w : List Nat} {P : PS} {k : Nat} {nm : List Nat} {e : Er} {z3 z4 : Option Value} (h : ab_H) (M : ab_M) (hl : rL h M.2.2) (hw : tp_r M.1 w) (hv : pv M.1 P) (h8 : P.1.1.2.1.length < 8) (I : Nat → Nat → Int32) (hK : onK M P I) (he : rs2 I w e) (c0 : I 176 (24 * P.1.1.2.1.length) = nI k) (hk4 : k ≤ 4) (c3' : I 176 (24 * P.1.1.2.1.length + 3) = nI nm.length) (h20 : nm.length ≤ 20) (cl : ∀ j, j < nm.length → I 176 (24 * P.1.1.2.1.length + 4 + j) = nI (nm.getD j 0) ∧ nm.getD j 0 < 26) : pr_T pX11_readOne 97 [some (.ref 172), some (.int (nI k)), some (.int (nI (24 * P.1.1.2.1.length))), z3, z4] [] h (I, M.2) (ln2_p M w (nuE w 0 99 (nuE w 0 99 (adN w e))) (pOne P k (nuV w 0 99 (adN w e)) (nuV w 0 99 (nuE w 0 99 (adN w e))) nm) none) := by
  obtain ⟨k172, rS, rLs, rKn, rPg, rRl, rRk, rTp, rCu, rLe, rLt, rSm, rIk, rLn, rLg, rCe, ⟨kS, nS⟩, ⟨kLs, nLs⟩, ⟨kKn, nKn⟩, ⟨kPg, nPg⟩, ⟨kRl, nRl⟩, ⟨kRk, nRk⟩, ⟨kTp, nTp⟩, ⟨kCu, nCu⟩, ⟨kLe, nLe⟩, ⟨kLt, nLt⟩, ⟨kSm, nSm⟩, ⟨kIk, nIk⟩, ⟨kLn, nLn⟩, ⟨kLg, nLg⟩, kCe, nCe⟩ := id hl
  have hst := q_adv h (I, M.2) hl (lfr_tp hK.1 hw) he
  generalize adN w e = e4 at *
  have g192 : M.1 176 192 = nI P.1.1.2.1.length := hv.1.1
  generalize hn : P.1.1.2.1.length = n at *
  refine pr_seqT (pc' := 98) 1 rfl ⟨trivial, (by first | decide | assumption)⟩ ?_
  try simp (disch := omega) only [c2, rPg, rI_mul, nI_add, nI_1, nI_clamp, c24, c192, pr_16_192, pr_8_10, pr_8_24, pr_8_6, pr_8_97, pr_8_99, pr_i_0, pr_i_1, pr_i_2, pr_i_3, pr_i_4]
  refine pr_cvX [] rfl rfl rfl rfl rfl (Nat.le_of_ble_eq_true rfl) (by first | assumption | decide | (simp (disch := omega) only [c2, rPg, rI_mul, nI_add, nI_1, nI_clamp, c24, c192, pr_16_192, pr_8_10, pr_8_24, pr_8_6, pr_8_97, pr_8_99, pr_i_0, pr_i_1, pr_i_2, pr_i_3, pr_i_4]; first | assumption | exact ⟨Or.inl (by assumption), rvin (by assumption) (by omega) (by decide)⟩ | exact ⟨by assumption, rvin (by assumption) (by omega) (by decide)⟩ | exact ⟨⟨by omega, by omega⟩, rvin (by assumption) (by omega) (by decide)⟩ | exact ⟨Or.inr (by assumption), rvin (by assumption) (by omega) (by decide)⟩ | exact ⟨Or.inr ⟨by assumption, (by first | exact Or.inl rfl | exact Or.inr rfl | exact pr_b01 _)⟩, rvin (by assumption) (by omega) (by decide)⟩ | exact ⟨by assumption, by assumption⟩ | decide | omega)) (Nat.le_of_ble_eq_true rfl) (hst) (fun v98 M98 q98 => ?_)
  obtain ⟨rfl, w1, w2, w3⟩ := q98
  obtain ⟨I1, Z1⟩ := M98
  dsimp only at w1 w2 w3
  subst w1
  have K1 := onK_r hK w2
  have hnu := q_number (lo := 0) (hi := 99) h (I1, M.2) hl (lfr_tp K1.1 hw) w3 (by decide) (by decide)
  have hv5 := nuV_le (lo := 0) (hi := 99) w3 (by decide)
  refine pr_seqT (pc' := 112) 8 rfl ⟨⟨⟨⟨⟨⟨⟨⟨trivial, (by first | decide | assumption)⟩, (by assumption)⟩, trivial⟩, trivial⟩, trivial⟩, (by first | decide | assumption)⟩, trivial⟩, trivial⟩ ?_
  try simp (disch := omega) only [c2, rPg, rI_mul, nI_add, nI_1, nI_clamp, c24, c192, pr_16_192, pr_8_10, pr_8_24, pr_8_6, pr_8_97, pr_8_99, pr_i_0, pr_i_1, pr_i_2, pr_i_3, pr_i_4]
  refine pr_cvX [_, _] rfl rfl rfl rfl rfl (Nat.le_of_ble_eq_true rfl) (by first | assumption | decide | (simp (disch := omega) only [c2, rPg, rI_mul, nI_add, nI_1, nI_clamp, c24, c192, pr_16_192, pr_8_10, pr_8_24, pr_8_6, pr_8_97, pr_8_99, pr_i_0, pr_i_1, pr_i_2, pr_i_3, pr_i_4]; first | assumption | exact ⟨Or.inl (by assumption), rvin (by assumption) (by omega) (by decide)⟩ | exact ⟨by assumption, rvin (by assumption) (by omega) (by decide)⟩ | exact ⟨⟨by omega, by omega⟩, rvin (by assumption) (by omega) (by decide)⟩ | exact ⟨Or.inr (by assumption), rvin (by assumption) (by omega) (by decide)⟩ | exact ⟨Or.inr ⟨by assumption, (by first | exact Or.inl rfl | exact Or.inr rfl | exact pr_b01 _)⟩, rvin (by assumption) (by omega) (by decide)⟩ | exact ⟨by assumption, by assumption⟩ | decide | omega)) (Nat.le_of_ble_eq_true rfl) (hnu) (fun v112 M112 q112 => ?_)
  obtain ⟨rfl, u1, u2, u3⟩ := q112
  obtain ⟨I2, Z2⟩ := M112
  dsimp only at u1 u2 u3
  subst u1
  have K2 := onK_u (k := 24 * n + 1) (v := nI (nuV w 0 99 e4)) (onK_r K1 u2) (by rw [hn]; omega)
  have hnu2 := q_number (lo := 0) (hi := 99) h (ab_u I2 176 (24 * n + 1) (nI (nuV w 0 99 e4)), M.2) hl (lfr_tp K2.1 hw) (rs2_u (Or.inl (by decide)) u3) (by decide) (by decide)
  have hv6 := nuV_le (lo := 0) (hi := 99) u3 (by decide)
  refine pr_seqT (pc' := 127) 9 rfl ⟨⟨⟨⟨⟨⟨⟨⟨⟨trivial, (by (try simp (disch := omega) only [c2, rPg, rI_mul, nI_add, nI_1, nI_clamp, c24, c192, pr_16_192, pr_8_10, pr_8_24, pr_8_6, pr_8_97, pr_8_99, pr_i_0, pr_i_1, pr_i_2, pr_i_3, pr_i_4]); exact ⟨by assumption, rvin (by assumption) (by omega) (by decide)⟩)⟩, (by first | decide | assumption)⟩, (by assumption)⟩, trivial⟩, trivial⟩, trivial⟩, (by first | decide | assumption)⟩, trivial⟩, trivial⟩ ?_
  try simp (disch := omega) only [c2, rPg, rI_mul, nI_add, nI_1, nI_clamp, c24, c192, pr_16_192, pr_8_10, pr_8_24, pr_8_6, pr_8_97, pr_8_99, pr_i_0, pr_i_1, pr_i_2, pr_i_3, pr_i_4]
  refine pr_cvX [_, _] rfl rfl rfl rfl rfl (Nat.le_of_ble_eq_true rfl) (by first | assumption | decide | (simp (disch := omega) only [c2, rPg, rI_mul, nI_add, nI_1, nI_clamp, c24, c192, pr_16_192, pr_8_10, pr_8_24, pr_8_6, pr_8_97, pr_8_99, pr_i_0, pr_i_1, pr_i_2, pr_i_3, pr_i_4]; first | assumption | exact ⟨Or.inl (by assumption), rvin (by assumption) (by omega) (by decide)⟩ | exact ⟨by assumption, rvin (by assumption) (by omega) (by decide)⟩ | exact ⟨⟨by omega, by omega⟩, rvin (by assumption) (by omega) (by decide)⟩ | exact ⟨Or.inr (by assumption), rvin (by assumption) (by omega) (by decide)⟩ | exact ⟨Or.inr ⟨by assumption, (by first | exact Or.inl rfl | exact Or.inr rfl | exact pr_b01 _)⟩, rvin (by assumption) (by omega) (by decide)⟩ | exact ⟨by assumption, by assumption⟩ | decide | omega)) (Nat.le_of_ble_eq_true rfl) (hnu2) (fun v127 M127 q127 => ?_)
  obtain ⟨rfl, x1, x2, x3⟩ := q127
  obtain ⟨I3, Z3⟩ := M127
  dsimp only at x1 x2 x3
  subst x1
  exact ro_5 h M hl hv h8 hn hK c0 hk4 c3' h20 cl (onK_r K2 x2) (rfr_tr w2 u2) x2 x3 hv5.2 hv6.2
/-- the letters of a name, one by one -/
theorem ro_3 {w : List Nat} {P : PS} {k p : Nat} {x : Nat × Nat} (h : ab_H) (M : ab_M) (hl : rL h M.2.2) (hw : tp_r M.1 w) (hv : pv M.1 P) (h8 : P.1.1.2.1.length < 8) (hk4 : k ≤ 4) (hp : p ≤ w.length) (ct : tWord w 10 p = .ok x) (hx : x.1 = (tok w p).2.1) : ∀ dd i, i + dd = x.2 - x.1 → ∀ I : Nat → Nat → Int32, onK M P I → rs2 I w (.ok p) → I 176 (24 * P.1.1.2.1.length) = nI k → I 176 (24 * P.1.1.2.1.length + 3) = nI (x.2 - x.1) → (∀ j, j < i → I 176 (24 * P.1.1.2.1.length + 4 + j) = nI (w.getD (x.1 + j) 0 - 97)) → pr_T pX11_readOne 60 [some (.ref 172), some (.int (nI k)), some (.int (nI (24 * P.1.1.2.1.length))), some (.int (nI (x.2 - x.1))), some (.int (nI i))] [] h (I, M.2) (ln2_p M w (nuE w 0 99 (nuE w 0 99 (adN w (.ok p)))) (pOne P k (nuV w 0 99 (adN w (.ok p))) (nuV w 0 99 (nuE w 0 99 (adN w (.ok p)))) (ltrs w x.1 (x.2 - x.1))) none) := by
  obtain ⟨k172, rS, rLs, rKn, rPg, rRl, rRk, rTp, rCu, rLe, rLt, rSm, rIk, rLn, rLg, rCe, ⟨kS, nS⟩, ⟨kLs, nLs⟩, ⟨kKn, nKn⟩, ⟨kPg, nPg⟩, ⟨kRl, nRl⟩, ⟨kRk, nRk⟩, ⟨kTp, nTp⟩, ⟨kCu, nCu⟩, ⟨kLe, nLe⟩, ⟨kLt, nLt⟩, ⟨kSm, nSm⟩, ⟨kIk, nIk⟩, ⟨kLn, nLn⟩, ⟨kLg, nLg⟩, kCe, nCe⟩ := id hl
  have hw2 := hw.2.1
  obtain ⟨o1, o2, o3, o4, o5⟩ := tWord_ok (s := x.1) (e := x.2) hp ct
  have c97 : (97 : Int32) = nI 97 := rfl
  intro dd
  induction dd with
  | zero =>
    intro i hi I hK he c0 c3' cl
    obtain rfl : i = x.2 - x.1 := by omega
    have e1 : nI (x.2 - x.1) ≤ nI (x.2 - x.1) := nI_le (Nat.le_refl _) (by omega)
    have hlen := ltrs_len w x.1 (x.2 - x.1)
    have h0 := ro_4 (nm := ltrs w x.1 (x.2 - x.1)) (z3 := some (.int (nI (x.2 - x.1)))) (z4 := some (.int (nI (x.2 - x.1)))) h M hl hw hv h8 I hK he c0 hk4 (by rw [hlen]; exact c3') (by omega) (fun j hj => by
      rw [hlen] at hj
      have hg : (ltrs w x.1 (x.2 - x.1)).getD j 0 = w.getD (x.1 + j) 0 - 97 := by
        unfold ltrs
        rw [List.getD_eq_getElem?_getD, List.getElem?_map, List.getElem?_range hj]
        rfl
      rw [hg]
      have := o5 (x.1 + j) (by omega) (by omega)
      exact ⟨cl j hj, by omega⟩)
    refine pr_seqT (pc' := 63) 2 rfl ⟨⟨trivial, trivial⟩, trivial⟩ ?_
    try simp (disch := omega) only [rPg, rI_mul, nI_add, nI_1, nI_clamp, c24, c192, pr_16_192, pr_8_10, pr_8_24, pr_8_6, pr_8_97, pr_8_99, pr_i_0, pr_i_1, pr_i_2, pr_i_3, pr_i_4]
    refine pr_icT rfl (fun h63 => ?_) (fun h63 => ?_)
    · simp only [ab_cmp, pr_16_192, pr_8_10, pr_8_24, pr_8_6, pr_8_97, pr_8_99, pr_i_0, pr_i_1, pr_i_2, pr_i_3, pr_i_4] at h63
      first
      | contradiction
      | exact absurd trivial h63
      | exact absurd h63 (by decide)
      | exact absurd (Classical.not_not.mp h63) (by decide)
      | skip
        exact h0
    · simp only [ab_cmp, pr_16_192, pr_8_10, pr_8_24, pr_8_6, pr_8_97, pr_8_99, pr_i_0, pr_i_1, pr_i_2, pr_i_3, pr_i_4] at h63
      exact absurd e1 h63
  | succ dd ih =>
    intro i hi I hK he c0 c3' cl
    have e1 : ¬ nI (x.2 - x.1) ≤ nI i := nI_ge (by omega) (by omega)
    obtain ⟨b1, b2⟩ := o5 (x.1 + i) (by omega) (by omega)
    have hby := q_byteAt (q := x.1 + i) h (I, M.2) hl (lfr_tp hK.1 hw) (by omega)
    rw [show bA w (x.1 + i) = nI (w.getD (x.1 + i) 0) by unfold bA; rw [if_pos (by omega)]] at hby
    have e4 : I 172 19 = nI x.1 := by rw [hx]; exact he.2.2.2.2.1
    have esub : nI (w.getD (x.1 + i) 0) - nI 97 = nI (w.getD (x.1 + i) 0 - 97) := i_sub b1
    have hh := ih (i + 1) (by omega) (ab_u I 176 (24 * P.1.1.2.1.length + 4 + i) (nI (w.getD (x.1 + i) 0 - 97))) (onK_u hK (by omega)) (rs2_u (Or.inl (by decide)) he) (by rw [ab_u_j (by omega)]; exact c0) (by rw [ab_u_j (by omega)]; exact c3') (fun j hj => by
      by_cases e : j = i
      · rw [e, ab_u_at]
      · rw [ab_u_j (by omega)]; exact cl j (by omega))
    refine pr_seqT (pc' := 63) 2 rfl ⟨⟨trivial, trivial⟩, trivial⟩ ?_
    try simp (disch := omega) only [c4, c97, e4, esub, rPg, rI_mul, nI_add, nI_1, nI_clamp, c24, c192, pr_16_192, pr_8_10, pr_8_24, pr_8_6, pr_8_97, pr_8_99, pr_i_0, pr_i_1, pr_i_2, pr_i_3, pr_i_4]
    refine pr_icT rfl (fun h63 => ?_) (fun h63 => ?_)
    · simp only [ab_cmp, pr_16_192, pr_8_10, pr_8_24, pr_8_6, pr_8_97, pr_8_99, pr_i_0, pr_i_1, pr_i_2, pr_i_3, pr_i_4] at h63
      exact absurd h63 e1
    · simp only [ab_cmp, pr_16_192, pr_8_10, pr_8_24, pr_8_6, pr_8_97, pr_8_99, pr_i_0, pr_i_1, pr_i_2, pr_i_3, pr_i_4] at h63
      first
      | contradiction
      | exact absurd trivial h63
      | exact absurd h63 (by decide)
      | exact absurd (Classical.not_not.mp h63) (by decide)
      | skip
        refine pr_seqT (pc' := 84) 12 rfl ⟨⟨⟨⟨⟨⟨⟨⟨⟨⟨⟨⟨trivial, (by first | decide | assumption)⟩, (by assumption)⟩, trivial⟩, trivial⟩, trivial⟩, trivial⟩, trivial⟩, (by first | decide | assumption)⟩, (by first | decide | assumption)⟩, (by assumption)⟩, trivial⟩, trivial⟩ ?_
        try simp (disch := omega) only [c4, c97, e4, esub, rPg, rI_mul, nI_add, nI_1, nI_clamp, c24, c192, pr_16_192, pr_8_10, pr_8_24, pr_8_6, pr_8_97, pr_8_99, pr_i_0, pr_i_1, pr_i_2, pr_i_3, pr_i_4]
        refine pr_cvT [_] rfl rfl rfl rfl rfl (Nat.le_of_ble_eq_true rfl) (by first | assumption | decide | (simp (disch := omega) only [c4, c97, e4, esub, rPg, rI_mul, nI_add, nI_1, nI_clamp, c24, c192, pr_16_192, pr_8_10, pr_8_24, pr_8_6, pr_8_97, pr_8_99, pr_i_0, pr_i_1, pr_i_2, pr_i_3, pr_i_4]; first | assumption | exact ⟨Or.inl (by assumption), rvin (by assumption) (by omega) (by decide)⟩ | exact ⟨by assumption, rvin (by assumption) (by omega) (by decide)⟩ | exact ⟨⟨by omega, by omega⟩, rvin (by assumption) (by omega) (by decide)⟩ | exact ⟨Or.inr (by assumption), rvin (by assumption) (by omega) (by decide)⟩ | exact ⟨Or.inr ⟨by assumption, (by first | exact Or.inl rfl | exact Or.inr rfl | exact pr_b01 _)⟩, rvin (by assumption) (by omega) (by decide)⟩ | exact ⟨by assumption, by assumption⟩ | decide | omega)) (Nat.le_of_ble_eq_true rfl) (hby) ?_
        refine pr_seqT (pc' := 60) 5 rfl ⟨⟨⟨⟨⟨trivial, trivial⟩, trivial⟩, (by (try simp (disch := omega) only [c4, c97, e4, esub, rPg, rI_mul, nI_add, nI_1, nI_clamp, c24, c192, pr_16_192, pr_8_10, pr_8_24, pr_8_6, pr_8_97, pr_8_99, pr_i_0, pr_i_1, pr_i_2, pr_i_3, pr_i_4]); exact ⟨by assumption, rvin (by assumption) (by omega) (by decide)⟩)⟩, trivial⟩, trivial⟩ ?_
        try simp (disch := omega) only [c4, c97, e4, esub, rPg, rI_mul, nI_add, nI_1, nI_clamp, c24, c192, pr_16_192, pr_8_10, pr_8_24, pr_8_6, pr_8_97, pr_8_99, pr_i_0, pr_i_1, pr_i_2, pr_i_3, pr_i_4]
        exact hh
def oneE (w : List Nat) (p : Nat) : Er := match tKind w p with
  | .error q => .error q
  | .ok x => on6 w (stN w x.2)
def oneP (w : List Nat) (P : PS) (p : Nat) : PS := match tKind w p with
  | .error _ => P
  | .ok x => onP w P x.1 (stN w x.2)
theorem ro_1 {w : List Nat} {P : PS} {k : Nat} {e : Er} {I I1 : Nat → Nat → Int32} {z3 z4 : Option Value} (h : ab_H) (M : ab_M) (hl : rL h M.2.2) (hw : tp_r M.1 w) (hv : pv M.1 P) (h8 : P.1.1.2.1.length < 8) (hk4 : k ≤ 4) (K1 : onK M P (ab_u I 176 (24 * P.1.1.2.1.length) (nI k))) (r1 : rfr (ab_u I 176 (24 * P.1.1.2.1.length) (nI k)) I1) (he1 : rs2 I1 w (loE w 10 e)) (he : rs2 I w e) : pr_T pX11_readOne 47 [some (.ref 172), some (.int (nI k)), some (.int (nI (24 * P.1.1.2.1.length))), z3, z4] [.int (nI (loV w 10 e))] h (I1, M.2) (ln2_p M w (on6 w e) (onP w P k e) none) := by
  obtain ⟨k172, rS, rLs, rKn, rPg, rRl, rRk, rTp, rCu, rLe, rLt, rSm, rIk, rLn, rLg, rCe, ⟨kS, nS⟩, ⟨kLs, nLs⟩, ⟨kKn, nKn⟩, ⟨kPg, nPg⟩, ⟨kRl, nRl⟩, ⟨kRk, nRk⟩, ⟨kTp, nTp⟩, ⟨kCu, nCu⟩, ⟨kLe, nLe⟩, ⟨kLt, nLt⟩, ⟨kSm, nSm⟩, ⟨kIk, nIk⟩, ⟨kLn, nLn⟩, ⟨kLg, nLg⟩, kCe, nCe⟩ := id hl
  have hw2 := hw.2.1
  have K2 := onK_u (k := 24 * P.1.1.2.1.length + 3) (v := nI (loV w 10 e)) (onK_r K1 r1) (by omega)
  have c0 : ab_u I1 176 (24 * P.1.1.2.1.length + 3) (nI (loV w 10 e)) 176 (24 * P.1.1.2.1.length) = nI k := by rw [ab_u_j (by omega), r1.1 176 (by decide), ab_u_at]
  have c3' : ab_u I1 176 (24 * P.1.1.2.1.length + 3) (nI (loV w 10 e)) 176 (24 * P.1.1.2.1.length + 3) = nI (loV w 10 e) := ab_u_at
  have he2 := rs2_u (a := 176) (k := 24 * P.1.1.2.1.length + 3) (v := nI (loV w 10 e)) (Or.inl (by decide)) he1
  unfold on6 on5 onP on5 on4 onN
  have err : ∀ q, loE w 10 e = .error q → loV w 10 e = 0 → pr_T pX11_readOne 47 [some (.ref 172), some (.int (nI k)), some (.int (nI (24 * P.1.1.2.1.length))), z3, z4] [.int (nI (loV w 10 e))] h (I1, M.2) (ln2_p M w (nuE w 0 99 (nuE w 0 99 (adN w (loE w 10 e)))) (pOne P k (nuV w 0 99 (adN w (loE w 10 e))) (nuV w 0 99 (nuE w 0 99 (adN w (loE w 10 e)))) []) none) := by
    intro q hq hz
    have h0 := ro_4 (nm := []) (z3 := some (.int (nI 0))) (z4 := some (.int (nI 0))) h M hl hw hv h8 _ K2 he2 c0 hk4 (by rw [c3', hz]; rfl) (by decide) (fun j hj => absurd hj (by show ¬ j < 0; omega))
    rw [hz] at h0 ⊢
    have e1 : nI 0 ≤ nI 0 := by decide
    refine pr_seqT (pc' := 63) 12 rfl ⟨⟨⟨⟨⟨⟨⟨⟨⟨⟨⟨⟨trivial, trivial⟩, (by first | decide | assumption)⟩, (by assumption)⟩, trivial⟩, trivial⟩, trivial⟩, trivial⟩, (by (try simp (disch := omega) only [c3, rPg, rI_mul, nI_add, nI_1, nI_clamp, c24, c192, pr_16_192, pr_8_10, pr_8_24, pr_8_6, pr_8_97, pr_8_99, pr_i_0, pr_i_1, pr_i_2, pr_i_3, pr_i_4]); exact ⟨by assumption, rvin (by assumption) (by omega) (by decide)⟩)⟩, trivial⟩, trivial⟩, trivial⟩, trivial⟩ ?_
    try simp (disch := omega) only [c3, rPg, rI_mul, nI_add, nI_1, nI_clamp, c24, c192, pr_16_192, pr_8_10, pr_8_24, pr_8_6, pr_8_97, pr_8_99, pr_i_0, pr_i_1, pr_i_2, pr_i_3, pr_i_4]
    refine pr_icT rfl (fun h63 => ?_) (fun h63 => ?_)
    · simp only [ab_cmp, pr_16_192, pr_8_10, pr_8_24, pr_8_6, pr_8_97, pr_8_99, pr_i_0, pr_i_1, pr_i_2, pr_i_3, pr_i_4] at h63
      first
      | contradiction
      | exact absurd trivial h63
      | exact absurd h63 (by decide)
      | exact absurd (Classical.not_not.mp h63) (by decide)
      | skip
        exact h0
    · simp only [ab_cmp, pr_16_192, pr_8_10, pr_8_24, pr_8_6, pr_8_97, pr_8_99, pr_i_0, pr_i_1, pr_i_2, pr_i_3, pr_i_4] at h63
      exact absurd e1 h63
  cases e with
  | error q => exact err q rfl rfl
  | ok p =>
    have hE : loE w 10 (.ok p) = match tWord w 10 p with
      | .error q => .error q
      | .ok _ => .ok p := rfl
    have hV : loV w 10 (.ok p) = match tWord w 10 p with
      | .error _ => 0
      | .ok x => x.2 - x.1 := rfl
    cases ct : tWord w 10 p with
    | error q =>
      rw [ct] at hE hV
      have := err q hE hV
      dsimp only
      rw [ct]
      exact this
    | ok x =>
      rw [ct] at hE hV
      dsimp only at hE hV ⊢
      rw [ct]
      dsimp only
      rw [hE] at he2 ⊢
      rw [hV] at c0 c3' K2 he2 ⊢
      have hp : p ≤ w.length := he.1
      have e1' : ¬ (tok w p).1 = 4 := he.2.1
      have hxs : x.1 = (tok w p).2.1 := by
        unfold tWord at ct
        rw [if_neg e1'] at ct
        split at ct
        · split at ct
          · cases ct; rfl
          · cases ct
        · cases ct
      obtain ⟨o1, o2, o3, o4, o5⟩ := tWord_ok (s := x.1) (e := x.2) hp ct
      have h0 := ro_3 h M hl hw hv h8 hk4 hp ct hxs (x.2 - x.1) 0 (by omega) _ K2 he2 c0 c3' (fun j hj => absurd hj (by omega))
      refine pr_seqT (pc' := 60) 10 rfl ⟨⟨⟨⟨⟨⟨⟨⟨⟨⟨trivial, trivial⟩, (by first | decide | assumption)⟩, (by assumption)⟩, trivial⟩, trivial⟩, trivial⟩, trivial⟩, (by (try simp (disch := omega) only [c3, rPg, rI_mul, nI_add, nI_1, nI_clamp, c24, c192, pr_16_192, pr_8_10, pr_8_24, pr_8_6, pr_8_97, pr_8_99, pr_i_0, pr_i_1, pr_i_2, pr_i_3, pr_i_4]); exact ⟨by assumption, rvin (by assumption) (by omega) (by decide)⟩)⟩, trivial⟩, trivial⟩ ?_
      try simp (disch := omega) only [c3, rPg, rI_mul, nI_add, nI_1, nI_clamp, c24, c192, pr_16_192, pr_8_10, pr_8_24, pr_8_6, pr_8_97, pr_8_99, pr_i_0, pr_i_1, pr_i_2, pr_i_3, pr_i_4]
      exact h0
theorem ro_2 {w : List Nat} {P : PS} {k : Nat} {e : Er} {I : Nat → Nat → Int32} {z2 z3 z4 : Option Value} (h : ab_H) (M : ab_M) (hl : rL h M.2.2) (hw : tp_r M.1 w) (hv : pv M.1 P) (h8 : P.1.1.2.1.length < 8) (hk4 : k ≤ 4) (hf : rfr M.1 I) (he : rs2 I w e) : pr_T pX11_readOne 22 [some (.ref 172), some (.int (nI k)), z2, z3, z4] [] h (I, M.2) (ln2_p M w (on6 w e) (onP w P k e) none) := by
  obtain ⟨k172, rS, rLs, rKn, rPg, rRl, rRk, rTp, rCu, rLe, rLt, rSm, rIk, rLn, rLg, rCe, ⟨kS, nS⟩, ⟨kLs, nLs⟩, ⟨kKn, nKn⟩, ⟨kPg, nPg⟩, ⟨kRl, nRl⟩, ⟨kRk, nRk⟩, ⟨kTp, nTp⟩, ⟨kCu, nCu⟩, ⟨kLe, nLe⟩, ⟨kLt, nLt⟩, ⟨kSm, nSm⟩, ⟨kIk, nIk⟩, ⟨kLn, nLn⟩, ⟨kLg, nLg⟩, kCe, nCe⟩ := id hl
  have hw2 := hw.2.1
  have g192 : I 176 192 = nI P.1.1.2.1.length := by rw [hf.1 176 (by decide)]; exact hv.1.1
  have K0 : onK M P I := ⟨lfr_r hf, fun a a1 _ => hf.1 a a1, fun j hj => hf.2 j (by omega), fun j _ => by rw [hf.1 176 (by decide)]⟩
  have K1 := onK_u (k := 24 * P.1.1.2.1.length) (v := nI k) K0 (by omega)
  have c10' : (10 : Int32) = nI 10 := rfl
  have hlo := q_longHere (mx := 10) h (ab_u I 176 (24 * P.1.1.2.1.length) (nI k), M.2) hl (lfr_tp K1.1 hw) (rs2_u (Or.inl (by decide)) he) (by decide)
  refine pr_seqT (pc' := 44) 14 rfl ⟨⟨⟨⟨⟨⟨⟨⟨⟨⟨⟨⟨⟨⟨trivial, trivial⟩, (by first | decide | assumption)⟩, (by assumption)⟩, trivial⟩, (by (try simp (disch := omega) only [g192, c10', rPg, rI_mul, nI_add, nI_1, nI_clamp, c24, c192, pr_16_192, pr_8_10, pr_8_24, pr_8_6, pr_8_97, pr_8_99, pr_i_0, pr_i_1, pr_i_2, pr_i_3, pr_i_4]); exact ⟨Or.inl (by assumption), rvin (by assumption) (by omega) (by decide)⟩)⟩, trivial⟩, trivial⟩, (by first | decide | assumption)⟩, (by assumption)⟩, trivial⟩, trivial⟩, (by (try simp (disch := omega) only [g192, c10', rPg, rI_mul, nI_add, nI_1, nI_clamp, c24, c192, pr_16_192, pr_8_10, pr_8_24, pr_8_6, pr_8_97, pr_8_99, pr_i_0, pr_i_1, pr_i_2, pr_i_3, pr_i_4]); exact ⟨by assumption, rvin (by assumption) (by omega) (by decide)⟩)⟩, (by first | decide | assumption)⟩, trivial⟩ ?_
  try simp (disch := omega) only [g192, c10', rPg, rI_mul, nI_add, nI_1, nI_clamp, c24, c192, pr_16_192, pr_8_10, pr_8_24, pr_8_6, pr_8_97, pr_8_99, pr_i_0, pr_i_1, pr_i_2, pr_i_3, pr_i_4]
  refine pr_cvX [_] rfl rfl rfl rfl rfl (Nat.le_of_ble_eq_true rfl) (by first | assumption | decide | (simp (disch := omega) only [g192, c10', rPg, rI_mul, nI_add, nI_1, nI_clamp, c24, c192, pr_16_192, pr_8_10, pr_8_24, pr_8_6, pr_8_97, pr_8_99, pr_i_0, pr_i_1, pr_i_2, pr_i_3, pr_i_4]; first | assumption | exact ⟨Or.inl (by assumption), rvin (by assumption) (by omega) (by decide)⟩ | exact ⟨by assumption, rvin (by assumption) (by omega) (by decide)⟩ | exact ⟨⟨by omega, by omega⟩, rvin (by assumption) (by omega) (by decide)⟩ | exact ⟨Or.inr (by assumption), rvin (by assumption) (by omega) (by decide)⟩ | exact ⟨Or.inr ⟨by assumption, (by first | exact Or.inl rfl | exact Or.inr rfl | exact pr_b01 _)⟩, rvin (by assumption) (by omega) (by decide)⟩ | exact ⟨by assumption, by assumption⟩ | decide | omega)) (Nat.le_of_ble_eq_true rfl) (hlo) (fun v44 M44 q44 => ?_)
  obtain ⟨rfl, w1, w2, w3⟩ := q44
  obtain ⟨I1, Z1⟩ := M44
  dsimp only at w1 w2 w3
  subst w1
  exact ro_1 h M hl hw hv h8 hk4 K1 w2 w3 he
theorem q_readOne {w : List Nat} {P : PS} {p : Nat} (h : ab_H) (M : ab_M) (hl : rL h M.2.2) (hw : tp_r M.1 w) (hcn : cn_r M.1) (hv : pv M.1 P) (h8 : P.1.1.2.1.length < 8) (he : rs2 M.1 w (.ok p)) : pr_X pX11_readOne [.ref 172] h M (ln2_p M w (oneE w p) (oneP w P p) none) := by
  obtain ⟨k172, rS, rLs, rKn, rPg, rRl, rRk, rTp, rCu, rLe, rLt, rSm, rIk, rLn, rLg, rCe, ⟨kS, nS⟩, ⟨kLs, nLs⟩, ⟨kKn, nKn⟩, ⟨kPg, nPg⟩, ⟨kRl, nRl⟩, ⟨kRk, nRk⟩, ⟨kTp, nTp⟩, ⟨kCu, nCu⟩, ⟨kLe, nLe⟩, ⟨kLt, nLt⟩, ⟨kSm, nSm⟩, ⟨kIk, nIk⟩, ⟨kLn, nLn⟩, ⟨kLg, nLg⟩, kCe, nCe⟩ := id hl
  obtain ⟨e0, e1, e2, e3, e4, e5, e6⟩ := id he
  have hle := tok_le e0
  have hwk := q_wordHere h M hl hw hcn he
  have c6 : (6 : Int32) = nI 6 := rfl
  have f2 := q_flN (c := 2) (x := 2) rfl (by decide) h M hl he
  have bad : ∀ v : Int32, wkR w (tok w p) 11 0 = v → ¬ 0 ≤ v - nI 6 → tKind w p = .error (2, (tok w p).2.1) → pr_X pX11_readOne [.ref 172] h M (ln2_p M w (oneE w p) (oneP w P p) none) := by
    intro v hvv hneg hk
    rw [hvv] at hwk
    unfold oneE oneP
    rw [hk]
    dsimp only
    refine pr_seqT (pc' := 1) 1 rfl ⟨trivial, (by first | decide | assumption)⟩ ?_
    try simp (disch := omega) only [c6, rPg, rI_mul, nI_add, nI_1, nI_clamp, c24, c192, pr_16_192, pr_8_10, pr_8_24, pr_8_6, pr_8_97, pr_8_99, pr_i_0, pr_i_1, pr_i_2, pr_i_3, pr_i_4]
    refine pr_cvT [] rfl rfl rfl rfl rfl (Nat.le_of_ble_eq_true rfl) (by first | assumption | decide | (simp (disch := omega) only [c6, rPg, rI_mul, nI_add, nI_1, nI_clamp, c24, c192, pr_16_192, pr_8_10, pr_8_24, pr_8_6, pr_8_97, pr_8_99, pr_i_0, pr_i_1, pr_i_2, pr_i_3, pr_i_4]; first | assumption | exact ⟨Or.inl (by assumption), rvin (by assumption) (by omega) (by decide)⟩ | exact ⟨by assumption, rvin (by assumption) (by omega) (by decide)⟩ | exact ⟨⟨by omega, by omega⟩, rvin (by assumption) (by omega) (by decide)⟩ | exact ⟨Or.inr (by assumption), rvin (by assumption) (by omega) (by decide)⟩ | exact ⟨Or.inr ⟨by assumption, (by first | exact Or.inl rfl | exact Or.inr rfl | exact pr_b01 _)⟩, rvin (by assumption) (by omega) (by decide)⟩ | exact ⟨by assumption, by assumption⟩ | decide | omega)) (Nat.le_of_ble_eq_true rfl) (hwk) ?_
    refine pr_seqT (pc' := 9) 4 rfl ⟨⟨⟨⟨trivial, trivial⟩, trivial⟩, trivial⟩, trivial⟩ ?_
    try simp (disch := omega) only [c6, rPg, rI_mul, nI_add, nI_1, nI_clamp, c24, c192, pr_16_192, pr_8_10, pr_8_24, pr_8_6, pr_8_97, pr_8_99, pr_i_0, pr_i_1, pr_i_2, pr_i_3, pr_i_4]
    refine pr_ifT rfl (fun h9 => ?_) (fun h9 => ?_)
    · simp only [ab_cmp, pr_16_192, pr_8_10, pr_8_24, pr_8_6, pr_8_97, pr_8_99, pr_i_0, pr_i_1, pr_i_2, pr_i_3, pr_i_4] at h9
      exact absurd h9 hneg
    · simp only [ab_cmp, pr_16_192, pr_8_10, pr_8_24, pr_8_6, pr_8_97, pr_8_99, pr_i_0, pr_i_1, pr_i_2, pr_i_3, pr_i_4] at h9
      first
      | contradiction
      | exact absurd trivial h9
      | exact absurd h9 (by decide)
      | exact absurd (Classical.not_not.mp h9) (by decide)
      | skip
        refine pr_seqT (pc' := 14) 2 rfl ⟨⟨trivial, (by first | decide | assumption)⟩, trivial⟩ ?_
        try simp (disch := omega) only [c6, rPg, rI_mul, nI_add, nI_1, nI_clamp, c24, c192, pr_16_192, pr_8_10, pr_8_24, pr_8_6, pr_8_97, pr_8_99, pr_i_0, pr_i_1, pr_i_2, pr_i_3, pr_i_4]
        refine pr_cvX [_] rfl rfl rfl rfl rfl (Nat.le_of_ble_eq_true rfl) (by first | assumption | decide | (simp (disch := omega) only [c6, rPg, rI_mul, nI_add, nI_1, nI_clamp, c24, c192, pr_16_192, pr_8_10, pr_8_24, pr_8_6, pr_8_97, pr_8_99, pr_i_0, pr_i_1, pr_i_2, pr_i_3, pr_i_4]; first | assumption | exact ⟨Or.inl (by assumption), rvin (by assumption) (by omega) (by decide)⟩ | exact ⟨by assumption, rvin (by assumption) (by omega) (by decide)⟩ | exact ⟨⟨by omega, by omega⟩, rvin (by assumption) (by omega) (by decide)⟩ | exact ⟨Or.inr (by assumption), rvin (by assumption) (by omega) (by decide)⟩ | exact ⟨Or.inr ⟨by assumption, (by first | exact Or.inl rfl | exact Or.inr rfl | exact pr_b01 _)⟩, rvin (by assumption) (by omega) (by decide)⟩ | exact ⟨by assumption, by assumption⟩ | decide | omega)) (Nat.le_of_ble_eq_true rfl) (f2) (fun v14 M14 q14 => ?_)
        obtain ⟨rfl, w1, w2, w3⟩ := q14
        exact pr_vrT rfl rfl (by exact ⟨rfl, w1, lfr_r w2, w3, fun ⟨_, z⟩ => by cases z⟩)
  rcases wk_c w (tok w p) with ⟨i, i1, i2, i3, i4⟩ | ⟨i1, i2⟩
  · by_cases c : i < 6
    · refine bad (nI i) i4 ?_ (tK_er e1 (fun j j1 j2 => i3 j j2 (by omega)))
      rw [Int32.le_iff_toInt_le, i_subI (by omega) (by decide)]
      have : (0 : Int32).toInt = 0 := by decide
      omega
    · have hk := tK_ok e1 (by omega) i1 i2 i3
      rw [i4] at hwk
      unfold oneE oneP
      rw [hk]
      dsimp only
      have esub : nI i - nI 6 = nI (i - 6) := i_sub (by omega)
      have hpos : 0 ≤ nI (i - 6) := nI_pos' (by omega)
      have hst := q_adv h M hl hw he
      rw [show adN w (.ok p) = stN w (tok w p).2.2.1 from rfl] at hst
      have hnx : (tok w p).2.2.1 ≤ w.length := hle.2.2.1
      generalize (tok w p).2.2.1 = nx at *
      have g192 : M.1 176 192 = nI P.1.1.2.1.length := hv.1.1
      refine pr_seqT (pc' := 1) 1 rfl ⟨trivial, (by first | decide | assumption)⟩ ?_
      try simp (disch := omega) only [c6, esub, rPg, rI_mul, nI_add, nI_1, nI_clamp, c24, c192, pr_16_192, pr_8_10, pr_8_24, pr_8_6, pr_8_97, pr_8_99, pr_i_0, pr_i_1, pr_i_2, pr_i_3, pr_i_4]
      refine pr_cvT [] rfl rfl rfl rfl rfl (Nat.le_of_ble_eq_true rfl) (by first | assumption | decide | (simp (disch := omega) only [c6, esub, rPg, rI_mul, nI_add, nI_1, nI_clamp, c24, c192, pr_16_192, pr_8_10, pr_8_24, pr_8_6, pr_8_97, pr_8_99, pr_i_0, pr_i_1, pr_i_2, pr_i_3, pr_i_4]; first | assumption | exact ⟨Or.inl (by assumption), rvin (by assumption) (by omega) (by decide)⟩ | exact ⟨by assumption, rvin (by assumption) (by omega) (by decide)⟩ | exact ⟨⟨by omega, by omega⟩, rvin (by assumption) (by omega) (by decide)⟩ | exact ⟨Or.inr (by assumption), rvin (by assumption) (by omega) (by decide)⟩ | exact ⟨Or.inr ⟨by assumption, (by first | exact Or.inl rfl | exact Or.inr rfl | exact pr_b01 _)⟩, rvin (by assumption) (by omega) (by decide)⟩ | exact ⟨by assumption, by assumption⟩ | decide | omega)) (Nat.le_of_ble_eq_true rfl) (hwk) ?_
      refine pr_seqT (pc' := 9) 4 rfl ⟨⟨⟨⟨trivial, trivial⟩, trivial⟩, trivial⟩, trivial⟩ ?_
      try simp (disch := omega) only [c6, esub, rPg, rI_mul, nI_add, nI_1, nI_clamp, c24, c192, pr_16_192, pr_8_10, pr_8_24, pr_8_6, pr_8_97, pr_8_99, pr_i_0, pr_i_1, pr_i_2, pr_i_3, pr_i_4]
      refine pr_ifT rfl (fun h9 => ?_) (fun h9 => ?_)
      · simp only [ab_cmp, pr_16_192, pr_8_10, pr_8_24, pr_8_6, pr_8_97, pr_8_99, pr_i_0, pr_i_1, pr_i_2, pr_i_3, pr_i_4] at h9
        first
        | contradiction
        | exact absurd trivial h9
        | exact absurd h9 (by decide)
        | exact absurd (Classical.not_not.mp h9) (by decide)
        | skip
          refine pr_seqT (pc' := 19) 1 rfl ⟨trivial, (by first | decide | assumption)⟩ ?_
          try simp (disch := omega) only [c6, esub, rPg, rI_mul, nI_add, nI_1, nI_clamp, c24, c192, pr_16_192, pr_8_10, pr_8_24, pr_8_6, pr_8_97, pr_8_99, pr_i_0, pr_i_1, pr_i_2, pr_i_3, pr_i_4]
          refine pr_cvX [] rfl rfl rfl rfl rfl (Nat.le_of_ble_eq_true rfl) (by first | assumption | decide | (simp (disch := omega) only [c6, esub, rPg, rI_mul, nI_add, nI_1, nI_clamp, c24, c192, pr_16_192, pr_8_10, pr_8_24, pr_8_6, pr_8_97, pr_8_99, pr_i_0, pr_i_1, pr_i_2, pr_i_3, pr_i_4]; first | assumption | exact ⟨Or.inl (by assumption), rvin (by assumption) (by omega) (by decide)⟩ | exact ⟨by assumption, rvin (by assumption) (by omega) (by decide)⟩ | exact ⟨⟨by omega, by omega⟩, rvin (by assumption) (by omega) (by decide)⟩ | exact ⟨Or.inr (by assumption), rvin (by assumption) (by omega) (by decide)⟩ | exact ⟨Or.inr ⟨by assumption, (by first | exact Or.inl rfl | exact Or.inr rfl | exact pr_b01 _)⟩, rvin (by assumption) (by omega) (by decide)⟩ | exact ⟨by assumption, by assumption⟩ | decide | omega)) (Nat.le_of_ble_eq_true rfl) (hst) (fun v19 M19 q19 => ?_)
          obtain ⟨rfl, w1, w2, w3⟩ := q19
          obtain ⟨I1, Z1⟩ := M19
          dsimp only at w1 w2 w3
          subst w1
          exact ro_2 h M hl hw hv h8 (by omega) w2 w3
      · simp only [ab_cmp, pr_16_192, pr_8_10, pr_8_24, pr_8_6, pr_8_97, pr_8_99, pr_i_0, pr_i_1, pr_i_2, pr_i_3, pr_i_4] at h9
        exact absurd hpos h9
  · refine bad (-4) i2 (by decide) (tK_er e1 (fun j j1 j2 => i1 j j2))
