
/-! ===== the line list; a line ===== -/
def al_p (t : Nat) (M : ab_M) (e : Except (Nat × Nat) PS) (r : Option Value) (M' : ab_M) : Prop := r = some (.int (pr_b (okB e))) ∧ M'.2 = M.2 ∧ fr t M.1 M'.1 ∧ match e with
  | .error q => M'.1 4 9 = nI q.1 ∧ M'.1 4 10 = nI q.2
  | .ok x => M'.1 4 9 = M.1 4 9 ∧ M'.1 4 5 = M.1 4 5 ∧ ps_v M'.1 t x
theorem td_list {I I' : Nat → Nat → Int32} {t : Nat} {T : Tl} {nm : List Nat} (hv : td_v I t T) (h6 : T.2.1.length < 6) (h10 : nm.length ≤ 10) (hf : ∀ a, t < a → a < t + 43 → a ≠ t + 31 + 2 * T.2.1.length → a ≠ t + 31 + 2 * T.2.1.length + 1 → I' a = I a) (h4 : I' t 4 = nI (T.2.1.length + 1)) (h5 : I' t 5 = I t 5) (hn : nm_v I' (t + 31 + 2 * T.2.1.length) nm) : td_v I' t (T.1, T.2.1 ++ [nm], T.2.2) := by
  obtain ⟨v1, v2, v3, v4, v5, v6, v7⟩ := hv
  refine ⟨ld_v_congr (fun a _ _ => hf a (by omega) (by omega) (by omega) (by omega)) v1, ?_, ?_, by rw [h5]; exact v4, v5, fun q w hq => ?_, fun i k hk => ?_⟩
  · show I' t 4 = nI (T.2.1 ++ [nm]).length
    rw [List.length_append]; exact h4
  · show (T.2.1 ++ [nm]).length ≤ 6
    rw [List.length_append]; exact h6
  · have hq : (T.2.1 ++ [nm])[q]? = some w := hq
    by_cases e : q < T.2.1.length
    · rw [List.getElem?_append_left e] at hq
      exact ⟨nm_v_congr (hf _ (by omega) (by omega) (by omega) (by omega)) (hf _ (by omega) (by omega) (by omega) (by omega)) (v6 q w hq).1, (v6 q w hq).2⟩
    · rw [List.getElem?_append_right (by omega)] at hq
      have hi : q = T.2.1.length := by
        have := (List.getElem?_eq_some_iff.mp hq).1
        have : q - T.2.1.length < 1 := this
        omega
      subst hi
      rw [Nat.sub_self] at hq
      cases hq
      exact ⟨hn, h10⟩
  · obtain ⟨x1, x2, x3⟩ := v7 i k hk
    rw [hf _ (by omega) (by omega) (by omega) (by omega), hf _ (by omega) (by omega) (by omega) (by omega)]
    exact ⟨x1, x2, x3⟩
set_option maxHeartbeats 4000000 in
theorem c_addListed {t kd s e v : Nat} {w : List Nat} {P : PS} (h : ab_H) (M : ab_M) (ht5 : 5 < t) (hr : pr_Rd h M.2.2 t) (ht : pr_Tl h M.2.2 t) (hw : tp_v M.1 w) (hps : ps_v M.1 t P) (g5 : M.1 4 5 = nI e) (g6 : M.1 4 6 = nI kd) (g7 : M.1 4 7 = nI s) (hkd : kd ≤ 4) (hse : s ≤ e) (he : e ≤ w.length) (hlt : kd = 1 → ∀ i, s ≤ i → i < e → 97 ≤ w.getD i 0 ∧ w.getD i 0 ≤ 122) : pr_X pX6_addListed [.ref 4] h M (al_p t M (aLst w P (kd, s, e, v))) := by
  obtain ⟨k4, r0, r1, r2, ⟨k2, s0, k3, l3⟩, k5, l5⟩ := id hr
  obtain ⟨t0, t1, tr0, tr1, tr2, tr3, hg, ⟨ka, kb⟩, -, -, hnm⟩ := id ht
  have n4 : (4 : Nat) ≠ 0 := by decide
  obtain ⟨p1, p2, p3, p4⟩ := id hps
  have v2 := p1.2.1
  have v3 := p1.2.2.1
  have hlen := hw.2.1
  unfold aLst
  dsimp only
  have ref : ∀ c : Nat, al_p t M (.error (c, s)) (some (.int (pr_b false))) (ab_u (ab_u M.1 4 9 (nI c)) 4 10 (nI s), M.2) := fun c => ⟨rfl, rfl, fun a h4 h5 hh => by dsimp only; rw [ab_u_ne h4, ab_u_ne h4], by dsimp only; rw [ab_u_j (by decide), ab_u_at], by dsimp only; rw [ab_u_at]⟩
  by_cases c1 : kd = 1
  · rw [if_pos c1]
    rw [c1] at g6
    have g6 : M.1 4 6 = 1 := g6
    by_cases c6 : 6 ≤ P.1.2.1.length
    · rw [if_pos c6]
      have e1 : ¬ nI P.1.2.1.length < 6 := fun q => by
        have := (nI_ltI (a := P.1.2.1.length) (b := 6) (by omega) (by omega)).mp q
        omega
      refine pr_seqT (pc' := 5) 3 rfl ⟨⟨⟨trivial, (by first | assumption | (simp only [g6, g7, r2, v2, pr_8_10, pr_8_6, pr_i_1, pr_i_2, pr_i_3, pr_i_5]; first | assumption | decide | exact ⟨by assumption, by assumption⟩ | exact ⟨Or.inl (by assumption), by assumption⟩ | omega) | decide | exact ⟨Or.inl (by assumption), by assumption⟩ | exact ⟨by assumption, by assumption⟩ | omega)⟩, (by first | assumption | (simp only [g6, g7, r2, v2, pr_8_10, pr_8_6, pr_i_1, pr_i_2, pr_i_3, pr_i_5]; first | assumption | decide | exact ⟨by assumption, by assumption⟩ | exact ⟨Or.inl (by assumption), by assumption⟩ | omega) | decide | exact ⟨Or.inl (by assumption), by assumption⟩ | exact ⟨by assumption, by assumption⟩ | omega)⟩, trivial⟩ ?_
      try simp only [g6, g7, r2, v2, pr_8_10, pr_8_6, pr_i_1, pr_i_2, pr_i_3, pr_i_5]
      refine pr_icT rfl (fun h5 => ?_) (fun h5 => ?_)
      · simp only [ab_cmp, pr_8_10, pr_8_6, pr_i_1, pr_i_2, pr_i_3, pr_i_5] at h5
        first
        | contradiction
        | exact absurd trivial h5
        | exact absurd h5 (by decide)
        | exact absurd (Classical.not_not.mp h5) (by decide)
        | exact absurd rfl h5
        | skip
          refine pr_seqT (pc' := 27) 4 rfl ⟨⟨⟨⟨trivial, (by first | assumption | (simp only [g6, g7, r2, v2, pr_8_10, pr_8_6, pr_i_1, pr_i_2, pr_i_3, pr_i_5]; first | assumption | decide | exact ⟨by assumption, by assumption⟩ | exact ⟨Or.inl (by assumption), by assumption⟩ | omega) | decide | exact ⟨Or.inl (by assumption), by assumption⟩ | exact ⟨by assumption, by assumption⟩ | omega)⟩, (by first | assumption | (simp only [g6, g7, r2, v2, pr_8_10, pr_8_6, pr_i_1, pr_i_2, pr_i_3, pr_i_5]; first | assumption | decide | exact ⟨by assumption, by assumption⟩ | exact ⟨Or.inl (by assumption), by assumption⟩ | omega) | decide | exact ⟨Or.inl (by assumption), by assumption⟩ | exact ⟨by assumption, by assumption⟩ | omega)⟩, (by first | assumption | (simp only [g6, g7, r2, v2, pr_8_10, pr_8_6, pr_i_1, pr_i_2, pr_i_3, pr_i_5]; first | assumption | decide | exact ⟨by assumption, by assumption⟩ | exact ⟨Or.inl (by assumption), by assumption⟩ | omega) | decide | exact ⟨Or.inl (by assumption), by assumption⟩ | exact ⟨by assumption, by assumption⟩ | omega)⟩, trivial⟩ ?_
          try simp only [g6, g7, r2, v2, pr_8_10, pr_8_6, pr_i_1, pr_i_2, pr_i_3, pr_i_5]
          refine pr_icT rfl (fun h27 => ?_) (fun h27 => ?_)
          · simp only [ab_cmp, pr_8_10, pr_8_6, pr_i_1, pr_i_2, pr_i_3, pr_i_5] at h27
            first
            | contradiction
            | exact absurd trivial h27
            | exact absurd h27 (by decide)
            | exact absurd (Classical.not_not.mp h27) (by decide)
            | exact absurd rfl h27
            | skip
              fail
          · simp only [ab_cmp, pr_8_10, pr_8_6, pr_i_1, pr_i_2, pr_i_3, pr_i_5] at h27
            first
            | contradiction
            | exact absurd trivial h27
            | exact absurd h27 (by decide)
            | exact absurd (Classical.not_not.mp h27) (by decide)
            | exact absurd rfl h27
            | skip
              refine pr_seqT (pc' := 36) 4 rfl ⟨⟨⟨⟨trivial, (by first | assumption | (simp only [g6, g7, r2, v2, pr_8_10, pr_8_6, pr_i_1, pr_i_2, pr_i_3, pr_i_5]; first | assumption | decide | exact ⟨by assumption, by assumption⟩ | exact ⟨Or.inl (by assumption), by assumption⟩ | omega) | decide | exact ⟨Or.inl (by assumption), by assumption⟩ | exact ⟨by assumption, by assumption⟩ | omega)⟩, trivial⟩, (by first | assumption | (simp only [g6, g7, r2, v2, pr_8_10, pr_8_6, pr_i_1, pr_i_2, pr_i_3, pr_i_5]; first | assumption | decide | exact ⟨by assumption, by assumption⟩ | exact ⟨Or.inl (by assumption), by assumption⟩ | omega) | decide | exact ⟨Or.inl (by assumption), by assumption⟩ | exact ⟨by assumption, by assumption⟩ | omega)⟩, (by first | assumption | (simp only [g6, g7, r2, v2, pr_8_10, pr_8_6, pr_i_1, pr_i_2, pr_i_3, pr_i_5]; first | assumption | decide | exact ⟨by assumption, by assumption⟩ | exact ⟨Or.inl (by assumption), by assumption⟩ | omega) | decide | exact ⟨Or.inl (by assumption), by assumption⟩ | exact ⟨by assumption, by assumption⟩ | omega)⟩ ?_
              try simp only [g6, g7, r2, v2, pr_8_10, pr_8_6, pr_i_1, pr_i_2, pr_i_3, pr_i_5]
              refine pr_cvT [_, _] rfl rfl rfl rfl rfl (Nat.le_of_ble_eq_true rfl) (by first | assumption | (simp only [g6, g7, r2, v2, pr_8_10, pr_8_6, pr_i_1, pr_i_2, pr_i_3, pr_i_5]; first | assumption | decide | exact ⟨by assumption, by assumption⟩ | exact ⟨Or.inl (by assumption), by assumption⟩ | omega) | decide | exact ⟨Or.inl (by assumption), by assumption⟩ | exact ⟨by assumption, by assumption⟩ | omega) (Nat.le_of_ble_eq_true rfl) (c_refuse 5 (nI s) h M k4) ?_
              exact pr_irT rfl (by first | exact Or.inl rfl | exact Or.inr rfl | exact pr_b01 _ | assumption) (by exact ref 5)
      · simp only [ab_cmp, pr_8_10, pr_8_6, pr_i_1, pr_i_2, pr_i_3, pr_i_5] at h5
        first
        | contradiction
        | exact absurd trivial h5
        | exact absurd h5 (by decide)
        | exact absurd (Classical.not_not.mp h5) (by decide)
        | exact absurd rfl h5
        | skip
          fail
    · rw [if_neg c6]
      have e1 : nI P.1.2.1.length < 6 := (nI_ltI (a := P.1.2.1.length) (b := 6) (by omega) (by omega)).mpr (by omega)
      have es : nI e - nI s = nI (e - s) := i_sub hse
      by_cases c10 : e - s ≤ 10
      · rw [if_pos c10]
        have y10 : nI (e - s) ≤ 10 := nI_le (b := 10) c10 (by decide)
        have e3 : (nI P.1.2.1.length).toNatClampNeg = P.1.2.1.length := nI_clamp (by omega)
        obtain ⟨y1, y2⟩ := hnm P.1.2.1.length (by omega)
        have vi : (24 ≤ ab_k h (t + 28) ∧ ab_k h (t + 28) ≤ 27) ∧ vp_in (nI P.1.2.1.length) (ab_n h (t + 28)) := ⟨by rw [ka]; decide, by rw [kb]; exact vp_in_nI (by omega) (by decide)⟩
        have n1 := y2.2.1
        have n0 := y2.1
        have hcw := c_copyWord (n := t + 31 + 2 * P.1.2.1.length) (s := s) (e := e) h M hr hw g7 g5 hse he (by omega) y2 (by omega) (hlt c1)
        have key : ∀ I : Nat → Nat → Int32, nm_v I (t + 31 + 2 * P.1.2.1.length) (ltrs w s (e - s)) → (∀ a, a ≠ t + 31 + 2 * P.1.2.1.length → a ≠ t + 31 + 2 * P.1.2.1.length + 1 → I a = M.1 a) → pr_T pX6_addListed 83 [some (.ref 4)] [] h (I, M.2) (al_p t M (.ok (pLst P (ltrs w s (e - s))))) := by
          intro I cv cf
          have x4 : I t 4 = nI P.1.2.1.length := by rw [cf t (by omega) (by omega)]; exact v2
          have hI : ∀ a, a ≠ t → ab_u I t 4 (nI (P.1.2.1.length + 1)) a = I a := fun a ha => ab_u_ne ha
          have htd := td_list (I' := ab_u I t 4 (nI (P.1.2.1.length + 1))) (nm := ltrs w s (e - s)) p1 (by omega) (by rw [ltrs_len]; exact c10) (fun a x1 x2 x3 x4 => by rw [hI a (by omega)]; exact cf a x3 x4) ab_u_at (by rw [ab_u_j (by decide), cf t (by omega) (by omega)]) (nm_v_congr (hI _ (by omega)) (hI _ (by omega)) cv)
          have fin : al_p t M (.ok (pLst P (ltrs w s (e - s)))) (some (.int (pr_b true))) (ab_u I t 4 (nI (P.1.2.1.length + 1)), M.2) := ⟨rfl, rfl, fun a h4 h5 hh => by dsimp only; rw [hI a (by omega)]; exact cf a (by omega) (by omega), by dsimp only; rw [hI 4 (by omega), cf 4 (by omega) (by omega)], by dsimp only; rw [hI 4 (by omega), cf 4 (by omega) (by omega)], htd, by dsimp only; rw [hI 4 (by omega), cf 4 (by omega) (by omega)]; exact p2, by dsimp only; rw [hI 4 (by omega), cf 4 (by omega) (by omega)]; exact p3, fun l hl => by dsimp only; rw [hI 5 (by omega), cf 5 (by omega) (by omega)]; exact p4 l hl⟩
          refine pr_seqT (pc' := 97) 8 rfl ⟨⟨⟨⟨⟨⟨⟨⟨trivial, (by first | assumption | (simp only [r2, x4, nI_1, pr_8_10, pr_8_6, pr_i_1, pr_i_2, pr_i_3, pr_i_5]; first | assumption | decide | exact ⟨by assumption, by assumption⟩ | exact ⟨Or.inl (by assumption), by assumption⟩ | omega) | decide | exact ⟨Or.inl (by assumption), by assumption⟩ | exact ⟨by assumption, by assumption⟩ | omega)⟩, (by first | assumption | (simp only [r2, x4, nI_1, pr_8_10, pr_8_6, pr_i_1, pr_i_2, pr_i_3, pr_i_5]; first | assumption | decide | exact ⟨by assumption, by assumption⟩ | exact ⟨Or.inl (by assumption), by assumption⟩ | omega) | decide | exact ⟨Or.inl (by assumption), by assumption⟩ | exact ⟨by assumption, by assumption⟩ | omega)⟩, trivial⟩, (by first | assumption | (simp only [r2, x4, nI_1, pr_8_10, pr_8_6, pr_i_1, pr_i_2, pr_i_3, pr_i_5]; first | assumption | decide | exact ⟨by assumption, by assumption⟩ | exact ⟨Or.inl (by assumption), by assumption⟩ | omega) | decide | exact ⟨Or.inl (by assumption), by assumption⟩ | exact ⟨by assumption, by assumption⟩ | omega)⟩, trivial⟩, trivial⟩, (by first | assumption | (simp only [r2, x4, nI_1, pr_8_10, pr_8_6, pr_i_1, pr_i_2, pr_i_3, pr_i_5]; first | assumption | decide | exact ⟨by assumption, by assumption⟩ | exact ⟨Or.inl (by assumption), by assumption⟩ | omega) | decide | exact ⟨Or.inl (by assumption), by assumption⟩ | exact ⟨by assumption, by assumption⟩ | omega)⟩, trivial⟩ ?_
          try simp only [r2, x4, nI_1, pr_8_10, pr_8_6, pr_i_1, pr_i_2, pr_i_3, pr_i_5]
          exact pr_irT rfl (by first | exact Or.inl rfl | exact Or.inr rfl | exact pr_b01 _ | assumption) (by exact fin)
        refine pr_seqT (pc' := 5) 3 rfl ⟨⟨⟨trivial, (by first | assumption | (simp only [g5, g6, g7, r2, v2, es, tr1, e3, y1, pr_8_10, pr_8_6, pr_i_1, pr_i_2, pr_i_3, pr_i_5]; first | assumption | decide | exact ⟨by assumption, by assumption⟩ | exact ⟨Or.inl (by assumption), by assumption⟩ | omega) | decide | exact ⟨Or.inl (by assumption), by assumption⟩ | exact ⟨by assumption, by assumption⟩ | omega)⟩, (by first | assumption | (simp only [g5, g6, g7, r2, v2, es, tr1, e3, y1, pr_8_10, pr_8_6, pr_i_1, pr_i_2, pr_i_3, pr_i_5]; first | assumption | decide | exact ⟨by assumption, by assumption⟩ | exact ⟨Or.inl (by assumption), by assumption⟩ | omega) | decide | exact ⟨Or.inl (by assumption), by assumption⟩ | exact ⟨by assumption, by assumption⟩ | omega)⟩, trivial⟩ ?_
        try simp only [g5, g6, g7, r2, v2, es, tr1, e3, y1, pr_8_10, pr_8_6, pr_i_1, pr_i_2, pr_i_3, pr_i_5]
        refine pr_icT rfl (fun h5 => ?_) (fun h5 => ?_)
        · simp only [ab_cmp, pr_8_10, pr_8_6, pr_i_1, pr_i_2, pr_i_3, pr_i_5] at h5
          first
          | contradiction
          | exact absurd trivial h5
          | exact absurd h5 (by decide)
          | exact absurd (Classical.not_not.mp h5) (by decide)
          | exact absurd rfl h5
          | skip
            refine pr_seqT (pc' := 27) 4 rfl ⟨⟨⟨⟨trivial, (by first | assumption | (simp only [g5, g6, g7, r2, v2, es, tr1, e3, y1, pr_8_10, pr_8_6, pr_i_1, pr_i_2, pr_i_3, pr_i_5]; first | assumption | decide | exact ⟨by assumption, by assumption⟩ | exact ⟨Or.inl (by assumption), by assumption⟩ | omega) | decide | exact ⟨Or.inl (by assumption), by assumption⟩ | exact ⟨by assumption, by assumption⟩ | omega)⟩, (by first | assumption | (simp only [g5, g6, g7, r2, v2, es, tr1, e3, y1, pr_8_10, pr_8_6, pr_i_1, pr_i_2, pr_i_3, pr_i_5]; first | assumption | decide | exact ⟨by assumption, by assumption⟩ | exact ⟨Or.inl (by assumption), by assumption⟩ | omega) | decide | exact ⟨Or.inl (by assumption), by assumption⟩ | exact ⟨by assumption, by assumption⟩ | omega)⟩, (by first | assumption | (simp only [g5, g6, g7, r2, v2, es, tr1, e3, y1, pr_8_10, pr_8_6, pr_i_1, pr_i_2, pr_i_3, pr_i_5]; first | assumption | decide | exact ⟨by assumption, by assumption⟩ | exact ⟨Or.inl (by assumption), by assumption⟩ | omega) | decide | exact ⟨Or.inl (by assumption), by assumption⟩ | exact ⟨by assumption, by assumption⟩ | omega)⟩, trivial⟩ ?_
            try simp only [g5, g6, g7, r2, v2, es, tr1, e3, y1, pr_8_10, pr_8_6, pr_i_1, pr_i_2, pr_i_3, pr_i_5]
            refine pr_icT rfl (fun h27 => ?_) (fun h27 => ?_)
            · simp only [ab_cmp, pr_8_10, pr_8_6, pr_i_1, pr_i_2, pr_i_3, pr_i_5] at h27
              first
              | contradiction
              | exact absurd trivial h27
              | exact absurd h27 (by decide)
              | exact absurd (Classical.not_not.mp h27) (by decide)
              | exact absurd rfl h27
              | skip
                refine pr_seqT (pc' := 51) 6 rfl ⟨⟨⟨⟨⟨⟨trivial, (by first | assumption | (simp only [g5, g6, g7, r2, v2, es, tr1, e3, y1, pr_8_10, pr_8_6, pr_i_1, pr_i_2, pr_i_3, pr_i_5]; first | assumption | decide | exact ⟨by assumption, by assumption⟩ | exact ⟨Or.inl (by assumption), by assumption⟩ | omega) | decide | exact ⟨Or.inl (by assumption), by assumption⟩ | exact ⟨by assumption, by assumption⟩ | omega)⟩, (by first | assumption | (simp only [g5, g6, g7, r2, v2, es, tr1, e3, y1, pr_8_10, pr_8_6, pr_i_1, pr_i_2, pr_i_3, pr_i_5]; first | assumption | decide | exact ⟨by assumption, by assumption⟩ | exact ⟨Or.inl (by assumption), by assumption⟩ | omega) | decide | exact ⟨Or.inl (by assumption), by assumption⟩ | exact ⟨by assumption, by assumption⟩ | omega)⟩, (by first | assumption | (simp only [g5, g6, g7, r2, v2, es, tr1, e3, y1, pr_8_10, pr_8_6, pr_i_1, pr_i_2, pr_i_3, pr_i_5]; first | assumption | decide | exact ⟨by assumption, by assumption⟩ | exact ⟨Or.inl (by assumption), by assumption⟩ | omega) | decide | exact ⟨Or.inl (by assumption), by assumption⟩ | exact ⟨by assumption, by assumption⟩ | omega)⟩, (by first | assumption | (simp only [g5, g6, g7, r2, v2, es, tr1, e3, y1, pr_8_10, pr_8_6, pr_i_1, pr_i_2, pr_i_3, pr_i_5]; first | assumption | decide | exact ⟨by assumption, by assumption⟩ | exact ⟨Or.inl (by assumption), by assumption⟩ | omega) | decide | exact ⟨Or.inl (by assumption), by assumption⟩ | exact ⟨by assumption, by assumption⟩ | omega)⟩, trivial⟩, trivial⟩ ?_
                try simp only [g5, g6, g7, r2, v2, es, tr1, e3, y1, pr_8_10, pr_8_6, pr_i_1, pr_i_2, pr_i_3, pr_i_5]
                refine pr_icT rfl (fun h51 => ?_) (fun h51 => ?_)
                · simp only [ab_cmp, pr_8_10, pr_8_6, pr_i_1, pr_i_2, pr_i_3, pr_i_5] at h51
                  first
                  | contradiction
                  | exact absurd trivial h51
                  | exact absurd h51 (by decide)
                  | exact absurd (Classical.not_not.mp h51) (by decide)
                  | exact absurd rfl h51
                  | skip
                    refine pr_seqT (pc' := 80) 8 rfl ⟨⟨⟨⟨⟨⟨⟨⟨trivial, (by first | assumption | (simp only [g5, g6, g7, r2, v2, es, tr1, e3, y1, pr_8_10, pr_8_6, pr_i_1, pr_i_2, pr_i_3, pr_i_5]; first | assumption | decide | exact ⟨by assumption, by assumption⟩ | exact ⟨Or.inl (by assumption), by assumption⟩ | omega) | decide | exact ⟨Or.inl (by assumption), by assumption⟩ | exact ⟨by assumption, by assumption⟩ | omega)⟩, (by first | assumption | (simp only [g5, g6, g7, r2, v2, es, tr1, e3, y1, pr_8_10, pr_8_6, pr_i_1, pr_i_2, pr_i_3, pr_i_5]; first | assumption | decide | exact ⟨by assumption, by assumption⟩ | exact ⟨Or.inl (by assumption), by assumption⟩ | omega) | decide | exact ⟨Or.inl (by assumption), by assumption⟩ | exact ⟨by assumption, by assumption⟩ | omega)⟩, (by first | assumption | (simp only [g5, g6, g7, r2, v2, es, tr1, e3, y1, pr_8_10, pr_8_6, pr_i_1, pr_i_2, pr_i_3, pr_i_5]; first | assumption | decide | exact ⟨by assumption, by assumption⟩ | exact ⟨Or.inl (by assumption), by assumption⟩ | omega) | decide | exact ⟨Or.inl (by assumption), by assumption⟩ | exact ⟨by assumption, by assumption⟩ | omega)⟩, (by first | assumption | (simp only [g5, g6, g7, r2, v2, es, tr1, e3, y1, pr_8_10, pr_8_6, pr_i_1, pr_i_2, pr_i_3, pr_i_5]; first | assumption | decide | exact ⟨by assumption, by assumption⟩ | exact ⟨Or.inl (by assumption), by assumption⟩ | omega) | decide | exact ⟨Or.inl (by assumption), by assumption⟩ | exact ⟨by assumption, by assumption⟩ | omega)⟩, (by first | assumption | (simp only [g5, g6, g7, r2, v2, es, tr1, e3, y1, pr_8_10, pr_8_6, pr_i_1, pr_i_2, pr_i_3, pr_i_5]; first | assumption | decide | exact ⟨by assumption, by assumption⟩ | exact ⟨Or.inl (by assumption), by assumption⟩ | omega) | decide | exact ⟨Or.inl (by assumption), by assumption⟩ | exact ⟨by assumption, by assumption⟩ | omega)⟩, (by first | assumption | (simp only [g5, g6, g7, r2, v2, es, tr1, e3, y1, pr_8_10, pr_8_6, pr_i_1, pr_i_2, pr_i_3, pr_i_5]; first | assumption | decide | exact ⟨by assumption, by assumption⟩ | exact ⟨Or.inl (by assumption), by assumption⟩ | omega) | decide | exact ⟨Or.inl (by assumption), by assumption⟩ | exact ⟨by assumption, by assumption⟩ | omega)⟩, (by first | assumption | (simp only [g5, g6, g7, r2, v2, es, tr1, e3, y1, pr_8_10, pr_8_6, pr_i_1, pr_i_2, pr_i_3, pr_i_5]; first | assumption | decide | exact ⟨by assumption, by assumption⟩ | exact ⟨Or.inl (by assumption), by assumption⟩ | omega) | decide | exact ⟨Or.inl (by assumption), by assumption⟩ | exact ⟨by assumption, by assumption⟩ | omega)⟩, (by first | assumption | (simp only [g5, g6, g7, r2, v2, es, tr1, e3, y1, pr_8_10, pr_8_6, pr_i_1, pr_i_2, pr_i_3, pr_i_5]; first | assumption | decide | exact ⟨by assumption, by assumption⟩ | exact ⟨Or.inl (by assumption), by assumption⟩ | omega) | decide | exact ⟨Or.inl (by assumption), by assumption⟩ | exact ⟨by assumption, by assumption⟩ | omega)⟩ ?_
                    try simp only [g5, g6, g7, r2, v2, es, tr1, e3, y1, pr_8_10, pr_8_6, pr_i_1, pr_i_2, pr_i_3, pr_i_5]
                    refine pr_cvX [_] rfl rfl rfl rfl rfl (Nat.le_of_ble_eq_true rfl) (by first | assumption | (simp only [g5, g6, g7, r2, v2, es, tr1, e3, y1, pr_8_10, pr_8_6, pr_i_1, pr_i_2, pr_i_3, pr_i_5]; first | assumption | decide | exact ⟨by assumption, by assumption⟩ | exact ⟨Or.inl (by assumption), by assumption⟩ | omega) | decide | exact ⟨Or.inl (by assumption), by assumption⟩ | exact ⟨by assumption, by assumption⟩ | omega) (Nat.le_of_ble_eq_true rfl) (hcw) (fun v80 M80 q80 => ?_)
                    obtain ⟨rfl, e3', cv, cf⟩ := q80
                    obtain ⟨I2, Z2⟩ := M80
                    dsimp only at e3' cv cf
                    subst e3'
                    exact key I2 cv cf
                · simp only [ab_cmp, pr_8_10, pr_8_6, pr_i_1, pr_i_2, pr_i_3, pr_i_5] at h51
                  first
                  | contradiction
                  | exact absurd trivial h51
                  | exact absurd h51 (by decide)
                  | exact absurd (Classical.not_not.mp h51) (by decide)
                  | exact absurd rfl h51
                  | skip
                    fail
            · simp only [ab_cmp, pr_8_10, pr_8_6, pr_i_1, pr_i_2, pr_i_3, pr_i_5] at h27
              first
              | contradiction
              | exact absurd trivial h27
              | exact absurd h27 (by decide)
              | exact absurd (Classical.not_not.mp h27) (by decide)
              | exact absurd rfl h27
              | skip
                fail
        · simp only [ab_cmp, pr_8_10, pr_8_6, pr_i_1, pr_i_2, pr_i_3, pr_i_5] at h5
          first
          | contradiction
          | exact absurd trivial h5
          | exact absurd h5 (by decide)
          | exact absurd (Classical.not_not.mp h5) (by decide)
          | exact absurd rfl h5
          | skip
            fail
      · rw [if_neg c10]
        have y10 : ¬ nI (e - s) ≤ 10 := fun q => c10 ((nI_leI (a := e - s) (b := 10) (by omega) (by omega)).mp q)
        refine pr_seqT (pc' := 5) 3 rfl ⟨⟨⟨trivial, (by first | assumption | (simp only [g5, g6, g7, r2, v2, es, pr_8_10, pr_8_6, pr_i_1, pr_i_2, pr_i_3, pr_i_5]; first | assumption | decide | exact ⟨by assumption, by assumption⟩ | exact ⟨Or.inl (by assumption), by assumption⟩ | omega) | decide | exact ⟨Or.inl (by assumption), by assumption⟩ | exact ⟨by assumption, by assumption⟩ | omega)⟩, (by first | assumption | (simp only [g5, g6, g7, r2, v2, es, pr_8_10, pr_8_6, pr_i_1, pr_i_2, pr_i_3, pr_i_5]; first | assumption | decide | exact ⟨by assumption, by assumption⟩ | exact ⟨Or.inl (by assumption), by assumption⟩ | omega) | decide | exact ⟨Or.inl (by assumption), by assumption⟩ | exact ⟨by assumption, by assumption⟩ | omega)⟩, trivial⟩ ?_
        try simp only [g5, g6, g7, r2, v2, es, pr_8_10, pr_8_6, pr_i_1, pr_i_2, pr_i_3, pr_i_5]
        refine pr_icT rfl (fun h5 => ?_) (fun h5 => ?_)
        · simp only [ab_cmp, pr_8_10, pr_8_6, pr_i_1, pr_i_2, pr_i_3, pr_i_5] at h5
          first
          | contradiction
          | exact absurd trivial h5
          | exact absurd h5 (by decide)
          | exact absurd (Classical.not_not.mp h5) (by decide)
          | exact absurd rfl h5
          | skip
            refine pr_seqT (pc' := 27) 4 rfl ⟨⟨⟨⟨trivial, (by first | assumption | (simp only [g5, g6, g7, r2, v2, es, pr_8_10, pr_8_6, pr_i_1, pr_i_2, pr_i_3, pr_i_5]; first | assumption | decide | exact ⟨by assumption, by assumption⟩ | exact ⟨Or.inl (by assumption), by assumption⟩ | omega) | decide | exact ⟨Or.inl (by assumption), by assumption⟩ | exact ⟨by assumption, by assumption⟩ | omega)⟩, (by first | assumption | (simp only [g5, g6, g7, r2, v2, es, pr_8_10, pr_8_6, pr_i_1, pr_i_2, pr_i_3, pr_i_5]; first | assumption | decide | exact ⟨by assumption, by assumption⟩ | exact ⟨Or.inl (by assumption), by assumption⟩ | omega) | decide | exact ⟨Or.inl (by assumption), by assumption⟩ | exact ⟨by assumption, by assumption⟩ | omega)⟩, (by first | assumption | (simp only [g5, g6, g7, r2, v2, es, pr_8_10, pr_8_6, pr_i_1, pr_i_2, pr_i_3, pr_i_5]; first | assumption | decide | exact ⟨by assumption, by assumption⟩ | exact ⟨Or.inl (by assumption), by assumption⟩ | omega) | decide | exact ⟨Or.inl (by assumption), by assumption⟩ | exact ⟨by assumption, by assumption⟩ | omega)⟩, trivial⟩ ?_
            try simp only [g5, g6, g7, r2, v2, es, pr_8_10, pr_8_6, pr_i_1, pr_i_2, pr_i_3, pr_i_5]
            refine pr_icT rfl (fun h27 => ?_) (fun h27 => ?_)
            · simp only [ab_cmp, pr_8_10, pr_8_6, pr_i_1, pr_i_2, pr_i_3, pr_i_5] at h27
              first
              | contradiction
              | exact absurd trivial h27
              | exact absurd h27 (by decide)
              | exact absurd (Classical.not_not.mp h27) (by decide)
              | exact absurd rfl h27
              | skip
                refine pr_seqT (pc' := 51) 6 rfl ⟨⟨⟨⟨⟨⟨trivial, (by first | assumption | (simp only [g5, g6, g7, r2, v2, es, pr_8_10, pr_8_6, pr_i_1, pr_i_2, pr_i_3, pr_i_5]; first | assumption | decide | exact ⟨by assumption, by assumption⟩ | exact ⟨Or.inl (by assumption), by assumption⟩ | omega) | decide | exact ⟨Or.inl (by assumption), by assumption⟩ | exact ⟨by assumption, by assumption⟩ | omega)⟩, (by first | assumption | (simp only [g5, g6, g7, r2, v2, es, pr_8_10, pr_8_6, pr_i_1, pr_i_2, pr_i_3, pr_i_5]; first | assumption | decide | exact ⟨by assumption, by assumption⟩ | exact ⟨Or.inl (by assumption), by assumption⟩ | omega) | decide | exact ⟨Or.inl (by assumption), by assumption⟩ | exact ⟨by assumption, by assumption⟩ | omega)⟩, (by first | assumption | (simp only [g5, g6, g7, r2, v2, es, pr_8_10, pr_8_6, pr_i_1, pr_i_2, pr_i_3, pr_i_5]; first | assumption | decide | exact ⟨by assumption, by assumption⟩ | exact ⟨Or.inl (by assumption), by assumption⟩ | omega) | decide | exact ⟨Or.inl (by assumption), by assumption⟩ | exact ⟨by assumption, by assumption⟩ | omega)⟩, (by first | assumption | (simp only [g5, g6, g7, r2, v2, es, pr_8_10, pr_8_6, pr_i_1, pr_i_2, pr_i_3, pr_i_5]; first | assumption | decide | exact ⟨by assumption, by assumption⟩ | exact ⟨Or.inl (by assumption), by assumption⟩ | omega) | decide | exact ⟨Or.inl (by assumption), by assumption⟩ | exact ⟨by assumption, by assumption⟩ | omega)⟩, trivial⟩, trivial⟩ ?_
                try simp only [g5, g6, g7, r2, v2, es, pr_8_10, pr_8_6, pr_i_1, pr_i_2, pr_i_3, pr_i_5]
                refine pr_icT rfl (fun h51 => ?_) (fun h51 => ?_)
                · simp only [ab_cmp, pr_8_10, pr_8_6, pr_i_1, pr_i_2, pr_i_3, pr_i_5] at h51
                  first
                  | contradiction
                  | exact absurd trivial h51
                  | exact absurd h51 (by decide)
                  | exact absurd (Classical.not_not.mp h51) (by decide)
                  | exact absurd rfl h51
                  | skip
                    fail
                · simp only [ab_cmp, pr_8_10, pr_8_6, pr_i_1, pr_i_2, pr_i_3, pr_i_5] at h51
                  first
                  | contradiction
                  | exact absurd trivial h51
                  | exact absurd h51 (by decide)
                  | exact absurd (Classical.not_not.mp h51) (by decide)
                  | exact absurd rfl h51
                  | skip
                    refine pr_seqT (pc' := 60) 4 rfl ⟨⟨⟨⟨trivial, (by first | assumption | (simp only [g5, g6, g7, r2, v2, es, pr_8_10, pr_8_6, pr_i_1, pr_i_2, pr_i_3, pr_i_5]; first | assumption | decide | exact ⟨by assumption, by assumption⟩ | exact ⟨Or.inl (by assumption), by assumption⟩ | omega) | decide | exact ⟨Or.inl (by assumption), by assumption⟩ | exact ⟨by assumption, by assumption⟩ | omega)⟩, trivial⟩, (by first | assumption | (simp only [g5, g6, g7, r2, v2, es, pr_8_10, pr_8_6, pr_i_1, pr_i_2, pr_i_3, pr_i_5]; first | assumption | decide | exact ⟨by assumption, by assumption⟩ | exact ⟨Or.inl (by assumption), by assumption⟩ | omega) | decide | exact ⟨Or.inl (by assumption), by assumption⟩ | exact ⟨by assumption, by assumption⟩ | omega)⟩, (by first | assumption | (simp only [g5, g6, g7, r2, v2, es, pr_8_10, pr_8_6, pr_i_1, pr_i_2, pr_i_3, pr_i_5]; first | assumption | decide | exact ⟨by assumption, by assumption⟩ | exact ⟨Or.inl (by assumption), by assumption⟩ | omega) | decide | exact ⟨Or.inl (by assumption), by assumption⟩ | exact ⟨by assumption, by assumption⟩ | omega)⟩ ?_
                    try simp only [g5, g6, g7, r2, v2, es, pr_8_10, pr_8_6, pr_i_1, pr_i_2, pr_i_3, pr_i_5]
                    refine pr_cvT [_, _] rfl rfl rfl rfl rfl (Nat.le_of_ble_eq_true rfl) (by first | assumption | (simp only [g5, g6, g7, r2, v2, es, pr_8_10, pr_8_6, pr_i_1, pr_i_2, pr_i_3, pr_i_5]; first | assumption | decide | exact ⟨by assumption, by assumption⟩ | exact ⟨Or.inl (by assumption), by assumption⟩ | omega) | decide | exact ⟨Or.inl (by assumption), by assumption⟩ | exact ⟨by assumption, by assumption⟩ | omega) (Nat.le_of_ble_eq_true rfl) (c_refuse 3 (nI s) h M k4) ?_
                    exact pr_irT rfl (by first | exact Or.inl rfl | exact Or.inr rfl | exact pr_b01 _ | assumption) (by exact ref 3)
            · simp only [ab_cmp, pr_8_10, pr_8_6, pr_i_1, pr_i_2, pr_i_3, pr_i_5] at h27
              first
              | contradiction
              | exact absurd trivial h27
              | exact absurd h27 (by decide)
              | exact absurd (Classical.not_not.mp h27) (by decide)
              | exact absurd rfl h27
              | skip
                fail
        · simp only [ab_cmp, pr_8_10, pr_8_6, pr_i_1, pr_i_2, pr_i_3, pr_i_5] at h5
          first
          | contradiction
          | exact absurd trivial h5
          | exact absurd h5 (by decide)
          | exact absurd (Classical.not_not.mp h5) (by decide)
          | exact absurd rfl h5
          | skip
            fail
  · rw [if_neg c1]
    have c1' : ¬ nI kd = 1 := nI_ne (b := 1) c1 (by omega) (by decide)
    refine pr_seqT (pc' := 5) 3 rfl ⟨⟨⟨trivial, (by first | assumption | (simp only [g6, g7, pr_8_10, pr_8_6, pr_i_1, pr_i_2, pr_i_3, pr_i_5]; first | assumption | decide | exact ⟨by assumption, by assumption⟩ | exact ⟨Or.inl (by assumption), by assumption⟩ | omega) | decide | exact ⟨Or.inl (by assumption), by assumption⟩ | exact ⟨by assumption, by assumption⟩ | omega)⟩, (by first | assumption | (simp only [g6, g7, pr_8_10, pr_8_6, pr_i_1, pr_i_2, pr_i_3, pr_i_5]; first | assumption | decide | exact ⟨by assumption, by assumption⟩ | exact ⟨Or.inl (by assumption), by assumption⟩ | omega) | decide | exact ⟨Or.inl (by assumption), by assumption⟩ | exact ⟨by assumption, by assumption⟩ | omega)⟩, trivial⟩ ?_
    try simp only [g6, g7, pr_8_10, pr_8_6, pr_i_1, pr_i_2, pr_i_3, pr_i_5]
    refine pr_icT rfl (fun h5 => ?_) (fun h5 => ?_)
    · simp only [ab_cmp, pr_8_10, pr_8_6, pr_i_1, pr_i_2, pr_i_3, pr_i_5] at h5
      first
      | contradiction
      | exact absurd trivial h5
      | exact absurd h5 (by decide)
      | exact absurd (Classical.not_not.mp h5) (by decide)
      | skip
        fail
    · simp only [ab_cmp, pr_8_10, pr_8_6, pr_i_1, pr_i_2, pr_i_3, pr_i_5] at h5
      first
      | contradiction
      | exact absurd trivial h5
      | exact absurd h5 (by decide)
      | exact absurd (Classical.not_not.mp h5) (by decide)
      | skip
        refine pr_seqT (pc' := 14) 4 rfl ⟨⟨⟨⟨trivial, (by first | assumption | (simp only [g6, g7, pr_8_10, pr_8_6, pr_i_1, pr_i_2, pr_i_3, pr_i_5]; first | assumption | decide | exact ⟨by assumption, by assumption⟩ | exact ⟨Or.inl (by assumption), by assumption⟩ | omega) | decide | exact ⟨Or.inl (by assumption), by assumption⟩ | exact ⟨by assumption, by assumption⟩ | omega)⟩, trivial⟩, (by first | assumption | (simp only [g6, g7, pr_8_10, pr_8_6, pr_i_1, pr_i_2, pr_i_3, pr_i_5]; first | assumption | decide | exact ⟨by assumption, by assumption⟩ | exact ⟨Or.inl (by assumption), by assumption⟩ | omega) | decide | exact ⟨Or.inl (by assumption), by assumption⟩ | exact ⟨by assumption, by assumption⟩ | omega)⟩, (by first | assumption | (simp only [g6, g7, pr_8_10, pr_8_6, pr_i_1, pr_i_2, pr_i_3, pr_i_5]; first | assumption | decide | exact ⟨by assumption, by assumption⟩ | exact ⟨Or.inl (by assumption), by assumption⟩ | omega) | decide | exact ⟨Or.inl (by assumption), by assumption⟩ | exact ⟨by assumption, by assumption⟩ | omega)⟩ ?_
        try simp only [g6, g7, pr_8_10, pr_8_6, pr_i_1, pr_i_2, pr_i_3, pr_i_5]
        refine pr_cvT [_, _] rfl rfl rfl rfl rfl (Nat.le_of_ble_eq_true rfl) (by first | assumption | (simp only [g6, g7, pr_8_10, pr_8_6, pr_i_1, pr_i_2, pr_i_3, pr_i_5]; first | assumption | decide | exact ⟨by assumption, by assumption⟩ | exact ⟨Or.inl (by assumption), by assumption⟩ | omega) | decide | exact ⟨Or.inl (by assumption), by assumption⟩ | exact ⟨by assumption, by assumption⟩ | omega) (Nat.le_of_ble_eq_true rfl) (c_refuse 2 (nI s) h M k4) ?_
        exact pr_irT rfl (by first | exact Or.inl rfl | exact Or.inr rfl | exact pr_b01 _ | assumption) (by exact ref 2)
/-- after a token: the names go on -/
theorem ln_al {t : Nat} {M : ab_M} {I1 : Nat → Nat → Int32} {q : Nat × Nat} {r : Option Value} {M' : ab_M} (f1 : fr t M.1 I1) (ha : al_p t (I1, M.2) (.error q) r M') : ln_p t M (.error q) r M' := ⟨ha.1, ha.2.1, fr_trans f1 ha.2.2.1, ha.2.2.2⟩
set_option maxHeartbeats 4000000 in
theorem c_lstMore {t : Nat} {w : List Nat} (h : ab_H) (M : ab_M) (ht5 : 5 < t) (hr : pr_Rd h M.2.2 t) (ht : pr_Tl h M.2.2 t) (hw : tp_v M.1 w) : ∀ f n, n + f = 320 → ∀ (P : PS) (p : Nat) (I : Nat → Nat → Int32), n + 1 ≤ P.1.2.1.length → P.1.2.1.length ≤ 6 → fr t M.1 I → I 4 9 = M.1 4 9 → I 4 5 = nI p → p ≤ w.length → ps_v I t P → pr_T pX6_tellList 18 [some (.ref 4), some (.int (nI n))] [] h (I, M.2) (ln_p t M (lstMore w f P p)) := by
  obtain ⟨k4, -⟩ := id hr
  have n4 : (4 : Nat) ≠ 0 := by decide
  intro f
  induction f with
  | zero => intro n hn P p I h1 h2; exact absurd h1 (by omega)
  | succ f ih =>
    intro n hn P p I h1 h2 hf i9 i5 hp hps
    have e1 : ¬ (320 : Int32) ≤ nI n := nI_ge (show n < 320 by omega) (by decide)
    have hwI := tp_fr ht5 hf hw
    have hadv := c_advance h (I, M.2) hr hwI i5 hp
    have hle := tok_le hp
    have hwd := tok_word hp
    unfold adv_p at hadv
    unfold lstMore
    generalize hT : tok w p = T at *
    obtain ⟨k, s, e, v⟩ := T
    dsimp only at *
    by_cases c4 : k = 4
    · rw [if_pos c4]
      rw [decide_eq_false (fun z => z c4)] at hadv
      refine pr_seqT (pc' := 22) 2 rfl ⟨⟨trivial, trivial⟩, trivial⟩ ?_
      refine pr_icT rfl (fun h22 => ?_) (fun h22 => ?_)
      · simp only [ab_cmp, pr_16_320, pr_i_0, pr_i_1, pr_i_3] at h22
        first
        | contradiction
        | exact absurd trivial h22
        | exact absurd h22 (by decide)
        | exact absurd (Classical.not_not.mp h22) (by decide)
        | skip
          fail
      · simp only [ab_cmp, pr_16_320, pr_i_0, pr_i_1, pr_i_3] at h22
        first
        | contradiction
        | exact absurd trivial h22
        | exact absurd h22 (by decide)
        | exact absurd (Classical.not_not.mp h22) (by decide)
        | skip
          refine pr_seqT (pc' := 26) 1 rfl ⟨trivial, (by first | assumption | decide | exact ⟨Or.inl (by assumption), by assumption⟩ | exact ⟨by assumption, by assumption⟩ | omega)⟩ ?_
          refine pr_cvX [] rfl rfl rfl rfl rfl (Nat.le_of_ble_eq_true rfl) (by first | assumption | decide | exact ⟨Or.inl (by assumption), by assumption⟩ | exact ⟨by assumption, by assumption⟩ | omega) (Nat.le_of_ble_eq_true rfl) (hadv) (fun v26 M26 q26 => ?_)
          obtain ⟨e2, f1, rfl, hf4, hn'⟩ := q26
          obtain ⟨I1, Z1⟩ := M26
          dsimp only at e2 f1 hf4 hn'
          subst e2
          refine pr_ifT rfl (fun h29 => ?_) (fun h29 => ?_)
          · simp only [ab_cmp, pr_16_320, pr_i_0, pr_i_1, pr_i_3] at h29
            first
            | contradiction
            | exact absurd trivial h29
            | exact absurd h29 (by decide)
            | exact absurd (Classical.not_not.mp h29) (by decide)
            | skip
              fail
          · simp only [ab_cmp, pr_16_320, pr_i_0, pr_i_1, pr_i_3] at h29
            first
            | contradiction
            | exact absurd trivial h29
            | exact absurd h29 (by decide)
            | exact absurd (Classical.not_not.mp h29) (by decide)
            | skip
              refine pr_seqT (pc' := 33) 1 rfl ⟨trivial, trivial⟩ ?_
              exact pr_irT rfl (by first | exact Or.inl rfl | exact Or.inr rfl | exact pr_b01 _ | assumption) (by exact ln_err (fr_trans hf (fr_rd4 f1)) (hf4 c4).1 (hf4 c4).2)
    · rw [if_neg c4]
      rw [decide_eq_true c4] at hadv
      by_cases c3 : k = 3
      · rw [if_pos c3]
        refine pr_seqT (pc' := 22) 2 rfl ⟨⟨trivial, trivial⟩, trivial⟩ ?_
        try simp only [j6, pr_16_320, pr_i_0, pr_i_1, pr_i_3]
        refine pr_icT rfl (fun h22 => ?_) (fun h22 => ?_)
        · simp only [ab_cmp, pr_16_320, pr_i_0, pr_i_1, pr_i_3] at h22
          first
          | contradiction
          | exact absurd trivial h22
          | exact absurd h22 (by decide)
          | exact absurd (Classical.not_not.mp h22) (by decide)
          | exact absurd rfl h22
          | skip
            fail
        · simp only [ab_cmp, pr_16_320, pr_i_0, pr_i_1, pr_i_3] at h22
          first
          | contradiction
          | exact absurd trivial h22
          | exact absurd h22 (by decide)
          | exact absurd (Classical.not_not.mp h22) (by decide)
          | exact absurd rfl h22
          | skip
            refine pr_seqT (pc' := 26) 1 rfl ⟨trivial, (by first | assumption | (simp only [j6, pr_16_320, pr_i_0, pr_i_1, pr_i_3]; first | assumption | decide | exact ⟨by assumption, by assumption⟩ | exact ⟨Or.inl (by assumption), by assumption⟩ | omega) | decide | exact ⟨Or.inl (by assumption), by assumption⟩ | exact ⟨by assumption, by assumption⟩ | omega)⟩ ?_
            try simp only [j6, pr_16_320, pr_i_0, pr_i_1, pr_i_3]
            refine pr_cvX [] rfl rfl rfl rfl rfl (Nat.le_of_ble_eq_true rfl) (by first | assumption | (simp only [j6, pr_16_320, pr_i_0, pr_i_1, pr_i_3]; first | assumption | decide | exact ⟨by assumption, by assumption⟩ | exact ⟨Or.inl (by assumption), by assumption⟩ | omega) | decide | exact ⟨Or.inl (by assumption), by assumption⟩ | exact ⟨by assumption, by assumption⟩ | omega) (Nat.le_of_ble_eq_true rfl) (hadv) (fun v26 M26 q26 => ?_)
            obtain ⟨e2, f1, rfl, hf4, hn'⟩ := q26
            obtain ⟨I1, Z1⟩ := M26
            dsimp only at e2 f1 hf4 hn'
            subst e2
            obtain ⟨j5, j6, j7, j8, j3, j4, j9⟩ := hn' c4
            rw [c3] at j6
            have j6 : I1 4 6 = 3 := j6
            refine pr_ifT rfl (fun h29 => ?_) (fun h29 => ?_)
            · simp only [ab_cmp, pr_16_320, pr_i_0, pr_i_1, pr_i_3] at h29
              first
              | contradiction
              | exact absurd trivial h29
              | exact absurd h29 (by decide)
              | exact absurd (Classical.not_not.mp h29) (by decide)
              | exact absurd rfl h29
              | skip
                refine pr_seqT (pc' := 39) 3 rfl ⟨⟨⟨trivial, (by first | assumption | (simp only [j6, pr_16_320, pr_i_0, pr_i_1, pr_i_3]; first | assumption | decide | exact ⟨by assumption, by assumption⟩ | exact ⟨Or.inl (by assumption), by assumption⟩ | omega) | decide | exact ⟨Or.inl (by assumption), by assumption⟩ | exact ⟨by assumption, by assumption⟩ | omega)⟩, (by first | assumption | (simp only [j6, pr_16_320, pr_i_0, pr_i_1, pr_i_3]; first | assumption | decide | exact ⟨by assumption, by assumption⟩ | exact ⟨Or.inl (by assumption), by assumption⟩ | omega) | decide | exact ⟨Or.inl (by assumption), by assumption⟩ | exact ⟨by assumption, by assumption⟩ | omega)⟩, trivial⟩ ?_
                try simp only [j6, pr_16_320, pr_i_0, pr_i_1, pr_i_3]
                refine pr_icT rfl (fun h39 => ?_) (fun h39 => ?_)
                · simp only [ab_cmp, pr_16_320, pr_i_0, pr_i_1, pr_i_3] at h39
                  first
                  | contradiction
                  | exact absurd trivial h39
                  | exact absurd h39 (by decide)
                  | exact absurd (Classical.not_not.mp h39) (by decide)
                  | exact absurd rfl h39
                  | skip
                    fail
                · simp only [ab_cmp, pr_16_320, pr_i_0, pr_i_1, pr_i_3] at h39
                  first
                  | contradiction
                  | exact absurd trivial h39
                  | exact absurd h39 (by decide)
                  | exact absurd (Classical.not_not.mp h39) (by decide)
                  | exact absurd rfl h39
                  | skip
                    refine pr_seqT (pc' := 43) 1 rfl ⟨trivial, trivial⟩ ?_
                    try simp only [j6, pr_16_320, pr_i_0, pr_i_1, pr_i_3]
                    exact pr_irT rfl (by first | exact Or.inl rfl | exact Or.inr rfl | exact pr_b01 _ | assumption) (by exact ⟨rfl, rfl, fr_trans hf (fr_rd4 f1), by dsimp only; rw [j9]; exact i9, j5, ps_rd4 ht5 f1 j3 j4 hps⟩)
            · simp only [ab_cmp, pr_16_320, pr_i_0, pr_i_1, pr_i_3] at h29
              first
              | contradiction
              | exact absurd trivial h29
              | exact absurd h29 (by decide)
              | exact absurd (Classical.not_not.mp h29) (by decide)
              | exact absurd rfl h29
              | skip
                fail
      · rw [if_neg c3]
        have c3' : ¬ nI k = 3 := nI_ne (b := 3) c3 (by omega) (by decide)
        have key : ∀ I1 : Nat → Nat → Int32, rd4 I I1 → I1 4 5 = nI e → I1 4 6 = nI k → I1 4 7 = nI s → I1 4 3 = I 4 3 → I1 4 4 = I 4 4 → I1 4 9 = I 4 9 → pr_T pX6_tellList 44 [some (.ref 4), some (.int (nI n))] [] h (I1, M.2) (ln_p t M (match aLst w P (k, s, e, v) with
            | .error e => .error e
            | .ok P' => lstMore w f P' e)) := by
          intro I1 f1 j5 j6 j7 j3 j4 j9
          have hadd := c_addListed (v := v) (P := P) h (I1, M.2) ht5 hr ht (tp_rd4 f1 hwI) (ps_rd4 ht5 f1 j3 j4 hps) j5 j6 j7 (by omega) (by omega) (by omega) hwd
          cases ha : aLst w P (k, s, e, v) with
          | error q =>
            rw [ha] at hadd
            refine pr_seqT (pc' := 45) 1 rfl ⟨trivial, (by first | assumption | decide | exact ⟨Or.inl (by assumption), by assumption⟩ | exact ⟨by assumption, by assumption⟩ | omega)⟩ ?_
            refine pr_cvX [] rfl rfl rfl rfl rfl (Nat.le_of_ble_eq_true rfl) (by first | assumption | decide | exact ⟨Or.inl (by assumption), by assumption⟩ | exact ⟨by assumption, by assumption⟩ | omega) (Nat.le_of_ble_eq_true rfl) (hadd) (fun v45 M45 q45 => ?_)
            obtain ⟨rfl, e2, f2, m1, m2⟩ := q45
            obtain ⟨I2, Z2⟩ := M45
            dsimp only at e2 f2 m1 m2
            subst e2
            simp only [okB]
            refine pr_ifT rfl (fun h48 => ?_) (fun h48 => ?_)
            · simp only [ab_cmp, pr_16_320, pr_i_0, pr_i_1, pr_i_3] at h48
              first
              | contradiction
              | exact absurd trivial h48
              | exact absurd h48 (by decide)
              | exact absurd (Classical.not_not.mp h48) (by decide)
              | skip
                fail
            · simp only [ab_cmp, pr_16_320, pr_i_0, pr_i_1, pr_i_3] at h48
              first
              | contradiction
              | exact absurd trivial h48
              | exact absurd h48 (by decide)
              | exact absurd (Classical.not_not.mp h48) (by decide)
              | skip
                refine pr_seqT (pc' := 52) 1 rfl ⟨trivial, trivial⟩ ?_
                exact pr_irT rfl (by first | exact Or.inl rfl | exact Or.inr rfl | exact pr_b01 _ | assumption) (by exact ln_err (fr_trans (fr_trans hf (fr_rd4 f1)) f2) m1 m2)
          | ok P' =>
            rw [ha] at hadd
            obtain ⟨l1, l2⟩ := aLst_len ha
            dsimp only
            have hh := fun I2 => ih (n + 1) (by omega) P' e I2 (by omega) l2
            rw [← nI_1] at hh
            refine pr_seqT (pc' := 45) 1 rfl ⟨trivial, (by first | assumption | decide | exact ⟨Or.inl (by assumption), by assumption⟩ | exact ⟨by assumption, by assumption⟩ | omega)⟩ ?_
            refine pr_cvX [] rfl rfl rfl rfl rfl (Nat.le_of_ble_eq_true rfl) (by first | assumption | decide | exact ⟨Or.inl (by assumption), by assumption⟩ | exact ⟨by assumption, by assumption⟩ | omega) (Nat.le_of_ble_eq_true rfl) (hadd) (fun v45 M45 q45 => ?_)
            obtain ⟨rfl, e2, f2, m1, m2, m3⟩ := q45
            obtain ⟨I2, Z2⟩ := M45
            dsimp only at e2 f2 m1 m2 m3
            subst e2
            simp only [okB]
            refine pr_ifT rfl (fun h48 => ?_) (fun h48 => ?_)
            · simp only [ab_cmp, pr_16_320, pr_i_0, pr_i_1, pr_i_3] at h48
              first
              | contradiction
              | exact absurd trivial h48
              | exact absurd h48 (by decide)
              | exact absurd (Classical.not_not.mp h48) (by decide)
              | skip
                refine pr_seqT (pc' := 18) 2 rfl ⟨⟨trivial, trivial⟩, trivial⟩ ?_
                exact hh I2 (fr_trans (fr_trans hf (fr_rd4 f1)) f2) (by rw [m1, j9]; exact i9) (by rw [m2]; exact j5) (by omega) m3
            · simp only [ab_cmp, pr_16_320, pr_i_0, pr_i_1, pr_i_3] at h48
              first
              | contradiction
              | exact absurd trivial h48
              | exact absurd h48 (by decide)
              | exact absurd (Classical.not_not.mp h48) (by decide)
              | skip
                fail
        refine pr_seqT (pc' := 22) 2 rfl ⟨⟨trivial, trivial⟩, trivial⟩ ?_
        try simp only [j6, pr_16_320, pr_i_0, pr_i_1, pr_i_3]
        refine pr_icT rfl (fun h22 => ?_) (fun h22 => ?_)
        · simp only [ab_cmp, pr_16_320, pr_i_0, pr_i_1, pr_i_3] at h22
          first
          | contradiction
          | exact absurd trivial h22
          | exact absurd h22 (by decide)
          | exact absurd (Classical.not_not.mp h22) (by decide)
          | skip
            fail
        · simp only [ab_cmp, pr_16_320, pr_i_0, pr_i_1, pr_i_3] at h22
          first
          | contradiction
          | exact absurd trivial h22
          | exact absurd h22 (by decide)
          | exact absurd (Classical.not_not.mp h22) (by decide)
          | skip
            refine pr_seqT (pc' := 26) 1 rfl ⟨trivial, (by first | assumption | (simp only [j6, pr_16_320, pr_i_0, pr_i_1, pr_i_3]; first | assumption | decide | exact ⟨by assumption, by assumption⟩ | exact ⟨Or.inl (by assumption), by assumption⟩ | omega) | decide | exact ⟨Or.inl (by assumption), by assumption⟩ | exact ⟨by assumption, by assumption⟩ | omega)⟩ ?_
            try simp only [j6, pr_16_320, pr_i_0, pr_i_1, pr_i_3]
            refine pr_cvX [] rfl rfl rfl rfl rfl (Nat.le_of_ble_eq_true rfl) (by first | assumption | (simp only [j6, pr_16_320, pr_i_0, pr_i_1, pr_i_3]; first | assumption | decide | exact ⟨by assumption, by assumption⟩ | exact ⟨Or.inl (by assumption), by assumption⟩ | omega) | decide | exact ⟨Or.inl (by assumption), by assumption⟩ | exact ⟨by assumption, by assumption⟩ | omega) (Nat.le_of_ble_eq_true rfl) (hadv) (fun v26 M26 q26 => ?_)
            obtain ⟨e2, f1, rfl, hf4, hn'⟩ := q26
            obtain ⟨I1, Z1⟩ := M26
            dsimp only at e2 f1 hf4 hn'
            subst e2
            obtain ⟨j5, j6, j7, j8, j3, j4, j9⟩ := hn' c4
            refine pr_ifT rfl (fun h29 => ?_) (fun h29 => ?_)
            · simp only [ab_cmp, pr_16_320, pr_i_0, pr_i_1, pr_i_3] at h29
              first
              | contradiction
              | exact absurd trivial h29
              | exact absurd h29 (by decide)
              | exact absurd (Classical.not_not.mp h29) (by decide)
              | skip
                refine pr_seqT (pc' := 39) 3 rfl ⟨⟨⟨trivial, (by first | assumption | (simp only [j6, pr_16_320, pr_i_0, pr_i_1, pr_i_3]; first | assumption | decide | exact ⟨by assumption, by assumption⟩ | exact ⟨Or.inl (by assumption), by assumption⟩ | omega) | decide | exact ⟨Or.inl (by assumption), by assumption⟩ | exact ⟨by assumption, by assumption⟩ | omega)⟩, (by first | assumption | (simp only [j6, pr_16_320, pr_i_0, pr_i_1, pr_i_3]; first | assumption | decide | exact ⟨by assumption, by assumption⟩ | exact ⟨Or.inl (by assumption), by assumption⟩ | omega) | decide | exact ⟨Or.inl (by assumption), by assumption⟩ | exact ⟨by assumption, by assumption⟩ | omega)⟩, trivial⟩ ?_
                try simp only [j6, pr_16_320, pr_i_0, pr_i_1, pr_i_3]
                refine pr_icT rfl (fun h39 => ?_) (fun h39 => ?_)
                · simp only [ab_cmp, pr_16_320, pr_i_0, pr_i_1, pr_i_3] at h39
                  first
                  | contradiction
                  | exact absurd trivial h39
                  | exact absurd h39 (by decide)
                  | exact absurd (Classical.not_not.mp h39) (by decide)
                  | skip
                    exact key I1 f1 j5 j6 j7 j3 j4 j9
                · simp only [ab_cmp, pr_16_320, pr_i_0, pr_i_1, pr_i_3] at h39
                  first
                  | contradiction
                  | exact absurd trivial h39
                  | exact absurd h39 (by decide)
                  | exact absurd (Classical.not_not.mp h39) (by decide)
                  | skip
                    fail
            · simp only [ab_cmp, pr_16_320, pr_i_0, pr_i_1, pr_i_3] at h29
              first
              | contradiction
              | exact absurd trivial h29
              | exact absurd h29 (by decide)
              | exact absurd (Classical.not_not.mp h29) (by decide)
              | skip
                fail
