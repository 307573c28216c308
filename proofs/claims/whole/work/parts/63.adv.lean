
/-! ===== advance, and what takes a token ===== -/
def adv_p (w : List Nat) (p : Nat) (M : ab_M) (r : Option Value) (M' : ab_M) : Prop := M'.2 = M.2 ∧ rd4 M.1 M'.1 ∧ r = some (.int (pr_b (decide (¬ (tok w p).1 = 4)))) ∧ ((tok w p).1 = 4 → M'.1 4 9 = 1 ∧ M'.1 4 10 = nI (tok w p).2.1) ∧ (¬ (tok w p).1 = 4 → M'.1 4 5 = nI (tok w p).2.2.1 ∧ M'.1 4 6 = nI (tok w p).1 ∧ M'.1 4 7 = nI (tok w p).2.1 ∧ ((tok w p).1 = 2 → M'.1 4 8 = nI (tok w p).2.2.2) ∧ M'.1 4 3 = M.1 4 3 ∧ M'.1 4 4 = M.1 4 4 ∧ M'.1 4 9 = M.1 4 9)
theorem c_advance {t p : Nat} {w : List Nat} (h : ab_H) (M : ab_M) (hr : pr_Rd h M.2.2 t) (hw : tp_v M.1 w) (h5 : M.1 4 5 = nI p) (hp : p ≤ w.length) : pr_X pX6_advance [.ref 4] h M (adv_p w p M) := by
  obtain ⟨k4, r0, r1, r2, ⟨k2, s0, k3, l3⟩, k5, l5⟩ := id hr
  obtain ⟨w1, w2, w3⟩ := id hw
  have n4 : (4 : Nat) ≠ 0 := by decide
  have n2 : (2 : Nat) ≠ 0 := by decide
  have hs := re_le (w := w) (lo := 32) (hi := 32) hp
  have her : pr_C pX6_endOfRun [.ref 4, .int (nI p), .int 32, .int 32] h M (some (.int (nI (re w 32 32 p)))) h M := c_endOfRun (lo := 32) (hi := 32) h M hr hw hp (by decide) (by decide)
  unfold adv_p tok
  generalize re w 32 32 p = s at *
  have x5 : ab_u M.1 4 5 (nI s) 4 5 = nI s := ab_u_at
  have x7 : ab_u (ab_u M.1 4 5 (nI s)) 4 7 (nI s) 4 7 = nI s := ab_u_at
  have xl : ab_u (ab_u M.1 4 5 (nI s)) 4 7 (nI s) 2 1 = nI w.length := by rw [ab_u_ne (by decide), ab_u_ne (by decide)]; exact w1
  have hw2 : tp_v (ab_u (ab_u M.1 4 5 (nI s)) 4 7 (nI s)) w := tp_v_congr (by rw [ab_u_ne (by decide), ab_u_ne (by decide)]) (by rw [ab_u_ne (by decide), ab_u_ne (by decide)]) hw
  have hba := c_byteAt (p := s) h (ab_u (ab_u M.1 4 5 (nI s)) 4 7 (nI s), M.2) hr hw2 (by omega)
  have f2 : rd4 M.1 (ab_u (ab_u M.1 4 5 (nI s)) 4 7 (nI s)) := fun a ha => by rw [ab_u_ne ha, ab_u_ne ha]
  have i5 : ab_u (ab_u M.1 4 5 (nI s)) 4 7 (nI s) 4 5 = nI s := by rw [ab_u_j (by decide), ab_u_at]
  have i3 : ab_u (ab_u M.1 4 5 (nI s)) 4 7 (nI s) 4 3 = M.1 4 3 := by rw [ab_u_j (by decide), ab_u_j (by decide)]
  have i4 : ab_u (ab_u M.1 4 5 (nI s)) 4 7 (nI s) 4 4 = M.1 4 4 := by rw [ab_u_j (by decide), ab_u_j (by decide)]
  have i9 : ab_u (ab_u M.1 4 5 (nI s)) 4 7 (nI s) 4 9 = M.1 4 9 := by rw [ab_u_j (by decide), ab_u_j (by decide)]
  generalize hI : ab_u (ab_u M.1 4 5 (nI s)) 4 7 (nI s) = I2 at *
  by_cases c0 : w.length ≤ s
  · rw [if_pos c0]
    rw [if_neg (by omega)] at hba
    have e1 : ¬ nI s < nI w.length := fun q => by
      have := (nI_ltI (by omega) (by omega)).mp q
      omega
    refine pr_seqT (pc' := 10) 6 rfl ⟨⟨⟨⟨⟨⟨trivial, (by first | assumption | (simp only [h5, x5, r0, hI, x7, xl, pr_8_122, pr_8_32, pr_8_48, pr_8_57, pr_8_59, pr_8_97, pr_i_0, pr_i_1, pr_i_2, pr_i_3]; first | assumption | decide | exact ⟨by assumption, by assumption⟩ | exact ⟨Or.inl (by assumption), by assumption⟩ | omega) | decide | exact ⟨Or.inl (by assumption), by assumption⟩ | exact ⟨by assumption, by assumption⟩ | omega)⟩, (by first | assumption | (simp only [h5, x5, r0, hI, x7, xl, pr_8_122, pr_8_32, pr_8_48, pr_8_57, pr_8_59, pr_8_97, pr_i_0, pr_i_1, pr_i_2, pr_i_3]; first | assumption | decide | exact ⟨by assumption, by assumption⟩ | exact ⟨Or.inl (by assumption), by assumption⟩ | omega) | decide | exact ⟨Or.inl (by assumption), by assumption⟩ | exact ⟨by assumption, by assumption⟩ | omega)⟩, (by first | assumption | (simp only [h5, x5, r0, hI, x7, xl, pr_8_122, pr_8_32, pr_8_48, pr_8_57, pr_8_59, pr_8_97, pr_i_0, pr_i_1, pr_i_2, pr_i_3]; first | assumption | decide | exact ⟨by assumption, by assumption⟩ | exact ⟨Or.inl (by assumption), by assumption⟩ | omega) | decide | exact ⟨Or.inl (by assumption), by assumption⟩ | exact ⟨by assumption, by assumption⟩ | omega)⟩, (by first | assumption | (simp only [h5, x5, r0, hI, x7, xl, pr_8_122, pr_8_32, pr_8_48, pr_8_57, pr_8_59, pr_8_97, pr_i_0, pr_i_1, pr_i_2, pr_i_3]; first | assumption | decide | exact ⟨by assumption, by assumption⟩ | exact ⟨Or.inl (by assumption), by assumption⟩ | omega) | decide | exact ⟨Or.inl (by assumption), by assumption⟩ | exact ⟨by assumption, by assumption⟩ | omega)⟩, trivial⟩, trivial⟩ ?_
    try simp only [h5, x5, r0, hI, x7, xl, pr_8_122, pr_8_32, pr_8_48, pr_8_57, pr_8_59, pr_8_97, pr_i_0, pr_i_1, pr_i_2, pr_i_3]
    refine pr_cvT [_, _, _] rfl rfl rfl rfl rfl (Nat.le_of_ble_eq_true rfl) (by first | assumption | (simp only [h5, x5, r0, hI, x7, xl, pr_8_122, pr_8_32, pr_8_48, pr_8_57, pr_8_59, pr_8_97, pr_i_0, pr_i_1, pr_i_2, pr_i_3]; first | assumption | decide | exact ⟨by assumption, by assumption⟩ | exact ⟨Or.inl (by assumption), by assumption⟩ | omega) | decide | exact ⟨Or.inl (by assumption), by assumption⟩ | exact ⟨by assumption, by assumption⟩ | omega) (Nat.le_of_ble_eq_true rfl) (her) ?_
    refine pr_seqT (pc' := 29) 8 rfl ⟨⟨⟨⟨⟨⟨⟨⟨trivial, (by first | assumption | (simp only [h5, x5, r0, hI, x7, xl, pr_8_122, pr_8_32, pr_8_48, pr_8_57, pr_8_59, pr_8_97, pr_i_0, pr_i_1, pr_i_2, pr_i_3]; first | assumption | decide | exact ⟨by assumption, by assumption⟩ | exact ⟨Or.inl (by assumption), by assumption⟩ | omega) | decide | exact ⟨Or.inl (by assumption), by assumption⟩ | exact ⟨by assumption, by assumption⟩ | omega)⟩, (by first | assumption | (simp only [h5, x5, r0, hI, x7, xl, pr_8_122, pr_8_32, pr_8_48, pr_8_57, pr_8_59, pr_8_97, pr_i_0, pr_i_1, pr_i_2, pr_i_3]; first | assumption | decide | exact ⟨by assumption, by assumption⟩ | exact ⟨Or.inl (by assumption), by assumption⟩ | omega) | decide | exact ⟨Or.inl (by assumption), by assumption⟩ | exact ⟨by assumption, by assumption⟩ | omega)⟩, (by first | assumption | (simp only [h5, x5, r0, hI, x7, xl, pr_8_122, pr_8_32, pr_8_48, pr_8_57, pr_8_59, pr_8_97, pr_i_0, pr_i_1, pr_i_2, pr_i_3]; first | assumption | decide | exact ⟨by assumption, by assumption⟩ | exact ⟨Or.inl (by assumption), by assumption⟩ | omega) | decide | exact ⟨Or.inl (by assumption), by assumption⟩ | exact ⟨by assumption, by assumption⟩ | omega)⟩, (by first | assumption | (simp only [h5, x5, r0, hI, x7, xl, pr_8_122, pr_8_32, pr_8_48, pr_8_57, pr_8_59, pr_8_97, pr_i_0, pr_i_1, pr_i_2, pr_i_3]; first | assumption | decide | exact ⟨by assumption, by assumption⟩ | exact ⟨Or.inl (by assumption), by assumption⟩ | omega) | decide | exact ⟨Or.inl (by assumption), by assumption⟩ | exact ⟨by assumption, by assumption⟩ | omega)⟩, (by first | assumption | (simp only [h5, x5, r0, hI, x7, xl, pr_8_122, pr_8_32, pr_8_48, pr_8_57, pr_8_59, pr_8_97, pr_i_0, pr_i_1, pr_i_2, pr_i_3]; first | assumption | decide | exact ⟨by assumption, by assumption⟩ | exact ⟨Or.inl (by assumption), by assumption⟩ | omega) | decide | exact ⟨Or.inl (by assumption), by assumption⟩ | exact ⟨by assumption, by assumption⟩ | omega)⟩, (by first | assumption | (simp only [h5, x5, r0, hI, x7, xl, pr_8_122, pr_8_32, pr_8_48, pr_8_57, pr_8_59, pr_8_97, pr_i_0, pr_i_1, pr_i_2, pr_i_3]; first | assumption | decide | exact ⟨by assumption, by assumption⟩ | exact ⟨Or.inl (by assumption), by assumption⟩ | omega) | decide | exact ⟨Or.inl (by assumption), by assumption⟩ | exact ⟨by assumption, by assumption⟩ | omega)⟩, (by first | assumption | (simp only [h5, x5, r0, hI, x7, xl, pr_8_122, pr_8_32, pr_8_48, pr_8_57, pr_8_59, pr_8_97, pr_i_0, pr_i_1, pr_i_2, pr_i_3]; first | assumption | decide | exact ⟨by assumption, by assumption⟩ | exact ⟨Or.inl (by assumption), by assumption⟩ | omega) | decide | exact ⟨Or.inl (by assumption), by assumption⟩ | exact ⟨by assumption, by assumption⟩ | omega)⟩, (by first | assumption | (simp only [h5, x5, r0, hI, x7, xl, pr_8_122, pr_8_32, pr_8_48, pr_8_57, pr_8_59, pr_8_97, pr_i_0, pr_i_1, pr_i_2, pr_i_3]; first | assumption | decide | exact ⟨by assumption, by assumption⟩ | exact ⟨Or.inl (by assumption), by assumption⟩ | omega) | decide | exact ⟨Or.inl (by assumption), by assumption⟩ | exact ⟨by assumption, by assumption⟩ | omega)⟩ ?_
    try simp only [h5, x5, r0, hI, x7, xl, pr_8_122, pr_8_32, pr_8_48, pr_8_57, pr_8_59, pr_8_97, pr_i_0, pr_i_1, pr_i_2, pr_i_3]
    refine pr_cvT [_] rfl rfl rfl rfl rfl (Nat.le_of_ble_eq_true rfl) (by first | assumption | (simp only [h5, x5, r0, hI, x7, xl, pr_8_122, pr_8_32, pr_8_48, pr_8_57, pr_8_59, pr_8_97, pr_i_0, pr_i_1, pr_i_2, pr_i_3]; first | assumption | decide | exact ⟨by assumption, by assumption⟩ | exact ⟨Or.inl (by assumption), by assumption⟩ | omega) | decide | exact ⟨Or.inl (by assumption), by assumption⟩ | exact ⟨by assumption, by assumption⟩ | omega) (Nat.le_of_ble_eq_true rfl) (hba) ?_
    refine pr_seqT (pc' := 44) 6 rfl ⟨⟨⟨⟨⟨⟨trivial, trivial⟩, (by first | assumption | (simp only [h5, x5, r0, hI, x7, xl, pr_8_122, pr_8_32, pr_8_48, pr_8_57, pr_8_59, pr_8_97, pr_i_0, pr_i_1, pr_i_2, pr_i_3]; first | assumption | decide | exact ⟨by assumption, by assumption⟩ | exact ⟨Or.inl (by assumption), by assumption⟩ | omega) | decide | exact ⟨Or.inl (by assumption), by assumption⟩ | exact ⟨by assumption, by assumption⟩ | omega)⟩, (by first | assumption | (simp only [h5, x5, r0, hI, x7, xl, pr_8_122, pr_8_32, pr_8_48, pr_8_57, pr_8_59, pr_8_97, pr_i_0, pr_i_1, pr_i_2, pr_i_3]; first | assumption | decide | exact ⟨by assumption, by assumption⟩ | exact ⟨Or.inl (by assumption), by assumption⟩ | omega) | decide | exact ⟨Or.inl (by assumption), by assumption⟩ | exact ⟨by assumption, by assumption⟩ | omega)⟩, (by first | assumption | (simp only [h5, x5, r0, hI, x7, xl, pr_8_122, pr_8_32, pr_8_48, pr_8_57, pr_8_59, pr_8_97, pr_i_0, pr_i_1, pr_i_2, pr_i_3]; first | assumption | decide | exact ⟨by assumption, by assumption⟩ | exact ⟨Or.inl (by assumption), by assumption⟩ | omega) | decide | exact ⟨Or.inl (by assumption), by assumption⟩ | exact ⟨by assumption, by assumption⟩ | omega)⟩, (by first | assumption | (simp only [h5, x5, r0, hI, x7, xl, pr_8_122, pr_8_32, pr_8_48, pr_8_57, pr_8_59, pr_8_97, pr_i_0, pr_i_1, pr_i_2, pr_i_3]; first | assumption | decide | exact ⟨by assumption, by assumption⟩ | exact ⟨Or.inl (by assumption), by assumption⟩ | omega) | decide | exact ⟨Or.inl (by assumption), by assumption⟩ | exact ⟨by assumption, by assumption⟩ | omega)⟩, (by first | assumption | (simp only [h5, x5, r0, hI, x7, xl, pr_8_122, pr_8_32, pr_8_48, pr_8_57, pr_8_59, pr_8_97, pr_i_0, pr_i_1, pr_i_2, pr_i_3]; first | assumption | decide | exact ⟨by assumption, by assumption⟩ | exact ⟨Or.inl (by assumption), by assumption⟩ | omega) | decide | exact ⟨Or.inl (by assumption), by assumption⟩ | exact ⟨by assumption, by assumption⟩ | omega)⟩ ?_
    try simp only [h5, x5, r0, hI, x7, xl, pr_8_122, pr_8_32, pr_8_48, pr_8_57, pr_8_59, pr_8_97, pr_i_0, pr_i_1, pr_i_2, pr_i_3]
    refine pr_icT rfl (fun h44 => ?_) (fun h44 => ?_)
    · simp only [ab_cmp, pr_8_122, pr_8_32, pr_8_48, pr_8_57, pr_8_59, pr_8_97, pr_i_0, pr_i_1, pr_i_2, pr_i_3] at h44
      first
      | contradiction
      | exact absurd trivial h44
      | exact absurd h44 (by decide)
      | exact absurd (Classical.not_not.mp h44) (by decide)
      | skip
        fail
    · simp only [ab_cmp, pr_8_122, pr_8_32, pr_8_48, pr_8_57, pr_8_59, pr_8_97, pr_i_0, pr_i_1, pr_i_2, pr_i_3] at h44
      first
      | contradiction
      | exact absurd trivial h44
      | exact absurd h44 (by decide)
      | exact absurd (Classical.not_not.mp h44) (by decide)
      | skip
        refine pr_seqT (pc' := 187) 5 rfl ⟨⟨⟨⟨⟨trivial, (by first | assumption | (simp only [h5, x5, r0, hI, x7, xl, pr_8_122, pr_8_32, pr_8_48, pr_8_57, pr_8_59, pr_8_97, pr_i_0, pr_i_1, pr_i_2, pr_i_3]; first | assumption | decide | exact ⟨by assumption, by assumption⟩ | exact ⟨Or.inl (by assumption), by assumption⟩ | omega) | decide | exact ⟨Or.inl (by assumption), by assumption⟩ | exact ⟨by assumption, by assumption⟩ | omega)⟩, trivial⟩, (by first | assumption | (simp only [h5, x5, r0, hI, x7, xl, pr_8_122, pr_8_32, pr_8_48, pr_8_57, pr_8_59, pr_8_97, pr_i_0, pr_i_1, pr_i_2, pr_i_3]; first | assumption | decide | exact ⟨by assumption, by assumption⟩ | exact ⟨Or.inl (by assumption), by assumption⟩ | omega) | decide | exact ⟨Or.inl (by assumption), by assumption⟩ | exact ⟨by assumption, by assumption⟩ | omega)⟩, trivial⟩, trivial⟩ ?_
        try simp only [h5, x5, r0, hI, x7, xl, pr_8_122, pr_8_32, pr_8_48, pr_8_57, pr_8_59, pr_8_97, pr_i_0, pr_i_1, pr_i_2, pr_i_3]
        exact pr_irT rfl (by first | exact Or.inl rfl | exact Or.inr rfl | exact pr_b01 _ | assumption) (by exact ⟨rfl, fun a ha => by (try dsimp only); rw [ab_u_ne ha]; exact f2 a ha, rfl, fun q => absurd q (by decide), fun _ => ⟨by (try dsimp only); rw [ab_u_j (by decide)]; exact i5, by first | exact ab_u_at | (dsimp only; exact ab_u_at), by (try dsimp only); rw [ab_u_j (by decide)]; exact x7, fun q => absurd q (by decide), by (try dsimp only); rw [ab_u_j (by decide)]; exact i3, by (try dsimp only); rw [ab_u_j (by decide)]; exact i4, by (try dsimp only); rw [ab_u_j (by decide)]; exact i9⟩⟩)
  · rw [if_neg c0]
    rw [if_pos (by omega)] at hba
    have e1 : nI s < nI w.length := (nI_ltI (by omega) (by omega)).mpr (by omega)
    obtain ⟨-, b256⟩ := w3 s (by omega)
    have rg := fun lo hi hlo hhi => sb_range (v := w.getD s 0) (lo := lo) (hi := hi) b256 hlo hhi
    by_cases c1 : w.getD s 0 = 59
    · rw [if_pos c1]
      have y1 : sb w s = 59 := by unfold sb; rw [c1]; rfl
      rw [y1] at hba
      have x7' : ab_u I2 4 6 3 4 7 = nI s := by rw [ab_u_j (by decide)]; exact x7
      refine pr_seqT (pc' := 10) 6 rfl ⟨⟨⟨⟨⟨⟨trivial, (by first | assumption | (simp only [h5, x5, r0, hI, x7, xl, x7', nI_1, pr_8_122, pr_8_32, pr_8_48, pr_8_57, pr_8_59, pr_8_97, pr_i_0, pr_i_1, pr_i_2, pr_i_3]; first | assumption | decide | exact ⟨by assumption, by assumption⟩ | exact ⟨Or.inl (by assumption), by assumption⟩ | omega) | decide | exact ⟨Or.inl (by assumption), by assumption⟩ | exact ⟨by assumption, by assumption⟩ | omega)⟩, (by first | assumption | (simp only [h5, x5, r0, hI, x7, xl, x7', nI_1, pr_8_122, pr_8_32, pr_8_48, pr_8_57, pr_8_59, pr_8_97, pr_i_0, pr_i_1, pr_i_2, pr_i_3]; first | assumption | decide | exact ⟨by assumption, by assumption⟩ | exact ⟨Or.inl (by assumption), by assumption⟩ | omega) | decide | exact ⟨Or.inl (by assumption), by assumption⟩ | exact ⟨by assumption, by assumption⟩ | omega)⟩, (by first | assumption | (simp only [h5, x5, r0, hI, x7, xl, x7', nI_1, pr_8_122, pr_8_32, pr_8_48, pr_8_57, pr_8_59, pr_8_97, pr_i_0, pr_i_1, pr_i_2, pr_i_3]; first | assumption | decide | exact ⟨by assumption, by assumption⟩ | exact ⟨Or.inl (by assumption), by assumption⟩ | omega) | decide | exact ⟨Or.inl (by assumption), by assumption⟩ | exact ⟨by assumption, by assumption⟩ | omega)⟩, (by first | assumption | (simp only [h5, x5, r0, hI, x7, xl, x7', nI_1, pr_8_122, pr_8_32, pr_8_48, pr_8_57, pr_8_59, pr_8_97, pr_i_0, pr_i_1, pr_i_2, pr_i_3]; first | assumption | decide | exact ⟨by assumption, by assumption⟩ | exact ⟨Or.inl (by assumption), by assumption⟩ | omega) | decide | exact ⟨Or.inl (by assumption), by assumption⟩ | exact ⟨by assumption, by assumption⟩ | omega)⟩, trivial⟩, trivial⟩ ?_
      try simp only [h5, x5, r0, hI, x7, xl, x7', nI_1, pr_8_122, pr_8_32, pr_8_48, pr_8_57, pr_8_59, pr_8_97, pr_i_0, pr_i_1, pr_i_2, pr_i_3]
      refine pr_cvT [_, _, _] rfl rfl rfl rfl rfl (Nat.le_of_ble_eq_true rfl) (by first | assumption | (simp only [h5, x5, r0, hI, x7, xl, x7', nI_1, pr_8_122, pr_8_32, pr_8_48, pr_8_57, pr_8_59, pr_8_97, pr_i_0, pr_i_1, pr_i_2, pr_i_3]; first | assumption | decide | exact ⟨by assumption, by assumption⟩ | exact ⟨Or.inl (by assumption), by assumption⟩ | omega) | decide | exact ⟨Or.inl (by assumption), by assumption⟩ | exact ⟨by assumption, by assumption⟩ | omega) (Nat.le_of_ble_eq_true rfl) (her) ?_
      refine pr_seqT (pc' := 29) 8 rfl ⟨⟨⟨⟨⟨⟨⟨⟨trivial, (by first | assumption | (simp only [h5, x5, r0, hI, x7, xl, x7', nI_1, pr_8_122, pr_8_32, pr_8_48, pr_8_57, pr_8_59, pr_8_97, pr_i_0, pr_i_1, pr_i_2, pr_i_3]; first | assumption | decide | exact ⟨by assumption, by assumption⟩ | exact ⟨Or.inl (by assumption), by assumption⟩ | omega) | decide | exact ⟨Or.inl (by assumption), by assumption⟩ | exact ⟨by assumption, by assumption⟩ | omega)⟩, (by first | assumption | (simp only [h5, x5, r0, hI, x7, xl, x7', nI_1, pr_8_122, pr_8_32, pr_8_48, pr_8_57, pr_8_59, pr_8_97, pr_i_0, pr_i_1, pr_i_2, pr_i_3]; first | assumption | decide | exact ⟨by assumption, by assumption⟩ | exact ⟨Or.inl (by assumption), by assumption⟩ | omega) | decide | exact ⟨Or.inl (by assumption), by assumption⟩ | exact ⟨by assumption, by assumption⟩ | omega)⟩, (by first | assumption | (simp only [h5, x5, r0, hI, x7, xl, x7', nI_1, pr_8_122, pr_8_32, pr_8_48, pr_8_57, pr_8_59, pr_8_97, pr_i_0, pr_i_1, pr_i_2, pr_i_3]; first | assumption | decide | exact ⟨by assumption, by assumption⟩ | exact ⟨Or.inl (by assumption), by assumption⟩ | omega) | decide | exact ⟨Or.inl (by assumption), by assumption⟩ | exact ⟨by assumption, by assumption⟩ | omega)⟩, (by first | assumption | (simp only [h5, x5, r0, hI, x7, xl, x7', nI_1, pr_8_122, pr_8_32, pr_8_48, pr_8_57, pr_8_59, pr_8_97, pr_i_0, pr_i_1, pr_i_2, pr_i_3]; first | assumption | decide | exact ⟨by assumption, by assumption⟩ | exact ⟨Or.inl (by assumption), by assumption⟩ | omega) | decide | exact ⟨Or.inl (by assumption), by assumption⟩ | exact ⟨by assumption, by assumption⟩ | omega)⟩, (by first | assumption | (simp only [h5, x5, r0, hI, x7, xl, x7', nI_1, pr_8_122, pr_8_32, pr_8_48, pr_8_57, pr_8_59, pr_8_97, pr_i_0, pr_i_1, pr_i_2, pr_i_3]; first | assumption | decide | exact ⟨by assumption, by assumption⟩ | exact ⟨Or.inl (by assumption), by assumption⟩ | omega) | decide | exact ⟨Or.inl (by assumption), by assumption⟩ | exact ⟨by assumption, by assumption⟩ | omega)⟩, (by first | assumption | (simp only [h5, x5, r0, hI, x7, xl, x7', nI_1, pr_8_122, pr_8_32, pr_8_48, pr_8_57, pr_8_59, pr_8_97, pr_i_0, pr_i_1, pr_i_2, pr_i_3]; first | assumption | decide | exact ⟨by assumption, by assumption⟩ | exact ⟨Or.inl (by assumption), by assumption⟩ | omega) | decide | exact ⟨Or.inl (by assumption), by assumption⟩ | exact ⟨by assumption, by assumption⟩ | omega)⟩, (by first | assumption | (simp only [h5, x5, r0, hI, x7, xl, x7', nI_1, pr_8_122, pr_8_32, pr_8_48, pr_8_57, pr_8_59, pr_8_97, pr_i_0, pr_i_1, pr_i_2, pr_i_3]; first | assumption | decide | exact ⟨by assumption, by assumption⟩ | exact ⟨Or.inl (by assumption), by assumption⟩ | omega) | decide | exact ⟨Or.inl (by assumption), by assumption⟩ | exact ⟨by assumption, by assumption⟩ | omega)⟩, (by first | assumption | (simp only [h5, x5, r0, hI, x7, xl, x7', nI_1, pr_8_122, pr_8_32, pr_8_48, pr_8_57, pr_8_59, pr_8_97, pr_i_0, pr_i_1, pr_i_2, pr_i_3]; first | assumption | decide | exact ⟨by assumption, by assumption⟩ | exact ⟨Or.inl (by assumption), by assumption⟩ | omega) | decide | exact ⟨Or.inl (by assumption), by assumption⟩ | exact ⟨by assumption, by assumption⟩ | omega)⟩ ?_
      try simp only [h5, x5, r0, hI, x7, xl, x7', nI_1, pr_8_122, pr_8_32, pr_8_48, pr_8_57, pr_8_59, pr_8_97, pr_i_0, pr_i_1, pr_i_2, pr_i_3]
      refine pr_cvT [_] rfl rfl rfl rfl rfl (Nat.le_of_ble_eq_true rfl) (by first | assumption | (simp only [h5, x5, r0, hI, x7, xl, x7', nI_1, pr_8_122, pr_8_32, pr_8_48, pr_8_57, pr_8_59, pr_8_97, pr_i_0, pr_i_1, pr_i_2, pr_i_3]; first | assumption | decide | exact ⟨by assumption, by assumption⟩ | exact ⟨Or.inl (by assumption), by assumption⟩ | omega) | decide | exact ⟨Or.inl (by assumption), by assumption⟩ | exact ⟨by assumption, by assumption⟩ | omega) (Nat.le_of_ble_eq_true rfl) (hba) ?_
      refine pr_seqT (pc' := 44) 6 rfl ⟨⟨⟨⟨⟨⟨trivial, trivial⟩, (by first | assumption | (simp only [h5, x5, r0, hI, x7, xl, x7', nI_1, pr_8_122, pr_8_32, pr_8_48, pr_8_57, pr_8_59, pr_8_97, pr_i_0, pr_i_1, pr_i_2, pr_i_3]; first | assumption | decide | exact ⟨by assumption, by assumption⟩ | exact ⟨Or.inl (by assumption), by assumption⟩ | omega) | decide | exact ⟨Or.inl (by assumption), by assumption⟩ | exact ⟨by assumption, by assumption⟩ | omega)⟩, (by first | assumption | (simp only [h5, x5, r0, hI, x7, xl, x7', nI_1, pr_8_122, pr_8_32, pr_8_48, pr_8_57, pr_8_59, pr_8_97, pr_i_0, pr_i_1, pr_i_2, pr_i_3]; first | assumption | decide | exact ⟨by assumption, by assumption⟩ | exact ⟨Or.inl (by assumption), by assumption⟩ | omega) | decide | exact ⟨Or.inl (by assumption), by assumption⟩ | exact ⟨by assumption, by assumption⟩ | omega)⟩, (by first | assumption | (simp only [h5, x5, r0, hI, x7, xl, x7', nI_1, pr_8_122, pr_8_32, pr_8_48, pr_8_57, pr_8_59, pr_8_97, pr_i_0, pr_i_1, pr_i_2, pr_i_3]; first | assumption | decide | exact ⟨by assumption, by assumption⟩ | exact ⟨Or.inl (by assumption), by assumption⟩ | omega) | decide | exact ⟨Or.inl (by assumption), by assumption⟩ | exact ⟨by assumption, by assumption⟩ | omega)⟩, (by first | assumption | (simp only [h5, x5, r0, hI, x7, xl, x7', nI_1, pr_8_122, pr_8_32, pr_8_48, pr_8_57, pr_8_59, pr_8_97, pr_i_0, pr_i_1, pr_i_2, pr_i_3]; first | assumption | decide | exact ⟨by assumption, by assumption⟩ | exact ⟨Or.inl (by assumption), by assumption⟩ | omega) | decide | exact ⟨Or.inl (by assumption), by assumption⟩ | exact ⟨by assumption, by assumption⟩ | omega)⟩, (by first | assumption | (simp only [h5, x5, r0, hI, x7, xl, x7', nI_1, pr_8_122, pr_8_32, pr_8_48, pr_8_57, pr_8_59, pr_8_97, pr_i_0, pr_i_1, pr_i_2, pr_i_3]; first | assumption | decide | exact ⟨by assumption, by assumption⟩ | exact ⟨Or.inl (by assumption), by assumption⟩ | omega) | decide | exact ⟨Or.inl (by assumption), by assumption⟩ | exact ⟨by assumption, by assumption⟩ | omega)⟩ ?_
      try simp only [h5, x5, r0, hI, x7, xl, x7', nI_1, pr_8_122, pr_8_32, pr_8_48, pr_8_57, pr_8_59, pr_8_97, pr_i_0, pr_i_1, pr_i_2, pr_i_3]
      refine pr_icT rfl (fun h44 => ?_) (fun h44 => ?_)
      · simp only [ab_cmp, pr_8_122, pr_8_32, pr_8_48, pr_8_57, pr_8_59, pr_8_97, pr_i_0, pr_i_1, pr_i_2, pr_i_3] at h44
        first
        | contradiction
        | exact absurd trivial h44
        | exact absurd h44 (by decide)
        | exact absurd (Classical.not_not.mp h44) (by decide)
        | exact absurd rfl h44
        | skip
          refine pr_seqT (pc' := 58) 2 rfl ⟨⟨trivial, trivial⟩, trivial⟩ ?_
          try simp only [h5, x5, r0, hI, x7, xl, x7', nI_1, pr_8_122, pr_8_32, pr_8_48, pr_8_57, pr_8_59, pr_8_97, pr_i_0, pr_i_1, pr_i_2, pr_i_3]
          refine pr_icT rfl (fun h58 => ?_) (fun h58 => ?_)
          · simp only [ab_cmp, pr_8_122, pr_8_32, pr_8_48, pr_8_57, pr_8_59, pr_8_97, pr_i_0, pr_i_1, pr_i_2, pr_i_3] at h58
            first
            | contradiction
            | exact absurd trivial h58
            | exact absurd h58 (by decide)
            | exact absurd (Classical.not_not.mp h58) (by decide)
            | exact absurd rfl h58
            | skip
              fail
          · simp only [ab_cmp, pr_8_122, pr_8_32, pr_8_48, pr_8_57, pr_8_59, pr_8_97, pr_i_0, pr_i_1, pr_i_2, pr_i_3] at h58
            first
            | contradiction
            | exact absurd trivial h58
            | exact absurd h58 (by decide)
            | exact absurd (Classical.not_not.mp h58) (by decide)
            | exact absurd rfl h58
            | skip
              refine pr_seqT (pc' := 187) 11 rfl ⟨⟨⟨⟨⟨⟨⟨⟨⟨⟨⟨trivial, (by first | assumption | (simp only [h5, x5, r0, hI, x7, xl, x7', nI_1, pr_8_122, pr_8_32, pr_8_48, pr_8_57, pr_8_59, pr_8_97, pr_i_0, pr_i_1, pr_i_2, pr_i_3]; first | assumption | decide | exact ⟨by assumption, by assumption⟩ | exact ⟨Or.inl (by assumption), by assumption⟩ | omega) | decide | exact ⟨Or.inl (by assumption), by assumption⟩ | exact ⟨by assumption, by assumption⟩ | omega)⟩, trivial⟩, (by first | assumption | (simp only [h5, x5, r0, hI, x7, xl, x7', nI_1, pr_8_122, pr_8_32, pr_8_48, pr_8_57, pr_8_59, pr_8_97, pr_i_0, pr_i_1, pr_i_2, pr_i_3]; first | assumption | decide | exact ⟨by assumption, by assumption⟩ | exact ⟨Or.inl (by assumption), by assumption⟩ | omega) | decide | exact ⟨Or.inl (by assumption), by assumption⟩ | exact ⟨by assumption, by assumption⟩ | omega)⟩, (by first | assumption | (simp only [h5, x5, r0, hI, x7, xl, x7', nI_1, pr_8_122, pr_8_32, pr_8_48, pr_8_57, pr_8_59, pr_8_97, pr_i_0, pr_i_1, pr_i_2, pr_i_3]; first | assumption | decide | exact ⟨by assumption, by assumption⟩ | exact ⟨Or.inl (by assumption), by assumption⟩ | omega) | decide | exact ⟨Or.inl (by assumption), by assumption⟩ | exact ⟨by assumption, by assumption⟩ | omega)⟩, (by first | assumption | (simp only [h5, x5, r0, hI, x7, xl, x7', nI_1, pr_8_122, pr_8_32, pr_8_48, pr_8_57, pr_8_59, pr_8_97, pr_i_0, pr_i_1, pr_i_2, pr_i_3]; first | assumption | decide | exact ⟨by assumption, by assumption⟩ | exact ⟨Or.inl (by assumption), by assumption⟩ | omega) | decide | exact ⟨Or.inl (by assumption), by assumption⟩ | exact ⟨by assumption, by assumption⟩ | omega)⟩, (by first | assumption | (simp only [h5, x5, r0, hI, x7, xl, x7', nI_1, pr_8_122, pr_8_32, pr_8_48, pr_8_57, pr_8_59, pr_8_97, pr_i_0, pr_i_1, pr_i_2, pr_i_3]; first | assumption | decide | exact ⟨by assumption, by assumption⟩ | exact ⟨Or.inl (by assumption), by assumption⟩ | omega) | decide | exact ⟨Or.inl (by assumption), by assumption⟩ | exact ⟨by assumption, by assumption⟩ | omega)⟩, trivial⟩, trivial⟩, (by first | assumption | (simp only [h5, x5, r0, hI, x7, xl, x7', nI_1, pr_8_122, pr_8_32, pr_8_48, pr_8_57, pr_8_59, pr_8_97, pr_i_0, pr_i_1, pr_i_2, pr_i_3]; first | assumption | decide | exact ⟨by assumption, by assumption⟩ | exact ⟨Or.inl (by assumption), by assumption⟩ | omega) | decide | exact ⟨Or.inl (by assumption), by assumption⟩ | exact ⟨by assumption, by assumption⟩ | omega)⟩, trivial⟩, trivial⟩ ?_
              try simp only [h5, x5, r0, hI, x7, xl, x7', nI_1, pr_8_122, pr_8_32, pr_8_48, pr_8_57, pr_8_59, pr_8_97, pr_i_0, pr_i_1, pr_i_2, pr_i_3]
              exact pr_irT rfl (by first | exact Or.inl rfl | exact Or.inr rfl | exact pr_b01 _ | assumption) (by exact ⟨rfl, fun a ha => by (try dsimp only); rw [ab_u_ne ha, ab_u_ne ha]; exact f2 a ha, rfl, fun q => absurd q (by decide), fun _ => ⟨by dsimp only; exact by first | exact ab_u_at | (dsimp only; exact ab_u_at), by (try dsimp only); rw [ab_u_j (by decide), ab_u_at]; rfl, by (try dsimp only); rw [ab_u_j (by decide), ab_u_j (by decide)]; exact x7, fun q => absurd q (by decide), by (try dsimp only); rw [ab_u_j (by decide), ab_u_j (by decide)]; exact i3, by (try dsimp only); rw [ab_u_j (by decide), ab_u_j (by decide)]; exact i4, by (try dsimp only); rw [ab_u_j (by decide), ab_u_j (by decide)]; exact i9⟩⟩)
      · simp only [ab_cmp, pr_8_122, pr_8_32, pr_8_48, pr_8_57, pr_8_59, pr_8_97, pr_i_0, pr_i_1, pr_i_2, pr_i_3] at h44
        first
        | contradiction
        | exact absurd trivial h44
        | exact absurd h44 (by decide)
        | exact absurd (Classical.not_not.mp h44) (by decide)
        | exact absurd rfl h44
        | skip
          fail
    · rw [if_neg c1]
      have y1 : ¬ sb w s = 59 := fun q => c1 (by
        have z1 : ¬ sb w s < nI 59 := by rw [q]; decide
        have z2 : ¬ nI 59 < sb w s := by rw [q]; decide
        have := (rg 59 59 (by decide) (by decide)).mp ⟨z1, z2⟩
        omega)
      have hw97 := c_within (sb w s) 97 122 h (I2, M.2)
      have hw48 := c_within (sb w s) 48 57 h (I2, M.2)
      by_cases c2 : 97 ≤ w.getD s 0 ∧ w.getD s 0 ≤ 122
      · rw [if_pos c2]
        have z := (rg 97 122 (by decide) (by decide)).mpr c2
        have z1 : pr_in (sb w s) 97 122 = true := by unfold pr_in; rw [decide_eq_false (show ¬ sb w s < 97 from z.1), decide_eq_false (show ¬ (122 : Int32) < sb w s from z.2)]; rfl
        rw [z1] at hw97
        have hw3 : tp_v (ab_u I2 4 6 1) w := tp_v_congr (ab_u_ne (by decide)) (ab_u_ne (by decide)) hw2
        have her2 : pr_C pX6_endOfRun [.ref 4, .int (nI s), .int 97, .int 122] h (ab_u I2 4 6 1, M.2) (some (.int (nI (re w 97 122 s)))) h (ab_u I2 4 6 1, M.2) := c_endOfRun (lo := 97) (hi := 122) h (ab_u I2 4 6 1, M.2) hr hw3 hs.2 (by decide) (by decide)
        have x7' : ab_u I2 4 6 1 4 7 = nI s := by rw [ab_u_j (by decide)]; exact x7
        refine pr_seqT (pc' := 10) 6 rfl ⟨⟨⟨⟨⟨⟨trivial, (by first | assumption | (simp only [h5, x5, r0, hI, x7, xl, x7', pr_8_122, pr_8_32, pr_8_48, pr_8_57, pr_8_59, pr_8_97, pr_i_0, pr_i_1, pr_i_2, pr_i_3]; first | assumption | decide | exact ⟨by assumption, by assumption⟩ | exact ⟨Or.inl (by assumption), by assumption⟩ | omega) | decide | exact ⟨Or.inl (by assumption), by assumption⟩ | exact ⟨by assumption, by assumption⟩ | omega)⟩, (by first | assumption | (simp only [h5, x5, r0, hI, x7, xl, x7', pr_8_122, pr_8_32, pr_8_48, pr_8_57, pr_8_59, pr_8_97, pr_i_0, pr_i_1, pr_i_2, pr_i_3]; first | assumption | decide | exact ⟨by assumption, by assumption⟩ | exact ⟨Or.inl (by assumption), by assumption⟩ | omega) | decide | exact ⟨Or.inl (by assumption), by assumption⟩ | exact ⟨by assumption, by assumption⟩ | omega)⟩, (by first | assumption | (simp only [h5, x5, r0, hI, x7, xl, x7', pr_8_122, pr_8_32, pr_8_48, pr_8_57, pr_8_59, pr_8_97, pr_i_0, pr_i_1, pr_i_2, pr_i_3]; first | assumption | decide | exact ⟨by assumption, by assumption⟩ | exact ⟨Or.inl (by assumption), by assumption⟩ | omega) | decide | exact ⟨Or.inl (by assumption), by assumption⟩ | exact ⟨by assumption, by assumption⟩ | omega)⟩, (by first | assumption | (simp only [h5, x5, r0, hI, x7, xl, x7', pr_8_122, pr_8_32, pr_8_48, pr_8_57, pr_8_59, pr_8_97, pr_i_0, pr_i_1, pr_i_2, pr_i_3]; first | assumption | decide | exact ⟨by assumption, by assumption⟩ | exact ⟨Or.inl (by assumption), by assumption⟩ | omega) | decide | exact ⟨Or.inl (by assumption), by assumption⟩ | exact ⟨by assumption, by assumption⟩ | omega)⟩, trivial⟩, trivial⟩ ?_
        try simp only [h5, x5, r0, hI, x7, xl, x7', pr_8_122, pr_8_32, pr_8_48, pr_8_57, pr_8_59, pr_8_97, pr_i_0, pr_i_1, pr_i_2, pr_i_3]
        refine pr_cvT [_, _, _] rfl rfl rfl rfl rfl (Nat.le_of_ble_eq_true rfl) (by first | assumption | (simp only [h5, x5, r0, hI, x7, xl, x7', pr_8_122, pr_8_32, pr_8_48, pr_8_57, pr_8_59, pr_8_97, pr_i_0, pr_i_1, pr_i_2, pr_i_3]; first | assumption | decide | exact ⟨by assumption, by assumption⟩ | exact ⟨Or.inl (by assumption), by assumption⟩ | omega) | decide | exact ⟨Or.inl (by assumption), by assumption⟩ | exact ⟨by assumption, by assumption⟩ | omega) (Nat.le_of_ble_eq_true rfl) (her) ?_
        refine pr_seqT (pc' := 29) 8 rfl ⟨⟨⟨⟨⟨⟨⟨⟨trivial, (by first | assumption | (simp only [h5, x5, r0, hI, x7, xl, x7', pr_8_122, pr_8_32, pr_8_48, pr_8_57, pr_8_59, pr_8_97, pr_i_0, pr_i_1, pr_i_2, pr_i_3]; first | assumption | decide | exact ⟨by assumption, by assumption⟩ | exact ⟨Or.inl (by assumption), by assumption⟩ | omega) | decide | exact ⟨Or.inl (by assumption), by assumption⟩ | exact ⟨by assumption, by assumption⟩ | omega)⟩, (by first | assumption | (simp only [h5, x5, r0, hI, x7, xl, x7', pr_8_122, pr_8_32, pr_8_48, pr_8_57, pr_8_59, pr_8_97, pr_i_0, pr_i_1, pr_i_2, pr_i_3]; first | assumption | decide | exact ⟨by assumption, by assumption⟩ | exact ⟨Or.inl (by assumption), by assumption⟩ | omega) | decide | exact ⟨Or.inl (by assumption), by assumption⟩ | exact ⟨by assumption, by assumption⟩ | omega)⟩, (by first | assumption | (simp only [h5, x5, r0, hI, x7, xl, x7', pr_8_122, pr_8_32, pr_8_48, pr_8_57, pr_8_59, pr_8_97, pr_i_0, pr_i_1, pr_i_2, pr_i_3]; first | assumption | decide | exact ⟨by assumption, by assumption⟩ | exact ⟨Or.inl (by assumption), by assumption⟩ | omega) | decide | exact ⟨Or.inl (by assumption), by assumption⟩ | exact ⟨by assumption, by assumption⟩ | omega)⟩, (by first | assumption | (simp only [h5, x5, r0, hI, x7, xl, x7', pr_8_122, pr_8_32, pr_8_48, pr_8_57, pr_8_59, pr_8_97, pr_i_0, pr_i_1, pr_i_2, pr_i_3]; first | assumption | decide | exact ⟨by assumption, by assumption⟩ | exact ⟨Or.inl (by assumption), by assumption⟩ | omega) | decide | exact ⟨Or.inl (by assumption), by assumption⟩ | exact ⟨by assumption, by assumption⟩ | omega)⟩, (by first | assumption | (simp only [h5, x5, r0, hI, x7, xl, x7', pr_8_122, pr_8_32, pr_8_48, pr_8_57, pr_8_59, pr_8_97, pr_i_0, pr_i_1, pr_i_2, pr_i_3]; first | assumption | decide | exact ⟨by assumption, by assumption⟩ | exact ⟨Or.inl (by assumption), by assumption⟩ | omega) | decide | exact ⟨Or.inl (by assumption), by assumption⟩ | exact ⟨by assumption, by assumption⟩ | omega)⟩, (by first | assumption | (simp only [h5, x5, r0, hI, x7, xl, x7', pr_8_122, pr_8_32, pr_8_48, pr_8_57, pr_8_59, pr_8_97, pr_i_0, pr_i_1, pr_i_2, pr_i_3]; first | assumption | decide | exact ⟨by assumption, by assumption⟩ | exact ⟨Or.inl (by assumption), by assumption⟩ | omega) | decide | exact ⟨Or.inl (by assumption), by assumption⟩ | exact ⟨by assumption, by assumption⟩ | omega)⟩, (by first | assumption | (simp only [h5, x5, r0, hI, x7, xl, x7', pr_8_122, pr_8_32, pr_8_48, pr_8_57, pr_8_59, pr_8_97, pr_i_0, pr_i_1, pr_i_2, pr_i_3]; first | assumption | decide | exact ⟨by assumption, by assumption⟩ | exact ⟨Or.inl (by assumption), by assumption⟩ | omega) | decide | exact ⟨Or.inl (by assumption), by assumption⟩ | exact ⟨by assumption, by assumption⟩ | omega)⟩, (by first | assumption | (simp only [h5, x5, r0, hI, x7, xl, x7', pr_8_122, pr_8_32, pr_8_48, pr_8_57, pr_8_59, pr_8_97, pr_i_0, pr_i_1, pr_i_2, pr_i_3]; first | assumption | decide | exact ⟨by assumption, by assumption⟩ | exact ⟨Or.inl (by assumption), by assumption⟩ | omega) | decide | exact ⟨Or.inl (by assumption), by assumption⟩ | exact ⟨by assumption, by assumption⟩ | omega)⟩ ?_
        try simp only [h5, x5, r0, hI, x7, xl, x7', pr_8_122, pr_8_32, pr_8_48, pr_8_57, pr_8_59, pr_8_97, pr_i_0, pr_i_1, pr_i_2, pr_i_3]
        refine pr_cvT [_] rfl rfl rfl rfl rfl (Nat.le_of_ble_eq_true rfl) (by first | assumption | (simp only [h5, x5, r0, hI, x7, xl, x7', pr_8_122, pr_8_32, pr_8_48, pr_8_57, pr_8_59, pr_8_97, pr_i_0, pr_i_1, pr_i_2, pr_i_3]; first | assumption | decide | exact ⟨by assumption, by assumption⟩ | exact ⟨Or.inl (by assumption), by assumption⟩ | omega) | decide | exact ⟨Or.inl (by assumption), by assumption⟩ | exact ⟨by assumption, by assumption⟩ | omega) (Nat.le_of_ble_eq_true rfl) (hba) ?_
        refine pr_seqT (pc' := 44) 6 rfl ⟨⟨⟨⟨⟨⟨trivial, trivial⟩, (by first | assumption | (simp only [h5, x5, r0, hI, x7, xl, x7', pr_8_122, pr_8_32, pr_8_48, pr_8_57, pr_8_59, pr_8_97, pr_i_0, pr_i_1, pr_i_2, pr_i_3]; first | assumption | decide | exact ⟨by assumption, by assumption⟩ | exact ⟨Or.inl (by assumption), by assumption⟩ | omega) | decide | exact ⟨Or.inl (by assumption), by assumption⟩ | exact ⟨by assumption, by assumption⟩ | omega)⟩, (by first | assumption | (simp only [h5, x5, r0, hI, x7, xl, x7', pr_8_122, pr_8_32, pr_8_48, pr_8_57, pr_8_59, pr_8_97, pr_i_0, pr_i_1, pr_i_2, pr_i_3]; first | assumption | decide | exact ⟨by assumption, by assumption⟩ | exact ⟨Or.inl (by assumption), by assumption⟩ | omega) | decide | exact ⟨Or.inl (by assumption), by assumption⟩ | exact ⟨by assumption, by assumption⟩ | omega)⟩, (by first | assumption | (simp only [h5, x5, r0, hI, x7, xl, x7', pr_8_122, pr_8_32, pr_8_48, pr_8_57, pr_8_59, pr_8_97, pr_i_0, pr_i_1, pr_i_2, pr_i_3]; first | assumption | decide | exact ⟨by assumption, by assumption⟩ | exact ⟨Or.inl (by assumption), by assumption⟩ | omega) | decide | exact ⟨Or.inl (by assumption), by assumption⟩ | exact ⟨by assumption, by assumption⟩ | omega)⟩, (by first | assumption | (simp only [h5, x5, r0, hI, x7, xl, x7', pr_8_122, pr_8_32, pr_8_48, pr_8_57, pr_8_59, pr_8_97, pr_i_0, pr_i_1, pr_i_2, pr_i_3]; first | assumption | decide | exact ⟨by assumption, by assumption⟩ | exact ⟨Or.inl (by assumption), by assumption⟩ | omega) | decide | exact ⟨Or.inl (by assumption), by assumption⟩ | exact ⟨by assumption, by assumption⟩ | omega)⟩, (by first | assumption | (simp only [h5, x5, r0, hI, x7, xl, x7', pr_8_122, pr_8_32, pr_8_48, pr_8_57, pr_8_59, pr_8_97, pr_i_0, pr_i_1, pr_i_2, pr_i_3]; first | assumption | decide | exact ⟨by assumption, by assumption⟩ | exact ⟨Or.inl (by assumption), by assumption⟩ | omega) | decide | exact ⟨Or.inl (by assumption), by assumption⟩ | exact ⟨by assumption, by assumption⟩ | omega)⟩ ?_
        try simp only [h5, x5, r0, hI, x7, xl, x7', pr_8_122, pr_8_32, pr_8_48, pr_8_57, pr_8_59, pr_8_97, pr_i_0, pr_i_1, pr_i_2, pr_i_3]
        refine pr_icT rfl (fun h44 => ?_) (fun h44 => ?_)
        · simp only [ab_cmp, pr_8_122, pr_8_32, pr_8_48, pr_8_57, pr_8_59, pr_8_97, pr_i_0, pr_i_1, pr_i_2, pr_i_3] at h44
          first
          | contradiction
          | exact absurd trivial h44
          | exact absurd h44 (by decide)
          | exact absurd (Classical.not_not.mp h44) (by decide)
          | skip
            refine pr_seqT (pc' := 58) 2 rfl ⟨⟨trivial, trivial⟩, trivial⟩ ?_
            try simp only [h5, x5, r0, hI, x7, xl, x7', pr_8_122, pr_8_32, pr_8_48, pr_8_57, pr_8_59, pr_8_97, pr_i_0, pr_i_1, pr_i_2, pr_i_3]
            refine pr_icT rfl (fun h58 => ?_) (fun h58 => ?_)
            · simp only [ab_cmp, pr_8_122, pr_8_32, pr_8_48, pr_8_57, pr_8_59, pr_8_97, pr_i_0, pr_i_1, pr_i_2, pr_i_3] at h58
              first
              | contradiction
              | exact absurd trivial h58
              | exact absurd h58 (by decide)
              | exact absurd (Classical.not_not.mp h58) (by decide)
              | skip
                refine pr_seqT (pc' := 84) 3 rfl ⟨⟨⟨trivial, trivial⟩, trivial⟩, trivial⟩ ?_
                try simp only [h5, x5, r0, hI, x7, xl, x7', pr_8_122, pr_8_32, pr_8_48, pr_8_57, pr_8_59, pr_8_97, pr_i_0, pr_i_1, pr_i_2, pr_i_3]
                refine pr_csT [_, _, _] rfl rfl rfl rfl rfl (Nat.le_of_ble_eq_true rfl) (Nat.le_of_ble_eq_true rfl) (hw97) ?_
                refine pr_ifT rfl (fun h87 => ?_) (fun h87 => ?_)
                · simp only [ab_cmp, pr_8_122, pr_8_32, pr_8_48, pr_8_57, pr_8_59, pr_8_97, pr_i_0, pr_i_1, pr_i_2, pr_i_3] at h87
                  first
                  | contradiction
                  | exact absurd trivial h87
                  | exact absurd h87 (by decide)
                  | exact absurd (Classical.not_not.mp h87) (by decide)
                  | skip
                    fail
                · simp only [ab_cmp, pr_8_122, pr_8_32, pr_8_48, pr_8_57, pr_8_59, pr_8_97, pr_i_0, pr_i_1, pr_i_2, pr_i_3] at h87
                  first
                  | contradiction
                  | exact absurd trivial h87
                  | exact absurd h87 (by decide)
                  | exact absurd (Classical.not_not.mp h87) (by decide)
                  | skip
                    refine pr_seqT (pc' := 105) 9 rfl ⟨⟨⟨⟨⟨⟨⟨⟨⟨trivial, (by first | assumption | (simp only [h5, x5, r0, hI, x7, xl, x7', pr_8_122, pr_8_32, pr_8_48, pr_8_57, pr_8_59, pr_8_97, pr_i_0, pr_i_1, pr_i_2, pr_i_3]; first | assumption | decide | exact ⟨by assumption, by assumption⟩ | exact ⟨Or.inl (by assumption), by assumption⟩ | omega) | decide | exact ⟨Or.inl (by assumption), by assumption⟩ | exact ⟨by assumption, by assumption⟩ | omega)⟩, trivial⟩, (by first | assumption | (simp only [h5, x5, r0, hI, x7, xl, x7', pr_8_122, pr_8_32, pr_8_48, pr_8_57, pr_8_59, pr_8_97, pr_i_0, pr_i_1, pr_i_2, pr_i_3]; first | assumption | decide | exact ⟨by assumption, by assumption⟩ | exact ⟨Or.inl (by assumption), by assumption⟩ | omega) | decide | exact ⟨Or.inl (by assumption), by assumption⟩ | exact ⟨by assumption, by assumption⟩ | omega)⟩, (by first | assumption | (simp only [h5, x5, r0, hI, x7, xl, x7', pr_8_122, pr_8_32, pr_8_48, pr_8_57, pr_8_59, pr_8_97, pr_i_0, pr_i_1, pr_i_2, pr_i_3]; first | assumption | decide | exact ⟨by assumption, by assumption⟩ | exact ⟨Or.inl (by assumption), by assumption⟩ | omega) | decide | exact ⟨Or.inl (by assumption), by assumption⟩ | exact ⟨by assumption, by assumption⟩ | omega)⟩, (by first | assumption | (simp only [h5, x5, r0, hI, x7, xl, x7', pr_8_122, pr_8_32, pr_8_48, pr_8_57, pr_8_59, pr_8_97, pr_i_0, pr_i_1, pr_i_2, pr_i_3]; first | assumption | decide | exact ⟨by assumption, by assumption⟩ | exact ⟨Or.inl (by assumption), by assumption⟩ | omega) | decide | exact ⟨Or.inl (by assumption), by assumption⟩ | exact ⟨by assumption, by assumption⟩ | omega)⟩, (by first | assumption | (simp only [h5, x5, r0, hI, x7, xl, x7', pr_8_122, pr_8_32, pr_8_48, pr_8_57, pr_8_59, pr_8_97, pr_i_0, pr_i_1, pr_i_2, pr_i_3]; first | assumption | decide | exact ⟨by assumption, by assumption⟩ | exact ⟨Or.inl (by assumption), by assumption⟩ | omega) | decide | exact ⟨Or.inl (by assumption), by assumption⟩ | exact ⟨by assumption, by assumption⟩ | omega)⟩, (by first | assumption | (simp only [h5, x5, r0, hI, x7, xl, x7', pr_8_122, pr_8_32, pr_8_48, pr_8_57, pr_8_59, pr_8_97, pr_i_0, pr_i_1, pr_i_2, pr_i_3]; first | assumption | decide | exact ⟨by assumption, by assumption⟩ | exact ⟨Or.inl (by assumption), by assumption⟩ | omega) | decide | exact ⟨Or.inl (by assumption), by assumption⟩ | exact ⟨by assumption, by assumption⟩ | omega)⟩, trivial⟩, trivial⟩ ?_
                    try simp only [h5, x5, r0, hI, x7, xl, x7', pr_8_122, pr_8_32, pr_8_48, pr_8_57, pr_8_59, pr_8_97, pr_i_0, pr_i_1, pr_i_2, pr_i_3]
                    refine pr_cvT [_, _, _] rfl rfl rfl rfl rfl (Nat.le_of_ble_eq_true rfl) (by first | assumption | (simp only [h5, x5, r0, hI, x7, xl, x7', pr_8_122, pr_8_32, pr_8_48, pr_8_57, pr_8_59, pr_8_97, pr_i_0, pr_i_1, pr_i_2, pr_i_3]; first | assumption | decide | exact ⟨by assumption, by assumption⟩ | exact ⟨Or.inl (by assumption), by assumption⟩ | omega) | decide | exact ⟨Or.inl (by assumption), by assumption⟩ | exact ⟨by assumption, by assumption⟩ | omega) (Nat.le_of_ble_eq_true rfl) (her2) ?_
                    refine pr_seqT (pc' := 187) 3 rfl ⟨⟨⟨trivial, (by first | assumption | (simp only [h5, x5, r0, hI, x7, xl, x7', pr_8_122, pr_8_32, pr_8_48, pr_8_57, pr_8_59, pr_8_97, pr_i_0, pr_i_1, pr_i_2, pr_i_3]; first | assumption | decide | exact ⟨by assumption, by assumption⟩ | exact ⟨Or.inl (by assumption), by assumption⟩ | omega) | decide | exact ⟨Or.inl (by assumption), by assumption⟩ | exact ⟨by assumption, by assumption⟩ | omega)⟩, trivial⟩, trivial⟩ ?_
                    try simp only [h5, x5, r0, hI, x7, xl, x7', pr_8_122, pr_8_32, pr_8_48, pr_8_57, pr_8_59, pr_8_97, pr_i_0, pr_i_1, pr_i_2, pr_i_3]
                    exact pr_irT rfl (by first | exact Or.inl rfl | exact Or.inr rfl | exact pr_b01 _ | assumption) (by exact ⟨rfl, fun a ha => by (try dsimp only); rw [ab_u_ne ha, ab_u_ne ha]; exact f2 a ha, rfl, fun q => absurd q (by decide), fun _ => ⟨by dsimp only; exact by first | exact ab_u_at | (dsimp only; exact ab_u_at), by (try dsimp only); rw [ab_u_j (by decide), ab_u_at]; rfl, by (try dsimp only); rw [ab_u_j (by decide), ab_u_j (by decide)]; exact x7, fun q => absurd q (by decide), by (try dsimp only); rw [ab_u_j (by decide), ab_u_j (by decide)]; exact i3, by (try dsimp only); rw [ab_u_j (by decide), ab_u_j (by decide)]; exact i4, by (try dsimp only); rw [ab_u_j (by decide), ab_u_j (by decide)]; exact i9⟩⟩)
            · simp only [ab_cmp, pr_8_122, pr_8_32, pr_8_48, pr_8_57, pr_8_59, pr_8_97, pr_i_0, pr_i_1, pr_i_2, pr_i_3] at h58
              first
              | contradiction
              | exact absurd trivial h58
              | exact absurd h58 (by decide)
              | exact absurd (Classical.not_not.mp h58) (by decide)
              | skip
                fail
        · simp only [ab_cmp, pr_8_122, pr_8_32, pr_8_48, pr_8_57, pr_8_59, pr_8_97, pr_i_0, pr_i_1, pr_i_2, pr_i_3] at h44
          first
          | contradiction
          | exact absurd trivial h44
          | exact absurd h44 (by decide)
          | exact absurd (Classical.not_not.mp h44) (by decide)
          | skip
            fail
      · rw [if_neg c2]
        have z1 : pr_in (sb w s) 97 122 = false := by
          cases q : pr_in (sb w s) 97 122 with
          | false => rfl
          | true =>
            unfold pr_in at q
            rw [Bool.and_eq_true] at q
            exact absurd ((rg 97 122 (by decide) (by decide)).mp ⟨of_decide_eq_false ((Bool.not_eq_true' _).mp q.1), of_decide_eq_false ((Bool.not_eq_true' _).mp q.2)⟩) c2
        rw [z1] at hw97
        by_cases c3 : 48 ≤ w.getD s 0 ∧ w.getD s 0 ≤ 57
        · rw [if_pos c3]
          have z := (rg 48 57 (by decide) (by decide)).mpr c3
          have z2 : pr_in (sb w s) 48 57 = true := by unfold pr_in; rw [decide_eq_false (show ¬ sb w s < 48 from z.1), decide_eq_false (show ¬ (57 : Int32) < sb w s from z.2)]; rfl
          rw [z2] at hw48
          have hw3 : tp_v (ab_u I2 4 6 2) w := tp_v_congr (ab_u_ne (by decide)) (ab_u_ne (by decide)) hw2
          have her2 : pr_C pX6_endOfRun [.ref 4, .int (nI s), .int 48, .int 57] h (ab_u I2 4 6 2, M.2) (some (.int (nI (re w 48 57 s)))) h (ab_u I2 4 6 2, M.2) := c_endOfRun (lo := 48) (hi := 57) h (ab_u I2 4 6 2, M.2) hr hw3 hs.2 (by decide) (by decide)
          have x7' : ab_u I2 4 6 2 4 7 = nI s := by rw [ab_u_j (by decide)]; exact x7
          have hre := re_le (w := w) (lo := 48) (hi := 57) hs.2
          have hin := runE_in w 48 57 w.length s
          have x5'' : ab_u (ab_u I2 4 6 2) 4 5 (nI (re w 48 57 s)) 4 5 = nI (re w 48 57 s) := ab_u_at
          have x7'' : ab_u (ab_u I2 4 6 2) 4 5 (nI (re w 48 57 s)) 4 7 = nI s := by rw [ab_u_j (by decide)]; exact x7'
          have esub : nI (re w 48 57 s) - nI s = nI (re w 48 57 s - s) := i_sub hre.1
          by_cases c4 : re w 48 57 s - s ≤ 3
          · rw [if_pos c4]
            have y4 : nI (re w 48 57 s - s) ≤ 3 := nI_le (b := 3) c4 (by decide)
            have hw4 : tp_v (ab_u (ab_u I2 4 6 2) 4 5 (nI (re w 48 57 s))) w := tp_v_congr (ab_u_ne (by decide)) (ab_u_ne (by decide)) hw3
            have htf := c_takeFigures (s := s) (e := re w 48 57 s) h (ab_u (ab_u I2 4 6 2) 4 5 (nI (re w 48 57 s)), M.2) hr hw4 x5'' x7'' hre.1 hre.2 c4 (fun i a b => (inR_iff.mp (hin i a b)).2)
            refine pr_seqT (pc' := 10) 6 rfl ⟨⟨⟨⟨⟨⟨trivial, (by first | assumption | (simp only [h5, x5, r0, hI, x7, xl, x7', x5'', x7'', esub, pr_8_122, pr_8_32, pr_8_48, pr_8_57, pr_8_59, pr_8_97, pr_i_0, pr_i_1, pr_i_2, pr_i_3]; first | assumption | decide | exact ⟨by assumption, by assumption⟩ | exact ⟨Or.inl (by assumption), by assumption⟩ | omega) | decide | exact ⟨Or.inl (by assumption), by assumption⟩ | exact ⟨by assumption, by assumption⟩ | omega)⟩, (by first | assumption | (simp only [h5, x5, r0, hI, x7, xl, x7', x5'', x7'', esub, pr_8_122, pr_8_32, pr_8_48, pr_8_57, pr_8_59, pr_8_97, pr_i_0, pr_i_1, pr_i_2, pr_i_3]; first | assumption | decide | exact ⟨by assumption, by assumption⟩ | exact ⟨Or.inl (by assumption), by assumption⟩ | omega) | decide | exact ⟨Or.inl (by assumption), by assumption⟩ | exact ⟨by assumption, by assumption⟩ | omega)⟩, (by first | assumption | (simp only [h5, x5, r0, hI, x7, xl, x7', x5'', x7'', esub, pr_8_122, pr_8_32, pr_8_48, pr_8_57, pr_8_59, pr_8_97, pr_i_0, pr_i_1, pr_i_2, pr_i_3]; first | assumption | decide | exact ⟨by assumption, by assumption⟩ | exact ⟨Or.inl (by assumption), by assumption⟩ | omega) | decide | exact ⟨Or.inl (by assumption), by assumption⟩ | exact ⟨by assumption, by assumption⟩ | omega)⟩, (by first | assumption | (simp only [h5, x5, r0, hI, x7, xl, x7', x5'', x7'', esub, pr_8_122, pr_8_32, pr_8_48, pr_8_57, pr_8_59, pr_8_97, pr_i_0, pr_i_1, pr_i_2, pr_i_3]; first | assumption | decide | exact ⟨by assumption, by assumption⟩ | exact ⟨Or.inl (by assumption), by assumption⟩ | omega) | decide | exact ⟨Or.inl (by assumption), by assumption⟩ | exact ⟨by assumption, by assumption⟩ | omega)⟩, trivial⟩, trivial⟩ ?_
            try simp only [h5, x5, r0, hI, x7, xl, x7', x5'', x7'', esub, pr_8_122, pr_8_32, pr_8_48, pr_8_57, pr_8_59, pr_8_97, pr_i_0, pr_i_1, pr_i_2, pr_i_3]
            refine pr_cvT [_, _, _] rfl rfl rfl rfl rfl (Nat.le_of_ble_eq_true rfl) (by first | assumption | (simp only [h5, x5, r0, hI, x7, xl, x7', x5'', x7'', esub, pr_8_122, pr_8_32, pr_8_48, pr_8_57, pr_8_59, pr_8_97, pr_i_0, pr_i_1, pr_i_2, pr_i_3]; first | assumption | decide | exact ⟨by assumption, by assumption⟩ | exact ⟨Or.inl (by assumption), by assumption⟩ | omega) | decide | exact ⟨Or.inl (by assumption), by assumption⟩ | exact ⟨by assumption, by assumption⟩ | omega) (Nat.le_of_ble_eq_true rfl) (her) ?_
            refine pr_seqT (pc' := 29) 8 rfl ⟨⟨⟨⟨⟨⟨⟨⟨trivial, (by first | assumption | (simp only [h5, x5, r0, hI, x7, xl, x7', x5'', x7'', esub, pr_8_122, pr_8_32, pr_8_48, pr_8_57, pr_8_59, pr_8_97, pr_i_0, pr_i_1, pr_i_2, pr_i_3]; first | assumption | decide | exact ⟨by assumption, by assumption⟩ | exact ⟨Or.inl (by assumption), by assumption⟩ | omega) | decide | exact ⟨Or.inl (by assumption), by assumption⟩ | exact ⟨by assumption, by assumption⟩ | omega)⟩, (by first | assumption | (simp only [h5, x5, r0, hI, x7, xl, x7', x5'', x7'', esub, pr_8_122, pr_8_32, pr_8_48, pr_8_57, pr_8_59, pr_8_97, pr_i_0, pr_i_1, pr_i_2, pr_i_3]; first | assumption | decide | exact ⟨by assumption, by assumption⟩ | exact ⟨Or.inl (by assumption), by assumption⟩ | omega) | decide | exact ⟨Or.inl (by assumption), by assumption⟩ | exact ⟨by assumption, by assumption⟩ | omega)⟩, (by first | assumption | (simp only [h5, x5, r0, hI, x7, xl, x7', x5'', x7'', esub, pr_8_122, pr_8_32, pr_8_48, pr_8_57, pr_8_59, pr_8_97, pr_i_0, pr_i_1, pr_i_2, pr_i_3]; first | assumption | decide | exact ⟨by assumption, by assumption⟩ | exact ⟨Or.inl (by assumption), by assumption⟩ | omega) | decide | exact ⟨Or.inl (by assumption), by assumption⟩ | exact ⟨by assumption, by assumption⟩ | omega)⟩, (by first | assumption | (simp only [h5, x5, r0, hI, x7, xl, x7', x5'', x7'', esub, pr_8_122, pr_8_32, pr_8_48, pr_8_57, pr_8_59, pr_8_97, pr_i_0, pr_i_1, pr_i_2, pr_i_3]; first | assumption | decide | exact ⟨by assumption, by assumption⟩ | exact ⟨Or.inl (by assumption), by assumption⟩ | omega) | decide | exact ⟨Or.inl (by assumption), by assumption⟩ | exact ⟨by assumption, by assumption⟩ | omega)⟩, (by first | assumption | (simp only [h5, x5, r0, hI, x7, xl, x7', x5'', x7'', esub, pr_8_122, pr_8_32, pr_8_48, pr_8_57, pr_8_59, pr_8_97, pr_i_0, pr_i_1, pr_i_2, pr_i_3]; first | assumption | decide | exact ⟨by assumption, by assumption⟩ | exact ⟨Or.inl (by assumption), by assumption⟩ | omega) | decide | exact ⟨Or.inl (by assumption), by assumption⟩ | exact ⟨by assumption, by assumption⟩ | omega)⟩, (by first | assumption | (simp only [h5, x5, r0, hI, x7, xl, x7', x5'', x7'', esub, pr_8_122, pr_8_32, pr_8_48, pr_8_57, pr_8_59, pr_8_97, pr_i_0, pr_i_1, pr_i_2, pr_i_3]; first | assumption | decide | exact ⟨by assumption, by assumption⟩ | exact ⟨Or.inl (by assumption), by assumption⟩ | omega) | decide | exact ⟨Or.inl (by assumption), by assumption⟩ | exact ⟨by assumption, by assumption⟩ | omega)⟩, (by first | assumption | (simp only [h5, x5, r0, hI, x7, xl, x7', x5'', x7'', esub, pr_8_122, pr_8_32, pr_8_48, pr_8_57, pr_8_59, pr_8_97, pr_i_0, pr_i_1, pr_i_2, pr_i_3]; first | assumption | decide | exact ⟨by assumption, by assumption⟩ | exact ⟨Or.inl (by assumption), by assumption⟩ | omega) | decide | exact ⟨Or.inl (by assumption), by assumption⟩ | exact ⟨by assumption, by assumption⟩ | omega)⟩, (by first | assumption | (simp only [h5, x5, r0, hI, x7, xl, x7', x5'', x7'', esub, pr_8_122, pr_8_32, pr_8_48, pr_8_57, pr_8_59, pr_8_97, pr_i_0, pr_i_1, pr_i_2, pr_i_3]; first | assumption | decide | exact ⟨by assumption, by assumption⟩ | exact ⟨Or.inl (by assumption), by assumption⟩ | omega) | decide | exact ⟨Or.inl (by assumption), by assumption⟩ | exact ⟨by assumption, by assumption⟩ | omega)⟩ ?_
            try simp only [h5, x5, r0, hI, x7, xl, x7', x5'', x7'', esub, pr_8_122, pr_8_32, pr_8_48, pr_8_57, pr_8_59, pr_8_97, pr_i_0, pr_i_1, pr_i_2, pr_i_3]
            refine pr_cvT [_] rfl rfl rfl rfl rfl (Nat.le_of_ble_eq_true rfl) (by first | assumption | (simp only [h5, x5, r0, hI, x7, xl, x7', x5'', x7'', esub, pr_8_122, pr_8_32, pr_8_48, pr_8_57, pr_8_59, pr_8_97, pr_i_0, pr_i_1, pr_i_2, pr_i_3]; first | assumption | decide | exact ⟨by assumption, by assumption⟩ | exact ⟨Or.inl (by assumption), by assumption⟩ | omega) | decide | exact ⟨Or.inl (by assumption), by assumption⟩ | exact ⟨by assumption, by assumption⟩ | omega) (Nat.le_of_ble_eq_true rfl) (hba) ?_
            refine pr_seqT (pc' := 44) 6 rfl ⟨⟨⟨⟨⟨⟨trivial, trivial⟩, (by first | assumption | (simp only [h5, x5, r0, hI, x7, xl, x7', x5'', x7'', esub, pr_8_122, pr_8_32, pr_8_48, pr_8_57, pr_8_59, pr_8_97, pr_i_0, pr_i_1, pr_i_2, pr_i_3]; first | assumption | decide | exact ⟨by assumption, by assumption⟩ | exact ⟨Or.inl (by assumption), by assumption⟩ | omega) | decide | exact ⟨Or.inl (by assumption), by assumption⟩ | exact ⟨by assumption, by assumption⟩ | omega)⟩, (by first | assumption | (simp only [h5, x5, r0, hI, x7, xl, x7', x5'', x7'', esub, pr_8_122, pr_8_32, pr_8_48, pr_8_57, pr_8_59, pr_8_97, pr_i_0, pr_i_1, pr_i_2, pr_i_3]; first | assumption | decide | exact ⟨by assumption, by assumption⟩ | exact ⟨Or.inl (by assumption), by assumption⟩ | omega) | decide | exact ⟨Or.inl (by assumption), by assumption⟩ | exact ⟨by assumption, by assumption⟩ | omega)⟩, (by first | assumption | (simp only [h5, x5, r0, hI, x7, xl, x7', x5'', x7'', esub, pr_8_122, pr_8_32, pr_8_48, pr_8_57, pr_8_59, pr_8_97, pr_i_0, pr_i_1, pr_i_2, pr_i_3]; first | assumption | decide | exact ⟨by assumption, by assumption⟩ | exact ⟨Or.inl (by assumption), by assumption⟩ | omega) | decide | exact ⟨Or.inl (by assumption), by assumption⟩ | exact ⟨by assumption, by assumption⟩ | omega)⟩, (by first | assumption | (simp only [h5, x5, r0, hI, x7, xl, x7', x5'', x7'', esub, pr_8_122, pr_8_32, pr_8_48, pr_8_57, pr_8_59, pr_8_97, pr_i_0, pr_i_1, pr_i_2, pr_i_3]; first | assumption | decide | exact ⟨by assumption, by assumption⟩ | exact ⟨Or.inl (by assumption), by assumption⟩ | omega) | decide | exact ⟨Or.inl (by assumption), by assumption⟩ | exact ⟨by assumption, by assumption⟩ | omega)⟩, (by first | assumption | (simp only [h5, x5, r0, hI, x7, xl, x7', x5'', x7'', esub, pr_8_122, pr_8_32, pr_8_48, pr_8_57, pr_8_59, pr_8_97, pr_i_0, pr_i_1, pr_i_2, pr_i_3]; first | assumption | decide | exact ⟨by assumption, by assumption⟩ | exact ⟨Or.inl (by assumption), by assumption⟩ | omega) | decide | exact ⟨Or.inl (by assumption), by assumption⟩ | exact ⟨by assumption, by assumption⟩ | omega)⟩ ?_
            try simp only [h5, x5, r0, hI, x7, xl, x7', x5'', x7'', esub, pr_8_122, pr_8_32, pr_8_48, pr_8_57, pr_8_59, pr_8_97, pr_i_0, pr_i_1, pr_i_2, pr_i_3]
            refine pr_icT rfl (fun h44 => ?_) (fun h44 => ?_)
            · simp only [ab_cmp, pr_8_122, pr_8_32, pr_8_48, pr_8_57, pr_8_59, pr_8_97, pr_i_0, pr_i_1, pr_i_2, pr_i_3] at h44
              first
              | contradiction
              | exact absurd trivial h44
              | exact absurd h44 (by decide)
              | exact absurd (Classical.not_not.mp h44) (by decide)
              | skip
                refine pr_seqT (pc' := 58) 2 rfl ⟨⟨trivial, trivial⟩, trivial⟩ ?_
                try simp only [h5, x5, r0, hI, x7, xl, x7', x5'', x7'', esub, pr_8_122, pr_8_32, pr_8_48, pr_8_57, pr_8_59, pr_8_97, pr_i_0, pr_i_1, pr_i_2, pr_i_3]
                refine pr_icT rfl (fun h58 => ?_) (fun h58 => ?_)
                · simp only [ab_cmp, pr_8_122, pr_8_32, pr_8_48, pr_8_57, pr_8_59, pr_8_97, pr_i_0, pr_i_1, pr_i_2, pr_i_3] at h58
                  first
                  | contradiction
                  | exact absurd trivial h58
                  | exact absurd h58 (by decide)
                  | exact absurd (Classical.not_not.mp h58) (by decide)
                  | skip
                    refine pr_seqT (pc' := 84) 3 rfl ⟨⟨⟨trivial, trivial⟩, trivial⟩, trivial⟩ ?_
                    try simp only [h5, x5, r0, hI, x7, xl, x7', x5'', x7'', esub, pr_8_122, pr_8_32, pr_8_48, pr_8_57, pr_8_59, pr_8_97, pr_i_0, pr_i_1, pr_i_2, pr_i_3]
                    refine pr_csT [_, _, _] rfl rfl rfl rfl rfl (Nat.le_of_ble_eq_true rfl) (Nat.le_of_ble_eq_true rfl) (hw97) ?_
                    refine pr_ifT rfl (fun h87 => ?_) (fun h87 => ?_)
                    · simp only [ab_cmp, pr_8_122, pr_8_32, pr_8_48, pr_8_57, pr_8_59, pr_8_97, pr_i_0, pr_i_1, pr_i_2, pr_i_3] at h87
                      first
                      | contradiction
                      | exact absurd trivial h87
                      | exact absurd h87 (by decide)
                      | exact absurd (Classical.not_not.mp h87) (by decide)
                      | skip
                        refine pr_seqT (pc' := 119) 3 rfl ⟨⟨⟨trivial, trivial⟩, trivial⟩, trivial⟩ ?_
                        try simp only [h5, x5, r0, hI, x7, xl, x7', x5'', x7'', esub, pr_8_122, pr_8_32, pr_8_48, pr_8_57, pr_8_59, pr_8_97, pr_i_0, pr_i_1, pr_i_2, pr_i_3]
                        refine pr_csT [_, _, _] rfl rfl rfl rfl rfl (Nat.le_of_ble_eq_true rfl) (Nat.le_of_ble_eq_true rfl) (hw48) ?_
                        refine pr_ifT rfl (fun h122 => ?_) (fun h122 => ?_)
                        · simp only [ab_cmp, pr_8_122, pr_8_32, pr_8_48, pr_8_57, pr_8_59, pr_8_97, pr_i_0, pr_i_1, pr_i_2, pr_i_3] at h122
                          first
                          | contradiction
                          | exact absurd trivial h122
                          | exact absurd h122 (by decide)
                          | exact absurd (Classical.not_not.mp h122) (by decide)
                          | skip
                            fail
                        · simp only [ab_cmp, pr_8_122, pr_8_32, pr_8_48, pr_8_57, pr_8_59, pr_8_97, pr_i_0, pr_i_1, pr_i_2, pr_i_3] at h122
                          first
                          | contradiction
                          | exact absurd trivial h122
                          | exact absurd h122 (by decide)
                          | exact absurd (Classical.not_not.mp h122) (by decide)
                          | skip
                            refine pr_seqT (pc' := 140) 9 rfl ⟨⟨⟨⟨⟨⟨⟨⟨⟨trivial, (by first | assumption | (simp only [h5, x5, r0, hI, x7, xl, x7', x5'', x7'', esub, pr_8_122, pr_8_32, pr_8_48, pr_8_57, pr_8_59, pr_8_97, pr_i_0, pr_i_1, pr_i_2, pr_i_3]; first | assumption | decide | exact ⟨by assumption, by assumption⟩ | exact ⟨Or.inl (by assumption), by assumption⟩ | omega) | decide | exact ⟨Or.inl (by assumption), by assumption⟩ | exact ⟨by assumption, by assumption⟩ | omega)⟩, trivial⟩, (by first | assumption | (simp only [h5, x5, r0, hI, x7, xl, x7', x5'', x7'', esub, pr_8_122, pr_8_32, pr_8_48, pr_8_57, pr_8_59, pr_8_97, pr_i_0, pr_i_1, pr_i_2, pr_i_3]; first | assumption | decide | exact ⟨by assumption, by assumption⟩ | exact ⟨Or.inl (by assumption), by assumption⟩ | omega) | decide | exact ⟨Or.inl (by assumption), by assumption⟩ | exact ⟨by assumption, by assumption⟩ | omega)⟩, (by first | assumption | (simp only [h5, x5, r0, hI, x7, xl, x7', x5'', x7'', esub, pr_8_122, pr_8_32, pr_8_48, pr_8_57, pr_8_59, pr_8_97, pr_i_0, pr_i_1, pr_i_2, pr_i_3]; first | assumption | decide | exact ⟨by assumption, by assumption⟩ | exact ⟨Or.inl (by assumption), by assumption⟩ | omega) | decide | exact ⟨Or.inl (by assumption), by assumption⟩ | exact ⟨by assumption, by assumption⟩ | omega)⟩, (by first | assumption | (simp only [h5, x5, r0, hI, x7, xl, x7', x5'', x7'', esub, pr_8_122, pr_8_32, pr_8_48, pr_8_57, pr_8_59, pr_8_97, pr_i_0, pr_i_1, pr_i_2, pr_i_3]; first | assumption | decide | exact ⟨by assumption, by assumption⟩ | exact ⟨Or.inl (by assumption), by assumption⟩ | omega) | decide | exact ⟨Or.inl (by assumption), by assumption⟩ | exact ⟨by assumption, by assumption⟩ | omega)⟩, (by first | assumption | (simp only [h5, x5, r0, hI, x7, xl, x7', x5'', x7'', esub, pr_8_122, pr_8_32, pr_8_48, pr_8_57, pr_8_59, pr_8_97, pr_i_0, pr_i_1, pr_i_2, pr_i_3]; first | assumption | decide | exact ⟨by assumption, by assumption⟩ | exact ⟨Or.inl (by assumption), by assumption⟩ | omega) | decide | exact ⟨Or.inl (by assumption), by assumption⟩ | exact ⟨by assumption, by assumption⟩ | omega)⟩, (by first | assumption | (simp only [h5, x5, r0, hI, x7, xl, x7', x5'', x7'', esub, pr_8_122, pr_8_32, pr_8_48, pr_8_57, pr_8_59, pr_8_97, pr_i_0, pr_i_1, pr_i_2, pr_i_3]; first | assumption | decide | exact ⟨by assumption, by assumption⟩ | exact ⟨Or.inl (by assumption), by assumption⟩ | omega) | decide | exact ⟨Or.inl (by assumption), by assumption⟩ | exact ⟨by assumption, by assumption⟩ | omega)⟩, trivial⟩, trivial⟩ ?_
                            try simp only [h5, x5, r0, hI, x7, xl, x7', x5'', x7'', esub, pr_8_122, pr_8_32, pr_8_48, pr_8_57, pr_8_59, pr_8_97, pr_i_0, pr_i_1, pr_i_2, pr_i_3]
                            refine pr_cvT [_, _, _] rfl rfl rfl rfl rfl (Nat.le_of_ble_eq_true rfl) (by first | assumption | (simp only [h5, x5, r0, hI, x7, xl, x7', x5'', x7'', esub, pr_8_122, pr_8_32, pr_8_48, pr_8_57, pr_8_59, pr_8_97, pr_i_0, pr_i_1, pr_i_2, pr_i_3]; first | assumption | decide | exact ⟨by assumption, by assumption⟩ | exact ⟨Or.inl (by assumption), by assumption⟩ | omega) | decide | exact ⟨Or.inl (by assumption), by assumption⟩ | exact ⟨by assumption, by assumption⟩ | omega) (Nat.le_of_ble_eq_true rfl) (her2) ?_
                            refine pr_seqT (pc' := 156) 7 rfl ⟨⟨⟨⟨⟨⟨⟨trivial, (by first | assumption | (simp only [h5, x5, r0, hI, x7, xl, x7', x5'', x7'', esub, pr_8_122, pr_8_32, pr_8_48, pr_8_57, pr_8_59, pr_8_97, pr_i_0, pr_i_1, pr_i_2, pr_i_3]; first | assumption | decide | exact ⟨by assumption, by assumption⟩ | exact ⟨Or.inl (by assumption), by assumption⟩ | omega) | decide | exact ⟨Or.inl (by assumption), by assumption⟩ | exact ⟨by assumption, by assumption⟩ | omega)⟩, (by first | assumption | (simp only [h5, x5, r0, hI, x7, xl, x7', x5'', x7'', esub, pr_8_122, pr_8_32, pr_8_48, pr_8_57, pr_8_59, pr_8_97, pr_i_0, pr_i_1, pr_i_2, pr_i_3]; first | assumption | decide | exact ⟨by assumption, by assumption⟩ | exact ⟨Or.inl (by assumption), by assumption⟩ | omega) | decide | exact ⟨Or.inl (by assumption), by assumption⟩ | exact ⟨by assumption, by assumption⟩ | omega)⟩, (by first | assumption | (simp only [h5, x5, r0, hI, x7, xl, x7', x5'', x7'', esub, pr_8_122, pr_8_32, pr_8_48, pr_8_57, pr_8_59, pr_8_97, pr_i_0, pr_i_1, pr_i_2, pr_i_3]; first | assumption | decide | exact ⟨by assumption, by assumption⟩ | exact ⟨Or.inl (by assumption), by assumption⟩ | omega) | decide | exact ⟨Or.inl (by assumption), by assumption⟩ | exact ⟨by assumption, by assumption⟩ | omega)⟩, (by first | assumption | (simp only [h5, x5, r0, hI, x7, xl, x7', x5'', x7'', esub, pr_8_122, pr_8_32, pr_8_48, pr_8_57, pr_8_59, pr_8_97, pr_i_0, pr_i_1, pr_i_2, pr_i_3]; first | assumption | decide | exact ⟨by assumption, by assumption⟩ | exact ⟨Or.inl (by assumption), by assumption⟩ | omega) | decide | exact ⟨Or.inl (by assumption), by assumption⟩ | exact ⟨by assumption, by assumption⟩ | omega)⟩, (by first | assumption | (simp only [h5, x5, r0, hI, x7, xl, x7', x5'', x7'', esub, pr_8_122, pr_8_32, pr_8_48, pr_8_57, pr_8_59, pr_8_97, pr_i_0, pr_i_1, pr_i_2, pr_i_3]; first | assumption | decide | exact ⟨by assumption, by assumption⟩ | exact ⟨Or.inl (by assumption), by assumption⟩ | omega) | decide | exact ⟨Or.inl (by assumption), by assumption⟩ | exact ⟨by assumption, by assumption⟩ | omega)⟩, trivial⟩, trivial⟩ ?_
                            try simp only [h5, x5, r0, hI, x7, xl, x7', x5'', x7'', esub, pr_8_122, pr_8_32, pr_8_48, pr_8_57, pr_8_59, pr_8_97, pr_i_0, pr_i_1, pr_i_2, pr_i_3]
                            refine pr_icT rfl (fun h156 => ?_) (fun h156 => ?_)
                            · simp only [ab_cmp, pr_8_122, pr_8_32, pr_8_48, pr_8_57, pr_8_59, pr_8_97, pr_i_0, pr_i_1, pr_i_2, pr_i_3] at h156
                              first
                              | contradiction
                              | exact absurd trivial h156
                              | exact absurd h156 (by decide)
                              | exact absurd (Classical.not_not.mp h156) (by decide)
                              | skip
                                refine pr_seqT (pc' := 170) 1 rfl ⟨trivial, (by first | assumption | (simp only [h5, x5, r0, hI, x7, xl, x7', x5'', x7'', esub, pr_8_122, pr_8_32, pr_8_48, pr_8_57, pr_8_59, pr_8_97, pr_i_0, pr_i_1, pr_i_2, pr_i_3]; first | assumption | decide | exact ⟨by assumption, by assumption⟩ | exact ⟨Or.inl (by assumption), by assumption⟩ | omega) | decide | exact ⟨Or.inl (by assumption), by assumption⟩ | exact ⟨by assumption, by assumption⟩ | omega)⟩ ?_
                                try simp only [h5, x5, r0, hI, x7, xl, x7', x5'', x7'', esub, pr_8_122, pr_8_32, pr_8_48, pr_8_57, pr_8_59, pr_8_97, pr_i_0, pr_i_1, pr_i_2, pr_i_3]
                                refine pr_cvT [] rfl rfl rfl rfl rfl (Nat.le_of_ble_eq_true rfl) (by first | assumption | (simp only [h5, x5, r0, hI, x7, xl, x7', x5'', x7'', esub, pr_8_122, pr_8_32, pr_8_48, pr_8_57, pr_8_59, pr_8_97, pr_i_0, pr_i_1, pr_i_2, pr_i_3]; first | assumption | decide | exact ⟨by assumption, by assumption⟩ | exact ⟨Or.inl (by assumption), by assumption⟩ | omega) | decide | exact ⟨Or.inl (by assumption), by assumption⟩ | exact ⟨by assumption, by assumption⟩ | omega) (Nat.le_of_ble_eq_true rfl) (htf) ?_
                                refine pr_seqT (pc' := 187) 2 rfl ⟨⟨trivial, trivial⟩, trivial⟩ ?_
                                try simp only [h5, x5, r0, hI, x7, xl, x7', x5'', x7'', esub, pr_8_122, pr_8_32, pr_8_48, pr_8_57, pr_8_59, pr_8_97, pr_i_0, pr_i_1, pr_i_2, pr_i_3]
                                exact pr_irT rfl (by first | exact Or.inl rfl | exact Or.inr rfl | exact pr_b01 _ | assumption) (by exact ⟨rfl, fun a ha => by (try dsimp only); rw [ab_u_ne ha, ab_u_ne ha, ab_u_ne ha]; exact f2 a ha, rfl, fun q => absurd q (by decide), fun _ => ⟨by (try dsimp only); rw [ab_u_j (by decide), ab_u_at], by (try dsimp only); rw [ab_u_j (by decide), ab_u_j (by decide), ab_u_at]; rfl, by (try dsimp only); rw [ab_u_j (by decide), ab_u_j (by decide), ab_u_j (by decide)]; exact x7, fun _ => by first | exact ab_u_at | (dsimp only; exact ab_u_at), by (try dsimp only); rw [ab_u_j (by decide), ab_u_j (by decide), ab_u_j (by decide)]; exact i3, by (try dsimp only); rw [ab_u_j (by decide), ab_u_j (by decide), ab_u_j (by decide)]; exact i4, by (try dsimp only); rw [ab_u_j (by decide), ab_u_j (by decide), ab_u_j (by decide)]; exact i9⟩⟩)
                            · simp only [ab_cmp, pr_8_122, pr_8_32, pr_8_48, pr_8_57, pr_8_59, pr_8_97, pr_i_0, pr_i_1, pr_i_2, pr_i_3] at h156
                              first
                              | contradiction
                              | exact absurd trivial h156
                              | exact absurd h156 (by decide)
                              | exact absurd (Classical.not_not.mp h156) (by decide)
                              | skip
                                fail
                    · simp only [ab_cmp, pr_8_122, pr_8_32, pr_8_48, pr_8_57, pr_8_59, pr_8_97, pr_i_0, pr_i_1, pr_i_2, pr_i_3] at h87
                      first
                      | contradiction
                      | exact absurd trivial h87
                      | exact absurd h87 (by decide)
                      | exact absurd (Classical.not_not.mp h87) (by decide)
                      | skip
                        fail
                · simp only [ab_cmp, pr_8_122, pr_8_32, pr_8_48, pr_8_57, pr_8_59, pr_8_97, pr_i_0, pr_i_1, pr_i_2, pr_i_3] at h58
                  first
                  | contradiction
                  | exact absurd trivial h58
                  | exact absurd h58 (by decide)
                  | exact absurd (Classical.not_not.mp h58) (by decide)
                  | skip
                    fail
            · simp only [ab_cmp, pr_8_122, pr_8_32, pr_8_48, pr_8_57, pr_8_59, pr_8_97, pr_i_0, pr_i_1, pr_i_2, pr_i_3] at h44
              first
              | contradiction
              | exact absurd trivial h44
              | exact absurd h44 (by decide)
              | exact absurd (Classical.not_not.mp h44) (by decide)
              | skip
                fail
          · rw [if_neg c4]
            have y4 : ¬ nI (re w 48 57 s - s) ≤ 3 := fun q => by
              have := (nI_leI (a := re w 48 57 s - s) (b := 3) (by omega) (by omega)).mp q
              omega
            have hrf := c_refuse 1 (nI s) h (ab_u (ab_u I2 4 6 2) 4 5 (nI (re w 48 57 s)), M.2) k4
            refine pr_seqT (pc' := 10) 6 rfl ⟨⟨⟨⟨⟨⟨trivial, (by first | assumption | (simp only [h5, x5, r0, hI, x7, xl, x7', x5'', x7'', esub, pr_8_122, pr_8_32, pr_8_48, pr_8_57, pr_8_59, pr_8_97, pr_i_0, pr_i_1, pr_i_2, pr_i_3]; first | assumption | decide | exact ⟨by assumption, by assumption⟩ | exact ⟨Or.inl (by assumption), by assumption⟩ | omega) | decide | exact ⟨Or.inl (by assumption), by assumption⟩ | exact ⟨by assumption, by assumption⟩ | omega)⟩, (by first | assumption | (simp only [h5, x5, r0, hI, x7, xl, x7', x5'', x7'', esub, pr_8_122, pr_8_32, pr_8_48, pr_8_57, pr_8_59, pr_8_97, pr_i_0, pr_i_1, pr_i_2, pr_i_3]; first | assumption | decide | exact ⟨by assumption, by assumption⟩ | exact ⟨Or.inl (by assumption), by assumption⟩ | omega) | decide | exact ⟨Or.inl (by assumption), by assumption⟩ | exact ⟨by assumption, by assumption⟩ | omega)⟩, (by first | assumption | (simp only [h5, x5, r0, hI, x7, xl, x7', x5'', x7'', esub, pr_8_122, pr_8_32, pr_8_48, pr_8_57, pr_8_59, pr_8_97, pr_i_0, pr_i_1, pr_i_2, pr_i_3]; first | assumption | decide | exact ⟨by assumption, by assumption⟩ | exact ⟨Or.inl (by assumption), by assumption⟩ | omega) | decide | exact ⟨Or.inl (by assumption), by assumption⟩ | exact ⟨by assumption, by assumption⟩ | omega)⟩, (by first | assumption | (simp only [h5, x5, r0, hI, x7, xl, x7', x5'', x7'', esub, pr_8_122, pr_8_32, pr_8_48, pr_8_57, pr_8_59, pr_8_97, pr_i_0, pr_i_1, pr_i_2, pr_i_3]; first | assumption | decide | exact ⟨by assumption, by assumption⟩ | exact ⟨Or.inl (by assumption), by assumption⟩ | omega) | decide | exact ⟨Or.inl (by assumption), by assumption⟩ | exact ⟨by assumption, by assumption⟩ | omega)⟩, trivial⟩, trivial⟩ ?_
            try simp only [h5, x5, r0, hI, x7, xl, x7', x5'', x7'', esub, pr_8_122, pr_8_32, pr_8_48, pr_8_57, pr_8_59, pr_8_97, pr_i_0, pr_i_1, pr_i_2, pr_i_3]
            refine pr_cvT [_, _, _] rfl rfl rfl rfl rfl (Nat.le_of_ble_eq_true rfl) (by first | assumption | (simp only [h5, x5, r0, hI, x7, xl, x7', x5'', x7'', esub, pr_8_122, pr_8_32, pr_8_48, pr_8_57, pr_8_59, pr_8_97, pr_i_0, pr_i_1, pr_i_2, pr_i_3]; first | assumption | decide | exact ⟨by assumption, by assumption⟩ | exact ⟨Or.inl (by assumption), by assumption⟩ | omega) | decide | exact ⟨Or.inl (by assumption), by assumption⟩ | exact ⟨by assumption, by assumption⟩ | omega) (Nat.le_of_ble_eq_true rfl) (her) ?_
            refine pr_seqT (pc' := 29) 8 rfl ⟨⟨⟨⟨⟨⟨⟨⟨trivial, (by first | assumption | (simp only [h5, x5, r0, hI, x7, xl, x7', x5'', x7'', esub, pr_8_122, pr_8_32, pr_8_48, pr_8_57, pr_8_59, pr_8_97, pr_i_0, pr_i_1, pr_i_2, pr_i_3]; first | assumption | decide | exact ⟨by assumption, by assumption⟩ | exact ⟨Or.inl (by assumption), by assumption⟩ | omega) | decide | exact ⟨Or.inl (by assumption), by assumption⟩ | exact ⟨by assumption, by assumption⟩ | omega)⟩, (by first | assumption | (simp only [h5, x5, r0, hI, x7, xl, x7', x5'', x7'', esub, pr_8_122, pr_8_32, pr_8_48, pr_8_57, pr_8_59, pr_8_97, pr_i_0, pr_i_1, pr_i_2, pr_i_3]; first | assumption | decide | exact ⟨by assumption, by assumption⟩ | exact ⟨Or.inl (by assumption), by assumption⟩ | omega) | decide | exact ⟨Or.inl (by assumption), by assumption⟩ | exact ⟨by assumption, by assumption⟩ | omega)⟩, (by first | assumption | (simp only [h5, x5, r0, hI, x7, xl, x7', x5'', x7'', esub, pr_8_122, pr_8_32, pr_8_48, pr_8_57, pr_8_59, pr_8_97, pr_i_0, pr_i_1, pr_i_2, pr_i_3]; first | assumption | decide | exact ⟨by assumption, by assumption⟩ | exact ⟨Or.inl (by assumption), by assumption⟩ | omega) | decide | exact ⟨Or.inl (by assumption), by assumption⟩ | exact ⟨by assumption, by assumption⟩ | omega)⟩, (by first | assumption | (simp only [h5, x5, r0, hI, x7, xl, x7', x5'', x7'', esub, pr_8_122, pr_8_32, pr_8_48, pr_8_57, pr_8_59, pr_8_97, pr_i_0, pr_i_1, pr_i_2, pr_i_3]; first | assumption | decide | exact ⟨by assumption, by assumption⟩ | exact ⟨Or.inl (by assumption), by assumption⟩ | omega) | decide | exact ⟨Or.inl (by assumption), by assumption⟩ | exact ⟨by assumption, by assumption⟩ | omega)⟩, (by first | assumption | (simp only [h5, x5, r0, hI, x7, xl, x7', x5'', x7'', esub, pr_8_122, pr_8_32, pr_8_48, pr_8_57, pr_8_59, pr_8_97, pr_i_0, pr_i_1, pr_i_2, pr_i_3]; first | assumption | decide | exact ⟨by assumption, by assumption⟩ | exact ⟨Or.inl (by assumption), by assumption⟩ | omega) | decide | exact ⟨Or.inl (by assumption), by assumption⟩ | exact ⟨by assumption, by assumption⟩ | omega)⟩, (by first | assumption | (simp only [h5, x5, r0, hI, x7, xl, x7', x5'', x7'', esub, pr_8_122, pr_8_32, pr_8_48, pr_8_57, pr_8_59, pr_8_97, pr_i_0, pr_i_1, pr_i_2, pr_i_3]; first | assumption | decide | exact ⟨by assumption, by assumption⟩ | exact ⟨Or.inl (by assumption), by assumption⟩ | omega) | decide | exact ⟨Or.inl (by assumption), by assumption⟩ | exact ⟨by assumption, by assumption⟩ | omega)⟩, (by first | assumption | (simp only [h5, x5, r0, hI, x7, xl, x7', x5'', x7'', esub, pr_8_122, pr_8_32, pr_8_48, pr_8_57, pr_8_59, pr_8_97, pr_i_0, pr_i_1, pr_i_2, pr_i_3]; first | assumption | decide | exact ⟨by assumption, by assumption⟩ | exact ⟨Or.inl (by assumption), by assumption⟩ | omega) | decide | exact ⟨Or.inl (by assumption), by assumption⟩ | exact ⟨by assumption, by assumption⟩ | omega)⟩, (by first | assumption | (simp only [h5, x5, r0, hI, x7, xl, x7', x5'', x7'', esub, pr_8_122, pr_8_32, pr_8_48, pr_8_57, pr_8_59, pr_8_97, pr_i_0, pr_i_1, pr_i_2, pr_i_3]; first | assumption | decide | exact ⟨by assumption, by assumption⟩ | exact ⟨Or.inl (by assumption), by assumption⟩ | omega) | decide | exact ⟨Or.inl (by assumption), by assumption⟩ | exact ⟨by assumption, by assumption⟩ | omega)⟩ ?_
            try simp only [h5, x5, r0, hI, x7, xl, x7', x5'', x7'', esub, pr_8_122, pr_8_32, pr_8_48, pr_8_57, pr_8_59, pr_8_97, pr_i_0, pr_i_1, pr_i_2, pr_i_3]
            refine pr_cvT [_] rfl rfl rfl rfl rfl (Nat.le_of_ble_eq_true rfl) (by first | assumption | (simp only [h5, x5, r0, hI, x7, xl, x7', x5'', x7'', esub, pr_8_122, pr_8_32, pr_8_48, pr_8_57, pr_8_59, pr_8_97, pr_i_0, pr_i_1, pr_i_2, pr_i_3]; first | assumption | decide | exact ⟨by assumption, by assumption⟩ | exact ⟨Or.inl (by assumption), by assumption⟩ | omega) | decide | exact ⟨Or.inl (by assumption), by assumption⟩ | exact ⟨by assumption, by assumption⟩ | omega) (Nat.le_of_ble_eq_true rfl) (hba) ?_
            refine pr_seqT (pc' := 44) 6 rfl ⟨⟨⟨⟨⟨⟨trivial, trivial⟩, (by first | assumption | (simp only [h5, x5, r0, hI, x7, xl, x7', x5'', x7'', esub, pr_8_122, pr_8_32, pr_8_48, pr_8_57, pr_8_59, pr_8_97, pr_i_0, pr_i_1, pr_i_2, pr_i_3]; first | assumption | decide | exact ⟨by assumption, by assumption⟩ | exact ⟨Or.inl (by assumption), by assumption⟩ | omega) | decide | exact ⟨Or.inl (by assumption), by assumption⟩ | exact ⟨by assumption, by assumption⟩ | omega)⟩, (by first | assumption | (simp only [h5, x5, r0, hI, x7, xl, x7', x5'', x7'', esub, pr_8_122, pr_8_32, pr_8_48, pr_8_57, pr_8_59, pr_8_97, pr_i_0, pr_i_1, pr_i_2, pr_i_3]; first | assumption | decide | exact ⟨by assumption, by assumption⟩ | exact ⟨Or.inl (by assumption), by assumption⟩ | omega) | decide | exact ⟨Or.inl (by assumption), by assumption⟩ | exact ⟨by assumption, by assumption⟩ | omega)⟩, (by first | assumption | (simp only [h5, x5, r0, hI, x7, xl, x7', x5'', x7'', esub, pr_8_122, pr_8_32, pr_8_48, pr_8_57, pr_8_59, pr_8_97, pr_i_0, pr_i_1, pr_i_2, pr_i_3]; first | assumption | decide | exact ⟨by assumption, by assumption⟩ | exact ⟨Or.inl (by assumption), by assumption⟩ | omega) | decide | exact ⟨Or.inl (by assumption), by assumption⟩ | exact ⟨by assumption, by assumption⟩ | omega)⟩, (by first | assumption | (simp only [h5, x5, r0, hI, x7, xl, x7', x5'', x7'', esub, pr_8_122, pr_8_32, pr_8_48, pr_8_57, pr_8_59, pr_8_97, pr_i_0, pr_i_1, pr_i_2, pr_i_3]; first | assumption | decide | exact ⟨by assumption, by assumption⟩ | exact ⟨Or.inl (by assumption), by assumption⟩ | omega) | decide | exact ⟨Or.inl (by assumption), by assumption⟩ | exact ⟨by assumption, by assumption⟩ | omega)⟩, (by first | assumption | (simp only [h5, x5, r0, hI, x7, xl, x7', x5'', x7'', esub, pr_8_122, pr_8_32, pr_8_48, pr_8_57, pr_8_59, pr_8_97, pr_i_0, pr_i_1, pr_i_2, pr_i_3]; first | assumption | decide | exact ⟨by assumption, by assumption⟩ | exact ⟨Or.inl (by assumption), by assumption⟩ | omega) | decide | exact ⟨Or.inl (by assumption), by assumption⟩ | exact ⟨by assumption, by assumption⟩ | omega)⟩ ?_
            try simp only [h5, x5, r0, hI, x7, xl, x7', x5'', x7'', esub, pr_8_122, pr_8_32, pr_8_48, pr_8_57, pr_8_59, pr_8_97, pr_i_0, pr_i_1, pr_i_2, pr_i_3]
            refine pr_icT rfl (fun h44 => ?_) (fun h44 => ?_)
            · simp only [ab_cmp, pr_8_122, pr_8_32, pr_8_48, pr_8_57, pr_8_59, pr_8_97, pr_i_0, pr_i_1, pr_i_2, pr_i_3] at h44
              first
              | contradiction
              | exact absurd trivial h44
              | exact absurd h44 (by decide)
              | exact absurd (Classical.not_not.mp h44) (by decide)
              | skip
                refine pr_seqT (pc' := 58) 2 rfl ⟨⟨trivial, trivial⟩, trivial⟩ ?_
                try simp only [h5, x5, r0, hI, x7, xl, x7', x5'', x7'', esub, pr_8_122, pr_8_32, pr_8_48, pr_8_57, pr_8_59, pr_8_97, pr_i_0, pr_i_1, pr_i_2, pr_i_3]
                refine pr_icT rfl (fun h58 => ?_) (fun h58 => ?_)
                · simp only [ab_cmp, pr_8_122, pr_8_32, pr_8_48, pr_8_57, pr_8_59, pr_8_97, pr_i_0, pr_i_1, pr_i_2, pr_i_3] at h58
                  first
                  | contradiction
                  | exact absurd trivial h58
                  | exact absurd h58 (by decide)
                  | exact absurd (Classical.not_not.mp h58) (by decide)
                  | skip
                    refine pr_seqT (pc' := 84) 3 rfl ⟨⟨⟨trivial, trivial⟩, trivial⟩, trivial⟩ ?_
                    try simp only [h5, x5, r0, hI, x7, xl, x7', x5'', x7'', esub, pr_8_122, pr_8_32, pr_8_48, pr_8_57, pr_8_59, pr_8_97, pr_i_0, pr_i_1, pr_i_2, pr_i_3]
                    refine pr_csT [_, _, _] rfl rfl rfl rfl rfl (Nat.le_of_ble_eq_true rfl) (Nat.le_of_ble_eq_true rfl) (hw97) ?_
                    refine pr_ifT rfl (fun h87 => ?_) (fun h87 => ?_)
                    · simp only [ab_cmp, pr_8_122, pr_8_32, pr_8_48, pr_8_57, pr_8_59, pr_8_97, pr_i_0, pr_i_1, pr_i_2, pr_i_3] at h87
                      first
                      | contradiction
                      | exact absurd trivial h87
                      | exact absurd h87 (by decide)
                      | exact absurd (Classical.not_not.mp h87) (by decide)
                      | skip
                        refine pr_seqT (pc' := 119) 3 rfl ⟨⟨⟨trivial, trivial⟩, trivial⟩, trivial⟩ ?_
                        try simp only [h5, x5, r0, hI, x7, xl, x7', x5'', x7'', esub, pr_8_122, pr_8_32, pr_8_48, pr_8_57, pr_8_59, pr_8_97, pr_i_0, pr_i_1, pr_i_2, pr_i_3]
                        refine pr_csT [_, _, _] rfl rfl rfl rfl rfl (Nat.le_of_ble_eq_true rfl) (Nat.le_of_ble_eq_true rfl) (hw48) ?_
                        refine pr_ifT rfl (fun h122 => ?_) (fun h122 => ?_)
                        · simp only [ab_cmp, pr_8_122, pr_8_32, pr_8_48, pr_8_57, pr_8_59, pr_8_97, pr_i_0, pr_i_1, pr_i_2, pr_i_3] at h122
                          first
                          | contradiction
                          | exact absurd trivial h122
                          | exact absurd h122 (by decide)
                          | exact absurd (Classical.not_not.mp h122) (by decide)
                          | skip
                            fail
                        · simp only [ab_cmp, pr_8_122, pr_8_32, pr_8_48, pr_8_57, pr_8_59, pr_8_97, pr_i_0, pr_i_1, pr_i_2, pr_i_3] at h122
                          first
                          | contradiction
                          | exact absurd trivial h122
                          | exact absurd h122 (by decide)
                          | exact absurd (Classical.not_not.mp h122) (by decide)
                          | skip
                            refine pr_seqT (pc' := 140) 9 rfl ⟨⟨⟨⟨⟨⟨⟨⟨⟨trivial, (by first | assumption | (simp only [h5, x5, r0, hI, x7, xl, x7', x5'', x7'', esub, pr_8_122, pr_8_32, pr_8_48, pr_8_57, pr_8_59, pr_8_97, pr_i_0, pr_i_1, pr_i_2, pr_i_3]; first | assumption | decide | exact ⟨by assumption, by assumption⟩ | exact ⟨Or.inl (by assumption), by assumption⟩ | omega) | decide | exact ⟨Or.inl (by assumption), by assumption⟩ | exact ⟨by assumption, by assumption⟩ | omega)⟩, trivial⟩, (by first | assumption | (simp only [h5, x5, r0, hI, x7, xl, x7', x5'', x7'', esub, pr_8_122, pr_8_32, pr_8_48, pr_8_57, pr_8_59, pr_8_97, pr_i_0, pr_i_1, pr_i_2, pr_i_3]; first | assumption | decide | exact ⟨by assumption, by assumption⟩ | exact ⟨Or.inl (by assumption), by assumption⟩ | omega) | decide | exact ⟨Or.inl (by assumption), by assumption⟩ | exact ⟨by assumption, by assumption⟩ | omega)⟩, (by first | assumption | (simp only [h5, x5, r0, hI, x7, xl, x7', x5'', x7'', esub, pr_8_122, pr_8_32, pr_8_48, pr_8_57, pr_8_59, pr_8_97, pr_i_0, pr_i_1, pr_i_2, pr_i_3]; first | assumption | decide | exact ⟨by assumption, by assumption⟩ | exact ⟨Or.inl (by assumption), by assumption⟩ | omega) | decide | exact ⟨Or.inl (by assumption), by assumption⟩ | exact ⟨by assumption, by assumption⟩ | omega)⟩, (by first | assumption | (simp only [h5, x5, r0, hI, x7, xl, x7', x5'', x7'', esub, pr_8_122, pr_8_32, pr_8_48, pr_8_57, pr_8_59, pr_8_97, pr_i_0, pr_i_1, pr_i_2, pr_i_3]; first | assumption | decide | exact ⟨by assumption, by assumption⟩ | exact ⟨Or.inl (by assumption), by assumption⟩ | omega) | decide | exact ⟨Or.inl (by assumption), by assumption⟩ | exact ⟨by assumption, by assumption⟩ | omega)⟩, (by first | assumption | (simp only [h5, x5, r0, hI, x7, xl, x7', x5'', x7'', esub, pr_8_122, pr_8_32, pr_8_48, pr_8_57, pr_8_59, pr_8_97, pr_i_0, pr_i_1, pr_i_2, pr_i_3]; first | assumption | decide | exact ⟨by assumption, by assumption⟩ | exact ⟨Or.inl (by assumption), by assumption⟩ | omega) | decide | exact ⟨Or.inl (by assumption), by assumption⟩ | exact ⟨by assumption, by assumption⟩ | omega)⟩, (by first | assumption | (simp only [h5, x5, r0, hI, x7, xl, x7', x5'', x7'', esub, pr_8_122, pr_8_32, pr_8_48, pr_8_57, pr_8_59, pr_8_97, pr_i_0, pr_i_1, pr_i_2, pr_i_3]; first | assumption | decide | exact ⟨by assumption, by assumption⟩ | exact ⟨Or.inl (by assumption), by assumption⟩ | omega) | decide | exact ⟨Or.inl (by assumption), by assumption⟩ | exact ⟨by assumption, by assumption⟩ | omega)⟩, trivial⟩, trivial⟩ ?_
                            try simp only [h5, x5, r0, hI, x7, xl, x7', x5'', x7'', esub, pr_8_122, pr_8_32, pr_8_48, pr_8_57, pr_8_59, pr_8_97, pr_i_0, pr_i_1, pr_i_2, pr_i_3]
                            refine pr_cvT [_, _, _] rfl rfl rfl rfl rfl (Nat.le_of_ble_eq_true rfl) (by first | assumption | (simp only [h5, x5, r0, hI, x7, xl, x7', x5'', x7'', esub, pr_8_122, pr_8_32, pr_8_48, pr_8_57, pr_8_59, pr_8_97, pr_i_0, pr_i_1, pr_i_2, pr_i_3]; first | assumption | decide | exact ⟨by assumption, by assumption⟩ | exact ⟨Or.inl (by assumption), by assumption⟩ | omega) | decide | exact ⟨Or.inl (by assumption), by assumption⟩ | exact ⟨by assumption, by assumption⟩ | omega) (Nat.le_of_ble_eq_true rfl) (her2) ?_
                            refine pr_seqT (pc' := 156) 7 rfl ⟨⟨⟨⟨⟨⟨⟨trivial, (by first | assumption | (simp only [h5, x5, r0, hI, x7, xl, x7', x5'', x7'', esub, pr_8_122, pr_8_32, pr_8_48, pr_8_57, pr_8_59, pr_8_97, pr_i_0, pr_i_1, pr_i_2, pr_i_3]; first | assumption | decide | exact ⟨by assumption, by assumption⟩ | exact ⟨Or.inl (by assumption), by assumption⟩ | omega) | decide | exact ⟨Or.inl (by assumption), by assumption⟩ | exact ⟨by assumption, by assumption⟩ | omega)⟩, (by first | assumption | (simp only [h5, x5, r0, hI, x7, xl, x7', x5'', x7'', esub, pr_8_122, pr_8_32, pr_8_48, pr_8_57, pr_8_59, pr_8_97, pr_i_0, pr_i_1, pr_i_2, pr_i_3]; first | assumption | decide | exact ⟨by assumption, by assumption⟩ | exact ⟨Or.inl (by assumption), by assumption⟩ | omega) | decide | exact ⟨Or.inl (by assumption), by assumption⟩ | exact ⟨by assumption, by assumption⟩ | omega)⟩, (by first | assumption | (simp only [h5, x5, r0, hI, x7, xl, x7', x5'', x7'', esub, pr_8_122, pr_8_32, pr_8_48, pr_8_57, pr_8_59, pr_8_97, pr_i_0, pr_i_1, pr_i_2, pr_i_3]; first | assumption | decide | exact ⟨by assumption, by assumption⟩ | exact ⟨Or.inl (by assumption), by assumption⟩ | omega) | decide | exact ⟨Or.inl (by assumption), by assumption⟩ | exact ⟨by assumption, by assumption⟩ | omega)⟩, (by first | assumption | (simp only [h5, x5, r0, hI, x7, xl, x7', x5'', x7'', esub, pr_8_122, pr_8_32, pr_8_48, pr_8_57, pr_8_59, pr_8_97, pr_i_0, pr_i_1, pr_i_2, pr_i_3]; first | assumption | decide | exact ⟨by assumption, by assumption⟩ | exact ⟨Or.inl (by assumption), by assumption⟩ | omega) | decide | exact ⟨Or.inl (by assumption), by assumption⟩ | exact ⟨by assumption, by assumption⟩ | omega)⟩, (by first | assumption | (simp only [h5, x5, r0, hI, x7, xl, x7', x5'', x7'', esub, pr_8_122, pr_8_32, pr_8_48, pr_8_57, pr_8_59, pr_8_97, pr_i_0, pr_i_1, pr_i_2, pr_i_3]; first | assumption | decide | exact ⟨by assumption, by assumption⟩ | exact ⟨Or.inl (by assumption), by assumption⟩ | omega) | decide | exact ⟨Or.inl (by assumption), by assumption⟩ | exact ⟨by assumption, by assumption⟩ | omega)⟩, trivial⟩, trivial⟩ ?_
                            try simp only [h5, x5, r0, hI, x7, xl, x7', x5'', x7'', esub, pr_8_122, pr_8_32, pr_8_48, pr_8_57, pr_8_59, pr_8_97, pr_i_0, pr_i_1, pr_i_2, pr_i_3]
                            refine pr_icT rfl (fun h156 => ?_) (fun h156 => ?_)
                            · simp only [ab_cmp, pr_8_122, pr_8_32, pr_8_48, pr_8_57, pr_8_59, pr_8_97, pr_i_0, pr_i_1, pr_i_2, pr_i_3] at h156
                              first
                              | contradiction
                              | exact absurd trivial h156
                              | exact absurd h156 (by decide)
                              | exact absurd (Classical.not_not.mp h156) (by decide)
                              | skip
                                fail
                            · simp only [ab_cmp, pr_8_122, pr_8_32, pr_8_48, pr_8_57, pr_8_59, pr_8_97, pr_i_0, pr_i_1, pr_i_2, pr_i_3] at h156
                              first
                              | contradiction
                              | exact absurd trivial h156
                              | exact absurd h156 (by decide)
                              | exact absurd (Classical.not_not.mp h156) (by decide)
                              | skip
                                refine pr_seqT (pc' := 165) 4 rfl ⟨⟨⟨⟨trivial, (by first | assumption | (simp only [h5, x5, r0, hI, x7, xl, x7', x5'', x7'', esub, pr_8_122, pr_8_32, pr_8_48, pr_8_57, pr_8_59, pr_8_97, pr_i_0, pr_i_1, pr_i_2, pr_i_3]; first | assumption | decide | exact ⟨by assumption, by assumption⟩ | exact ⟨Or.inl (by assumption), by assumption⟩ | omega) | decide | exact ⟨Or.inl (by assumption), by assumption⟩ | exact ⟨by assumption, by assumption⟩ | omega)⟩, trivial⟩, (by first | assumption | (simp only [h5, x5, r0, hI, x7, xl, x7', x5'', x7'', esub, pr_8_122, pr_8_32, pr_8_48, pr_8_57, pr_8_59, pr_8_97, pr_i_0, pr_i_1, pr_i_2, pr_i_3]; first | assumption | decide | exact ⟨by assumption, by assumption⟩ | exact ⟨Or.inl (by assumption), by assumption⟩ | omega) | decide | exact ⟨Or.inl (by assumption), by assumption⟩ | exact ⟨by assumption, by assumption⟩ | omega)⟩, (by first | assumption | (simp only [h5, x5, r0, hI, x7, xl, x7', x5'', x7'', esub, pr_8_122, pr_8_32, pr_8_48, pr_8_57, pr_8_59, pr_8_97, pr_i_0, pr_i_1, pr_i_2, pr_i_3]; first | assumption | decide | exact ⟨by assumption, by assumption⟩ | exact ⟨Or.inl (by assumption), by assumption⟩ | omega) | decide | exact ⟨Or.inl (by assumption), by assumption⟩ | exact ⟨by assumption, by assumption⟩ | omega)⟩ ?_
                                try simp only [h5, x5, r0, hI, x7, xl, x7', x5'', x7'', esub, pr_8_122, pr_8_32, pr_8_48, pr_8_57, pr_8_59, pr_8_97, pr_i_0, pr_i_1, pr_i_2, pr_i_3]
                                refine pr_cvT [_, _] rfl rfl rfl rfl rfl (Nat.le_of_ble_eq_true rfl) (by first | assumption | (simp only [h5, x5, r0, hI, x7, xl, x7', x5'', x7'', esub, pr_8_122, pr_8_32, pr_8_48, pr_8_57, pr_8_59, pr_8_97, pr_i_0, pr_i_1, pr_i_2, pr_i_3]; first | assumption | decide | exact ⟨by assumption, by assumption⟩ | exact ⟨Or.inl (by assumption), by assumption⟩ | omega) | decide | exact ⟨Or.inl (by assumption), by assumption⟩ | exact ⟨by assumption, by assumption⟩ | omega) (Nat.le_of_ble_eq_true rfl) (hrf) ?_
                                exact pr_irT rfl (by first | exact Or.inl rfl | exact Or.inr rfl | exact pr_b01 _ | assumption) (by exact ⟨rfl, fun a ha => by (try dsimp only); rw [ab_u_ne ha, ab_u_ne ha, ab_u_ne ha, ab_u_ne ha]; exact f2 a ha, rfl, fun _ => ⟨by (try dsimp only); rw [ab_u_j (by decide), ab_u_at], by first | exact ab_u_at | (dsimp only; exact ab_u_at)⟩, fun q => absurd trivial q⟩)
                    · simp only [ab_cmp, pr_8_122, pr_8_32, pr_8_48, pr_8_57, pr_8_59, pr_8_97, pr_i_0, pr_i_1, pr_i_2, pr_i_3] at h87
                      first
                      | contradiction
                      | exact absurd trivial h87
                      | exact absurd h87 (by decide)
                      | exact absurd (Classical.not_not.mp h87) (by decide)
                      | skip
                        fail
                · simp only [ab_cmp, pr_8_122, pr_8_32, pr_8_48, pr_8_57, pr_8_59, pr_8_97, pr_i_0, pr_i_1, pr_i_2, pr_i_3] at h58
                  first
                  | contradiction
                  | exact absurd trivial h58
                  | exact absurd h58 (by decide)
                  | exact absurd (Classical.not_not.mp h58) (by decide)
                  | skip
                    fail
            · simp only [ab_cmp, pr_8_122, pr_8_32, pr_8_48, pr_8_57, pr_8_59, pr_8_97, pr_i_0, pr_i_1, pr_i_2, pr_i_3] at h44
              first
              | contradiction
              | exact absurd trivial h44
              | exact absurd h44 (by decide)
              | exact absurd (Classical.not_not.mp h44) (by decide)
              | skip
                fail
        · rw [if_neg c3]
          have z2 : pr_in (sb w s) 48 57 = false := by
            cases q : pr_in (sb w s) 48 57 with
            | false => rfl
            | true =>
              unfold pr_in at q
              rw [Bool.and_eq_true] at q
              exact absurd ((rg 48 57 (by decide) (by decide)).mp ⟨of_decide_eq_false ((Bool.not_eq_true' _).mp q.1), of_decide_eq_false ((Bool.not_eq_true' _).mp q.2)⟩) c3
          rw [z2] at hw48
          have hrf := c_refuse 1 (nI s) h (I2, M.2) k4
          refine pr_seqT (pc' := 10) 6 rfl ⟨⟨⟨⟨⟨⟨trivial, (by first | assumption | (simp only [h5, x5, r0, hI, x7, xl, pr_8_122, pr_8_32, pr_8_48, pr_8_57, pr_8_59, pr_8_97, pr_i_0, pr_i_1, pr_i_2, pr_i_3]; first | assumption | decide | exact ⟨by assumption, by assumption⟩ | exact ⟨Or.inl (by assumption), by assumption⟩ | omega) | decide | exact ⟨Or.inl (by assumption), by assumption⟩ | exact ⟨by assumption, by assumption⟩ | omega)⟩, (by first | assumption | (simp only [h5, x5, r0, hI, x7, xl, pr_8_122, pr_8_32, pr_8_48, pr_8_57, pr_8_59, pr_8_97, pr_i_0, pr_i_1, pr_i_2, pr_i_3]; first | assumption | decide | exact ⟨by assumption, by assumption⟩ | exact ⟨Or.inl (by assumption), by assumption⟩ | omega) | decide | exact ⟨Or.inl (by assumption), by assumption⟩ | exact ⟨by assumption, by assumption⟩ | omega)⟩, (by first | assumption | (simp only [h5, x5, r0, hI, x7, xl, pr_8_122, pr_8_32, pr_8_48, pr_8_57, pr_8_59, pr_8_97, pr_i_0, pr_i_1, pr_i_2, pr_i_3]; first | assumption | decide | exact ⟨by assumption, by assumption⟩ | exact ⟨Or.inl (by assumption), by assumption⟩ | omega) | decide | exact ⟨Or.inl (by assumption), by assumption⟩ | exact ⟨by assumption, by assumption⟩ | omega)⟩, (by first | assumption | (simp only [h5, x5, r0, hI, x7, xl, pr_8_122, pr_8_32, pr_8_48, pr_8_57, pr_8_59, pr_8_97, pr_i_0, pr_i_1, pr_i_2, pr_i_3]; first | assumption | decide | exact ⟨by assumption, by assumption⟩ | exact ⟨Or.inl (by assumption), by assumption⟩ | omega) | decide | exact ⟨Or.inl (by assumption), by assumption⟩ | exact ⟨by assumption, by assumption⟩ | omega)⟩, trivial⟩, trivial⟩ ?_
          try simp only [h5, x5, r0, hI, x7, xl, pr_8_122, pr_8_32, pr_8_48, pr_8_57, pr_8_59, pr_8_97, pr_i_0, pr_i_1, pr_i_2, pr_i_3]
          refine pr_cvT [_, _, _] rfl rfl rfl rfl rfl (Nat.le_of_ble_eq_true rfl) (by first | assumption | (simp only [h5, x5, r0, hI, x7, xl, pr_8_122, pr_8_32, pr_8_48, pr_8_57, pr_8_59, pr_8_97, pr_i_0, pr_i_1, pr_i_2, pr_i_3]; first | assumption | decide | exact ⟨by assumption, by assumption⟩ | exact ⟨Or.inl (by assumption), by assumption⟩ | omega) | decide | exact ⟨Or.inl (by assumption), by assumption⟩ | exact ⟨by assumption, by assumption⟩ | omega) (Nat.le_of_ble_eq_true rfl) (her) ?_
          refine pr_seqT (pc' := 29) 8 rfl ⟨⟨⟨⟨⟨⟨⟨⟨trivial, (by first | assumption | (simp only [h5, x5, r0, hI, x7, xl, pr_8_122, pr_8_32, pr_8_48, pr_8_57, pr_8_59, pr_8_97, pr_i_0, pr_i_1, pr_i_2, pr_i_3]; first | assumption | decide | exact ⟨by assumption, by assumption⟩ | exact ⟨Or.inl (by assumption), by assumption⟩ | omega) | decide | exact ⟨Or.inl (by assumption), by assumption⟩ | exact ⟨by assumption, by assumption⟩ | omega)⟩, (by first | assumption | (simp only [h5, x5, r0, hI, x7, xl, pr_8_122, pr_8_32, pr_8_48, pr_8_57, pr_8_59, pr_8_97, pr_i_0, pr_i_1, pr_i_2, pr_i_3]; first | assumption | decide | exact ⟨by assumption, by assumption⟩ | exact ⟨Or.inl (by assumption), by assumption⟩ | omega) | decide | exact ⟨Or.inl (by assumption), by assumption⟩ | exact ⟨by assumption, by assumption⟩ | omega)⟩, (by first | assumption | (simp only [h5, x5, r0, hI, x7, xl, pr_8_122, pr_8_32, pr_8_48, pr_8_57, pr_8_59, pr_8_97, pr_i_0, pr_i_1, pr_i_2, pr_i_3]; first | assumption | decide | exact ⟨by assumption, by assumption⟩ | exact ⟨Or.inl (by assumption), by assumption⟩ | omega) | decide | exact ⟨Or.inl (by assumption), by assumption⟩ | exact ⟨by assumption, by assumption⟩ | omega)⟩, (by first | assumption | (simp only [h5, x5, r0, hI, x7, xl, pr_8_122, pr_8_32, pr_8_48, pr_8_57, pr_8_59, pr_8_97, pr_i_0, pr_i_1, pr_i_2, pr_i_3]; first | assumption | decide | exact ⟨by assumption, by assumption⟩ | exact ⟨Or.inl (by assumption), by assumption⟩ | omega) | decide | exact ⟨Or.inl (by assumption), by assumption⟩ | exact ⟨by assumption, by assumption⟩ | omega)⟩, (by first | assumption | (simp only [h5, x5, r0, hI, x7, xl, pr_8_122, pr_8_32, pr_8_48, pr_8_57, pr_8_59, pr_8_97, pr_i_0, pr_i_1, pr_i_2, pr_i_3]; first | assumption | decide | exact ⟨by assumption, by assumption⟩ | exact ⟨Or.inl (by assumption), by assumption⟩ | omega) | decide | exact ⟨Or.inl (by assumption), by assumption⟩ | exact ⟨by assumption, by assumption⟩ | omega)⟩, (by first | assumption | (simp only [h5, x5, r0, hI, x7, xl, pr_8_122, pr_8_32, pr_8_48, pr_8_57, pr_8_59, pr_8_97, pr_i_0, pr_i_1, pr_i_2, pr_i_3]; first | assumption | decide | exact ⟨by assumption, by assumption⟩ | exact ⟨Or.inl (by assumption), by assumption⟩ | omega) | decide | exact ⟨Or.inl (by assumption), by assumption⟩ | exact ⟨by assumption, by assumption⟩ | omega)⟩, (by first | assumption | (simp only [h5, x5, r0, hI, x7, xl, pr_8_122, pr_8_32, pr_8_48, pr_8_57, pr_8_59, pr_8_97, pr_i_0, pr_i_1, pr_i_2, pr_i_3]; first | assumption | decide | exact ⟨by assumption, by assumption⟩ | exact ⟨Or.inl (by assumption), by assumption⟩ | omega) | decide | exact ⟨Or.inl (by assumption), by assumption⟩ | exact ⟨by assumption, by assumption⟩ | omega)⟩, (by first | assumption | (simp only [h5, x5, r0, hI, x7, xl, pr_8_122, pr_8_32, pr_8_48, pr_8_57, pr_8_59, pr_8_97, pr_i_0, pr_i_1, pr_i_2, pr_i_3]; first | assumption | decide | exact ⟨by assumption, by assumption⟩ | exact ⟨Or.inl (by assumption), by assumption⟩ | omega) | decide | exact ⟨Or.inl (by assumption), by assumption⟩ | exact ⟨by assumption, by assumption⟩ | omega)⟩ ?_
          try simp only [h5, x5, r0, hI, x7, xl, pr_8_122, pr_8_32, pr_8_48, pr_8_57, pr_8_59, pr_8_97, pr_i_0, pr_i_1, pr_i_2, pr_i_3]
          refine pr_cvT [_] rfl rfl rfl rfl rfl (Nat.le_of_ble_eq_true rfl) (by first | assumption | (simp only [h5, x5, r0, hI, x7, xl, pr_8_122, pr_8_32, pr_8_48, pr_8_57, pr_8_59, pr_8_97, pr_i_0, pr_i_1, pr_i_2, pr_i_3]; first | assumption | decide | exact ⟨by assumption, by assumption⟩ | exact ⟨Or.inl (by assumption), by assumption⟩ | omega) | decide | exact ⟨Or.inl (by assumption), by assumption⟩ | exact ⟨by assumption, by assumption⟩ | omega) (Nat.le_of_ble_eq_true rfl) (hba) ?_
          refine pr_seqT (pc' := 44) 6 rfl ⟨⟨⟨⟨⟨⟨trivial, trivial⟩, (by first | assumption | (simp only [h5, x5, r0, hI, x7, xl, pr_8_122, pr_8_32, pr_8_48, pr_8_57, pr_8_59, pr_8_97, pr_i_0, pr_i_1, pr_i_2, pr_i_3]; first | assumption | decide | exact ⟨by assumption, by assumption⟩ | exact ⟨Or.inl (by assumption), by assumption⟩ | omega) | decide | exact ⟨Or.inl (by assumption), by assumption⟩ | exact ⟨by assumption, by assumption⟩ | omega)⟩, (by first | assumption | (simp only [h5, x5, r0, hI, x7, xl, pr_8_122, pr_8_32, pr_8_48, pr_8_57, pr_8_59, pr_8_97, pr_i_0, pr_i_1, pr_i_2, pr_i_3]; first | assumption | decide | exact ⟨by assumption, by assumption⟩ | exact ⟨Or.inl (by assumption), by assumption⟩ | omega) | decide | exact ⟨Or.inl (by assumption), by assumption⟩ | exact ⟨by assumption, by assumption⟩ | omega)⟩, (by first | assumption | (simp only [h5, x5, r0, hI, x7, xl, pr_8_122, pr_8_32, pr_8_48, pr_8_57, pr_8_59, pr_8_97, pr_i_0, pr_i_1, pr_i_2, pr_i_3]; first | assumption | decide | exact ⟨by assumption, by assumption⟩ | exact ⟨Or.inl (by assumption), by assumption⟩ | omega) | decide | exact ⟨Or.inl (by assumption), by assumption⟩ | exact ⟨by assumption, by assumption⟩ | omega)⟩, (by first | assumption | (simp only [h5, x5, r0, hI, x7, xl, pr_8_122, pr_8_32, pr_8_48, pr_8_57, pr_8_59, pr_8_97, pr_i_0, pr_i_1, pr_i_2, pr_i_3]; first | assumption | decide | exact ⟨by assumption, by assumption⟩ | exact ⟨Or.inl (by assumption), by assumption⟩ | omega) | decide | exact ⟨Or.inl (by assumption), by assumption⟩ | exact ⟨by assumption, by assumption⟩ | omega)⟩, (by first | assumption | (simp only [h5, x5, r0, hI, x7, xl, pr_8_122, pr_8_32, pr_8_48, pr_8_57, pr_8_59, pr_8_97, pr_i_0, pr_i_1, pr_i_2, pr_i_3]; first | assumption | decide | exact ⟨by assumption, by assumption⟩ | exact ⟨Or.inl (by assumption), by assumption⟩ | omega) | decide | exact ⟨Or.inl (by assumption), by assumption⟩ | exact ⟨by assumption, by assumption⟩ | omega)⟩ ?_
          try simp only [h5, x5, r0, hI, x7, xl, pr_8_122, pr_8_32, pr_8_48, pr_8_57, pr_8_59, pr_8_97, pr_i_0, pr_i_1, pr_i_2, pr_i_3]
          refine pr_icT rfl (fun h44 => ?_) (fun h44 => ?_)
          · simp only [ab_cmp, pr_8_122, pr_8_32, pr_8_48, pr_8_57, pr_8_59, pr_8_97, pr_i_0, pr_i_1, pr_i_2, pr_i_3] at h44
            first
            | contradiction
            | exact absurd trivial h44
            | exact absurd h44 (by decide)
            | exact absurd (Classical.not_not.mp h44) (by decide)
            | skip
              refine pr_seqT (pc' := 58) 2 rfl ⟨⟨trivial, trivial⟩, trivial⟩ ?_
              try simp only [h5, x5, r0, hI, x7, xl, pr_8_122, pr_8_32, pr_8_48, pr_8_57, pr_8_59, pr_8_97, pr_i_0, pr_i_1, pr_i_2, pr_i_3]
              refine pr_icT rfl (fun h58 => ?_) (fun h58 => ?_)
              · simp only [ab_cmp, pr_8_122, pr_8_32, pr_8_48, pr_8_57, pr_8_59, pr_8_97, pr_i_0, pr_i_1, pr_i_2, pr_i_3] at h58
                first
                | contradiction
                | exact absurd trivial h58
                | exact absurd h58 (by decide)
                | exact absurd (Classical.not_not.mp h58) (by decide)
                | skip
                  refine pr_seqT (pc' := 84) 3 rfl ⟨⟨⟨trivial, trivial⟩, trivial⟩, trivial⟩ ?_
                  try simp only [h5, x5, r0, hI, x7, xl, pr_8_122, pr_8_32, pr_8_48, pr_8_57, pr_8_59, pr_8_97, pr_i_0, pr_i_1, pr_i_2, pr_i_3]
                  refine pr_csT [_, _, _] rfl rfl rfl rfl rfl (Nat.le_of_ble_eq_true rfl) (Nat.le_of_ble_eq_true rfl) (hw97) ?_
                  refine pr_ifT rfl (fun h87 => ?_) (fun h87 => ?_)
                  · simp only [ab_cmp, pr_8_122, pr_8_32, pr_8_48, pr_8_57, pr_8_59, pr_8_97, pr_i_0, pr_i_1, pr_i_2, pr_i_3] at h87
                    first
                    | contradiction
                    | exact absurd trivial h87
                    | exact absurd h87 (by decide)
                    | exact absurd (Classical.not_not.mp h87) (by decide)
                    | skip
                      refine pr_seqT (pc' := 119) 3 rfl ⟨⟨⟨trivial, trivial⟩, trivial⟩, trivial⟩ ?_
                      try simp only [h5, x5, r0, hI, x7, xl, pr_8_122, pr_8_32, pr_8_48, pr_8_57, pr_8_59, pr_8_97, pr_i_0, pr_i_1, pr_i_2, pr_i_3]
                      refine pr_csT [_, _, _] rfl rfl rfl rfl rfl (Nat.le_of_ble_eq_true rfl) (Nat.le_of_ble_eq_true rfl) (hw48) ?_
                      refine pr_ifT rfl (fun h122 => ?_) (fun h122 => ?_)
                      · simp only [ab_cmp, pr_8_122, pr_8_32, pr_8_48, pr_8_57, pr_8_59, pr_8_97, pr_i_0, pr_i_1, pr_i_2, pr_i_3] at h122
                        first
                        | contradiction
                        | exact absurd trivial h122
                        | exact absurd h122 (by decide)
                        | exact absurd (Classical.not_not.mp h122) (by decide)
                        | skip
                          refine pr_seqT (pc' := 182) 4 rfl ⟨⟨⟨⟨trivial, (by first | assumption | (simp only [h5, x5, r0, hI, x7, xl, pr_8_122, pr_8_32, pr_8_48, pr_8_57, pr_8_59, pr_8_97, pr_i_0, pr_i_1, pr_i_2, pr_i_3]; first | assumption | decide | exact ⟨by assumption, by assumption⟩ | exact ⟨Or.inl (by assumption), by assumption⟩ | omega) | decide | exact ⟨Or.inl (by assumption), by assumption⟩ | exact ⟨by assumption, by assumption⟩ | omega)⟩, trivial⟩, (by first | assumption | (simp only [h5, x5, r0, hI, x7, xl, pr_8_122, pr_8_32, pr_8_48, pr_8_57, pr_8_59, pr_8_97, pr_i_0, pr_i_1, pr_i_2, pr_i_3]; first | assumption | decide | exact ⟨by assumption, by assumption⟩ | exact ⟨Or.inl (by assumption), by assumption⟩ | omega) | decide | exact ⟨Or.inl (by assumption), by assumption⟩ | exact ⟨by assumption, by assumption⟩ | omega)⟩, (by first | assumption | (simp only [h5, x5, r0, hI, x7, xl, pr_8_122, pr_8_32, pr_8_48, pr_8_57, pr_8_59, pr_8_97, pr_i_0, pr_i_1, pr_i_2, pr_i_3]; first | assumption | decide | exact ⟨by assumption, by assumption⟩ | exact ⟨Or.inl (by assumption), by assumption⟩ | omega) | decide | exact ⟨Or.inl (by assumption), by assumption⟩ | exact ⟨by assumption, by assumption⟩ | omega)⟩ ?_
                          try simp only [h5, x5, r0, hI, x7, xl, pr_8_122, pr_8_32, pr_8_48, pr_8_57, pr_8_59, pr_8_97, pr_i_0, pr_i_1, pr_i_2, pr_i_3]
                          refine pr_cvT [_, _] rfl rfl rfl rfl rfl (Nat.le_of_ble_eq_true rfl) (by first | assumption | (simp only [h5, x5, r0, hI, x7, xl, pr_8_122, pr_8_32, pr_8_48, pr_8_57, pr_8_59, pr_8_97, pr_i_0, pr_i_1, pr_i_2, pr_i_3]; first | assumption | decide | exact ⟨by assumption, by assumption⟩ | exact ⟨Or.inl (by assumption), by assumption⟩ | omega) | decide | exact ⟨Or.inl (by assumption), by assumption⟩ | exact ⟨by assumption, by assumption⟩ | omega) (Nat.le_of_ble_eq_true rfl) (hrf) ?_
                          exact pr_irT rfl (by first | exact Or.inl rfl | exact Or.inr rfl | exact pr_b01 _ | assumption) (by exact ⟨rfl, fun a ha => by (try dsimp only); rw [ab_u_ne ha, ab_u_ne ha]; exact f2 a ha, rfl, fun _ => ⟨by (try dsimp only); rw [ab_u_j (by decide), ab_u_at], by first | exact ab_u_at | (dsimp only; exact ab_u_at)⟩, fun q => absurd trivial q⟩)
                      · simp only [ab_cmp, pr_8_122, pr_8_32, pr_8_48, pr_8_57, pr_8_59, pr_8_97, pr_i_0, pr_i_1, pr_i_2, pr_i_3] at h122
                        first
                        | contradiction
                        | exact absurd trivial h122
                        | exact absurd h122 (by decide)
                        | exact absurd (Classical.not_not.mp h122) (by decide)
                        | skip
                          fail
                  · simp only [ab_cmp, pr_8_122, pr_8_32, pr_8_48, pr_8_57, pr_8_59, pr_8_97, pr_i_0, pr_i_1, pr_i_2, pr_i_3] at h87
                    first
                    | contradiction
                    | exact absurd trivial h87
                    | exact absurd h87 (by decide)
                    | exact absurd (Classical.not_not.mp h87) (by decide)
                    | skip
                      fail
              · simp only [ab_cmp, pr_8_122, pr_8_32, pr_8_48, pr_8_57, pr_8_59, pr_8_97, pr_i_0, pr_i_1, pr_i_2, pr_i_3] at h58
                first
                | contradiction
                | exact absurd trivial h58
                | exact absurd h58 (by decide)
                | exact absurd (Classical.not_not.mp h58) (by decide)
                | skip
                  fail
          · simp only [ab_cmp, pr_8_122, pr_8_32, pr_8_48, pr_8_57, pr_8_59, pr_8_97, pr_i_0, pr_i_1, pr_i_2, pr_i_3] at h44
            first
            | contradiction
            | exact absurd trivial h44
            | exact absurd h44 (by decide)
            | exact absurd (Classical.not_not.mp h44) (by decide)
            | skip
              fail
