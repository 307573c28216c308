
/-! ===== runs that make new cells ===== -/
def pr_Y (i : ab_I) (pc : Nat) (L : ab_Ls) (st : List Value) (h : ab_H) (M : ab_M) (Q : Option Value → ab_H → ab_M → Prop) : Prop := ∃ (r : Option Value) (h' : ab_H) (M' : ab_M), pr_E i pc L st h M r h' M' ∧ Q r h' M'
abbrev pr_Z (i : ab_I) (vs : List Value) (h : ab_H) (M : ab_M) (Q : Option Value → ab_H → ab_M → Prop) : Prop := pr_Y i 0 (ab_ent i vs) [] h M Q
section PRY
variable {i j : ab_I} {pc pc' ex ln : Nat} {L L' : ab_Ls} {st st' t : List Value} {h h1 : ab_H} {M M1 : ab_M} {Q Q1 : Option Value → ab_H → ab_M → Prop} {φ : Prop} {v : Option Value}
theorem pr_Y.mono (H : pr_Y i pc L st h M Q1) (hQ : ∀ r h' M', Q1 r h' M' → Q r h' M') : pr_Y i pc L st h M Q := by
  obtain ⟨r, h', M', a, b⟩ := H
  exact ⟨r, h', M', a, hQ r h' M' b⟩
theorem pr_seqY (k : Nat) (hs : pr_seg k (ab_It i) pc L st h M True = some ((pc', L', st', h1, M1), φ)) (hφ : φ) (H : pr_Y i pc' L' st' h1 M1 Q) : pr_Y i pc L st h M Q := by
  obtain ⟨r, h', M', a, b⟩ := H
  exact ⟨r, h', M', pr_seq k hs hφ a, b⟩
theorem pr_icY {c : Jvm.ClassFile.Cond} {o : Int} {x y : Int32} (hk : ab_lk (ab_It i) pc = some (.if_icmp c o, ln, ex)) (H1 : ab_cmp c x y → pr_Y i ex L t h M Q) (H2 : ¬ ab_cmp c x y → pr_Y i (pc + 3) L t h M Q) : pr_Y i pc L (.int y :: .int x :: t) h M Q := by
  by_cases hc : ab_cmp c x y
  · obtain ⟨r, h', M', a, b⟩ := H1 hc
    exact ⟨r, h', M', pr_ic hk (fun _ => a) (fun q => absurd hc q), b⟩
  · obtain ⟨r, h', M', a, b⟩ := H2 hc
    exact ⟨r, h', M', pr_ic hk (fun q => absurd q hc) (fun _ => a), b⟩
theorem pr_vrY (hk : ab_lk (ab_It i) pc = some (.return_, ln, ex)) (ht : ab_Ir i = none) (hQ : Q none h M) : pr_Y i pc L [] h M Q := ⟨_, _, _, pr_vr hk rfl ht, hQ⟩
theorem pr_ciY {z a : Nat} (As : List Value) (hk : ab_lk (ab_It i) pc = some (.invokespecial z, ln, ex)) (hx : Nat.blt ex 9000 = true) (hj : ab_P[ex % 1000]? = some j) (hst : st = As.reverse ++ .ref a :: t) (hn : As.length + 1 = ab_In j) (hl : (ab_args (.ref a :: As)).length ≤ ab_Il j) (ha : a ≠ 0) (hw : (t.map fun v => v.category).sum ≤ 8) (H1 : pr_Z j (.ref a :: As) h M Q1) (H2 : ∀ v h1 M1, Q1 v h1 M1 → pr_Y i (pc + 3) L (v.toList ++ t) h1 M1 Q) : pr_Y i pc L st h M Q := by
  obtain ⟨v, h1, M1, a1, b1⟩ := H1
  obtain ⟨r, h', M', a2, b2⟩ := H2 v h1 M1 b1
  exact ⟨r, h', M', pr_ci As hk hx hj hst hn hl ha hw a1 a2, b2⟩
theorem pr_cvY {z a : Nat} (As : List Value) (hk : ab_lk (ab_It i) pc = some (.invokevirtual z, ln, ex)) (hx : Nat.blt ex 9000 = true) (hj : ab_P[ex % 1000]? = some j) (hst : st = As.reverse ++ .ref a :: t) (hn : As.length + 1 = ab_In j) (hl : (ab_args (.ref a :: As)).length ≤ ab_Il j) (hka : ab_k h a = ab_Ic j + 1) (hw : (t.map fun v => v.category).sum ≤ 8) (H1 : pr_C j (.ref a :: As) h M v h1 M1) (H2 : pr_Y i (pc + 3) L (v.toList ++ t) h1 M1 Q) : pr_Y i pc L st h M Q := by
  obtain ⟨r, h', M', a2, b2⟩ := H2
  exact ⟨r, h', M', pr_cv As hk hx hj hst hn hl hka hw H1 a2, b2⟩
end PRY
/-- what lies below a, and the script, stays -/
def sm (a : Nat) (h : ab_H) (M : ab_M) (h' : ab_H) (M' : ab_M) : Prop := ∀ c, (c < a ∨ 1000000 ≤ c) → ab_k h' c = ab_k h c ∧ ab_n h' c = ab_n h c ∧ M'.1 c = M.1 c ∧ M'.2.2 c = M.2.2 c
theorem sm_tr {a b : Nat} {h h1 h2 : ab_H} {M M1 M2 : ab_M} (hab : a ≤ b) (s1 : sm a h M h1 M1) (s2 : sm b h1 M1 h2 M2) : sm a h M h2 M2 := fun c hc => by
  obtain ⟨x1, x2, x3, x4⟩ := s1 c hc
  obtain ⟨y1, y2, y3, y4⟩ := s2 c (by omega)
  exact ⟨y1.trans x1, y2.trans x2, y3.trans x3, y4.trans x4⟩
/-- the cells a to b - 1 are new: ints 0 -/
theorem sm_new {a n sl : Nat} {kd ln kd' ln' : Nat → Nat} {M M' : ab_M} {s' : Nat} (hk : ∀ c, c ≠ a → kd' c = kd c) (hl : ∀ c, c ≠ a → ln' c = ln c) (h1 : ∀ c, c ≠ a → M'.1 c = M.1 c) (h2 : ∀ c, c ≠ a → M'.2.2 c = M.2.2 c) (ha : a < 1000000) : sm a (n, sl, kd, ln) M (a + 1, s', kd', ln') M' := fun c hc => ⟨hk c (by omega), hl c (by omega), h1 c (by omega), h2 c (by omega)⟩
/-- a Name's constructor: its cell a is the newest -/
def nm_p (a : Nat) (h : ab_H) (M : ab_M) (r : Option Value) (h' : ab_H) (M' : ab_M) : Prop := r = none ∧ h'.1 = a + 2 ∧ h'.2.1 = h.2.1 + 20 ∧ sm a h M h' M' ∧ pr_Nm h' M'.2.2 a ∧ M'.1 a = M.1 a ∧ ∀ j, M'.1 (a + 1) j = 0
theorem n_name {a : Nat} (h : ab_H) (M : ab_M) (ha : a ≠ 0) (hk : ab_k h a = 3) (hn : h.1 = a + 1) (hlt : a < 999000) : pr_Z pX2_init [.ref a] h M (nm_p a h M) := by
  obtain ⟨n, sl, kd, ln⟩ := h
  dsimp only at hn
  subst hn
  have hk : kd a = 3 := hk
  have hk2 : va_up kd (a + 1) 20 a = 3 := by rw [va_up_n (by omega)]; exact hk
  have wd : ab_wd [] := by unfold ab_wd; decide
  have n20 : (Int8.ofInt 20).toInt32.toNatClampNeg = 20 := by decide
  refine pr_seqY (pc' := 12) 6 rfl ⟨⟨⟨⟨⟨⟨trivial, ha⟩, ⟨ha, wd⟩⟩, ha⟩, trivial⟩, ⟨by decide, by rw [n20]; decide, by show a + 1 < 1000000; omega⟩⟩, ⟨hk2, Nat.succ_ne_zero a⟩⟩ ?_
  refine pr_vrY rfl rfl ?_
  dsimp only
  rw [n20]
  refine ⟨rfl, rfl, rfl, fun c hc => ?_, ⟨ha, hk2, ?_, va_up_at _ _ _, va_up_at _ _ _⟩, va_up_n (by omega), fun j => by show va_up M.1 (a + 1) (fun _ => 0) (a + 1) j = 0; rw [va_up_at]⟩
  · have c1 : c ≠ a + 1 := by omega
    refine ⟨va_up_n c1, va_up_n c1, va_up_n c1, ?_⟩
    show ab_u (va_up M.2.2 (a + 1) fun _ => 0) a (200 % 100) (a + 1) c = _
    rw [ab_u_ne (by omega), va_up_n c1]
  · exact ab_u_at
def on_p (a : Nat) (h : ab_H) (M : ab_M) (r : Option Value) (h' : ab_H) (M' : ab_M) : Prop := r = none ∧ h'.1 = a + 3 ∧ h'.2.1 = h.2.1 + 22 ∧ sm a h M h' M' ∧ pr_On h' M'.2.2 a ∧ M'.1 a = M.1 a ∧ (∀ j, M'.1 (a + 1) j = 0) ∧ ∀ j, M'.1 (a + 2) j = 0
theorem pr_Nm_u {h : ab_H} {R : Nat → Nat → Nat} {n a k v : Nat} (ha : a ≠ n) (hv : pr_Nm h R n) : pr_Nm h (ab_u R a k v) n := by
  obtain ⟨v1, v2, v3, v4, v5⟩ := hv
  exact ⟨v1, v2, by rw [ab_u_ne (fun q => ha q.symm)]; exact v3, v4, v5⟩
theorem n_one {a : Nat} (h : ab_H) (M : ab_M) (ha : a ≠ 0) (hk : ab_k h a = 4) (hn : h.1 = a + 1) (hlt : a < 998000) : pr_Z pX3_init [.ref a] h M (on_p a h M) := by
  obtain ⟨n, sl, kd, ln⟩ := h
  dsimp only at hn
  subst hn
  have hk : kd a = 4 := hk
  have wd : ab_wd [] := by unfold ab_wd; decide
  refine pr_seqY (pc' := 9) 5 rfl ⟨⟨⟨⟨⟨trivial, ha⟩, ⟨ha, wd⟩⟩, ha⟩, ⟨by decide, by show a + 1 < 1000000; omega⟩⟩, trivial⟩ ?_
  refine pr_ciY [] rfl rfl rfl rfl rfl (Nat.le_of_ble_eq_true rfl) (Nat.succ_ne_zero a) (Nat.le_of_ble_eq_true rfl) (n_name (a := a + 1) _ _ (Nat.succ_ne_zero a) (va_up_at _ _ _) rfl (by omega)) (fun v h2 M2 q => ?_)
  obtain ⟨rfl, q1, q2, q3, q4, q5, q6⟩ := q
  have hsa := q3 a (by omega)
  have hk2 : ab_k h2 a = 4 := by rw [hsa.1]; show va_up kd (a + 1) 3 a = 4; rw [va_up_n (by omega)]; exact hk
  refine pr_seqY (pc' := 15) 1 rfl ⟨trivial, ⟨hk2, Nat.succ_ne_zero a⟩⟩ ?_
  refine pr_vrY rfl rfl ⟨rfl, q1, by rw [q2]; show sl + 2 + 20 = sl + 22; omega, fun c hc => ?_, ⟨ha, hk2, ab_u_at, pr_Nm_u (by omega) q4⟩, ?_, fun j => ?_, q6⟩
  · obtain ⟨y1, y2, y3, y4⟩ := q3 c (by omega)
    have c1 : c ≠ a + 1 := by omega
    refine ⟨by rw [y1]; exact va_up_n c1, by rw [y2], by show M2.1 c = _; rw [y3]; exact va_up_n c1, ?_⟩
    show ab_u M2.2.2 a (300 % 100) (a + 1) c = _
    rw [ab_u_ne (by omega), y4]
    exact va_up_n c1
  · show M2.1 a = _
    rw [hsa.2.2.1]
    exact va_up_n (by omega)
  · show M2.1 (a + 1) j = 0
    rw [q5]
    show va_up M.1 (a + 1) (fun _ => 0) (a + 1) j = 0
    rw [va_up_at]
/-- a Land's constructor -/
def lnd_p (g : Nat) (h : ab_H) (M : ab_M) (r : Option Value) (h' : ab_H) (M' : ab_M) : Prop := r = none ∧ h'.1 = g + 27 ∧ h'.2.1 = h.2.1 + 242 ∧ sm g h M h' M' ∧ pr_Ld h' M'.2.2 g ∧ ld_v M'.1 g (fun l => l + 1, [], 0, 1)
theorem pr_On_u {h : ab_H} {R : Nat → Nat → Nat} {n a k v : Nat} (ha : a ≠ n) (ha2 : a ≠ n + 1) (hv : pr_On h R n) : pr_On h (ab_u R a k v) n := by
  obtain ⟨v1, v2, v3, v4⟩ := hv
  exact ⟨v1, v2, by rw [ab_u_ne (fun q => ha q.symm)]; exact v3, pr_Nm_u ha2 v4⟩
theorem pr_Nm_sm {a n : Nat} {h h' : ab_H} {M M' : ab_M} (hs : sm a h M h' M') (hn : n + 1 < a) (hv : pr_Nm h M.2.2 n) : pr_Nm h' M'.2.2 n := by
  obtain ⟨v1, v2, v3, v4, v5⟩ := hv
  obtain ⟨x1, x2, x3, x4⟩ := hs n (by omega)
  obtain ⟨y1, y2, y3, y4⟩ := hs (n + 1) (by omega)
  exact ⟨v1, by rw [x1]; exact v2, by rw [x4]; exact v3, by rw [y1]; exact v4, by rw [y2]; exact v5⟩
theorem pr_On_sm {a n : Nat} {h h' : ab_H} {M M' : ab_M} (hs : sm a h M h' M') (hn : n + 2 < a) (hv : pr_On h M.2.2 n) : pr_On h' M'.2.2 n := by
  obtain ⟨v1, v2, v3, v4⟩ := hv
  obtain ⟨x1, x2, x3, x4⟩ := hs n (by omega)
  exact ⟨v1, by rw [x1]; exact v2, by rw [x4]; exact v3, pr_Nm_sm hs (by omega) v4⟩
theorem n_landL {g : Nat} (h0 : ab_H) (M0 : ab_M) (hg : g ≠ 0) (hlt : g < 990000) : ∀ dd p, p + dd = 8 → ∀ (h : ab_H) (M : ab_M), h.1 = g + 3 + 3 * p → h.2.1 = h0.2.1 + 34 + 26 * p → sm g h0 M0 h M → ab_k h g = 2 → M.2.2 g 0 = g + 1 → M.2.2 g 1 = g + 2 → ab_k h (g + 1) = 20 → ab_n h (g + 1) = 26 → ab_k h (g + 2) = 26 → ab_n h (g + 2) = 8 → (∀ q, q < p → M.2.2 (g + 2) q = g + 3 + 3 * q ∧ pr_On h M.2.2 (g + 3 + 3 * q)) → pr_Y pX1_init 23 [some (.ref g), some (.int (nI p))] [] h M (lnd_p g h0 M0) := by
  intro dd
  induction dd with
  | zero =>
    intro p hp h M i1 i2 i3 k0 r0 r1 k1 n1 k2 n2 io
    obtain rfl : p = 8 := by omega
    have e1 : nI 8 ≤ nI 8 := nI_le (Nat.le_refl _) (by decide)
    have hL : pr_Ld h M.2.2 g := ⟨hg, k0, r0, r1, k1, n1, ⟨k2, n2⟩, io⟩
    have hc := c_lclear h M hL
    refine pr_seqY (pc' := 26) 2 rfl ⟨⟨trivial, trivial⟩, trivial⟩ ?_
    refine pr_icY rfl (fun _ => ?_) (fun q => absurd (show nI 8 ≤ nI 8 from e1) q)
    refine pr_seqY (pc' := 49) 1 rfl ⟨trivial, hg⟩ ?_
    refine pr_cvY [] rfl rfl rfl rfl rfl (Nat.le_of_ble_eq_true rfl) k0 (Nat.le_of_ble_eq_true rfl) hc ?_
    refine pr_vrY rfl rfl ⟨rfl, by rw [i1], by rw [i2], fun c hc2 => ?_, hL, ld_new_v⟩
    obtain ⟨x1, x2, x3, x4⟩ := i3 c hc2
    refine ⟨x1, x2, ?_, x4⟩
    show ld_new M.1 g c = _
    rw [ld_new_far (by omega) (by omega)]
    exact x3
  | succ dd ih =>
    intro p hp h M i1 i2 i3 k0 r0 r1 k1 n1 k2 n2 io
    have e1 : ¬ nI 8 ≤ nI p := nI_ge (by omega) (by decide)
    obtain ⟨n, sl, kd, ln⟩ := h
    dsimp only at i1 i2
    subst i1
    have k0 : kd g = 2 := k0
    have vin8 : vp_in (nI p) 8 := vp_in_nI (by omega) (by decide)
    refine pr_seqY (pc' := 26) 2 rfl ⟨⟨trivial, trivial⟩, trivial⟩ ?_
    refine pr_icY rfl (fun q => absurd (show nI 8 ≤ nI p from q) e1) (fun _ => ?_)
    refine pr_seqY (pc' := 38) 5 rfl ⟨⟨⟨⟨⟨trivial, hg⟩, k0⟩, trivial⟩, ⟨by decide, by show g + 3 + 3 * p < 1000000; omega⟩⟩, trivial⟩ ?_
    refine pr_ciY [] rfl rfl rfl rfl rfl (Nat.le_of_ble_eq_true rfl) (by omega) (Nat.le_of_ble_eq_true rfl) (n_one (a := g + 3 + 3 * p) _ _ (by omega) (va_up_at _ _ _) rfl (by omega)) (fun v h2 M2 q => ?_)
    obtain ⟨rfl, q1, q2, q3, q4, q5, q6, q7⟩ := q
    have r1' : M.2.2 g (101 % 100) = g + 2 := r1
    rw [r1']
    have low : ∀ c, (c < g + 3 + 3 * p ∨ 1000000 ≤ c) → ab_k h2 c = kd c ∧ ab_n h2 c = ln c ∧ M2.1 c = M.1 c ∧ M2.2.2 c = M.2.2 c := fun c hc => by
      obtain ⟨y1, y2, y3, y4⟩ := q3 c hc
      have c1 : c ≠ g + 3 + 3 * p := by omega
      exact ⟨by rw [y1]; exact va_up_n c1, by rw [y2], by rw [y3]; exact va_up_n c1, by rw [y4]; exact va_up_n c1⟩
    have l0 := low g (by omega)
    have l1 := low (g + 1) (by omega)
    have l2 := low (g + 2) (by omega)
    have kk2 : ab_k h2 (g + 2) = 26 := by rw [l2.1]; exact k2
    have nn2 : ab_n h2 (g + 2) = 8 := by rw [l2.2.1]; exact n2
    refine pr_seqY (pc' := 23) 3 rfl ⟨⟨⟨trivial, ⟨⟨by rw [kk2]; decide, by rw [kk2]; decide⟩, by rw [kk2]; exact q4.2.1, by rw [nn2]; exact vin8⟩⟩, trivial⟩, trivial⟩ ?_
    rw [nI_clamp (by omega), show Int32.ofInt 1 = 1 by decide, nI_1]
    refine ih (p + 1) (by omega) h2 _ (by rw [q1]; omega) (by rw [q2]; show sl + 4 + 22 = _; omega) (fun c hc => ?_) (by rw [l0.1]; exact k0) ?_ ?_ (by rw [l1.1]; exact k1) (by rw [l1.2.1]; exact n1) kk2 nn2 (fun q hq => ?_)
    · obtain ⟨x1, x2, x3, x4⟩ := i3 c hc
      obtain ⟨y1, y2, y3, y4⟩ := low c (by omega)
      refine ⟨by rw [y1]; exact x1, by rw [y2]; exact x2, by show M2.1 c = _; rw [y3]; exact x3, ?_⟩
      show ab_u M2.2.2 (g + 2) p (g + 3 + 3 * p) c = _
      rw [ab_u_ne (by omega), y4]
      exact x4
    · show ab_u M2.2.2 (g + 2) p (g + 3 + 3 * p) g 0 = _
      rw [ab_u_ne (by omega), l0.2.2.2]
      exact r0
    · show ab_u M2.2.2 (g + 2) p (g + 3 + 3 * p) g 1 = _
      rw [ab_u_ne (by omega), l0.2.2.2]
      exact r1
    · show ab_u M2.2.2 (g + 2) p (g + 3 + 3 * p) (g + 2) q = _ ∧ pr_On h2 (ab_u M2.2.2 (g + 2) p (g + 3 + 3 * p)) (g + 3 + 3 * q)
      by_cases e : q = p
      · subst e
        exact ⟨ab_u_at, pr_On_u (by omega) (by omega) q4⟩
      · obtain ⟨z1, z2⟩ := io q (by omega)
        refine ⟨by rw [ab_u_j e, l2.2.2.2]; exact z1, pr_On_u (by omega) (by omega) ?_⟩
        exact pr_On_sm (a := g + 3 + 3 * p) (M' := M2) (fun c hc => low c hc) (by omega) z2
theorem n_land {g : Nat} (h : ab_H) (M : ab_M) (hg : g ≠ 0) (hk : ab_k h g = 2) (hn : h.1 = g + 1) (hlt : g < 990000) : pr_Z pX1_init [.ref g] h M (lnd_p g h M) := by
  obtain ⟨n, sl, kd, ln⟩ := h
  dsimp only at hn
  subst hn
  have hk : kd g = 2 := hk
  have hk2 : va_up kd (g + 1) 20 g = 2 := by rw [va_up_n (by omega)]; exact hk
  have hk3 : va_up (va_up kd (g + 1) 20) (g + 2) 26 g = 2 := by rw [va_up_n (by omega)]; exact hk2
  have wd : ab_wd [] := by unfold ab_wd; decide
  have n26 : (Int8.ofInt 26).toInt32.toNatClampNeg = 26 := by decide
  have n8 : (Int8.ofInt 8).toInt32.toNatClampNeg = 8 := by decide
  refine pr_seqY (pc' := 23) 12 rfl ⟨⟨⟨⟨⟨⟨⟨⟨⟨⟨⟨⟨trivial, hg⟩, ⟨hg, wd⟩⟩, hg⟩, trivial⟩, ⟨by decide, by rw [n26]; decide, by show g + 1 < 1000000; omega⟩⟩, ⟨hk2, Nat.succ_ne_zero g⟩⟩, hg⟩, trivial⟩, ⟨by decide, by rw [n8]; decide, by show g + 1 + 1 < 1000000; omega⟩⟩, ⟨hk3, Nat.succ_ne_zero _⟩⟩, trivial⟩, trivial⟩ ?_
  dsimp only
  rw [n26, n8]
  refine n_landL _ _ hg hlt 8 0 (by omega) _ _ rfl rfl (fun c hc => ?_) hk3 ?_ ab_u_at ?_ ?_ (va_up_at _ _ _) (va_up_at _ _ _) (fun q hq => absurd hq (by omega))
  · have c1 : c ≠ g + 1 := by omega
    have c2 : c ≠ g + 2 := by omega
    have c0 : c ≠ g := by omega
    refine ⟨(va_up_n c2).trans (va_up_n c1), (va_up_n c2).trans (va_up_n c1), (va_up_n c2).trans (va_up_n c1), ?_⟩
    refine (ab_u_ne c0).trans ((va_up_n c2).trans ((ab_u_ne c0).trans (va_up_n c1)))
  · refine (ab_u_j (by decide)).trans ?_
    refine (congrFun (va_up_n (by omega)) _).trans ab_u_at
  · exact (va_up_n (by omega)).trans (va_up_at _ _ _)
  · exact (va_up_n (by omega)).trans (va_up_at _ _ _)
