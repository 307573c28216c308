/-! ===== the whole state of the class: where its cells lie, what they hold ===== -/
section PRS
variable {i : ab_I} {pc ex ln g : Nat} {L : ab_Ls} {t : List Value} {h h' : ab_H} {M M' : ab_M} {r : Option Value} {Q : Option Value → ab_M → Prop}
theorem pr_tsO {d lo hi : Int} {offs : Array Int} {x : Int32} (hk : ab_lk (ab_It i) pc = some (.tableswitch d lo hi offs, ln, ex)) (hx : x.toInt < lo ∨ hi < x.toInt) (hg : (pc : Int) + d = (g : Int)) (H : pr_E i g L t h M r h' M') : pr_E i pc L (.int x :: t) h M r h' M' := by
  obtain ⟨f, hf⟩ := H
  refine ⟨f + 1, ?_⟩
  unfold ab_ev
  rw [hk]
  exact ⟨fun _ => ⟨g, hg, hf⟩, fun q => absurd hx q⟩
theorem pr_tsI {d lo hi o : Int} {offs : Array Int} {x : Int32} (hk : ab_lk (ab_It i) pc = some (.tableswitch d lo hi offs, ln, ex)) (hx : ¬ (x.toInt < lo ∨ hi < x.toInt)) (ho : offs[(x.toInt - lo).toNat]? = some o) (hg : (pc : Int) + o = (g : Int)) (H : pr_E i g L t h M r h' M') : pr_E i pc L (.int x :: t) h M r h' M' := by
  obtain ⟨f, hf⟩ := H
  refine ⟨f + 1, ?_⟩
  unfold ab_ev
  rw [hk]
  exact ⟨fun q => absurd q hx, fun _ => ⟨o, g, ho, hg, hf⟩⟩
theorem pr_tsOT {d lo hi : Int} {offs : Array Int} {x : Int32} (hk : ab_lk (ab_It i) pc = some (.tableswitch d lo hi offs, ln, ex)) (hx : x.toInt < lo ∨ hi < x.toInt) (hg : (pc : Int) + d = (g : Int)) (H : pr_T i g L t h M Q) : pr_T i pc L (.int x :: t) h M Q := by
  obtain ⟨r, M', h1, h2⟩ := H
  exact ⟨r, M', pr_tsO hk hx hg h1, h2⟩
theorem pr_tsIT {d lo hi o : Int} {offs : Array Int} {x : Int32} (hk : ab_lk (ab_It i) pc = some (.tableswitch d lo hi offs, ln, ex)) (hx : ¬ (x.toInt < lo ∨ hi < x.toInt)) (ho : offs[(x.toInt - lo).toNat]? = some o) (hg : (pc : Int) + o = (g : Int)) (H : pr_T i g L t h M Q) : pr_T i pc L (.int x :: t) h M Q := by
  obtain ⟨r, M', h1, h2⟩ := H
  exact ⟨r, M', pr_tsI hk hx ho hg h1, h2⟩
end PRS
/-- which Told is the object's, which the reader's draft -/
def tB (b : Bool) : Nat := if b then 67 else 6
/-- the object's own cells and references -/
def ly_o (h : ab_H) (R : Nat → Nat → Nat) (b : Bool) : Prop := ab_k h 1 = 11 ∧ R 1 0 = 2 ∧ R 1 1 = 4 ∧ R 1 2 = 49 ∧ R 1 3 = 55 ∧ R 1 4 = 58 ∧ R 1 5 = 62 ∧ R 1 6 = 64 ∧ R 1 7 = 65 ∧ R 1 8 = 66 ∧ R 1 9 = tB b
def ly_t (h : ab_H) (R : Nat → Nat → Nat) : Prop := pr_Tl h R 6 ∧ pr_Tl h R 67
def ly_i (h : ab_H) (R : Nat → Nat → Nat) : Prop := (ab_k h 64 = 24 ∧ ab_n h 64 = 2) ∧ (ab_k h 65 = 22 ∧ ab_n h 65 = 2) ∧ ∀ k, k < 2 → R 64 k = 110 + 27 * k ∧ pr_Ld h R (110 + 27 * k)
def ly_s (h : ab_H) (R : Nat → Nat → Nat) : Prop := (ab_k h 66 = 27 ∧ ab_n h 66 = 4) ∧ ∀ k, k < 4 → R 66 k = 164 + 2 * k ∧ pr_Sh h R (164 + 2 * k)
def ly_r (h : ab_H) (R : Nat → Nat → Nat) (b : Bool) : Prop := (ab_k h 2 = 9 ∧ R 2 0 = 3 ∧ ab_k h 3 = 21 ∧ ab_n h 3 = 320) ∧ (ab_k h 4 = 7 ∧ R 4 0 = 2 ∧ R 4 1 = 5 ∧ R 4 2 = tB (!b) ∧ ab_k h 5 = 22 ∧ ab_n h 5 = 26)
def ly_w (h : ab_H) (R : Nat → Nat → Nat) : Prop := pr_Cs h R 49 ∧ (ab_k h 55 = 6 ∧ R 55 0 = 56 ∧ R 55 1 = 57 ∧ ab_k h 56 = 23 ∧ ab_n h 56 = 8401 ∧ ab_k h 57 = 20 ∧ ab_n h 57 = 4) ∧ (ab_k h 58 = 5 ∧ R 58 0 = 59 ∧ R 58 1 = 60 ∧ R 58 2 = 61 ∧ (ab_k h 59 = 20 ∧ ab_n h 59 = 6) ∧ (ab_k h 60 = 20 ∧ ab_n h 60 = 6) ∧ ab_k h 61 = 20 ∧ ab_n h 61 = 6) ∧ pr_Nm h R 62
def Lay (h : ab_H) (R : Nat → Nat → Nat) (b : Bool) : Prop := ly_o h R b ∧ ly_t h R ∧ ly_i h R ∧ ly_s h R ∧ ly_r h R b ∧ ly_w h R
/-- THE STATE: told, images, sheets (lane, size, cells), the tape's bytes, fault, torn -/
abbrev Sh1 : Type := Option (Nat × Nat × (Nat → Int32))
abbrev St : Type := Tl × (Nat → Option Ld) × (Nat → Sh1) × List Nat × Nat × Nat
def im_v (I : Nat → Nat → Int32) (k : Nat) : Option Ld → Prop
  | none => I 65 k = 0
  | some d => I 65 k = 1 ∧ ld_v I (110 + 27 * k) d
def sh_v (I : Nat → Nat → Int32) (s : Nat) : Sh1 → Prop
  | none => I s 1 = 0
  | some (ln, n, f) => I s 1 = 1 ∧ I s 2 = nI ln ∧ ln ≤ 2 ∧ I s 3 = nI n ∧ n ≤ 40 ∧ ∀ j, j < 40 → I (s + 1) j = f j
def tp_v (I : Nat → Nat → Int32) (w : List Nat) : Prop := I 2 1 = nI w.length ∧ w.length ≤ 320 ∧ ∀ j, j < w.length → I 3 j = (nI (w.getD j 0)).toInt8.toInt32 ∧ w.getD j 0 < 256
def cl_v (I : Nat → Nat → Int32) (b : Bool) (X : St) : Prop := tl_v I (tB b) X.1 ∧ (∀ k, k < 2 → im_v I k (X.2.1 k)) ∧ (∀ k, k < 4 → sh_v I (164 + 2 * k) (X.2.2.1 k)) ∧ tp_v I X.2.2.2.1 ∧ I 1 10 = nI X.2.2.2.2.1 ∧ I 1 11 = nI X.2.2.2.2.2
theorem tB_ne (b : Bool) : tB b ≠ 0 := by cases b <;> decide
theorem ly_told {h : ab_H} {R : Nat → Nat → Nat} {b : Bool} (hl : Lay h R b) : pr_Tl h R (tB b) := by
  cases b
  · exact hl.2.1.1
  · exact hl.2.1.2
/-! ===== asked only ===== -/
theorem o_fault {b : Bool} {X : St} (h : ab_H) (M : ab_M) (hl : Lay h M.2.2 b) (hv : cl_v M.1 b X) : pr_C pX10_fault [.ref 1] h M (some (.int (nI X.2.2.2.2.1))) h M := by
  have k1 := hl.1.1
  have e1 := hv.2.2.2.2.1
  refine pr_seq (pc' := 4) 2 rfl ⟨⟨trivial, (by first | assumption | decide | omega | exact ⟨Or.inl (by assumption), by assumption⟩ | exact ⟨by assumption, by assumption⟩ | (simp only [e1]; first | assumption | omega | exact ⟨by assumption, by assumption⟩ | exact ⟨Or.inl (by assumption), by assumption⟩))⟩, (by first | assumption | decide | omega | exact ⟨Or.inl (by assumption), by assumption⟩ | exact ⟨by assumption, by assumption⟩ | (simp only [e1]; first | assumption | omega | exact ⟨by assumption, by assumption⟩ | exact ⟨Or.inl (by assumption), by assumption⟩))⟩ ?_
  try simp only [e1]
  exact pr_irM rfl (by first | rfl | (simp only [e1]; done) | (simp [pr_b, *]; done) | (simp_all [pr_b]; done)) trivial (by rfl)
theorem o_torn {b : Bool} {X : St} (h : ab_H) (M : ab_M) (hl : Lay h M.2.2 b) (hv : cl_v M.1 b X) : pr_C pX10_torn [.ref 1] h M (some (.int (nI X.2.2.2.2.2))) h M := by
  have k1 := hl.1.1
  have e1 := hv.2.2.2.2.2
  refine pr_seq (pc' := 4) 2 rfl ⟨⟨trivial, (by first | assumption | decide | omega | exact ⟨Or.inl (by assumption), by assumption⟩ | exact ⟨by assumption, by assumption⟩ | (simp only [e1]; first | assumption | omega | exact ⟨by assumption, by assumption⟩ | exact ⟨Or.inl (by assumption), by assumption⟩))⟩, (by first | assumption | decide | omega | exact ⟨Or.inl (by assumption), by assumption⟩ | exact ⟨by assumption, by assumption⟩ | (simp only [e1]; first | assumption | omega | exact ⟨by assumption, by assumption⟩ | exact ⟨Or.inl (by assumption), by assumption⟩))⟩ ?_
  try simp only [e1]
  exact pr_irM rfl (by first | rfl | (simp only [e1]; done) | (simp [pr_b, *]; done) | (simp_all [pr_b]; done)) trivial (by rfl)
theorem o_isOne {b : Bool} {X : St} (x : Int32) (h : ab_H) (M : ab_M) (hl : Lay h M.2.2 b) (hv : cl_v M.1 b X) : pr_C pX10_isOne [.ref 1, .int x] h M (some (.int (pr_b (!decide (x < 0) && !decide (nI X.1.1.2.1.length ≤ x))))) h M := by
  obtain ⟨k1, -, -, -, -, -, -, -, -, -, r9⟩ := hl.1
  obtain ⟨t0, t1, r0, -, -, -, hg, -⟩ := ly_told hl
  obtain ⟨g0, g1, -⟩ := hg
  have d1 := hv.1.1.1
  have b0 := tB_ne b
  refine pr_seq (pc' := 1) 1 rfl ⟨trivial, trivial⟩ ?_
  try simp only [r9, r0, d1, pr_i_0, pr_i_1]
  refine pr_if rfl (fun h1 => ?_) (fun h1 => ?_)
  · simp only [ab_cmp, pr_i_0, pr_i_1] at h1
    refine pr_seq (pc' := 23) 1 rfl ⟨trivial, trivial⟩ ?_
    try simp only [r9, r0, d1, pr_i_0, pr_i_1]
    exact pr_irM rfl (by first | rfl | (simp only [r9, r0, d1, pr_i_0, pr_i_1]; done) | (simp [pr_b, pr_i_0, pr_i_1, *]; done) | (simp_all [pr_b, pr_i_0, pr_i_1]; done)) (by first | exact Or.inl rfl | exact Or.inr rfl | exact pr_b01 _ | assumption) (by rfl)
  · simp only [ab_cmp, pr_i_0, pr_i_1] at h1
    refine pr_seq (pc' := 15) 5 rfl ⟨⟨⟨⟨⟨trivial, trivial⟩, (by first | assumption | decide | omega | exact ⟨Or.inl (by assumption), by assumption⟩ | exact ⟨by assumption, by assumption⟩ | (simp only [r9, r0, d1, pr_i_0, pr_i_1]; first | assumption | omega | exact ⟨by assumption, by assumption⟩ | exact ⟨Or.inl (by assumption), by assumption⟩))⟩, (by first | assumption | decide | omega | exact ⟨Or.inl (by assumption), by assumption⟩ | exact ⟨by assumption, by assumption⟩ | (simp only [r9, r0, d1, pr_i_0, pr_i_1]; first | assumption | omega | exact ⟨by assumption, by assumption⟩ | exact ⟨Or.inl (by assumption), by assumption⟩))⟩, (by first | assumption | decide | omega | exact ⟨Or.inl (by assumption), by assumption⟩ | exact ⟨by assumption, by assumption⟩ | (simp only [r9, r0, d1, pr_i_0, pr_i_1]; first | assumption | omega | exact ⟨by assumption, by assumption⟩ | exact ⟨Or.inl (by assumption), by assumption⟩))⟩, (by first | assumption | decide | omega | exact ⟨Or.inl (by assumption), by assumption⟩ | exact ⟨by assumption, by assumption⟩ | (simp only [r9, r0, d1, pr_i_0, pr_i_1]; first | assumption | omega | exact ⟨by assumption, by assumption⟩ | exact ⟨Or.inl (by assumption), by assumption⟩))⟩ ?_
    try simp only [r9, r0, d1, pr_i_0, pr_i_1]
    refine pr_ic rfl (fun h15 => ?_) (fun h15 => ?_)
    · simp only [ab_cmp, pr_i_0, pr_i_1] at h15
      refine pr_seq (pc' := 23) 1 rfl ⟨trivial, trivial⟩ ?_
      try simp only [r9, r0, d1, pr_i_0, pr_i_1]
      exact pr_irM rfl (by first | rfl | (simp only [r9, r0, d1, pr_i_0, pr_i_1]; done) | (simp [pr_b, pr_i_0, pr_i_1, *]; done) | (simp_all [pr_b, pr_i_0, pr_i_1]; done)) (by first | exact Or.inl rfl | exact Or.inr rfl | exact pr_b01 _ | assumption) (by rfl)
    · simp only [ab_cmp, pr_i_0, pr_i_1] at h15
      refine pr_seq (pc' := 23) 2 rfl ⟨⟨trivial, trivial⟩, trivial⟩ ?_
      try simp only [r9, r0, d1, pr_i_0, pr_i_1]
      exact pr_irM rfl (by first | rfl | (simp only [r9, r0, d1, pr_i_0, pr_i_1]; done) | (simp [pr_b, pr_i_0, pr_i_1, *]; done) | (simp_all [pr_b, pr_i_0, pr_i_1]; done)) (by first | exact Or.inl rfl | exact Or.inr rfl | exact pr_b01 _ | assumption) (by rfl)
theorem o_sum {b : Bool} {X : St} (x : Int32) (h : ab_H) (M : ab_M) (hl : Lay h M.2.2 b) (hv : cl_v M.1 b X) : pr_C pX10_sum [.ref 1, .int x] h M (some (.int (if (!decide (x < 0) && !decide (nI X.1.1.2.1.length ≤ x)) = true then nI (d_S X.1.1 x.toNatClampNeg) else -1))) h M := by
  obtain ⟨k1, -, -, -, -, -, -, -, -, -, r9⟩ := hl.1
  obtain ⟨t0, t1, r0, -, -, -, hg, -⟩ := ly_told hl
  obtain ⟨g0, g1, -⟩ := id hg
  have b0 := tB_ne b
  have h8 := hv.1.1.2.1
  have h1 := o_isOne x h M hl hv
  rcases pr_ix x (show X.1.1.2.1.length ≤ 1000000 by omega) with q | ⟨j, hj, rfl, q⟩
  · rw [q] at h1 ⊢
    rw [if_neg (by decide)]
    refine pr_seq (pc' := 2) 2 rfl ⟨⟨trivial, (by first | assumption | decide | omega | exact ⟨Or.inl (by assumption), by assumption⟩ | exact ⟨by assumption, by assumption⟩ | (simp only [r9, r0, pr_i_m1]; first | assumption | omega | exact ⟨by assumption, by assumption⟩ | exact ⟨Or.inl (by assumption), by assumption⟩))⟩, trivial⟩ ?_
    try simp only [r9, r0, pr_i_m1]
    refine pr_cv [_] rfl rfl rfl rfl rfl (Nat.le_of_ble_eq_true rfl) (by first | assumption | decide | omega | exact ⟨Or.inl (by assumption), by assumption⟩ | exact ⟨by assumption, by assumption⟩ | (simp only [r9, r0, pr_i_m1]; first | assumption | omega | exact ⟨by assumption, by assumption⟩ | exact ⟨Or.inl (by assumption), by assumption⟩)) (Nat.le_of_ble_eq_true rfl) (h1) ?_
    refine pr_if rfl (fun h5 => ?_) (fun h5 => ?_)
    · simp only [ab_cmp, pr_i_m1] at h5
      refine pr_seq (pc' := 23) 1 rfl ⟨trivial, trivial⟩ ?_
      try simp only [r9, r0, pr_i_m1]
      exact pr_irM rfl (by rfl) trivial (by rfl)
    · simp only [ab_cmp, pr_i_m1] at h5
      exact absurd rfl h5
  · rw [q] at h1 ⊢
    rw [if_pos rfl, nI_clamp (by omega)]
    refine pr_seq (pc' := 2) 2 rfl ⟨⟨trivial, (by first | assumption | decide | omega | exact ⟨Or.inl (by assumption), by assumption⟩ | exact ⟨by assumption, by assumption⟩ | (simp only [r9, r0, pr_i_m1]; first | assumption | omega | exact ⟨by assumption, by assumption⟩ | exact ⟨Or.inl (by assumption), by assumption⟩))⟩, trivial⟩ ?_
    try simp only [r9, r0, pr_i_m1]
    refine pr_cv [_] rfl rfl rfl rfl rfl (Nat.le_of_ble_eq_true rfl) (by first | assumption | decide | omega | exact ⟨Or.inl (by assumption), by assumption⟩ | exact ⟨by assumption, by assumption⟩ | (simp only [r9, r0, pr_i_m1]; first | assumption | omega | exact ⟨by assumption, by assumption⟩ | exact ⟨Or.inl (by assumption), by assumption⟩)) (Nat.le_of_ble_eq_true rfl) (h1) ?_
    refine pr_if rfl (fun h5 => ?_) (fun h5 => ?_)
    · simp only [ab_cmp, pr_i_m1] at h5
      exact absurd h5 (by decide)
    · simp only [ab_cmp, pr_i_m1] at h5
      refine pr_seq (pc' := 16) 4 rfl ⟨⟨⟨⟨trivial, (by first | assumption | decide | omega | exact ⟨Or.inl (by assumption), by assumption⟩ | exact ⟨by assumption, by assumption⟩ | (simp only [r9, r0, pr_i_m1]; first | assumption | omega | exact ⟨by assumption, by assumption⟩ | exact ⟨Or.inl (by assumption), by assumption⟩))⟩, (by first | assumption | decide | omega | exact ⟨Or.inl (by assumption), by assumption⟩ | exact ⟨by assumption, by assumption⟩ | (simp only [r9, r0, pr_i_m1]; first | assumption | omega | exact ⟨by assumption, by assumption⟩ | exact ⟨Or.inl (by assumption), by assumption⟩))⟩, (by first | assumption | decide | omega | exact ⟨Or.inl (by assumption), by assumption⟩ | exact ⟨by assumption, by assumption⟩ | (simp only [r9, r0, pr_i_m1]; first | assumption | omega | exact ⟨by assumption, by assumption⟩ | exact ⟨Or.inl (by assumption), by assumption⟩))⟩, trivial⟩ ?_
      try simp only [r9, r0, pr_i_m1]
      refine pr_cv [_] rfl rfl rfl rfl rfl (Nat.le_of_ble_eq_true rfl) (by first | assumption | decide | omega | exact ⟨Or.inl (by assumption), by assumption⟩ | exact ⟨by assumption, by assumption⟩ | (simp only [r9, r0, pr_i_m1]; first | assumption | omega | exact ⟨by assumption, by assumption⟩ | exact ⟨Or.inl (by assumption), by assumption⟩)) (Nat.le_of_ble_eq_true rfl) (c_sumOfOne h M hg hv.1.1 (d_pn_at hj)) ?_
      refine pr_seq (pc' := 23) 1 rfl ⟨trivial, trivial⟩ ?_
      try simp only [r9, r0, pr_i_m1]
      exact pr_irM rfl (by rfl) trivial (by rfl)
/-- the class's scratch: the census, and what else a question writes -/
def cl_same (I I' : Nat → Nat → Int32) : Prop := ∀ a, (a < 49 ∨ 63 < a) → I' a = I a
theorem nm_v_same {I I' : Nat → Nat → Int32} {n : Nat} {w : List Nat} (h : cl_same I I') (hn : n + 1 < 49 ∨ 63 < n) (hv : nm_v I n w) : nm_v I' n w := nm_v_congr (h _ (by omega)) (h _ (by omega)) hv
theorem ld_v_same {I I' : Nat → Nat → Int32} {g : Nat} {d : Ld} (h : cl_same I I') (hg : g + 27 ≤ 49 ∨ 63 < g) (hv : ld_v I g d) : ld_v I' g d := ld_v_congr (fun a _ _ => h a (by omega)) hv
theorem tl_v_same {I I' : Nat → Nat → Int32} {b : Bool} {T : Tl} (h : cl_same I I') (hv : tl_v I (tB b) T) : tl_v I' (tB b) T := by
  have hb : tB b + 43 ≤ 49 ∨ 63 < tB b := by cases b <;> decide
  obtain ⟨v1, v2, v3, v4, v5, v6, v7⟩ := hv
  refine ⟨ld_v_same h (by omega) v1, by rw [h _ (by omega)]; exact v2, v3, by rw [h _ (by omega)]; exact v4, v5, fun q w hq => ?_, fun i k hk => ?_⟩
  · have hl : q < T.2.1.length := (List.getElem?_eq_some_iff.mp hq).1
    exact ⟨nm_v_same h (by omega) (v6 q w hq).1, (v6 q w hq).2⟩
  · rw [h _ (by omega), h _ (by omega)]
    exact v7 i k hk
theorem im_v_same {I I' : Nat → Nat → Int32} {k : Nat} {o : Option Ld} (h : cl_same I I') (hv : im_v I k o) : im_v I' k o := by
  cases o with
  | none => show I' 65 k = 0; rw [h 65 (by omega)]; exact hv
  | some d => exact ⟨by rw [h 65 (by omega)]; exact hv.1, ld_v_same h (by omega) hv.2⟩
theorem sh_v_same {I I' : Nat → Nat → Int32} {s : Nat} {o : Sh1} (h : cl_same I I') (hs : 63 < s) (hv : sh_v I s o) : sh_v I' s o := by
  cases o with
  | none => show I' s 1 = 0; rw [h s (by omega)]; exact hv
  | some q =>
    obtain ⟨ln, n, f⟩ := q
    obtain ⟨v1, v2, v3, v4, v5, v6⟩ := hv
    exact ⟨by rw [h s (by omega)]; exact v1, by rw [h s (by omega)]; exact v2, v3, by rw [h s (by omega)]; exact v4, v5, fun j hj => by rw [h (s + 1) (by omega)]; exact v6 j hj⟩
theorem cl_v_same {I I' : Nat → Nat → Int32} {b : Bool} {X : St} (h : cl_same I I') (hv : cl_v I b X) : cl_v I' b X := by
  obtain ⟨v1, v2, v3, v4, v5, v6⟩ := hv
  refine ⟨tl_v_same h v1, fun k hk => im_v_same h (v2 k hk), fun k hk => sh_v_same h (by omega) (v3 k hk), ?_, by rw [h 1 (by omega)]; exact v5, by rw [h 1 (by omega)]; exact v6⟩
  obtain ⟨w1, w2, w3⟩ := v4
  exact ⟨by rw [h 2 (by omega)]; exact w1, w2, fun j hj => by rw [h 3 (by omega)]; exact w3 j hj⟩
/-- a question that takes the census -/
theorem cs_same {I I' : Nat → Nat → Int32} (h : ∀ a, (a < 49 ∨ 49 + 4 < a) → I' a = I a) : cl_same I I' := fun a ha => h a (by omega)
abbrev x_S (X : St) : Nat → Int32 := fun p => nI (d_S X.1.1 p)
abbrev x_K (X : St) : Nat → Nat := fun p => (d_pn X.1.1 p).1
abbrev x_D (X : St) : Nat → Nat := fun p => (d_pn X.1.1 p).2.1
abbrev x_W (X : St) : Nat → Nat := fun p => (d_pn X.1.1 p).2.2.1
abbrev x_n (X : St) : Nat := X.1.1.2.1.length
/-- the post of a question: the answer, the state as it was -/
def o_q (M : ab_M) (v : Int32) (r : Option Value) (M' : ab_M) : Prop := r = some (.int v) ∧ M'.2 = M.2 ∧ cl_same M.1 M'.1
theorem o_persons {b : Bool} {X : St} (h : ab_H) (M : ab_M) (hl : Lay h M.2.2 b) (hv : cl_v M.1 b X) : pr_X pX10_persons [.ref 1] h M (o_q M (nI (cnt (fun p => nb (al (x_S X) (x_K X) p) p) (x_n X)))) := by
  obtain ⟨k1, -, -, rc, -, -, -, -, -, -, r9⟩ := hl.1
  obtain ⟨t0, t1, r0, -, -, -, hg, -⟩ := ly_told hl
  have hc := hl.2.2.2.2.2.1
  have b0 := tB_ne b
  have hb : 49 + 5 < tB b + 1 ∨ tB b + 1 + 27 ≤ 49 := by cases b <;> decide
  have c1 := hc.2.1
  refine pr_seqT (pc' := 11) 5 rfl ⟨⟨⟨⟨⟨trivial, (by first | assumption | decide | omega | exact ⟨Or.inl (by assumption), by assumption⟩ | exact ⟨by assumption, by assumption⟩ | (simp only [rc, r9, r0]; first | assumption | omega | exact ⟨by assumption, by assumption⟩ | exact ⟨Or.inl (by assumption), by assumption⟩))⟩, (by first | assumption | decide | omega | exact ⟨Or.inl (by assumption), by assumption⟩ | exact ⟨by assumption, by assumption⟩ | (simp only [rc, r9, r0]; first | assumption | omega | exact ⟨by assumption, by assumption⟩ | exact ⟨Or.inl (by assumption), by assumption⟩))⟩, (by first | assumption | decide | omega | exact ⟨Or.inl (by assumption), by assumption⟩ | exact ⟨by assumption, by assumption⟩ | (simp only [rc, r9, r0]; first | assumption | omega | exact ⟨by assumption, by assumption⟩ | exact ⟨Or.inl (by assumption), by assumption⟩))⟩, (by first | assumption | decide | omega | exact ⟨Or.inl (by assumption), by assumption⟩ | exact ⟨by assumption, by assumption⟩ | (simp only [rc, r9, r0]; first | assumption | omega | exact ⟨by assumption, by assumption⟩ | exact ⟨Or.inl (by assumption), by assumption⟩))⟩, (by first | assumption | decide | omega | exact ⟨Or.inl (by assumption), by assumption⟩ | exact ⟨by assumption, by assumption⟩ | (simp only [rc, r9, r0]; first | assumption | omega | exact ⟨by assumption, by assumption⟩ | exact ⟨Or.inl (by assumption), by assumption⟩))⟩ ?_
  try simp only [rc, r9, r0]
  refine pr_cvX [_] rfl rfl rfl rfl rfl (Nat.le_of_ble_eq_true rfl) (by first | assumption | decide | omega | exact ⟨Or.inl (by assumption), by assumption⟩ | exact ⟨by assumption, by assumption⟩ | (simp only [rc, r9, r0]; first | assumption | omega | exact ⟨by assumption, by assumption⟩ | exact ⟨Or.inl (by assumption), by assumption⟩)) (Nat.le_of_ble_eq_true rfl) (c_take h M hc hg hb hv.1.1) (fun v11 M11 q11 => ?_)
  obtain ⟨rfl, e2, e3, e4⟩ := q11
  obtain ⟨I1, Z1⟩ := M11
  dsimp only at e2 e3 e4
  subst e2
  refine pr_seqT (pc' := 18) 2 rfl ⟨⟨trivial, (by first | assumption | decide | omega | exact ⟨Or.inl (by assumption), by assumption⟩ | exact ⟨by assumption, by assumption⟩ | (simp only [rc, r9, r0]; first | assumption | omega | exact ⟨by assumption, by assumption⟩ | exact ⟨Or.inl (by assumption), by assumption⟩))⟩, (by first | assumption | decide | omega | exact ⟨Or.inl (by assumption), by assumption⟩ | exact ⟨by assumption, by assumption⟩ | (simp only [rc, r9, r0]; first | assumption | omega | exact ⟨by assumption, by assumption⟩ | exact ⟨Or.inl (by assumption), by assumption⟩))⟩ ?_
  try simp only [rc, r9, r0]
  refine pr_cvT [] rfl rfl rfl rfl rfl (Nat.le_of_ble_eq_true rfl) (by first | assumption | decide | omega | exact ⟨Or.inl (by assumption), by assumption⟩ | exact ⟨by assumption, by assumption⟩ | (simp only [rc, r9, r0]; first | assumption | omega | exact ⟨by assumption, by assumption⟩ | exact ⟨Or.inl (by assumption), by assumption⟩)) (Nat.le_of_ble_eq_true rfl) (c_howMany h (I1, M.2) hc e3) ?_
  exact pr_irT rfl trivial (by exact ⟨rfl, rfl, cs_same e4⟩)
