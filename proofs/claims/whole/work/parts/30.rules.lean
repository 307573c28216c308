/-! ===== the pure machine's rules ===== -/
theorem ab_ev_up {P : List ab_I} : ∀ (f : Nat) (i : ab_I) (pc : Nat) (L : ab_Ls) (st : List Value) (h : ab_H) (M : ab_M) (r : Option Value) (h' : ab_H) (M' : ab_M), ab_ev P f i pc L st h M r h' M' → ab_ev P (f + 1) i pc L st h M r h' M' := by
  intro f
  induction f with
  | zero => intro i pc L st h M r h' M' hv; exact absurd hv (by simp [ab_ev])
  | succ f ih =>
    intro i pc L st h M r h' M' hv
    unfold ab_ev at hv ⊢
    cases hk : ab_lk (ab_It i) pc with
    | none => rw [hk] at hv; exact hv.elim
    | some q =>
      obtain ⟨I, ln, ex⟩ := q
      rw [hk] at hv
      dsimp only at hv ⊢
      have st1 : (match ab_step I ex pc L st h M with
          | some ((pc', L', st', h1, M1), φ) => φ ∧ ab_ev P f i pc' L' st' h1 M1 r h' M'
          | none => False) → (match ab_step I ex pc L st h M with
          | some ((pc', L', st', h1, M1), φ) => φ ∧ ab_ev P (f + 1) i pc' L' st' h1 M1 r h' M'
          | none => False) := by
        intro hm
        split at hm
        · exact ⟨hm.1, ih _ _ _ _ _ _ _ _ _ hm.2⟩
        · exact hm.elim
      cases I with
      | ifCond c o =>
        dsimp only at hv ⊢
        split at hv
        · exact ⟨fun q => ih _ _ _ _ _ _ _ _ _ (hv.1 q), fun q => ih _ _ _ _ _ _ _ _ _ (hv.2 q)⟩
        · exact hv.elim
      | if_icmp c o =>
        dsimp only at hv ⊢
        split at hv
        · exact ⟨fun q => ih _ _ _ _ _ _ _ _ _ (hv.1 q), fun q => ih _ _ _ _ _ _ _ _ _ (hv.2 q)⟩
        · exact hv.elim
      | tableswitch d lo hi offs =>
        dsimp only at hv ⊢
        split at hv
        · refine ⟨fun q => ?_, fun q => ?_⟩
          · obtain ⟨g, g1, g2⟩ := hv.1 q
            exact ⟨g, g1, ih _ _ _ _ _ _ _ _ _ g2⟩
          · obtain ⟨o, g, g1, g2, g3⟩ := hv.2 q
            exact ⟨o, g, g1, g2, ih _ _ _ _ _ _ _ _ _ g3⟩
        · exact hv.elim
      | lookupswitch d ps =>
        dsimp only at hv ⊢
        split at hv
        · obtain ⟨g, g1, g2, g3⟩ := hv
          exact ⟨g, g1, g2, ih _ _ _ _ _ _ _ _ _ g3⟩
        · exact hv.elim
      | ireturn => exact hv
      | lreturn => exact hv
      | areturn => exact hv
      | return_ => exact hv
      | invokevirtual z =>
        rcases hv with ⟨q1, j, t, As, a, v, h1, M1, a1, a2, a3, a4, a5, a6, a7, a8⟩ | ⟨q1, hm⟩
        · exact Or.inl ⟨q1, j, t, As, a, v, h1, M1, a1, a2, a3, a4, a5, a6, ih _ _ _ _ _ _ _ _ _ a7, ih _ _ _ _ _ _ _ _ _ a8⟩
        · exact Or.inr ⟨q1, st1 hm⟩
      | invokespecial z =>
        rcases hv with ⟨q1, j, t, As, a, v, h1, M1, a1, a2, a3, a4, a5, a6, a7, a8⟩ | ⟨q1, hm⟩
        · exact Or.inl ⟨q1, j, t, As, a, v, h1, M1, a1, a2, a3, a4, a5, a6, ih _ _ _ _ _ _ _ _ _ a7, ih _ _ _ _ _ _ _ _ _ a8⟩
        · exact Or.inr ⟨q1, st1 hm⟩
      | invokestatic z =>
        rcases hv with ⟨q1, j, t, As, v, h1, M1, a1, a2, a3, a4, a6, a7, a8⟩ | ⟨q1, hm⟩
        · exact Or.inl ⟨q1, j, t, As, v, h1, M1, a1, a2, a3, a4, a6, ih _ _ _ _ _ _ _ _ _ a7, ih _ _ _ _ _ _ _ _ _ a8⟩
        · exact Or.inr ⟨q1, st1 hm⟩
      | _ => exact st1 hv
theorem ab_ev_le {P : List ab_I} {f g : Nat} (hfg : f ≤ g) {i : ab_I} {pc : Nat} {L : ab_Ls} {st : List Value} {h : ab_H} {M : ab_M} {r : Option Value} {h' : ab_H} {M' : ab_M} (hv : ab_ev P f i pc L st h M r h' M') : ab_ev P g i pc L st h M r h' M' := by
  induction hfg with
  | refl => exact hv
  | step _ ih => exact ab_ev_up _ _ _ _ _ _ _ _ _ _ ih
/-- with some fuel -/
def pr_E (i : ab_I) (pc : Nat) (L : ab_Ls) (st : List Value) (h : ab_H) (M : ab_M) (r : Option Value) (h' : ab_H) (M' : ab_M) : Prop := ∃ f, ab_ev ab_P f i pc L st h M r h' M'
/-- a call of a method -/
abbrev pr_C (i : ab_I) (vs : List Value) (h : ab_H) (M : ab_M) (r : Option Value) (h' : ab_H) (M' : ab_M) : Prop := pr_E i 0 (ab_ent i vs) [] h M r h' M'
/-- where a straight stretch ends -/
def pr_ctl (I : Instr) (ex : Nat) : Bool := match I with
  | .ifCond .. => true
  | .if_icmp .. => true
  | .tableswitch .. => true
  | .lookupswitch .. => true
  | .ireturn => true
  | .lreturn => true
  | .areturn => true
  | .return_ => true
  | .invokevirtual _ => Nat.blt ex 9000
  | .invokespecial _ => Nat.blt ex 9000
  | .invokestatic _ => Nat.blt ex 9000
  | _ => false
def pr_seg : Nat → ab_T → Nat → ab_Ls → List Value → ab_H → ab_M → Prop → Option (ab_S × Prop)
  | 0, _, pc, L, st, h, M, φ => some ((pc, L, st, h, M), φ)
  | k + 1, T, pc, L, st, h, M, φ => match ab_lk T pc with
    | none => none
    | some (I, _, ex) => match pr_ctl I ex with
      | true => none
      | false => match ab_step I ex pc L st h M with
        | none => none
        | some ((pc', L', st', h', M'), ψ) => pr_seg k T pc' L' st' h' M' (φ ∧ ψ)
section PRR
variable {i j : ab_I} {pc pc' ex ln k : Nat} {L L' : ab_Ls} {st st' t : List Value} {h h1 h' : ab_H} {M M1 M' : ab_M} {r v : Option Value} {φ : Prop}
theorem pr_seg_mono : ∀ {k pc : Nat} {L : ab_Ls} {st : List Value} {h : ab_H} {M : ab_M} {φ ψ : Prop} {S : ab_S}, pr_seg k (ab_It i) pc L st h M φ = some (S, ψ) → ψ → φ := by
  intro k
  induction k with
  | zero => intro pc L st h M φ ψ S e hψ; cases e; exact hψ
  | succ k ih =>
    intro pc L st h M φ ψ S e hψ
    unfold pr_seg at e
    split at e
    · cases e
    · split at e
      · cases e
      · split at e
        · cases e
        · exact (ih e hψ).1
theorem pr_one {I : Instr} (hk : ab_lk (ab_It i) pc = some (I, ln, ex)) (hc : pr_ctl I ex = false) (hs : ab_step I ex pc L st h M = some ((pc', L', st', h1, M1), φ)) (hφ : φ) (H : pr_E i pc' L' st' h1 M1 r h' M') : pr_E i pc L st h M r h' M' := by
  obtain ⟨f, hf⟩ := H
  refine ⟨f + 1, ?_⟩
  unfold ab_ev
  rw [hk]
  dsimp only
  have key : (match ab_step I ex pc L st h M with
      | some ((pc', L', st', h1, M1), φ) => φ ∧ ab_ev ab_P f i pc' L' st' h1 M1 r h' M'
      | none => False) := by rw [hs]; exact ⟨hφ, hf⟩
  have nb : ∀ z : Bool, z = Nat.blt ex 9000 → z = false → ¬ ex < 9000 := by
    intro z e1 e2 q
    rw [e1] at e2
    have : Nat.blt ex 9000 = true := Nat.ble_eq.mpr q
    rw [this] at e2
    cases e2
  cases I <;> first | exact key | (simp [pr_ctl] at hc; done) | (refine Or.inr ⟨nb _ rfl hc, key⟩)
/-- a straight stretch -/
theorem pr_go : ∀ {k pc : Nat} {L : ab_Ls} {st : List Value} {h : ab_H} {M : ab_M} {φ ψ : Prop} {pc' : Nat} {L' : ab_Ls} {st' : List Value} {h1 : ab_H} {M1 : ab_M}, pr_seg k (ab_It i) pc L st h M φ = some ((pc', L', st', h1, M1), ψ) → ψ → pr_E i pc' L' st' h1 M1 r h' M' → pr_E i pc L st h M r h' M' := by
  intro k
  induction k with
  | zero => intro pc L st h M φ ψ pc' L' st' h1 M1 e hψ H; cases e; exact H
  | succ k ih =>
    intro pc L st h M φ ψ pc' L' st' h1 M1 e hψ H
    unfold pr_seg at e
    split at e
    · cases e
    · rename_i hk
      split at e
      · cases e
      · rename_i hc
        split at e
        · cases e
        · rename_i hs
          exact pr_one hk hc hs (pr_seg_mono e hψ).2 (ih e hψ H)
theorem pr_seq (k : Nat) (hs : pr_seg k (ab_It i) pc L st h M True = some ((pc', L', st', h1, M1), φ)) (hφ : φ) (H : pr_E i pc' L' st' h1 M1 r h' M') : pr_E i pc L st h M r h' M' := pr_go hs hφ H
theorem pr_if {c : Jvm.ClassFile.Cond} {o : Int} {x : Int32} (hk : ab_lk (ab_It i) pc = some (.ifCond c o, ln, ex)) (H1 : ab_cmp c x 0 → pr_E i ex L t h M r h' M') (H2 : ¬ ab_cmp c x 0 → pr_E i (pc + 3) L t h M r h' M') : pr_E i pc L (.int x :: t) h M r h' M' := by
  by_cases hc : ab_cmp c x 0
  · obtain ⟨f, hf⟩ := H1 hc
    refine ⟨f + 1, ?_⟩
    unfold ab_ev
    rw [hk]
    exact ⟨fun _ => hf, fun q => absurd hc q⟩
  · obtain ⟨f, hf⟩ := H2 hc
    refine ⟨f + 1, ?_⟩
    unfold ab_ev
    rw [hk]
    exact ⟨fun q => absurd q hc, fun _ => hf⟩
theorem pr_ic {c : Jvm.ClassFile.Cond} {o : Int} {x y : Int32} (hk : ab_lk (ab_It i) pc = some (.if_icmp c o, ln, ex)) (H1 : ab_cmp c x y → pr_E i ex L t h M r h' M') (H2 : ¬ ab_cmp c x y → pr_E i (pc + 3) L t h M r h' M') : pr_E i pc L (.int y :: .int x :: t) h M r h' M' := by
  by_cases hc : ab_cmp c x y
  · obtain ⟨f, hf⟩ := H1 hc
    refine ⟨f + 1, ?_⟩
    unfold ab_ev
    rw [hk]
    exact ⟨fun _ => hf, fun q => absurd hc q⟩
  · obtain ⟨f, hf⟩ := H2 hc
    refine ⟨f + 1, ?_⟩
    unfold ab_ev
    rw [hk]
    exact ⟨fun q => absurd q hc, fun _ => hf⟩
theorem pr_ir {x : Int32} (hk : ab_lk (ab_It i) pc = some (.ireturn, ln, ex)) (hr : r = some (.int x)) (ht : ab_rt (ab_Ir i) (.int x)) : pr_E i pc L [.int x] h M r h M := by
  refine ⟨1, ?_⟩
  unfold ab_ev
  rw [hk]
  exact ⟨hr, rfl, rfl, ht⟩
theorem pr_lr {x : Int64} (hk : ab_lk (ab_It i) pc = some (.lreturn, ln, ex)) (hr : r = some (.long x)) (ht : ab_rt (ab_Ir i) (.long x)) : pr_E i pc L [.long x] h M r h M := by
  refine ⟨1, ?_⟩
  unfold ab_ev
  rw [hk]
  exact ⟨hr, rfl, rfl, ht⟩
theorem pr_ar {x : Nat} (hk : ab_lk (ab_It i) pc = some (.areturn, ln, ex)) (hr : r = some (.ref x)) (ht : ab_rt (ab_Ir i) (.ref x)) : pr_E i pc L [.ref x] h M r h M := by
  refine ⟨1, ?_⟩
  unfold ab_ev
  rw [hk]
  exact ⟨hr, rfl, rfl, ht⟩
theorem pr_vr (hk : ab_lk (ab_It i) pc = some (.return_, ln, ex)) (hr : r = none) (ht : ab_Ir i = none) : pr_E i pc L [] h M r h M := by
  refine ⟨1, ?_⟩
  unfold ab_ev
  rw [hk]
  exact ⟨hr, rfl, rfl, ht⟩
theorem pr_cv {z a : Nat} (As : List Value) (hk : ab_lk (ab_It i) pc = some (.invokevirtual z, ln, ex)) (hx : Nat.blt ex 9000 = true) (hj : ab_P[ex % 1000]? = some j) (hst : st = As.reverse ++ .ref a :: t) (hn : As.length + 1 = ab_In j) (hl : (ab_args (.ref a :: As)).length ≤ ab_Il j) (hka : ab_k h a = ab_Ic j + 1) (hw : (t.map fun v => v.category).sum ≤ 8) (H1 : pr_C j (.ref a :: As) h M v h1 M1) (H2 : pr_E i (pc + 3) L (v.toList ++ t) h1 M1 r h' M') : pr_E i pc L st h M r h' M' := by
  obtain ⟨f1, hf1⟩ := H1
  obtain ⟨f2, hf2⟩ := H2
  refine ⟨max f1 f2 + 1, ?_⟩
  unfold ab_ev
  rw [hk]
  exact Or.inl ⟨Nat.le_of_ble_eq_true hx, j, t, As, a, v, h1, M1, hj, hst, hn, hl, hka, hw, ab_ev_le (Nat.le_max_left _ _) hf1, ab_ev_le (Nat.le_max_right _ _) hf2⟩
theorem pr_ci {z a : Nat} (As : List Value) (hk : ab_lk (ab_It i) pc = some (.invokespecial z, ln, ex)) (hx : Nat.blt ex 9000 = true) (hj : ab_P[ex % 1000]? = some j) (hst : st = As.reverse ++ .ref a :: t) (hn : As.length + 1 = ab_In j) (hl : (ab_args (.ref a :: As)).length ≤ ab_Il j) (ha : a ≠ 0) (hw : (t.map fun v => v.category).sum ≤ 8) (H1 : pr_C j (.ref a :: As) h M v h1 M1) (H2 : pr_E i (pc + 3) L (v.toList ++ t) h1 M1 r h' M') : pr_E i pc L st h M r h' M' := by
  obtain ⟨f1, hf1⟩ := H1
  obtain ⟨f2, hf2⟩ := H2
  refine ⟨max f1 f2 + 1, ?_⟩
  unfold ab_ev
  rw [hk]
  exact Or.inl ⟨Nat.le_of_ble_eq_true hx, j, t, As, a, v, h1, M1, hj, hst, hn, hl, ha, hw, ab_ev_le (Nat.le_max_left _ _) hf1, ab_ev_le (Nat.le_max_right _ _) hf2⟩
theorem pr_cs {z : Nat} (As : List Value) (hk : ab_lk (ab_It i) pc = some (.invokestatic z, ln, ex)) (hx : Nat.blt ex 9000 = true) (hj : ab_P[ex % 1000]? = some j) (hst : st = As.reverse ++ t) (hn : As.length = ab_In j) (hl : (ab_args As).length ≤ ab_Il j) (hw : (t.map fun v => v.category).sum ≤ 8) (H1 : pr_C j As h M v h1 M1) (H2 : pr_E i (pc + 3) L (v.toList ++ t) h1 M1 r h' M') : pr_E i pc L st h M r h' M' := by
  obtain ⟨f1, hf1⟩ := H1
  obtain ⟨f2, hf2⟩ := H2
  refine ⟨max f1 f2 + 1, ?_⟩
  unfold ab_ev
  rw [hk]
  exact Or.inl ⟨Nat.le_of_ble_eq_true hx, j, t, As, v, h1, M1, hj, hst, hn, hl, hw, ab_ev_le (Nat.le_max_left _ _) hf1, ab_ev_le (Nat.le_max_right _ _) hf2⟩
end PRR
