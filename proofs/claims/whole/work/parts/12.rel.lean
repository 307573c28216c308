/-! ===== what a run keeps: shapes grow, the script stays ===== -/
def ab_K (h : ab_H) : Prop := 1 ≤ h.1 ∧ h.1 ≤ 1000000 ∧ ∀ a, ab_k h a ≠ 0 → (ab_k h a = 30 ∧ 1000000 ≤ a) ∨ (1 ≤ a ∧ a < h.1 ∧ (ab_k h a ≤ 12 ∨ (20 ≤ ab_k h a ∧ ab_k h a ≤ 27)))
def ab_Rel (h : ab_H) (M : ab_M) (h' : ab_H) (M' : ab_M) : Prop := h.1 ≤ h'.1 ∧ h.2.1 ≤ h'.2.1 ∧ (ab_K h → ab_K h') ∧ (ab_K h → ∀ a, ab_k h' a = 30 → ab_k h a = 30 ∧ ab_n h' a = ab_n h a ∧ M'.1 a = M.1 a)
theorem ab_Rel.rf {h : ab_H} {M : ab_M} : ab_Rel h M h M := ⟨Nat.le_refl _, Nat.le_refl _, id, fun _ _ e => ⟨e, rfl, rfl⟩⟩
theorem ab_Rel.tr {h1 h2 h3 : ab_H} {M1 M2 M3 : ab_M} (a : ab_Rel h1 M1 h2 M2) (b : ab_Rel h2 M2 h3 M3) : ab_Rel h1 M1 h3 M3 := by
  refine ⟨Nat.le_trans a.1 b.1, Nat.le_trans a.2.1 b.2.1, fun k => b.2.2.1 (a.2.2.1 k), fun k q e => ?_⟩
  obtain ⟨x1, x2, x3⟩ := b.2.2.2 (a.2.2.1 k) q e
  obtain ⟨y1, y2, y3⟩ := a.2.2.2 k q x1
  exact ⟨y1, x2.trans y2, x3.trans y3⟩
theorem ab_Rel.mem {h : ab_H} {M M' : ab_M} (hm : ∀ a, ab_k h a = 30 → M'.1 a = M.1 a) : ab_Rel h M h M' := ⟨Nat.le_refl _, Nat.le_refl _, id, fun _ a e => ⟨e, rfl, hm a e⟩⟩
theorem ab_u_ne {α : Type} {f : Nat → Nat → α} {a k b : Nat} {v : α} (hb : b ≠ a) : ab_u f a k v b = f b := by
  funext j
  unfold ab_u
  rw [if_neg (fun q => hb q.1)]
theorem ab_u_at {α : Type} {f : Nat → Nat → α} {a k : Nat} {v : α} : ab_u f a k v a k = v := by simp [ab_u]
theorem ab_u_j {α : Type} {f : Nat → Nat → α} {a k j : Nat} {v : α} (h : j ≠ k) : ab_u f a k v a j = f a j := by simp [ab_u, h]
theorem ab_Rel.put {h : ab_H} {M : ab_M} {J : Nat → Nat → Int64} {Rr : Nat → Nat → Nat} {a k : Nat} {x : Int32} (ha : ab_k h a ≠ 30) : ab_Rel h M h (ab_u M.1 a k x, J, Rr) :=
  ab_Rel.mem (fun b hb => ab_u_ne (fun e => ha (by rw [← e]; exact hb)))
theorem ab_Rel.new {h : ab_H} {M M' : ab_M} {kd sl : Nat} {ln : Nat → Nat} (hlt : h.1 < 1000000) (hk : (1 ≤ kd ∧ kd ≤ 12) ∨ (20 ≤ kd ∧ kd ≤ 27)) (hsl : h.2.1 ≤ sl) (hln : ∀ b, b ≠ h.1 → ln b = h.2.2.2 b) (hM : ∀ b, b ≠ h.1 → M'.1 b = M.1 b) : ab_Rel h M (h.1 + 1, sl, va_up h.2.2.1 h.1 kd, ln) M' := by
  refine ⟨Nat.le_succ _, hsl, fun K => ⟨Nat.le_succ_of_le K.1, hlt, fun a ha => ?_⟩, fun K a ha => ?_⟩
  · by_cases e : a = h.1
    · subst e
      have e2 : ab_k (h.1 + 1, sl, va_up h.2.2.1 h.1 kd, ln) h.1 = kd := by simp [ab_k, va_up]
      rw [e2]
      right
      have := K.1
      refine ⟨this, Nat.lt_succ_self _, ?_⟩
      omega
    · have e2 : ab_k (h.1 + 1, sl, va_up h.2.2.1 h.1 kd, ln) a = ab_k h a := by simp [ab_k, va_up, e]
      rw [e2] at ha ⊢
      rcases K.2.2 a ha with q | ⟨q1, q2, q3⟩
      · exact Or.inl q
      · exact Or.inr ⟨q1, Nat.lt_succ_of_lt q2, q3⟩
  · by_cases e : a = h.1
    · subst e
      have e2 : ab_k (h.1 + 1, sl, va_up h.2.2.1 h.1 kd, ln) h.1 = kd := by simp [ab_k, va_up]
      rw [e2] at ha
      omega
    · have e2 : ab_k (h.1 + 1, sl, va_up h.2.2.1 h.1 kd, ln) a = ab_k h a := by simp [ab_k, va_up, e]
      rw [e2] at ha
      exact ⟨ha, hln a e, hM a e⟩
theorem ab_gl_spec {pc : Nat} {st : List Value} {h : ab_H} {M : ab_M} {φ ψ : Prop} {o : Option ab_Ls} {S : ab_S} (e : ab_gl pc st h M φ o = some (S, ψ)) : ∃ L, o = some L ∧ S = (pc, L, st, h, M) ∧ ψ = φ := by
  cases o with
  | none => cases e
  | some L => cases e; exact ⟨L, rfl, rfl, rfl⟩
theorem ab_fty_lt {ex t : Nat} (h : ab_fty ex = some t) : ex / 100 < 12 := by
  unfold ab_fty at h
  rcases Nat.lt_or_ge (ex / 100) 12 with q | q
  · exact q
  · exfalso
    generalize ex / 100 = c at h q
    have e : ab_ft c = [] := by
      match c, q with
      | c + 12, _ => rfl
    rw [e] at h
    simp at h
theorem ab_pf_rel {ex pc pc' : Nat} {L L' : ab_Ls} {st st' : List Value} {h h' : ab_H} {M M' : ab_M} {φ : Prop} (hs : ab_pf pc ex L h M st = some ((pc', L', st', h', M'), φ)) (hφ : φ) : ab_Rel h M h' M' := by
  cases hf : ab_fty ex with
  | none =>
    unfold ab_pf at hs
    simp only [hf] at hs
    split at hs <;> cases hs
  | some t =>
    have hl := ab_fty_lt hf
    unfold ab_pf at hs
    simp only [hf] at hs
    split at hs
    · split at hs
      · cases hs; exact ab_Rel.mem (fun _ _ => rfl)
      · cases hs
    · split at hs
      · cases hs; exact ab_Rel.put (by rw [hφ]; omega)
      · cases hs; exact ab_Rel.put (by rw [hφ.1]; omega)
      · cases hs
    · cases hs
/-- the allocation kinds that the tables let through -/
def ab_exok (I : Instr) (ex : Nat) : Prop := match I with
  | .newarray _ => 20 ≤ ex ∧ ex ≤ 27
  | .anewarray _ => 20 ≤ ex ∧ ex ≤ 27
  | _ => True
theorem ab_step_rel {I : Instr} {ex pc pc' : Nat} {L L' : ab_Ls} {st st' : List Value} {h h' : ab_H} {M M' : ab_M} {φ : Prop} (hx : ab_exok I ex) (hs : ab_step I ex pc L st h M = some ((pc', L', st', h', M'), φ)) (hφ : φ) : ab_Rel h M h' M' := by
  have ok : ∀ {S : ab_S} {ψ : Prop}, ab_ok S = some ((pc', L', st', h', M'), ψ) → S.2.2.2.1 = h → S.2.2.2.2 = M → ab_Rel h M h' M' := by
    intro S ψ e e1 e2
    cases e
    dsimp only at e1 e2
    subst e1; subst e2
    exact ab_Rel.rf
  cases I <;> simp only [ab_step] at hs <;> first
    | (cases hs; done)
    | exact ok hs rfl rfl
    | (unfold ab_ii at hs; split at hs <;> cases hs; exact ab_Rel.rf)
    | (unfold ab_jj at hs; split at hs <;> cases hs; exact ab_Rel.rf)
    | (unfold ab_ij at hs; split at hs <;> cases hs; exact ab_Rel.rf)
    | (unfold ab_iv at hs; split at hs <;> cases hs; exact ab_Rel.rf)
    | (unfold ab_ild at hs; split at hs <;> cases hs; exact ab_Rel.rf)
    | (unfold ab_lld at hs; split at hs <;> cases hs; exact ab_Rel.rf)
    | (unfold ab_ald at hs; split at hs <;> cases hs; exact ab_Rel.rf)
    | (unfold ab_ist at hs; split at hs <;> first | (cases hs; done) | (obtain ⟨_, -, e, -⟩ := ab_gl_spec hs; cases e; exact ab_Rel.rf))
    | (unfold ab_ast at hs; split at hs <;> first | (cases hs; done) | (obtain ⟨_, -, e, -⟩ := ab_gl_spec hs; cases e; exact ab_Rel.rf))
    | (unfold ab_lst at hs; split at hs <;> first | (cases hs; done) | (obtain ⟨_, -, e, -⟩ := ab_gl_spec hs; cases e; exact ab_Rel.rf))
    | (unfold ab_inc at hs; split at hs <;> first | (cases hs; done) | (obtain ⟨_, -, e, -⟩ := ab_gl_spec hs; cases e; exact ab_Rel.rf))
    | (unfold ab_dup at hs; split at hs <;> cases hs <;> exact ab_Rel.rf)
    | (unfold ab_dup2 at hs; split at hs <;> cases hs <;> exact ab_Rel.rf)
    | (unfold ab_pop at hs; split at hs <;> cases hs <;> exact ab_Rel.rf)
    | (unfold ab_div at hs; split at hs <;> cases hs <;> exact ab_Rel.rf)
    | (unfold ab_gf at hs; split at hs <;> first | (cases hs; done) | (split at hs <;> cases hs <;> exact ab_Rel.rf))
    | (unfold ab_iald at hs; split at hs <;> cases hs; exact ab_Rel.rf)
    | (unfold ab_bald at hs; split at hs <;> cases hs; exact ab_Rel.rf)
    | (unfold ab_lald at hs; split at hs <;> cases hs; exact ab_Rel.rf)
    | (unfold ab_aald at hs; split at hs <;> cases hs; exact ab_Rel.rf)
    | (unfold ab_alen at hs; split at hs <;> cases hs; exact ab_Rel.rf)
    | (unfold ab_iast at hs; split at hs <;> cases hs; exact ab_Rel.put (by rw [hφ.1]; decide))
    | (unfold ab_bast at hs; split at hs <;> cases hs; exact ab_Rel.put (by rcases hφ.1 with q | q <;> first | (rw [q]; decide) | (rw [q.1]; decide)))
    | (unfold ab_last at hs; split at hs <;> cases hs; exact ab_Rel.mem (fun _ _ => rfl))
    | (unfold ab_aast at hs; split at hs <;> cases hs; exact ab_Rel.mem (fun _ _ => rfl))
    | (unfold ab_prs1 at hs; split at hs <;> cases hs; exact ab_Rel.rf)
    | (unfold ab_prv at hs; split at hs <;> first | (cases hs; done) | (split at hs <;> cases hs; exact ab_Rel.rf))
    | (unfold ab_pst at hs; split at hs <;> first | (cases hs; done) | (split at hs <;> first | (cases hs; done) | (cases hs; exact ab_Rel.rf) | (split at hs <;> first | (cases hs; done) | (cases hs; exact ab_Rel.rf))))
    | (split at hs <;> first | (cases hs; done) | exact ok hs rfl rfl)
    | (unfold ab_newo at hs; cases hs; exact ab_Rel.new hφ.2 (Or.inl ⟨by omega, by omega⟩) (Nat.le_add_right _ _) (fun _ _ => rfl) (fun b hb => by simp [va_up, hb]))
    | (unfold ab_newa at hs; split at hs <;> cases hs; exact ab_Rel.new hφ.2.2 (Or.inr hx) (Nat.le_add_right _ _) (fun b hb => by simp [va_up, hb]) (fun b hb => by simp [va_up, hb]))
    | exact ab_pf_rel hs hφ
theorem ab_lk_mem : ∀ {T : ab_T} {pc : Nat} {q : Instr × Nat × Nat}, ab_lk T pc = some q → ∃ e ∈ T, e = (pc, q) := by
  intro T
  induction T with
  | nil => intro pc q h; simp [ab_lk] at h
  | cons e t ih =>
    intro pc q h
    unfold ab_lk at h
    split at h
    · rename_i hb
      refine ⟨e, List.mem_cons_self, ?_⟩
      have e1 : e.1 = pc := Nat.eq_of_beq_eq_true hb
      have e2 : e.2 = q := Option.some.inj h
      rw [← e1, ← e2]
    · obtain ⟨x, hx, h2⟩ := ih h
      exact ⟨x, List.mem_cons_of_mem _ hx, h2⟩
theorem ab_ev_rel {P : List ab_I} (hP : ∀ i ∈ P, ∀ e ∈ ab_It i, ab_exok e.2.1 e.2.2.2) : ∀ (f : Nat) (i : ab_I), i ∈ P → ∀ (pc : Nat) (L : ab_Ls) (st : List Value) (h : ab_H) (M : ab_M) (r : Option Value) (h' : ab_H) (M' : ab_M), ab_ev P f i pc L st h M r h' M' → ab_Rel h M h' M' := by
  intro f
  induction f with
  | zero => intro i hi pc L st h M r h' M' hv; exact absurd hv (by simp [ab_ev])
  | succ f ih =>
    intro i hi pc L st h M r h' M' hv
    unfold ab_ev at hv
    cases hk : ab_lk (ab_It i) pc with
    | none => rw [hk] at hv; exact hv.elim
    | some q =>
      obtain ⟨I, ln, ex⟩ := q
      rw [hk] at hv
      dsimp only at hv
      have hx : ab_exok I ex := by
        obtain ⟨e, he, e1⟩ := ab_lk_mem hk
        have := hP i hi e he
        rw [e1] at this
        dsimp only at this
        exact this
      have st1 : ∀ {J : Instr}, ab_exok J ex → (match ab_step J ex pc L st h M with
          | some ((pc', L', st', h1, M1), φ) => φ ∧ ab_ev P f i pc' L' st' h1 M1 r h' M'
          | none => False) → ab_Rel h M h' M' := by
        intro J hJ hm
        split at hm
        · rename_i hs
          exact (ab_step_rel hJ hs hm.1).tr (ih i hi _ _ _ _ _ _ _ _ hm.2)
        · exact hm.elim
      have mem : ∀ {k : Nat} {j : ab_I}, P[k]? = some j → j ∈ P := fun h => List.mem_of_getElem? h
      split at hv
      · split at hv
        · exact (Classical.em _).elim (fun hc => ih i hi _ _ _ _ _ _ _ _ (hv.1 hc)) (fun hc => ih i hi _ _ _ _ _ _ _ _ (hv.2 hc))
        · exact hv.elim
      · split at hv
        · exact (Classical.em _).elim (fun hc => ih i hi _ _ _ _ _ _ _ _ (hv.1 hc)) (fun hc => ih i hi _ _ _ _ _ _ _ _ (hv.2 hc))
        · exact hv.elim
      · split at hv
        · obtain ⟨v1, v2⟩ := hv
          exact (Classical.em _).elim (fun hc => (v1 hc).elim (fun g hg => ih i hi _ _ _ _ _ _ _ _ hg.2)) (fun hc => (v2 hc).elim (fun o ho => ho.elim (fun g hg => ih i hi _ _ _ _ _ _ _ _ hg.2.2)))
        · exact hv.elim
      · split at hv
        · obtain ⟨g, -, -, hg⟩ := hv
          exact ih i hi _ _ _ _ _ _ _ _ hg
        · exact hv.elim
      · split at hv
        · obtain ⟨-, rfl, rfl, -⟩ := hv; exact ab_Rel.rf
        · exact hv.elim
      · split at hv
        · obtain ⟨-, rfl, rfl, -⟩ := hv; exact ab_Rel.rf
        · exact hv.elim
      · split at hv
        · obtain ⟨-, rfl, rfl, -⟩ := hv; exact ab_Rel.rf
        · exact hv.elim
      · split at hv
        · obtain ⟨-, rfl, rfl, -⟩ := hv; exact ab_Rel.rf
        · exact hv.elim
      · rcases hv with ⟨-, j, t, As, a, v, h1, M1, hj, -, -, -, -, -, h2, h3⟩ | ⟨-, hm⟩
        · exact (ih j (mem hj) _ _ _ _ _ _ _ _ h2).tr (ih i hi _ _ _ _ _ _ _ _ h3)
        · exact st1 hx hm
      · rcases hv with ⟨-, j, t, As, a, v, h1, M1, hj, -, -, -, -, -, h2, h3⟩ | ⟨-, hm⟩
        · exact (ih j (mem hj) _ _ _ _ _ _ _ _ h2).tr (ih i hi _ _ _ _ _ _ _ _ h3)
        · exact st1 hx hm
      · rcases hv with ⟨-, j, t, As, v, h1, M1, hj, -, -, -, -, h2, h3⟩ | ⟨-, hm⟩
        · exact (ih j (mem hj) _ _ _ _ _ _ _ _ h2).tr (ih i hi _ _ _ _ _ _ _ _ h3)
        · exact st1 hx hm
      · exact st1 hx hv
