/-! ===== the pure machine's picture in the kit's words ===== -/
def ab_rq (ad : Nat → Nat) (k : Nat) : Option Nat := if k = 0 then none else some (ad k)
def ab_tv (ad : Nat → Nat) : Value → Value
  | .ref k => va_rf (ab_rq ad k)
  | v => v
def ab_fv (ad : Nat → Nat) (M : ab_M) (a ft j : Nat) : Value := if ft = 2 then ab_tv ad (.ref (M.2.2 a j)) else .int (M.1 a j)
def ab_fs (ad : Nat → Nat) (M : ab_M) (a ci : Nat) : List Value := (ab_ft ci).mapIdx (fun j t => ab_fv ad M a t j)
def ab_te (cA : Nat → ClassId) (ad : Nat → Nat) (h : ab_H) (M : ab_M) (a : Nat) : va_E :=
  if ab_k h a < 20 then .inr (ab_k h a - 1, ab_fs ad M a (ab_k h a - 1))
  else if ab_k h a = 23 then .inl (cA 23, ab_n h a, .inr (.inl (M.2.1 a)))
  else if 24 ≤ ab_k h a then .inl (cA (ab_k h a), ab_n h a, .inr (.inr (.inr (.inr (fun i => ab_rq ad (M.2.2 a i))))))
  else .inl (cA (ab_k h a), ab_n h a, .inl (M.1 a))
def ab_ws (cA : Nat → ClassId) (ad : Nat → Nat) (h : ab_H) (M : ab_M) : va_W := (List.range (h.1 - 1)).map (fun j => (ad (j + 1), ab_te cA ad h M (j + 1)))
def ab_tys (cA : Nat → ClassId) : List (ClassId × FieldType) := [(cA 20, .int), (cA 21, .byte), (cA 22, .boolean), (cA 23, .long), (cA 24, .object RX1), (cA 25, .object RX2), (cA 26, .object RX3), (cA 27, .object RX7)]
theorem ab_ws_at {cA : Nat → ClassId} {ad : Nat → Nat} {h : ab_H} {M : ab_M} {a : Nat} (h1 : 1 ≤ a) (h2 : a < h.1) : (ab_ws cA ad h M)[a - 1]? = some (ad a, ab_te cA ad h M a) := by
  unfold ab_ws
  rw [List.getElem?_map, List.getElem?_range (by omega)]
  have e : a - 1 + 1 = a := by omega
  simp only [Option.map_some, e]
theorem ab_ws_len {cA : Nat → ClassId} {ad : Nat → Nat} {h : ab_H} {M : ab_M} : (ab_ws cA ad h M).length = h.1 - 1 := by
  simp [ab_ws]
theorem ab_ws_in {cA : Nat → ClassId} {ad : Nat → Nat} {h : ab_H} {M : ab_M} {k : Nat} {q : Nat × va_E} (hk : (ab_ws cA ad h M)[k]? = some q) : k + 1 < h.1 ∧ q = (ad (k + 1), ab_te cA ad h M (k + 1)) := by
  have hl : k < (ab_ws cA ad h M).length := (List.getElem?_eq_some_iff.mp hk).1
  rw [ab_ws_len] at hl
  have h3 := ab_ws_at (cA := cA) (ad := ad) (h := h) (M := M) (a := k + 1) (by omega) (by omega)
  rw [Nat.add_sub_cancel] at h3
  exact ⟨by omega, Option.some.inj (hk.symm.trans h3)⟩
theorem ab_ws_set {cA : Nat → ClassId} {ad : Nat → Nat} {h : ab_H} {M M' : ab_M} {a : Nat} (h1 : 1 ≤ a) (h2 : a < h.1) {e : va_E} (he : ab_te cA ad h M' a = e) (hne : ∀ b, b ≠ a → ab_te cA ad h M' b = ab_te cA ad h M b) : (ab_ws cA ad h M).set (a - 1) (ad a, e) = ab_ws cA ad h M' := by
  apply List.ext_getElem?
  intro i
  rw [List.getElem?_set]
  by_cases hi : a - 1 = i
  · subst hi
    rw [if_pos rfl, if_pos (by rw [ab_ws_len]; omega), ab_ws_at h1 h2, he]
  · rw [if_neg hi]
    by_cases hl : i < h.1 - 1
    · have e1 := ab_ws_at (cA := cA) (ad := ad) (h := h) (M := M) (a := i + 1) (by omega) (by omega)
      have e2 := ab_ws_at (cA := cA) (ad := ad) (h := h) (M := M') (a := i + 1) (by omega) (by omega)
      rw [Nat.add_sub_cancel] at e1 e2
      rw [e1, e2, hne (i + 1) (by omega)]
    · rw [List.getElem?_eq_none (by rw [ab_ws_len]; omega), List.getElem?_eq_none (by rw [ab_ws_len]; omega)]
/-- a new cell -/
theorem ab_ws_new {cA : Nat → ClassId} {ad : Nat → Nat} {h h' : ab_H} {M M' : ab_M} (h1 : 1 ≤ h.1) (hn : h'.1 = h.1 + 1) {e : va_E} (he : ab_te cA ad h' M' h.1 = e) (hne : ∀ b, b ≠ h.1 → ab_te cA ad h' M' b = ab_te cA ad h M b) : ab_ws cA ad h M ++ [(ad h.1, e)] = ab_ws cA ad h' M' := by
  apply List.ext_getElem?
  intro i
  by_cases hl : i < h.1 - 1
  · rw [List.getElem?_append_left (by rw [ab_ws_len]; exact hl)]
    have e1 := ab_ws_at (cA := cA) (ad := ad) (h := h) (M := M) (a := i + 1) (by omega) (by omega)
    have e2 := ab_ws_at (cA := cA) (ad := ad) (h := h') (M := M') (a := i + 1) (by omega) (by omega)
    rw [Nat.add_sub_cancel] at e1 e2
    rw [e1, e2, hne (i + 1) (by omega)]
  · rw [List.getElem?_append_right (by rw [ab_ws_len]; omega), ab_ws_len]
    by_cases hi : i = h.1 - 1
    · have e2 := ab_ws_at (cA := cA) (ad := ad) (h := h') (M := M') (a := h.1) (by omega) (by omega)
      rw [hi, e2, he, Nat.sub_self]
      rfl
    · rw [List.getElem?_eq_none (by simp; omega), List.getElem?_eq_none (by rw [ab_ws_len]; omega)]
/-- the locals -/
def ab_prs (ad : Nat → Nat) : ab_Ls → Nat → List (Nat × Value)
  | [], _ => []
  | none :: t, i => ab_prs ad t (i + 1)
  | some v :: t, i => (i, ab_tv ad v) :: ab_prs ad t (i + 1)
theorem ab_prs_mem {ad : Nat → Nat} : ∀ {L : ab_Ls} {b : Nat} {q : Nat × Value}, q ∈ ab_prs ad L b ↔ ∃ (j : Nat) (v : Value), ab_get L j = some v ∧ q = (b + j, ab_tv ad v) := by
  intro L
  induction L with
  | nil =>
    intro b q
    simp [ab_prs, ab_get]
  | cons o t ih =>
    intro b q
    cases o with
    | none =>
      simp only [ab_prs]
      rw [ih]
      constructor
      · rintro ⟨j, v, h1, h2⟩
        exact ⟨j + 1, v, h1, by rw [h2]; congr 1; omega⟩
      · rintro ⟨j, v, h1, h2⟩
        cases j with
        | zero => simp [ab_get] at h1
        | succ j => exact ⟨j, v, h1, by rw [h2]; congr 1; omega⟩
    | some x =>
      simp only [ab_prs, List.mem_cons]
      rw [ih]
      constructor
      · rintro (h | ⟨j, v, h1, h2⟩)
        · exact ⟨0, x, rfl, h⟩
        · exact ⟨j + 1, v, h1, by rw [h2]; congr 1; omega⟩
      · rintro ⟨j, v, h1, h2⟩
        cases j with
        | zero =>
          left
          simp only [ab_get, Option.some.injEq] at h1
          rw [h2, h1]
          rfl
        | succ j => exact Or.inr ⟨j, v, h1, by rw [h2]; congr 1; omega⟩
def ab_Lr (ad : Nat → Nat) (ls : Array Slot) (nL : Nat) (L : ab_Ls) : Prop := L.length = nL ∧ lv_has ls nL (ab_prs ad L 0)
theorem ab_Lr.at {ad : Nat → Nat} {ls : Array Slot} {nL i : Nat} {L : ab_Ls} {v : Value} (h : ab_Lr ad ls nL L) (hi : ab_get L i = some v) : ls[i]? = some (.val (ab_tv ad v)) := h.2.2.2 (i, ab_tv ad v) (ab_prs_mem.mpr ⟨i, v, hi, by simp⟩)
theorem ab_cat {ad : Nat → Nat} (v : Value) : (ab_tv ad v).category = v.category := by
  cases v with
  | ref k =>
    show (va_rf (ab_rq ad k)).category = 1
    unfold ab_rq
    by_cases hk : k = 0
    · rw [if_pos hk]; rfl
    · rw [if_neg hk]; rfl
  | _ => rfl
theorem ab_get_lt : ∀ {L : ab_Ls} {i : Nat} {v : Value}, ab_get L i = some v → i < L.length := by
  intro L
  induction L with
  | nil => intro i v h; simp [ab_get] at h
  | cons o t ih =>
    intro i v h
    cases i with
    | zero => simp
    | succ i => simp only [ab_get] at h; have := ih h; simp; omega
theorem ab_set_spec : ∀ {L L' : ab_Ls} {i : Nat} {v : Value}, ab_set L i v = some L' → L'.length = L.length ∧ i < L.length ∧ ab_get L' i = some v ∧ (∀ j, j ≠ i → ab_get L' j = ab_get L j) ∧ ∀ (j : Nat) (x : Value), j + 1 = i → ab_get L j = some x → ¬ x.category = 2 := by
  intro L
  induction L with
  | nil => intro L' i v h; simp [ab_set] at h
  | cons o t ih =>
    intro L' i v h
    cases i with
    | zero =>
      simp only [ab_set, Option.some.injEq] at h
      subst h
      refine ⟨by simp, by simp, rfl, fun j hj => ?_, fun j x hj => by omega⟩
      cases j with
      | zero => exact absurd rfl hj
      | succ j => rfl
    | succ i =>
      have key : ∀ t', ab_set t i v = some t' → L' = o :: t' → (∀ x, i = 0 → o = some x → ¬ x.category = 2) → L'.length = (o :: t).length ∧ i + 1 < (o :: t).length ∧ ab_get L' (i + 1) = some v ∧ (∀ j, j ≠ i + 1 → ab_get L' j = ab_get (o :: t) j) ∧ ∀ (j : Nat) (x : Value), j + 1 = i + 1 → ab_get (o :: t) j = some x → ¬ x.category = 2 := by
        intro t' ht he ho
        subst he
        obtain ⟨a1, a2, a3, a4, a5⟩ := ih ht
        refine ⟨by simp [a1], by simp; omega, a3, fun j hj => ?_, fun j x hj hx => ?_⟩
        · cases j with
          | zero => rfl
          | succ j => exact a4 j (by omega)
        · cases j with
          | zero => exact ho x (by omega) hx
          | succ j => exact a5 j x (by omega) hx
      cases hs : ab_set t i v with
      | none =>
        exfalso
        unfold ab_set at h
        split at h <;> simp_all
      | some t' =>
        refine key t' hs ?_ ?_
        · unfold ab_set at h
          split at h <;> simp_all
        · intro x h0 hx
          subst h0; subst hx
          cases x <;> simp_all [ab_set, Value.category]
theorem ab_setl_spec : ∀ {L L' : ab_Ls} {i : Nat} {v : Int64}, ab_setl L i v = some L' → L'.length = L.length ∧ i + 1 < L.length ∧ ab_get L' i = some (.long v) ∧ ab_get L' (i + 1) = none ∧ (∀ j, j ≠ i → ab_get L' j = ab_get L j) ∧ ∀ (j : Nat) (x : Value), j + 1 = i → ab_get L j = some x → ¬ x.category = 2 := by
  intro L
  induction L with
  | nil => intro L' i v h; simp [ab_setl] at h
  | cons o t ih =>
    intro L' i v h
    cases i with
    | zero =>
      cases t with
      | nil => simp [ab_setl] at h
      | cons o2 t2 =>
        cases o2 with
        | some y => simp [ab_setl] at h
        | none =>
          simp only [ab_setl, Option.some.injEq] at h
          subst h
          refine ⟨by simp, by simp, rfl, rfl, fun j hj => ?_, fun j x hj => by omega⟩
          cases j with
          | zero => exact absurd rfl hj
          | succ j => rfl
    | succ i =>
      have key : ∀ t', ab_setl t i v = some t' → L' = o :: t' → (∀ x, i = 0 → o = some x → ¬ x.category = 2) → L'.length = (o :: t).length ∧ i + 1 + 1 < (o :: t).length ∧ ab_get L' (i + 1) = some (.long v) ∧ ab_get L' (i + 1 + 1) = none ∧ (∀ j, j ≠ i + 1 → ab_get L' j = ab_get (o :: t) j) ∧ ∀ (j : Nat) (x : Value), j + 1 = i + 1 → ab_get (o :: t) j = some x → ¬ x.category = 2 := by
        intro t' ht he ho
        subst he
        obtain ⟨a1, a2, a3, a6, a4, a5⟩ := ih ht
        refine ⟨by simp [a1], by simp; omega, a3, a6, fun j hj => ?_, fun j x hj hx => ?_⟩
        · cases j with
          | zero => rfl
          | succ j => exact a4 j (by omega)
        · cases j with
          | zero => exact ho x (by omega) hx
          | succ j => exact a5 j x (by omega) hx
      cases hs : ab_setl t i v with
      | none =>
        exfalso
        unfold ab_setl at h
        split at h <;> simp_all
      | some t' =>
        refine key t' hs ?_ ?_
        · unfold ab_setl at h
          split at h <;> simp_all
        · intro x h0 hx
          subst h0; subst hx
          cases x <;> simp_all [ab_setl, Value.category]
