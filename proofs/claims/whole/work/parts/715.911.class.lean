/-! ===== facts of the tables, as the walk uses them ===== -/
theorem ab_tb_of {k : Nat} {w : Cond} (h : ab_at k w = true) : w ∈ ab_tb := by
  unfold ab_at at h
  cases hk : lw_tbl[k]? with
  | none => rw [hk] at h; cases h
  | some v =>
    rw [hk] at h
    simp only [Bool.and_eq_true, decide_eq_true_eq] at h
    obtain ⟨rfl, hg⟩ := h
    exact List.mem_filter.mpr ⟨List.mem_of_getElem? hk, hg⟩
theorem ab_nst_of {k : Nat} {w : Cond} (h : ab_atN k w = true) : w ∈ ab_nst := by
  unfold ab_atN at h
  cases hk : lw_tbl[k]? with
  | none => rw [hk] at h; cases h
  | some v =>
    rw [hk] at h
    simp only [Bool.and_eq_true, decide_eq_true_eq] at h
    obtain ⟨rfl, hg⟩ := h
    exact List.mem_filter.mpr ⟨List.mem_of_getElem? hk, hg⟩
/-- what is known of a class of the world -/
def ab_CK (ci : Nat) (C : String) (T : u_T) (N : Nat) (ty0 : Nat → FieldType) : Prop :=
  (∀ k, k < N → parseFieldDescriptor (T k).2.2.1 = some (ty0 k)) ∧ (∀ a, a < N → ∀ b, b < N → a ≠ b → (T a).2.1 ≠ (T b).2.1) ∧ (∀ w ∈ u_ws C T N, w ∈ ab_tb) ∧ N = (ab_ft ci).length ∧ (∀ k, k < N → (T k).1 = C) ∧ ab_cn ci = C ∧ (∀ k, k < N → ((ab_ft ci)[k]? = some 0 ∧ ty0 k = .int) ∨ ((ab_ft ci)[k]? = some 1 ∧ ty0 k = .boolean) ∨ ((ab_ft ci)[k]? = some 2 ∧ ((∃ n, ty0 k = .object n) ∨ ∃ t, ty0 k = .array t))) ∧ Cond.instantiable C N ∈ ab_tb ∧ Cond.initialized C ∈ ab_tb
theorem ab_ck_7 {ci N : Nat} {ty0 : Nat → FieldType} (h : (List.range N).all (fun k => (decide ((ab_ft ci)[k]? = some 0) && decide (ty0 k = .int)) || (decide ((ab_ft ci)[k]? = some 1) && decide (ty0 k = .boolean)) || (decide ((ab_ft ci)[k]? = some 2) && (match ty0 k with
  | .object _ => true
  | .array _ => true
  | _ => false))) = true) : ∀ k, k < N → ((ab_ft ci)[k]? = some 0 ∧ ty0 k = .int) ∨ ((ab_ft ci)[k]? = some 1 ∧ ty0 k = .boolean) ∨ ((ab_ft ci)[k]? = some 2 ∧ ((∃ n, ty0 k = .object n) ∨ ∃ t, ty0 k = .array t)) := by
  intro k hk
  have h1 := List.all_eq_true.mp h k (List.mem_range.mpr hk)
  simp only [Bool.or_eq_true, Bool.and_eq_true, decide_eq_true_eq] at h1
  rcases h1 with (h1 | h1) | ⟨h1, h2⟩
  · exact Or.inl h1
  · exact Or.inr (Or.inl h1)
  · refine Or.inr (Or.inr ⟨h1, ?_⟩)
    cases ht : ty0 k with
    | object n => exact Or.inl ⟨n, rfl⟩
    | array t => exact Or.inr ⟨t, rfl⟩
    | _ => rw [ht] at h2; simp at h2
theorem ab_ck0 : ab_CK 0 RX0 TX0 6 tyX0 := ⟨tyX0_ok, nmX0, by decide +kernel, by decide +kernel, by decide +kernel, by decide +kernel, ab_ck_7 (by decide +kernel), by decide +kernel, by decide +kernel⟩
theorem ab_ck1 : ab_CK 1 RX1 TX1 5 tyX1 := ⟨tyX1_ok, nmX1, by decide +kernel, by decide +kernel, by decide +kernel, by decide +kernel, ab_ck_7 (by decide +kernel), by decide +kernel, by decide +kernel⟩
theorem ab_ck2 : ab_CK 2 RX2 TX2 2 tyX2 := ⟨tyX2_ok, nmX2, by decide +kernel, by decide +kernel, by decide +kernel, by decide +kernel, ab_ck_7 (by decide +kernel), by decide +kernel, by decide +kernel⟩
theorem ab_ck3 : ab_CK 3 RX3 TX3 4 tyX3 := ⟨tyX3_ok, nmX3, by decide +kernel, by decide +kernel, by decide +kernel, by decide +kernel, ab_ck_7 (by decide +kernel), by decide +kernel, by decide +kernel⟩
theorem ab_ck4 : ab_CK 4 RX4 TX4 9 tyX4 := ⟨tyX4_ok, nmX4, by decide +kernel, by decide +kernel, by decide +kernel, by decide +kernel, ab_ck_7 (by decide +kernel), by decide +kernel, by decide +kernel⟩
theorem ab_ck5 : ab_CK 5 RX5 TX5 5 tyX5 := ⟨tyX5_ok, nmX5, by decide +kernel, by decide +kernel, by decide +kernel, by decide +kernel, ab_ck_7 (by decide +kernel), by decide +kernel, by decide +kernel⟩
theorem ab_ck6 : ab_CK 6 RX6 TX6 11 tyX6 := ⟨tyX6_ok, nmX6, by decide +kernel, by decide +kernel, by decide +kernel, by decide +kernel, ab_ck_7 (by decide +kernel), by decide +kernel, by decide +kernel⟩
theorem ab_ck7 : ab_CK 7 RX7 TX7 4 tyX7 := ⟨tyX7_ok, nmX7, by decide +kernel, by decide +kernel, by decide +kernel, by decide +kernel, ab_ck_7 (by decide +kernel), by decide +kernel, by decide +kernel⟩
theorem ab_ck8 : ab_CK 8 RX8 TX8 2 tyX8 := ⟨tyX8_ok, nmX8, by decide +kernel, by decide +kernel, by decide +kernel, by decide +kernel, ab_ck_7 (by decide +kernel), by decide +kernel, by decide +kernel⟩
theorem ab_ck9 : ab_CK 9 RX9 TX9 6 tyX9 := ⟨tyX9_ok, nmX9, by decide +kernel, by decide +kernel, by decide +kernel, by decide +kernel, ab_ck_7 (by decide +kernel), by decide +kernel, by decide +kernel⟩
theorem ab_ck10 : ab_CK 10 RX10 TX10 12 tyX10 := ⟨tyX10_ok, nmX10, by decide +kernel, by decide +kernel, by decide +kernel, by decide +kernel, ab_ck_7 (by decide +kernel), by decide +kernel, by decide +kernel⟩
theorem ab_ck11 : ab_CK 11 RX11 TX11 31 tyX11 := ⟨tyX11_ok, nmX11, by decide +kernel, by decide +kernel, by decide +kernel, by decide +kernel, ab_ck_7 (by decide +kernel), by decide +kernel, by decide +kernel⟩
theorem ab_ck {ci : Nat} {C : String} {T : u_T} {N : Nat} (h : vwCl[ci]? = some (C, T, N)) : ∃ ty0, ab_CK ci C T N ty0 := by
  match ci, h with
  | 0, h => cases h; exact ⟨_, ab_ck0⟩
  | 1, h => cases h; exact ⟨_, ab_ck1⟩
  | 2, h => cases h; exact ⟨_, ab_ck2⟩
  | 3, h => cases h; exact ⟨_, ab_ck3⟩
  | 4, h => cases h; exact ⟨_, ab_ck4⟩
  | 5, h => cases h; exact ⟨_, ab_ck5⟩
  | 6, h => cases h; exact ⟨_, ab_ck6⟩
  | 7, h => cases h; exact ⟨_, ab_ck7⟩
  | 8, h => cases h; exact ⟨_, ab_ck8⟩
  | 9, h => cases h; exact ⟨_, ab_ck9⟩
  | 10, h => cases h; exact ⟨_, ab_ck10⟩
  | 11, h => cases h; exact ⟨_, ab_ck11⟩
  | n + 12, h => simp [vwCl] at h
