
/-! ===== least raises: two ways to find them ===== -/
def un (i : Nat) : Nat := 2 ^ 40 + 4 ^ (19 - i)
def oMin : Option Nat → Option Nat → Option Nat
  | none, b => b
  | some a, none => some a
  | some a, some b => some (if b < a then b else a)
def dGo (F : Nat → Option Nat) (g : Nat → Nat) (u s : Nat) : Nat → Option Nat
  | 0 => none
  | r + 1 => oMin (dGo F g u s r) (if g r ≤ s then (F (s - g r)).map (· + r * u) else none)
section DP
variable (c : Nat → Nat) (sh : Nat → Nat → Nat)
/-- by prefixes: the least entry -/
def dE : Nat → Nat → Option Nat
  | 0, s => if s = 0 then some 0 else none
  | i + 1, s => dGo (dE i) (sh i) (un i) s (c i)
/-- by suffixes: the fewest raises -/
def dB (f : Nat → Nat → Nat) (i s m : Nat) : Nat := if m < c i ∧ sh i m ≤ s then m + f (i + 1) (s - sh i m) else 100000
def mn (a b : Nat) : Nat := if b < a then b else a
def dL : Nat → Nat → Nat → Nat
  | 0, _, s => if s = 0 then 0 else 100000
  | d + 1, i, s => mn (mn (mn (mn 100000 (dB c sh (dL d) i s 0)) (dB c sh (dL d) i s 1)) (dB c sh (dL d) i s 2)) (dB c sh (dL d) i s 3)
/-- the first raise by which the fewest are kept to -/
def dM (d i s : Nat) : Nat := if dB c sh (dL c sh d) i s 0 = dL c sh (d + 1) i s then 0 else if dB c sh (dL c sh d) i s 1 = dL c sh (d + 1) i s then 1 else if dB c sh (dL c sh d) i s 2 = dL c sh (d + 1) i s then 2 else 3
/-- what is left of the sum at place j, and the raise there -/
def gL (n s : Nat) : Nat → Nat
  | 0 => s
  | j + 1 => gL n s j - sh j (dM c sh (n - j - 1) j (gL n s j))
def gR (n s j : Nat) : Nat := dM c sh (n - j - 1) j (gL c sh n s j)
end DP
section DPF
variable {c : Nat → Nat} {sh : Nat → Nat → Nat}
def vr (c : Nat → Nat) (r : Nat → Nat) (i d : Nat) : Prop := ∀ j, i ≤ j → j < i + d → r j < c j
def sfA (f : Nat → Nat) : Nat → Nat → Nat
  | 0, _ => 0
  | d + 1, i => f i + sfA f d (i + 1)
theorem sfA_last (f : Nat → Nat) : ∀ d i, sfA f (d + 1) i = sfA f d i + f (i + d)
  | 0, i => by show f i + 0 = 0 + f (i + 0); rw [Nat.add_zero, Nat.zero_add, Nat.add_zero]
  | d + 1, i => by
    have := sfA_last f d (i + 1)
    show f i + sfA f (d + 1) (i + 1) = f i + sfA f d (i + 1) + f (i + (d + 1))
    rw [this, show i + 1 + d = i + (d + 1) by omega]
    omega
theorem sfA_congr {f g : Nat → Nat} : ∀ d i, (∀ j, i ≤ j → j < i + d → f j = g j) → sfA f d i = sfA g d i
  | 0, _, _ => rfl
  | d + 1, i, h => by
    show f i + sfA f d (i + 1) = g i + sfA g d (i + 1)
    rw [h i (by omega) (by omega), sfA_congr d (i + 1) (fun j a b => h j (by omega) (by omega))]
theorem oMin_some {a b : Option Nat} {x : Nat} (h : oMin a b = some x) : a = some x ∨ b = some x := by
  cases a with
  | none => exact Or.inr h
  | some a =>
    cases b with
    | none => exact Or.inl h
    | some b =>
      unfold oMin at h
      cases h
      split
      · exact Or.inr rfl
      · exact Or.inl rfl
theorem oMin_l {a b : Option Nat} {x : Nat} (h : a = some x) : ∃ y, oMin a b = some y ∧ y ≤ x := by
  subst h
  cases b with
  | none => exact ⟨x, rfl, Nat.le_refl _⟩
  | some b =>
    refine ⟨_, rfl, ?_⟩
    split <;> omega
theorem oMin_r {a b : Option Nat} {x : Nat} (h : b = some x) : ∃ y, oMin a b = some y ∧ y ≤ x := by
  subst h
  cases a with
  | none => exact ⟨x, rfl, Nat.le_refl _⟩
  | some a =>
    refine ⟨_, rfl, ?_⟩
    split <;> omega
theorem go_some {i s x : Nat} : ∀ k, dGo (dE c sh i) (sh i) (un i) s k = some x → ∃ r, r < k ∧ sh i r ≤ s ∧ ∃ y, dE c sh i (s - sh i r) = some y ∧ x = y + r * un i := by
  intro k
  induction k with
  | zero => intro h; cases h
  | succ r ih =>
    intro h
    unfold dGo at h
    rcases oMin_some h with h1 | h1
    · obtain ⟨r', a, b, e⟩ := ih h1
      exact ⟨r', by omega, b, e⟩
    · by_cases q : sh i r ≤ s
      · rw [if_pos q] at h1
        cases hE : dE c sh i (s - sh i r) with
        | none => rw [hE] at h1; cases h1
        | some y =>
          rw [hE] at h1
          cases h1
          exact ⟨r, by omega, q, y, hE, rfl⟩
      · rw [if_neg q] at h1
        cases h1
theorem go_le {i s r y : Nat} (q : sh i r ≤ s) (hE : dE c sh i (s - sh i r) = some y) : ∀ k, r < k → ∃ x, dGo (dE c sh i) (sh i) (un i) s k = some x ∧ x ≤ y + r * un i := by
  intro k
  induction k with
  | zero => intro h; omega
  | succ k ih =>
    intro h
    unfold dGo
    by_cases e : r = k
    · subst e
      refine oMin_r ?_
      rw [if_pos q, hE]
      rfl
    · obtain ⟨x, h1, h2⟩ := ih (by omega)
      obtain ⟨x', h3, h4⟩ := oMin_l (b := if sh i k ≤ s then (dE c sh i (s - sh i k)).map (· + k * un i) else none) h1
      exact ⟨x', h3, by omega⟩
theorem dE_1 : ∀ i s x, dE c sh i s = some x → ∃ r : Nat → Nat, vr c r 0 i ∧ sfA (fun j => sh j (r j)) i 0 = s ∧ sfA (fun j => r j * un j) i 0 = x := by
  intro i
  induction i with
  | zero =>
    intro s x h
    unfold dE at h
    by_cases e : s = 0
    · rw [if_pos e] at h
      cases h
      exact ⟨fun _ => 0, fun j a b => by omega, e.symm, rfl⟩
    · rw [if_neg e] at h
      cases h
  | succ i ih =>
    intro s x h
    unfold dE at h
    obtain ⟨r0, a, b, y, h1, h2⟩ := go_some _ h
    obtain ⟨r, v, hs, hc⟩ := ih _ _ h1
    refine ⟨va_up r i r0, fun j j1 j2 => ?_, ?_, ?_⟩
    · by_cases e : j = i
      · subst e; rw [va_up_at]; exact a
      · rw [va_up_n e]; exact v j j1 (by omega)
    · rw [sfA_last, Nat.zero_add, va_up_at, sfA_congr (g := fun j => sh j (r j)) i 0 (fun j _ j2 => by rw [va_up_n (by omega)]), hs]
      omega
    · rw [sfA_last, Nat.zero_add, va_up_at, sfA_congr (g := fun j => r j * un j) i 0 (fun j _ j2 => by rw [va_up_n (by omega)]), hc]
      omega
theorem dE_2 (r : Nat → Nat) : ∀ i, vr c r 0 i → ∃ x, dE c sh i (sfA (fun j => sh j (r j)) i 0) = some x ∧ x ≤ sfA (fun j => r j * un j) i 0 := by
  intro i
  induction i with
  | zero => intro _; exact ⟨0, by unfold dE; exact if_pos rfl, Nat.le_refl _⟩
  | succ i ih =>
    intro v
    obtain ⟨y, h1, h2⟩ := ih (fun j a b => v j a (by omega))
    rw [sfA_last, sfA_last, Nat.zero_add]
    unfold dE
    obtain ⟨x, h3, h4⟩ := go_le (c := c) (sh := sh) (i := i) (s := sfA (fun j => sh j (r j)) i 0 + sh i (r i)) (r := r i) (y := y) (by omega) (by rw [Nat.add_sub_cancel]; exact h1) (c i) (v i (by omega) (by omega))
    exact ⟨x, h3, by omega⟩
theorem mn_le {a b : Nat} : mn a b ≤ a ∧ mn a b ≤ b := by unfold mn; split <;> omega
theorem mn_or (a b : Nat) : mn a b = a ∨ mn a b = b := by unfold mn; split <;> simp
theorem dL_le (d i s : Nat) : dL c sh d i s ≤ 100000 := by
  cases d with
  | zero => unfold dL; split <;> omega
  | succ d =>
    unfold dL
    have h1 := mn_le (a := 100000) (b := dB c sh (dL c sh d) i s 0)
    have h2 := mn_le (a := mn 100000 (dB c sh (dL c sh d) i s 0)) (b := dB c sh (dL c sh d) i s 1)
    have h3 := mn_le (a := mn (mn 100000 (dB c sh (dL c sh d) i s 0)) (dB c sh (dL c sh d) i s 1)) (b := dB c sh (dL c sh d) i s 2)
    have h4 := mn_le (a := mn (mn (mn 100000 (dB c sh (dL c sh d) i s 0)) (dB c sh (dL c sh d) i s 1)) (dB c sh (dL c sh d) i s 2)) (b := dB c sh (dL c sh d) i s 3)
    omega
theorem dL_leB (d i s m : Nat) (hm : m < 4) : dL c sh (d + 1) i s ≤ dB c sh (dL c sh d) i s m := by
  unfold dL
  have h1 := mn_le (a := 100000) (b := dB c sh (dL c sh d) i s 0)
  have h2 := mn_le (a := mn 100000 (dB c sh (dL c sh d) i s 0)) (b := dB c sh (dL c sh d) i s 1)
  have h3 := mn_le (a := mn (mn 100000 (dB c sh (dL c sh d) i s 0)) (dB c sh (dL c sh d) i s 1)) (b := dB c sh (dL c sh d) i s 2)
  have h4 := mn_le (a := mn (mn (mn 100000 (dB c sh (dL c sh d) i s 0)) (dB c sh (dL c sh d) i s 1)) (dB c sh (dL c sh d) i s 2)) (b := dB c sh (dL c sh d) i s 3)
  rcases (show m = 0 ∨ m = 1 ∨ m = 2 ∨ m = 3 by omega) with rfl | rfl | rfl | rfl <;> omega
theorem dL_or (d i s : Nat) (h : dL c sh (d + 1) i s < 100000) : ∃ m, m < 4 ∧ dB c sh (dL c sh d) i s m = dL c sh (d + 1) i s := by
  unfold dL at h ⊢
  rcases mn_or (mn (mn (mn 100000 (dB c sh (dL c sh d) i s 0)) (dB c sh (dL c sh d) i s 1)) (dB c sh (dL c sh d) i s 2)) (dB c sh (dL c sh d) i s 3) with e | e
  · rw [e] at h ⊢
    rcases mn_or (mn (mn 100000 (dB c sh (dL c sh d) i s 0)) (dB c sh (dL c sh d) i s 1)) (dB c sh (dL c sh d) i s 2) with e | e
    · rw [e] at h ⊢
      rcases mn_or (mn 100000 (dB c sh (dL c sh d) i s 0)) (dB c sh (dL c sh d) i s 1) with e | e
      · rw [e] at h ⊢
        rcases mn_or 100000 (dB c sh (dL c sh d) i s 0) with e | e
        · rw [e] at h; omega
        · exact ⟨0, by decide, e.symm⟩
      · exact ⟨1, by decide, e.symm⟩
    · exact ⟨2, by decide, e.symm⟩
  · exact ⟨3, by decide, e.symm⟩
theorem dM_spec (d i s : Nat) (h : dL c sh (d + 1) i s < 100000) : dB c sh (dL c sh d) i s (dM c sh d i s) = dL c sh (d + 1) i s ∧ dM c sh d i s < 4 ∧ ∀ m, m < 4 → dB c sh (dL c sh d) i s m = dL c sh (d + 1) i s → dM c sh d i s ≤ m := by
  obtain ⟨m0, hm0, e0⟩ := dL_or d i s h
  unfold dM
  split
  · rename_i h0
    exact ⟨h0, by decide, fun m _ _ => Nat.zero_le _⟩
  · rename_i h0
    split
    · rename_i h1
      refine ⟨h1, by decide, fun m hm e => ?_⟩
      rcases (show m = 0 ∨ 1 ≤ m by omega) with rfl | z
      · exact absurd e h0
      · exact z
    · rename_i h1
      split
      · rename_i h2
        refine ⟨h2, by decide, fun m hm e => ?_⟩
        rcases (show m = 0 ∨ m = 1 ∨ 2 ≤ m by omega) with rfl | rfl | z
        · exact absurd e h0
        · exact absurd e h1
        · exact z
      · rename_i h2
        rcases (show m0 = 0 ∨ m0 = 1 ∨ m0 = 2 ∨ m0 = 3 by omega) with rfl | rfl | rfl | rfl
        · exact absurd e0 h0
        · exact absurd e0 h1
        · exact absurd e0 h2
        · refine ⟨e0, by decide, fun m hm e => ?_⟩
          rcases (show m = 0 ∨ m = 1 ∨ m = 2 ∨ m = 3 by omega) with rfl | rfl | rfl | rfl
          · exact absurd e h0
          · exact absurd e h1
          · exact absurd e h2
          · exact Nat.le_refl _
/-- the fewest are no more than any -/
theorem dL_2 (hc : ∀ i, c i ≤ 4) (r : Nat → Nat) : ∀ d i, vr c r i d → dL c sh d i (sfA (fun j => sh j (r j)) d i) ≤ sfA r d i
  | 0, i, _ => by show (if (0 : Nat) = 0 then 0 else 100000) ≤ 0; rw [if_pos rfl]; exact Nat.le_refl _
  | d + 1, i, v => by
    have h1 := dL_2 hc r d (i + 1) (fun j a b => v j (by omega) (by omega))
    have hr := v i (by omega) (by omega)
    have h2 := dL_leB (c := c) (sh := sh) d i (sfA (fun j => sh j (r j)) (d + 1) i) (r i) (by have := hc i; omega)
    have e : dB c sh (dL c sh d) i (sfA (fun j => sh j (r j)) (d + 1) i) (r i) = r i + dL c sh d (i + 1) (sfA (fun j => sh j (r j)) d (i + 1)) := by
      unfold dB
      rw [if_pos ⟨hr, by show sh i (r i) ≤ sh i (r i) + _; omega⟩]
      show r i + dL c sh d (i + 1) (sh i (r i) + sfA _ d (i + 1) - sh i (r i)) = _
      rw [Nat.add_sub_cancel_left]
    rw [e] at h2
    show _ ≤ r i + sfA r d (i + 1)
    omega
end DPF
