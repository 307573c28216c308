
/-! ===== begin, tell ===== -/
def eK {α : Type} (e : Except (Nat × Nat) α) : Prop := ∀ q, e = .error q → 1 ≤ q.1 ∧ q.1 ≤ 6
theorem eK_o {α : Type} (a : α) : eK (.ok a : Except (Nat × Nat) α) := fun q h => by cases h
theorem eK_e {α : Type} {c s : Nat} (h : 1 ≤ c ∧ c ≤ 6) : eK (.error (c, s) : Except (Nat × Nat) α) := fun q e => by cases e; exact h
theorem eK_p {α β : Type} {e : Except (Nat × Nat) α} {q : Nat × Nat} (h : eK e) (he : e = .error q) : eK (.error q : Except (Nat × Nat) β) := fun q' e' => by cases e'; exact h q he
theorem eK_num (w : List Nat) (lo hi p : Nat) : eK (tNum w lo hi p) := by
  unfold tNum
  split
  · exact eK_e (by decide)
  · split
    · split
      · exact eK_o _
      · exact eK_e (by decide)
    · exact eK_e (by decide)
theorem eK_word (w : List Nat) (m p : Nat) : eK (tWord w m p) := by
  unfold tWord
  split
  · exact eK_e (by decide)
  · split
    · split
      · exact eK_o _
      · exact eK_e (by decide)
    · exact eK_e (by decide)
theorem eK_semi (w : List Nat) (p : Nat) : eK (tSemi w p) := by
  unfold tSemi
  split
  · exact eK_e (by decide)
  · split
    · exact eK_o _
    · exact eK_e (by decide)
theorem eK_kind (w : List Nat) (p : Nat) : eK (tKind w p) := by
  unfold tKind
  repeat' split
  all_goals first | exact eK_o _ | exact eK_e (by decide)
theorem eK_then (w : List Nat) (P : PS) (p : Nat) : eK (thenSemi w P p) := by
  unfold thenSemi
  have := eK_semi w p
  cases h : tSemi w p with
  | error q => exact eK_p this h
  | ok x => exact eK_o _
theorem eK_law (w : List Nat) (P : PS) (s p : Nat) : eK (lnLaw w P s p) := by
  unfold lnLaw
  split
  · exact eK_e (by decide)
  · have := eK_num w 0 1 p
    cases h : tNum w 0 1 p with
    | error q => exact eK_p this h
    | ok x => exact eK_then _ _ _
theorem eK_fee (w : List Nat) (P : PS) (s p : Nat) : eK (lnFee w P s p) := by
  unfold lnFee
  split
  · exact eK_e (by decide)
  · have := eK_num w 1 9 p
    cases h : tNum w 1 9 p with
    | error q => exact eK_p this h
    | ok x => exact eK_then _ _ _
theorem eK_letter (w : List Nat) (P : PS) (p : Nat) : eK (lnLetter w P p) := by
  unfold lnLetter
  have := eK_word w 1 p
  cases h : tWord w 1 p with
  | error q => exact eK_p this h
  | ok x =>
    dsimp only
    split
    · exact eK_e (by decide)
    · have := eK_num w 0 40 x.2
      cases h : tNum w 0 40 x.2 with
      | error q => exact eK_p this h
      | ok y => exact eK_then _ _ _
theorem eK_known (w : List Nat) (P : PS) (s p : Nat) : eK (lnKnown w P s p) := by
  unfold lnKnown
  split
  · exact eK_e (by decide)
  · have := eK_num w 0 5 p
    cases h : tNum w 0 5 p with
    | error q => exact eK_p this h
    | ok x =>
      dsimp only
      have := eK_num w 0 999 x.2
      cases h : tNum w 0 999 x.2 with
      | error q => exact eK_p this h
      | ok y => exact eK_then _ _ _
theorem eK_one (w : List Nat) (P : PS) (s p : Nat) : eK (lnOne w P s p) := by
  unfold lnOne
  split
  · exact eK_e (by decide)
  · have := eK_kind w p
    cases h : tKind w p with
    | error q => exact eK_p this h
    | ok x =>
      dsimp only
      have := eK_word w 10 x.2
      cases h : tWord w 10 x.2 with
      | error q => exact eK_p this h
      | ok y =>
        dsimp only
        have := eK_num w 0 99 y.2
        cases h : tNum w 0 99 y.2 with
        | error q => exact eK_p this h
        | ok z =>
          dsimp only
          have := eK_num w 0 99 z.2
          cases h : tNum w 0 99 z.2 with
          | error q => exact eK_p this h
          | ok u => exact eK_then _ _ _
theorem eK_aLst (w : List Nat) (P : PS) (T : Tk) : eK (aLst w P T) := by
  unfold aLst
  split
  · split
    · exact eK_e (by decide)
    · split
      · exact eK_o _
      · exact eK_e (by decide)
  · exact eK_e (by decide)
theorem eK_more (w : List Nat) : ∀ f P p, eK (lstMore w f P p)
  | 0, P, p => by unfold lstMore; exact eK_e (by decide)
  | f + 1, P, p => by
    unfold lstMore
    split
    · exact eK_e (by decide)
    · split
      · exact eK_o _
      · have := eK_aLst w P (tok w p)
        cases h : aLst w P (tok w p) with
        | error q => exact eK_p this h
        | ok P' => exact eK_more w f _ _
theorem eK_list (w : List Nat) (P : PS) (p : Nat) : eK (lnList w P p) := by
  unfold lnList
  split
  · exact eK_e (by decide)
  · have := eK_aLst w P (tok w p)
    cases h : aLst w P (tok w p) with
    | error q => exact eK_p this h
    | ok P' => exact eK_more w _ _ _
theorem eK_line (w : List Nat) (P : PS) (T : Tk) : eK (lnLine w P T) := by
  unfold lnLine
  split
  · exact eK_law _ _ _ _
  · split
    · exact eK_fee _ _ _ _
    · split
      · exact eK_letter _ _ _
      · split
        · exact eK_one _ _ _ _
        · split
          · exact eK_list _ _ _
          · split
            · exact eK_known _ _ _ _
            · exact eK_e (by decide)
/-- where a line ends -/
def eN (w : List Nat) (p : Nat) (e : Except (Nat × Nat) (PS × Nat)) : Prop := ∀ x, e = .ok x → p ≤ x.2 ∧ x.2 ≤ w.length
theorem eN_e {w : List Nat} {p : Nat} {q : Nat × Nat} : eN w p (.error q) := fun x h => by cases h
theorem eN_then {w : List Nat} {P : PS} {p p' : Nat} (hp : p ≤ w.length) (hpp : p' ≤ p) : eN w p' (thenSemi w P p) := by
  unfold thenSemi
  cases h : tSemi w p with
  | error q => exact eN_e
  | ok x =>
    intro y hy
    cases hy
    have := tSemi_ok hp h
    exact ⟨by dsimp only; omega, this.2⟩
theorem eN_law {w : List Nat} {P : PS} {s p : Nat} (hp : p ≤ w.length) : eN w p (lnLaw w P s p) := by
  unfold lnLaw
  split
  · exact eN_e
  · cases h : tNum w 0 1 p with
    | error q => exact eN_e
    | ok x => have := tNum_ok (v := x.1) (nx := x.2) hp h; exact eN_then (by omega) (by omega)
theorem eN_fee {w : List Nat} {P : PS} {s p : Nat} (hp : p ≤ w.length) : eN w p (lnFee w P s p) := by
  unfold lnFee
  split
  · exact eN_e
  · cases h : tNum w 1 9 p with
    | error q => exact eN_e
    | ok x => have := tNum_ok (v := x.1) (nx := x.2) hp h; exact eN_then (by omega) (by omega)
theorem eN_letter {w : List Nat} {P : PS} {p : Nat} (hp : p ≤ w.length) : eN w p (lnLetter w P p) := by
  unfold lnLetter
  cases h : tWord w 1 p with
  | error q => exact eN_e
  | ok x =>
    have h1 := tWord_ok (s := x.1) (e := x.2) hp h
    dsimp only
    split
    · exact eN_e
    · cases h : tNum w 0 40 x.2 with
      | error q => exact eN_e
      | ok y => have := tNum_ok (v := y.1) (nx := y.2) (show x.2 ≤ w.length by omega) h; exact eN_then (by omega) (by omega)
theorem eN_known {w : List Nat} {P : PS} {s p : Nat} (hp : p ≤ w.length) : eN w p (lnKnown w P s p) := by
  unfold lnKnown
  split
  · exact eN_e
  · cases h : tNum w 0 5 p with
    | error q => exact eN_e
    | ok x =>
      have h1 := tNum_ok (v := x.1) (nx := x.2) hp h
      dsimp only
      cases h : tNum w 0 999 x.2 with
      | error q => exact eN_e
      | ok y => have := tNum_ok (v := y.1) (nx := y.2) (show x.2 ≤ w.length by omega) h; exact eN_then (by omega) (by omega)
theorem eN_one {w : List Nat} {P : PS} {s p : Nat} (hp : p ≤ w.length) : eN w p (lnOne w P s p) := by
  unfold lnOne
  split
  · exact eN_e
  · cases h : tKind w p with
    | error q => exact eN_e
    | ok x =>
      have h1 := tKind_ok (k := x.1) (e := x.2) hp h
      dsimp only
      cases h : tWord w 10 x.2 with
      | error q => exact eN_e
      | ok y =>
        have h2 := tWord_ok (s := y.1) (e := y.2) (show x.2 ≤ w.length by omega) h
        dsimp only
        cases h : tNum w 0 99 y.2 with
        | error q => exact eN_e
        | ok z =>
          have h3 := tNum_ok (v := z.1) (nx := z.2) (show y.2 ≤ w.length by omega) h
          dsimp only
          cases h : tNum w 0 99 z.2 with
          | error q => exact eN_e
          | ok u => have h4 := tNum_ok (v := u.1) (nx := u.2) (show z.2 ≤ w.length by omega) h; exact eN_then (by omega) (by omega)
theorem eN_more {w : List Nat} {p' : Nat} : ∀ f P p, p ≤ w.length → p' ≤ p → eN w p' (lstMore w f P p)
  | 0, P, p, _, _ => by unfold lstMore; exact eN_e
  | f + 1, P, p, hp, hpp => by
    have hle := tok_le hp
    unfold lstMore
    split
    · exact eN_e
    · split
      · intro x hx
        cases hx
        exact ⟨by dsimp only; omega, by dsimp only; omega⟩
      · cases h : aLst w P (tok w p) with
        | error q => exact eN_e
        | ok P' => exact eN_more f P' _ (by omega) (by omega)
theorem eN_list {w : List Nat} {P : PS} {p : Nat} (hp : p ≤ w.length) : eN w p (lnList w P p) := by
  have hle := tok_le hp
  unfold lnList
  split
  · exact eN_e
  · cases h : aLst w P (tok w p) with
    | error q => exact eN_e
    | ok P' => exact eN_more _ _ _ (by omega) (by omega)
theorem eN_line {w : List Nat} {P : PS} {T : Tk} (hp : T.2.2.1 ≤ w.length) : eN w T.2.2.1 (lnLine w P T) := by
  unfold lnLine
  split
  · exact eN_law hp
  · split
    · exact eN_fee hp
    · split
      · exact eN_letter hp
      · split
        · exact eN_one hp
        · split
          · exact eN_list hp
          · split
            · exact eN_known hp
            · exact eN_e
def P0 : PS := (((fun l => l + 1, [], 0, 1), [], []), false, false, fun _ => false)
def rnT (w : List Nat) : Nat → PS → Nat → Nat → Except (Nat × Nat) (PS × Nat)
  | 0, P, _, n => .ok (P, n)
  | f + 1, P, p, n => if (tok w p).1 = 4 then .error (1, (tok w p).2.1) else if (tok w p).1 = 0 then .ok (P, n) else match lnLine w P (tok w p) with
    | .error e => .error e
    | .ok x => rnT w f x.1 x.2 (n + 1)
def parse (w : List Nat) : Except (Nat × Nat) (PS × Nat) := match rnT w 320 P0 0 0 with
  | .error e => .error e
  | .ok x => if allL x.1.1 then .ok x else .error (6, w.length)
