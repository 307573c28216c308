
/-! ===== the text: what it tells ===== -/
def inR (w : List Nat) (lo hi p : Nat) : Bool := decide (p < w.length) && (decide (lo ≤ w.getD p 0) && decide (w.getD p 0 ≤ hi))
def runE (w : List Nat) (lo hi : Nat) : Nat → Nat → Nat
  | 0, p => p
  | f + 1, p => if inR w lo hi p then runE w lo hi f (p + 1) else p
/-- where a run ends -/
def re (w : List Nat) (lo hi p : Nat) : Nat := runE w lo hi w.length p
theorem runE_le (w : List Nat) (lo hi : Nat) : ∀ f p, p ≤ w.length → p ≤ runE w lo hi f p ∧ runE w lo hi f p ≤ w.length
  | 0, p, h => ⟨Nat.le_refl _, h⟩
  | f + 1, p, h => by
    unfold runE
    by_cases c : inR w lo hi p = true
    · rw [if_pos c]
      have hp : p < w.length := by
        unfold inR at c
        rw [Bool.and_eq_true] at c
        exact of_decide_eq_true c.1
      have := runE_le w lo hi f (p + 1) hp
      omega
    · rw [if_neg c]; omega
theorem re_le {w : List Nat} {lo hi p : Nat} (h : p ≤ w.length) : p ≤ re w lo hi p ∧ re w lo hi p ≤ w.length := runE_le w lo hi _ p h
theorem runE_in (w : List Nat) (lo hi : Nat) : ∀ f p q, p ≤ q → q < runE w lo hi f p → inR w lo hi q = true
  | 0, p, q, h1, h2 => by unfold runE at h2; omega
  | f + 1, p, q, h1, h2 => by
    unfold runE at h2
    by_cases c : inR w lo hi p = true
    · rw [if_pos c] at h2
      by_cases e : q = p
      · subst e; exact c
      · exact runE_in w lo hi f (p + 1) q (by omega) h2
    · rw [if_neg c] at h2; omega
theorem inR_iff {w : List Nat} {lo hi p : Nat} : inR w lo hi p = true ↔ p < w.length ∧ lo ≤ w.getD p 0 ∧ w.getD p 0 ≤ hi := by
  unfold inR
  rw [Bool.and_eq_true, Bool.and_eq_true]
  simp only [decide_eq_true_eq]
theorem runE_end (w : List Nat) (lo hi : Nat) : ∀ f p, w.length ≤ p + f → inR w lo hi (runE w lo hi f p) = false
  | 0, p, h => by
    unfold runE
    cases c : inR w lo hi p with
    | false => rfl
    | true => have := (inR_iff.mp c).1; omega
  | f + 1, p, h => by
    unfold runE
    by_cases c : inR w lo hi p = true
    · rw [if_pos c]; exact runE_end w lo hi f (p + 1) (by omega)
    · rw [if_neg c]; simpa using c
def num (w : List Nat) (s : Nat) : Nat → Nat
  | 0 => 0
  | k + 1 => 10 * num w s k + w.getD (s + k) 0 - 48
/-- the token from p on: 0 the end, 1 a word, 2 a number, 3 a semicolon, 4 none; from where, to where, the number -/
def tok (w : List Nat) (p : Nat) : Nat × Nat × Nat × Nat := if w.length ≤ re w 32 32 p then (0, re w 32 32 p, re w 32 32 p, 0) else if w.getD (re w 32 32 p) 0 = 59 then (3, re w 32 32 p, re w 32 32 p + 1, 0) else if 97 ≤ w.getD (re w 32 32 p) 0 ∧ w.getD (re w 32 32 p) 0 ≤ 122 then (1, re w 32 32 p, re w 97 122 (re w 32 32 p), 0) else if 48 ≤ w.getD (re w 32 32 p) 0 ∧ w.getD (re w 32 32 p) 0 ≤ 57 then (if re w 48 57 (re w 32 32 p) - re w 32 32 p ≤ 3 then (2, re w 32 32 p, re w 48 57 (re w 32 32 p), num w (re w 32 32 p) (re w 48 57 (re w 32 32 p) - re w 32 32 p)) else (4, re w 32 32 p, re w 48 57 (re w 32 32 p), 0)) else (4, re w 32 32 p, re w 32 32 p, 0)
theorem num_lt {w : List Nat} {s : Nat} : ∀ k, (∀ i, i < k → w.getD (s + i) 0 ≤ 57) → num w s k < 10 ^ k
  | 0, _ => by show 0 < 1; decide
  | k + 1, h => by
    have h1 := num_lt (w := w) (s := s) k (fun i hi => h i (by omega))
    have h2 := h k (by omega)
    show 10 * num w s k + w.getD (s + k) 0 - 48 < 10 ^ (k + 1)
    rw [Nat.pow_succ]
    omega
theorem tok_le {w : List Nat} {p : Nat} (hp : p ≤ w.length) : p ≤ (tok w p).2.1 ∧ (tok w p).2.1 ≤ (tok w p).2.2.1 ∧ (tok w p).2.2.1 ≤ w.length ∧ (tok w p).1 ≤ 4 := by
  have h1 := re_le (lo := 32) (hi := 32) hp
  have h2 := re_le (lo := 97) (hi := 122) h1.2
  have h3 := re_le (lo := 48) (hi := 57) h1.2
  unfold tok
  split
  · dsimp only; omega
  · split
    · dsimp only; omega
    · split
      · dsimp only; omega
      · split
        · split <;> (dsimp only; omega)
        · dsimp only; omega
def tNum (w : List Nat) (lo hi p : Nat) : Except (Nat × Nat) (Nat × Nat) := if (tok w p).1 = 4 then .error (1, (tok w p).2.1) else if (tok w p).1 = 2 then (if lo ≤ (tok w p).2.2.2 ∧ (tok w p).2.2.2 ≤ hi then .ok ((tok w p).2.2.2, (tok w p).2.2.1) else .error (3, (tok w p).2.1)) else .error (2, (tok w p).2.1)
def tWord (w : List Nat) (mx p : Nat) : Except (Nat × Nat) (Nat × Nat) := if (tok w p).1 = 4 then .error (1, (tok w p).2.1) else if (tok w p).1 = 1 then (if (tok w p).2.2.1 - (tok w p).2.1 ≤ mx then .ok ((tok w p).2.1, (tok w p).2.2.1) else .error (3, (tok w p).2.1)) else .error (2, (tok w p).2.1)
def tSemi (w : List Nat) (p : Nat) : Except (Nat × Nat) Nat := if (tok w p).1 = 4 then .error (1, (tok w p).2.1) else if (tok w p).1 = 3 then .ok (tok w p).2.2.1 else .error (2, (tok w p).2.1)
theorem num_le999 {w : List Nat} {p : Nat} (hp : p ≤ w.length) (h : (tok w p).1 = 2) : (tok w p).2.2.2 < 1000 := by
  have h1 := re_le (lo := 32) (hi := 32) hp
  unfold tok at h ⊢
  split at h
  · cases h
  · rw [if_neg (by assumption)]
    split at h
    · cases h
    · rw [if_neg (by assumption)]
      split at h
      · cases h
      · rw [if_neg (by assumption)]
        split at h
        · rw [if_pos (by assumption)]
          split at h
          · rename_i c4
            rw [if_pos c4]
            dsimp only
            have := num_lt (w := w) (s := re w 32 32 p) (re w 48 57 (re w 32 32 p) - re w 32 32 p) (fun i hi => (inR_iff.mp (runE_in w 48 57 w.length (re w 32 32 p) (re w 32 32 p + i) (by omega) (by show _ < re w 48 57 (re w 32 32 p); omega))).2.2)
            have h3 : 10 ^ (re w 48 57 (re w 32 32 p) - re w 32 32 p) ≤ 10 ^ 3 := Nat.pow_le_pow_right (by decide) c4
            omega
          · cases h
        · cases h
def kws : List (List Nat) := [[108, 97, 119], [102, 101, 101], [108, 101, 116, 116, 101, 114], [111, 110, 101], [108, 105, 115, 116], [107, 110, 111, 119, 110], [112, 108, 97, 105, 110], [100, 101, 97, 100], [102, 111, 114, 101, 105, 103, 110], [109, 117, 116, 101], [116, 119, 105, 110]]
abbrev kwd (k : Nat) : List Nat := kws.getD k []
abbrev Tk : Type := Nat × Nat × Nat × Nat
/-- the token is the word k -/
def sy (w : List Nat) (T : Tk) (k : Nat) : Bool := decide (T.1 = 1) && (decide (T.2.2.1 - T.2.1 = (kwd k).length) && nb (fun i => !decide (w.getD (T.2.1 + i) 0 = (kwd k).getD i 0)) (kwd k).length)
def ltrs (w : List Nat) (s m : Nat) : List Nat := (List.range m).map (fun i => w.getD (s + i) 0 - 97)
theorem ltrs_len (w : List Nat) (s m : Nat) : (ltrs w s m).length = m := by unfold ltrs; rw [List.length_map, List.length_range]
theorem ltrs_s (w : List Nat) (s m : Nat) : ltrs w s (m + 1) = ltrs w s m ++ [w.getD (s + m) 0 - 97] := by
  unfold ltrs
  rw [List.range_succ, List.map_append]
  rfl
abbrev PS : Type := Tl × Bool × Bool × (Nat → Bool)
def okB {α : Type} : Except (Nat × Nat) α → Bool
  | .ok _ => true
  | .error _ => false
theorem tNum_ok {w : List Nat} {lo hi p v nx : Nat} (hp : p ≤ w.length) (h : tNum w lo hi p = .ok (v, nx)) : lo ≤ v ∧ v ≤ hi ∧ v < 1000 ∧ p ≤ nx ∧ nx ≤ w.length := by
  have hle := tok_le hp
  unfold tNum at h
  split at h
  · cases h
  · split at h
    · rename_i c2
      have := num_le999 hp c2
      split at h
      · rename_i c
        cases h
        omega
      · cases h
    · cases h
theorem tSemi_ok {w : List Nat} {p nx : Nat} (hp : p ≤ w.length) (h : tSemi w p = .ok nx) : p ≤ nx ∧ nx ≤ w.length := by
  have hle := tok_le hp
  unfold tSemi at h
  split at h
  · cases h
  · split at h
    · cases h; omega
    · cases h
theorem tok_word {w : List Nat} {p : Nat} (hp : p ≤ w.length) (h : (tok w p).1 = 1) : ∀ i, (tok w p).2.1 ≤ i → i < (tok w p).2.2.1 → 97 ≤ w.getD i 0 ∧ w.getD i 0 ≤ 122 := by
  have h1 := re_le (lo := 32) (hi := 32) hp
  unfold tok at h ⊢
  split at h
  · cases h
  · rw [if_neg (by assumption)]
    split at h
    · cases h
    · rw [if_neg (by assumption)]
      split at h
      · rw [if_pos (by assumption)]
        intro i a b
        exact (inR_iff.mp (runE_in w 97 122 w.length _ i a b)).2
      · rw [if_neg (by assumption)]
        split at h
        · split at h
          · cases h
          · cases h
        · cases h
theorem tWord_ok {w : List Nat} {mx p s e : Nat} (hp : p ≤ w.length) (h : tWord w mx p = .ok (s, e)) : e - s ≤ mx ∧ p ≤ s ∧ s ≤ e ∧ e ≤ w.length ∧ ∀ i, s ≤ i → i < e → 97 ≤ w.getD i 0 ∧ w.getD i 0 ≤ 122 := by
  have hle := tok_le hp
  unfold tWord at h
  split at h
  · cases h
  · split at h
    · rename_i c1
      have hw := tok_word hp c1
      split at h
      · cases h
        exact ⟨by assumption, hle.1, hle.2.1, hle.2.2.1, hw⟩
      · cases h
    · cases h
def thenSemi (w : List Nat) (P : PS) (p : Nat) : Except (Nat × Nat) (PS × Nat) := match tSemi w p with
  | .error e => .error e
  | .ok q => .ok (P, q)
def pLaw (P : PS) (v : Nat) : PS := (((P.1.1.1, P.1.1.2.1, v, P.1.1.2.2.2), P.1.2), true, P.2.2)
def lnLaw (w : List Nat) (P : PS) (s p : Nat) : Except (Nat × Nat) (PS × Nat) := if P.2.1 then .error (4, s) else match tNum w 0 1 p with
  | .error e => .error e
  | .ok x => thenSemi w (pLaw P x.1) x.2
def pFee (P : PS) (v : Nat) : PS := (((P.1.1.1, P.1.1.2.1, P.1.1.2.2.1, v), P.1.2), P.2.1, true, P.2.2.2)
def lnFee (w : List Nat) (P : PS) (s p : Nat) : Except (Nat × Nat) (PS × Nat) := if P.2.2.1 then .error (4, s) else match tNum w 1 9 p with
  | .error e => .error e
  | .ok x => thenSemi w (pFee P x.1) x.2
theorem tok_wpos {w : List Nat} {p : Nat} (hp : p ≤ w.length) (h : (tok w p).1 = 1) : (tok w p).2.1 < (tok w p).2.2.1 := by
  unfold tok at h ⊢
  split at h
  · cases h
  · rename_i c0
    rw [if_neg c0]
    split at h
    · cases h
    · rename_i c1
      rw [if_neg c1]
      split at h
      · rename_i c2
        rw [if_pos c2]
        dsimp only
        have hin : inR w 97 122 (re w 32 32 p) = true := inR_iff.mpr ⟨by omega, c2⟩
        have : ∀ f, 1 ≤ f → re w 32 32 p + 1 ≤ runE w 97 122 f (re w 32 32 p) := by
          intro f hf
          obtain ⟨g, rfl⟩ : ∃ g, f = g + 1 := ⟨f - 1, by omega⟩
          unfold runE
          rw [if_pos hin]
          exact (runE_le w 97 122 g (re w 32 32 p + 1) (by omega)).1
        exact this w.length (by omega)
      · split at h
        · split at h
          · cases h
          · cases h
        · cases h
theorem tWord_pos {w : List Nat} {mx p s e : Nat} (hp : p ≤ w.length) (h : tWord w mx p = .ok (s, e)) : s < e := by
  unfold tWord at h
  split at h
  · cases h
  · split at h
    · rename_i c1
      split at h
      · cases h
        exact tok_wpos hp c1
      · cases h
    · cases h
def pLet (P : PS) (l v : Nat) : PS := (((va_up P.1.1.1 l v, P.1.1.2), P.1.2), P.2.1, P.2.2.1, va_up P.2.2.2 l true)
def lnLetter (w : List Nat) (P : PS) (p : Nat) : Except (Nat × Nat) (PS × Nat) := match tWord w 1 p with
  | .error e => .error e
  | .ok x => if P.2.2.2 (w.getD x.1 0 - 97) then .error (4, x.1) else match tNum w 0 40 x.2 with
    | .error e => .error e
    | .ok y => thenSemi w (pLet P (w.getD x.1 0 - 97) y.1) y.2
def pKn (P : PS) (n v : Nat) : PS := ((P.1.1, P.1.2.1, P.1.2.2 ++ [(n, v)]), P.2)
def lnKnown (w : List Nat) (P : PS) (s p : Nat) : Except (Nat × Nat) (PS × Nat) := if 6 ≤ P.1.2.2.length then .error (5, s) else match tNum w 0 5 p with
  | .error e => .error e
  | .ok x => match tNum w 0 999 x.2 with
    | .error e => .error e
    | .ok y => thenSemi w (pKn P x.1 y.1) y.2
def tKind (w : List Nat) (p : Nat) : Except (Nat × Nat) (Nat × Nat) := if (tok w p).1 = 4 then .error (1, (tok w p).2.1) else if sy w (tok w p) 6 then .ok (0, (tok w p).2.2.1) else if sy w (tok w p) 7 then .ok (1, (tok w p).2.2.1) else if sy w (tok w p) 8 then .ok (2, (tok w p).2.2.1) else if sy w (tok w p) 9 then .ok (3, (tok w p).2.2.1) else if sy w (tok w p) 10 then .ok (4, (tok w p).2.2.1) else .error (2, (tok w p).2.1)
def pOne (P : PS) (k d m : Nat) (nm : List Nat) : PS := (((P.1.1.1, P.1.1.2.1 ++ [(k, d, m, nm)], P.1.1.2.2), P.1.2), P.2)
def lnOne (w : List Nat) (P : PS) (s p : Nat) : Except (Nat × Nat) (PS × Nat) := if 8 ≤ P.1.1.2.1.length then .error (5, s) else match tKind w p with
  | .error e => .error e
  | .ok x => match tWord w 10 x.2 with
    | .error e => .error e
    | .ok y => match tNum w 0 99 y.2 with
      | .error e => .error e
      | .ok z => match tNum w 0 99 z.2 with
        | .error e => .error e
        | .ok u => thenSemi w (pOne P x.1 z.1 u.1 (ltrs w y.1 (y.2 - y.1))) u.2
theorem tKind_ok {w : List Nat} {p k e : Nat} (hp : p ≤ w.length) (h : tKind w p = .ok (k, e)) : k ≤ 4 ∧ p ≤ e ∧ e ≤ w.length := by
  have hle := tok_le hp
  unfold tKind at h
  split at h
  · cases h
  · split at h
    · cases h; omega
    · split at h
      · cases h; omega
      · split at h
        · cases h; omega
        · split at h
          · cases h; omega
          · split at h
            · cases h; omega
            · cases h
def pLst (P : PS) (nm : List Nat) : PS := ((P.1.1, P.1.2.1 ++ [nm], P.1.2.2), P.2)
def aLst (w : List Nat) (P : PS) (T : Tk) : Except (Nat × Nat) PS := if T.1 = 1 then (if 6 ≤ P.1.2.1.length then .error (5, T.2.1) else if T.2.2.1 - T.2.1 ≤ 10 then .ok (pLst P (ltrs w T.2.1 (T.2.2.1 - T.2.1))) else .error (3, T.2.1)) else .error (2, T.2.1)
def lstMore (w : List Nat) : Nat → PS → Nat → Except (Nat × Nat) (PS × Nat)
  | 0, _, _ => .error (2, 0)
  | f + 1, P, p => if (tok w p).1 = 4 then .error (1, (tok w p).2.1) else if (tok w p).1 = 3 then .ok (P, (tok w p).2.2.1) else match aLst w P (tok w p) with
    | .error e => .error e
    | .ok P' => lstMore w f P' (tok w p).2.2.1
def lnList (w : List Nat) (P : PS) (p : Nat) : Except (Nat × Nat) (PS × Nat) := if (tok w p).1 = 4 then .error (1, (tok w p).2.1) else match aLst w P (tok w p) with
  | .error e => .error e
  | .ok P' => lstMore w 320 P' (tok w p).2.2.1
theorem aLst_len {w : List Nat} {P P' : PS} {T : Tk} (h : aLst w P T = .ok P') : P'.1.2.1.length = P.1.2.1.length + 1 ∧ P'.1.2.1.length ≤ 6 := by
  unfold aLst at h
  split at h
  · split at h
    · cases h
    · rename_i c6
      split at h
      · cases h
        show (P.1.2.1 ++ [_]).length = _ ∧ (P.1.2.1 ++ [_]).length ≤ 6
        rw [List.length_append]
        show P.1.2.1.length + 1 = _ ∧ P.1.2.1.length + 1 ≤ 6
        omega
      · cases h
  · cases h
def lnLine (w : List Nat) (P : PS) (T : Tk) : Except (Nat × Nat) (PS × Nat) := if sy w T 0 then lnLaw w P T.2.1 T.2.2.1 else if sy w T 1 then lnFee w P T.2.1 T.2.2.1 else if sy w T 2 then lnLetter w P T.2.2.1 else if sy w T 3 then lnOne w P T.2.1 T.2.2.1 else if sy w T 4 then lnList w P T.2.2.1 else if sy w T 5 then lnKnown w P T.2.1 T.2.2.1 else .error (2, T.2.1)
/-- all that is known speaks of names that are listed -/
def allL (T : Tl) : Bool := nb (fun i => !decide ((T.2.2.getD i (0, 0)).1 < T.2.1.length)) T.2.2.length
def eK {α : Type} (e : Except (Nat × Nat) α) : Prop := ∀ q, e = .error q → 1 ≤ q.1 ∧ q.1 ≤ 6
theorem eK_o {α : Type} (a : α) : eK (.ok a : Except (Nat × Nat) α) := fun q h => by cases h
theorem eK_e {α : Type} {c s : Nat} (h : 1 ≤ c ∧ c ≤ 6) : eK (.error (c, s) : Except (Nat × Nat) α) := fun q e => by cases e; exact h
theorem eK_p {α β : Type} {e : Except (Nat × Nat) α} {q : Nat × Nat} (h : eK e) (he : e = .error q) : eK (.error q : Except (Nat × Nat) β) := fun q' e' => by cases e'; exact h q he
theorem eK_num (w : List Nat) (lo hi p : Nat) : eK (tNum w lo hi p) := by
  unfold tNum
  split
  · exact eK_e (by decide)
  · split
    · split
      · exact eK_o _
      · exact eK_e (by decide)
    · exact eK_e (by decide)
theorem eK_word (w : List Nat) (m p : Nat) : eK (tWord w m p) := by
  unfold tWord
  split
  · exact eK_e (by decide)
  · split
    · split
      · exact eK_o _
      · exact eK_e (by decide)
    · exact eK_e (by decide)
theorem eK_semi (w : List Nat) (p : Nat) : eK (tSemi w p) := by
  unfold tSemi
  split
  · exact eK_e (by decide)
  · split
    · exact eK_o _
    · exact eK_e (by decide)
theorem eK_kind (w : List Nat) (p : Nat) : eK (tKind w p) := by
  unfold tKind
  repeat' split
  all_goals first | exact eK_o _ | exact eK_e (by decide)
theorem eK_then (w : List Nat) (P : PS) (p : Nat) : eK (thenSemi w P p) := by
  unfold thenSemi
  have := eK_semi w p
  cases h : tSemi w p with
  | error q => exact eK_p this h
  | ok x => exact eK_o _
theorem eK_law (w : List Nat) (P : PS) (s p : Nat) : eK (lnLaw w P s p) := by
  unfold lnLaw
  split
  · exact eK_e (by decide)
  · have := eK_num w 0 1 p
    cases h : tNum w 0 1 p with
    | error q => exact eK_p this h
    | ok x => exact eK_then _ _ _
theorem eK_fee (w : List Nat) (P : PS) (s p : Nat) : eK (lnFee w P s p) := by
  unfold lnFee
  split
  · exact eK_e (by decide)
  · have := eK_num w 1 9 p
    cases h : tNum w 1 9 p with
    | error q => exact eK_p this h
    | ok x => exact eK_then _ _ _
theorem eK_letter (w : List Nat) (P : PS) (p : Nat) : eK (lnLetter w P p) := by
  unfold lnLetter
  have := eK_word w 1 p
  cases h : tWord w 1 p with
  | error q => exact eK_p this h
  | ok x =>
    dsimp only
    split
    · exact eK_e (by decide)
    · have := eK_num w 0 40 x.2
      cases h : tNum w 0 40 x.2 with
      | error q => exact eK_p this h
      | ok y => exact eK_then _ _ _
theorem eK_known (w : List Nat) (P : PS) (s p : Nat) : eK (lnKnown w P s p) := by
  unfold lnKnown
  split
  · exact eK_e (by decide)
  · have := eK_num w 0 5 p
    cases h : tNum w 0 5 p with
    | error q => exact eK_p this h
    | ok x =>
      dsimp only
      have := eK_num w 0 999 x.2
      cases h : tNum w 0 999 x.2 with
      | error q => exact eK_p this h
      | ok y => exact eK_then _ _ _
theorem eK_one (w : List Nat) (P : PS) (s p : Nat) : eK (lnOne w P s p) := by
  unfold lnOne
  split
  · exact eK_e (by decide)
  · have := eK_kind w p
    cases h : tKind w p with
    | error q => exact eK_p this h
    | ok x =>
      dsimp only
      have := eK_word w 10 x.2
      cases h : tWord w 10 x.2 with
      | error q => exact eK_p this h
      | ok y =>
        dsimp only
        have := eK_num w 0 99 y.2
        cases h : tNum w 0 99 y.2 with
        | error q => exact eK_p this h
        | ok z =>
          dsimp only
          have := eK_num w 0 99 z.2
          cases h : tNum w 0 99 z.2 with
          | error q => exact eK_p this h
          | ok u => exact eK_then _ _ _
theorem eK_aLst (w : List Nat) (P : PS) (T : Tk) : eK (aLst w P T) := by
  unfold aLst
  split
  · split
    · exact eK_e (by decide)
    · split
      · exact eK_o _
      · exact eK_e (by decide)
  · exact eK_e (by decide)
theorem eK_more (w : List Nat) : ∀ f P p, eK (lstMore w f P p)
  | 0, P, p => by unfold lstMore; exact eK_e (by decide)
  | f + 1, P, p => by
    unfold lstMore
    split
    · exact eK_e (by decide)
    · split
      · exact eK_o _
      · have := eK_aLst w P (tok w p)
        cases h : aLst w P (tok w p) with
        | error q => exact eK_p this h
        | ok P' => exact eK_more w f _ _
theorem eK_list (w : List Nat) (P : PS) (p : Nat) : eK (lnList w P p) := by
  unfold lnList
  split
  · exact eK_e (by decide)
  · have := eK_aLst w P (tok w p)
    cases h : aLst w P (tok w p) with
    | error q => exact eK_p this h
    | ok P' => exact eK_more w _ _ _
theorem eK_line (w : List Nat) (P : PS) (T : Tk) : eK (lnLine w P T) := by
  unfold lnLine
  split
  · exact eK_law _ _ _ _
  · split
    · exact eK_fee _ _ _ _
    · split
      · exact eK_letter _ _ _
      · split
        · exact eK_one _ _ _ _
        · split
          · exact eK_list _ _ _
          · split
            · exact eK_known _ _ _ _
            · exact eK_e (by decide)
/-- where a line ends -/
def eN (w : List Nat) (p : Nat) (e : Except (Nat × Nat) (PS × Nat)) : Prop := ∀ x, e = .ok x → p ≤ x.2 ∧ x.2 ≤ w.length
theorem eN_e {w : List Nat} {p : Nat} {q : Nat × Nat} : eN w p (.error q) := fun x h => by cases h
theorem eN_then {w : List Nat} {P : PS} {p p' : Nat} (hp : p ≤ w.length) (hpp : p' ≤ p) : eN w p' (thenSemi w P p) := by
  unfold thenSemi
  cases h : tSemi w p with
  | error q => exact eN_e
  | ok x =>
    intro y hy
    cases hy
    have := tSemi_ok hp h
    exact ⟨by dsimp only; omega, this.2⟩
theorem eN_law {w : List Nat} {P : PS} {s p : Nat} (hp : p ≤ w.length) : eN w p (lnLaw w P s p) := by
  unfold lnLaw
  split
  · exact eN_e
  · cases h : tNum w 0 1 p with
    | error q => exact eN_e
    | ok x => have := tNum_ok (v := x.1) (nx := x.2) hp h; exact eN_then (by omega) (by omega)
theorem eN_fee {w : List Nat} {P : PS} {s p : Nat} (hp : p ≤ w.length) : eN w p (lnFee w P s p) := by
  unfold lnFee
  split
  · exact eN_e
  · cases h : tNum w 1 9 p with
    | error q => exact eN_e
    | ok x => have := tNum_ok (v := x.1) (nx := x.2) hp h; exact eN_then (by omega) (by omega)
theorem eN_letter {w : List Nat} {P : PS} {p : Nat} (hp : p ≤ w.length) : eN w p (lnLetter w P p) := by
  unfold lnLetter
  cases h : tWord w 1 p with
  | error q => exact eN_e
  | ok x =>
    have h1 := tWord_ok (s := x.1) (e := x.2) hp h
    dsimp only
    split
    · exact eN_e
    · cases h : tNum w 0 40 x.2 with
      | error q => exact eN_e
      | ok y => have := tNum_ok (v := y.1) (nx := y.2) (show x.2 ≤ w.length by omega) h; exact eN_then (by omega) (by omega)
theorem eN_known {w : List Nat} {P : PS} {s p : Nat} (hp : p ≤ w.length) : eN w p (lnKnown w P s p) := by
  unfold lnKnown
  split
  · exact eN_e
  · cases h : tNum w 0 5 p with
    | error q => exact eN_e
    | ok x =>
      have h1 := tNum_ok (v := x.1) (nx := x.2) hp h
      dsimp only
      cases h : tNum w 0 999 x.2 with
      | error q => exact eN_e
      | ok y => have := tNum_ok (v := y.1) (nx := y.2) (show x.2 ≤ w.length by omega) h; exact eN_then (by omega) (by omega)
theorem eN_one {w : List Nat} {P : PS} {s p : Nat} (hp : p ≤ w.length) : eN w p (lnOne w P s p) := by
  unfold lnOne
  split
  · exact eN_e
  · cases h : tKind w p with
    | error q => exact eN_e
    | ok x =>
      have h1 := tKind_ok (k := x.1) (e := x.2) hp h
      dsimp only
      cases h : tWord w 10 x.2 with
      | error q => exact eN_e
      | ok y =>
        have h2 := tWord_ok (s := y.1) (e := y.2) (show x.2 ≤ w.length by omega) h
        dsimp only
        cases h : tNum w 0 99 y.2 with
        | error q => exact eN_e
        | ok z =>
          have h3 := tNum_ok (v := z.1) (nx := z.2) (show y.2 ≤ w.length by omega) h
          dsimp only
          cases h : tNum w 0 99 z.2 with
          | error q => exact eN_e
          | ok u => have h4 := tNum_ok (v := u.1) (nx := u.2) (show z.2 ≤ w.length by omega) h; exact eN_then (by omega) (by omega)
theorem eN_more {w : List Nat} {p' : Nat} : ∀ f P p, p ≤ w.length → p' ≤ p → eN w p' (lstMore w f P p)
  | 0, P, p, _, _ => by unfold lstMore; exact eN_e
  | f + 1, P, p, hp, hpp => by
    have hle := tok_le hp
    unfold lstMore
    split
    · exact eN_e
    · split
      · intro x hx
        cases hx
        exact ⟨by dsimp only; omega, by dsimp only; omega⟩
      · cases h : aLst w P (tok w p) with
        | error q => exact eN_e
        | ok P' => exact eN_more f P' _ (by omega) (by omega)
theorem eN_list {w : List Nat} {P : PS} {p : Nat} (hp : p ≤ w.length) : eN w p (lnList w P p) := by
  have hle := tok_le hp
  unfold lnList
  split
  · exact eN_e
  · cases h : aLst w P (tok w p) with
    | error q => exact eN_e
    | ok P' => exact eN_more _ _ _ (by omega) (by omega)
theorem eN_line {w : List Nat} {P : PS} {T : Tk} (hp : T.2.2.1 ≤ w.length) : eN w T.2.2.1 (lnLine w P T) := by
  unfold lnLine
  split
  · exact eN_law hp
  · split
    · exact eN_fee hp
    · split
      · exact eN_letter hp
      · split
        · exact eN_one hp
        · split
          · exact eN_list hp
          · split
            · exact eN_known hp
            · exact eN_e
def P0 : PS := (((fun l => l + 1, [], 0, 1), [], []), false, false, fun _ => false)
def rnT (w : List Nat) : Nat → PS → Nat → Nat → Except (Nat × Nat) (PS × Nat)
  | 0, P, _, n => .ok (P, n)
  | f + 1, P, p, n => if (tok w p).1 = 4 then .error (1, (tok w p).2.1) else if (tok w p).1 = 0 then .ok (P, n) else match lnLine w P (tok w p) with
    | .error e => .error e
    | .ok x => rnT w f x.1 x.2 (n + 1)
def parse (w : List Nat) : Except (Nat × Nat) (PS × Nat) := match rnT w 320 P0 0 0 with
  | .error e => .error e
  | .ok x => if allL x.1.1 then .ok x else .error (6, w.length)
