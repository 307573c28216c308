
/-! ===== the reference's reader: every line; the text ===== -/
theorem lr_law (w : List Nat) (P : PS) (p : Nat) : LR w (liE w P p 0) (liP w P p 0) (lnLaw w P (tok w p).2.1 (tok w p).2.2.1) := by
  unfold liE liP rmE lnLaw
  rw [if_neg (by omega)]
  cases hb : P.2.1 with
  | true => rw [if_pos (Or.inl ⟨rfl, rfl⟩), if_pos rfl]; exact rfl
  | false =>
    rw [if_neg (fun q => q.elim (fun q => by cases q.2) (fun q => absurd q.1 (by decide))), if_neg (by decide)]
    generalize (tok w p).2.2.1 = nx
    have hnu := nu_st w 0 1 nx
    cases hs : stN w nx with
    | error q =>
      rw [hs] at hnu
      cases hn : tNum w 0 1 nx with
      | error q' =>
        rw [hn] at hnu
        exact hnu.1
      | ok x =>
        exfalso
        unfold stN at hs
        unfold tNum at hn
        split at hs
        · rename_i c; rw [if_pos c] at hn; cases hn
        · cases hs
    | ok p1 =>
      rw [hs] at hnu
      dsimp only
      have hE : moE w (rmP P 0) 0 p1 = nuE w 0 1 (.ok p1) := rfl
      have hP : moP w (rmP P 0) 0 p1 = pLaw P (nuV w 0 1 (.ok p1)) := rfl
      rw [hE, hP, hnu.1, hnu.2]
      cases hn : tNum w 0 1 nx with
      | error q' => exact rfl
      | ok x => exact lr_then w _ _
theorem lr_fee (w : List Nat) (P : PS) (p : Nat) : LR w (liE w P p 1) (liP w P p 1) (lnFee w P (tok w p).2.1 (tok w p).2.2.1) := by
  unfold liE liP rmE lnFee
  rw [if_neg (by omega)]
  cases hb : P.2.2.1 with
  | true => rw [if_pos (Or.inr ⟨rfl, rfl⟩), if_pos rfl]; exact rfl
  | false =>
    rw [if_neg (fun q => q.elim (fun q => absurd q.1 (by decide)) (fun q => by cases q.2)), if_neg (by decide)]
    generalize (tok w p).2.2.1 = nx
    have hnu := nu_st w 1 9 nx
    cases hs : stN w nx with
    | error q =>
      rw [hs] at hnu
      cases hn : tNum w 1 9 nx with
      | error q' =>
        rw [hn] at hnu
        exact hnu.1
      | ok x =>
        exfalso
        unfold stN at hs
        unfold tNum at hn
        split at hs
        · rename_i c; rw [if_pos c] at hn; cases hn
        · cases hs
    | ok p1 =>
      rw [hs] at hnu
      dsimp only
      have hE : moE w (rmP P 1) 1 p1 = nuE w 1 9 (.ok p1) := rfl
      have hP : moP w (rmP P 1) 1 p1 = pFee P (nuV w 1 9 (.ok p1)) := rfl
      rw [hE, hP, hnu.1, hnu.2]
      cases hn : tNum w 1 9 nx with
      | error q' => exact rfl
      | ok x => exact lr_then w _ _
theorem st_4 {w : List Nat} {nx : Nat} {q : Nat × Nat} (h : stN w nx = .error q) : (tok w nx).1 = 4 ∧ q = (1, (tok w nx).2.1) := by
  unfold stN at h
  by_cases c : (tok w nx).1 = 4
  · rw [if_pos c] at h
    cases h
    exact ⟨c, rfl⟩
  · rw [if_neg c] at h; cases h
theorem st_o {w : List Nat} {nx p1 : Nat} (h : stN w nx = .ok p1) : p1 = nx ∧ ¬ (tok w nx).1 = 4 := by
  unfold stN at h
  by_cases c : (tok w nx).1 = 4
  · rw [if_pos c] at h; cases h
  · rw [if_neg c] at h
    cases h
    exact ⟨rfl, c⟩
theorem lr_letter (w : List Nat) (P : PS) (p : Nat) : LR w (liE w P p 2) (liP w P p 2) (lnLetter w P (tok w p).2.2.1) := by
  unfold liE liP rmE lnLetter
  rw [if_neg (by omega), if_neg (by omega)]
  generalize (tok w p).2.2.1 = nx
  cases hs : stN w nx with
  | error q =>
    obtain ⟨c, rfl⟩ := st_4 hs
    have : tWord w 1 nx = .error (1, (tok w nx).2.1) := by unfold tWord; rw [if_pos c]
    rw [this]
    exact rfl
  | ok p1 =>
    obtain ⟨rfl, c⟩ := st_o hs
    dsimp only
    have hE : moE w (rmP P 2) 2 p1 = letE w P p1 := rfl
    have hP : moP w (rmP P 2) 2 p1 = letP w P p1 := rfl
    rw [hE, hP]
    unfold letE letP
    cases ct : tWord w 1 p1 with
    | error q => exact rfl
    | ok x =>
      dsimp only
      cases cb : P.2.2.2 (w.getD x.1 0 - 97) with
      | true => rw [if_pos rfl, if_pos rfl]; exact rfl
      | false =>
        rw [if_neg (by decide), if_neg (by decide), (nu_st w 0 40 x.2).1, (nu_st w 0 40 x.2).2]
        cases hn : tNum w 0 40 x.2 with
        | error q' => exact rfl
        | ok y => exact lr_then w _ _
theorem lr_one (w : List Nat) (P : PS) (p : Nat) (h8 : P.1.1.2.1.length ≤ 8) : LR w (liE w P p 3) (liP w P p 3) (lnOne w P (tok w p).2.1 (tok w p).2.2.1) := by
  unfold liE liP rmE lnOne
  by_cases c8' : P.1.1.2.1.length = 8
  · rw [if_pos (Or.inl ⟨rfl, c8'⟩), if_pos (by omega)]; exact rfl
  · rw [if_neg (by omega), if_neg (by omega), if_neg (by omega)]
    generalize (tok w p).2.2.1 = nx
    cases hs : stN w nx with
    | error q =>
      obtain ⟨c, rfl⟩ := st_4 hs
      have : tKind w nx = .error (1, (tok w nx).2.1) := by unfold tKind; rw [if_pos c]
      rw [this]
      exact rfl
    | ok p1 =>
      obtain ⟨rfl, c⟩ := st_o hs
      dsimp only
      have hE : moE w (rmP P 3) 3 p1 = oneE w p1 := rfl
      have hP : moP w (rmP P 3) 3 p1 = oneP w P p1 := rfl
      rw [hE, hP]
      unfold oneE oneP
      cases ck : tKind w p1 with
      | error q => exact rfl
      | ok x =>
        dsimp only
        unfold on6 onP on5 on4
        rw [lo_st, on_nm]
        cases ct : tWord w 10 x.2 with
        | error q => exact rfl
        | ok y =>
          dsimp only
          rw [(nu_st w 0 99 y.2).1, (nu_st w 0 99 y.2).2]
          cases hn : tNum w 0 99 y.2 with
          | error q' => exact rfl
          | ok z =>
            dsimp only
            rw [(nu_st w 0 99 z.2).1, (nu_st w 0 99 z.2).2]
            cases hn2 : tNum w 0 99 z.2 with
            | error q' => exact rfl
            | ok u => exact lr_then w _ _
theorem lr_list (w : List Nat) (P : PS) (p : Nat) : LR w (liE w P p 4) (liP w P p 4) (lnList w P (tok w p).2.2.1) := by
  unfold liE liP rmE lnList
  rw [if_neg (by omega), if_neg (by omega)]
  generalize (tok w p).2.2.1 = nx
  cases hs : stN w nx with
  | error q =>
    obtain ⟨c, rfl⟩ := st_4 hs
    rw [if_pos c]
    exact rfl
  | ok p1 =>
    obtain ⟨rfl, c⟩ := st_o hs
    rw [if_neg c]
    dsimp only
    have hE : moE w (rmP P 4) 4 p1 = (nmF w P p1).1 := rfl
    have hP : moP w (rmP P 4) 4 p1 = (nmF w P p1).2 := rfl
    rw [hE, hP]
    unfold nmF
    cases ha : aLst w P (tok w p1) with
    | error q => exact rfl
    | ok P' =>
      have hal := aLst_len ha
      exact lr_more w 320 P' _ (by omega) hal.2
theorem lr_known (w : List Nat) (P : PS) (p : Nat) (h6 : P.1.2.2.length ≤ 6) : LR w (liE w P p 5) (liP w P p 5) (lnKnown w P (tok w p).2.1 (tok w p).2.2.1) := by
  unfold liE liP rmE lnKnown
  by_cases c6' : P.1.2.2.length = 6
  · rw [if_pos (Or.inr ⟨rfl, c6'⟩), if_pos (by omega)]; exact rfl
  · rw [if_neg (by omega), if_neg (by omega), if_neg (by omega)]
    generalize (tok w p).2.2.1 = nx
    have hnu := nu_st w 0 5 nx
    cases hs : stN w nx with
    | error q =>
      obtain ⟨c, rfl⟩ := st_4 hs
      have : tNum w 0 5 nx = .error (1, (tok w nx).2.1) := by unfold tNum; rw [if_pos c]
      rw [this]
      exact rfl
    | ok p1 =>
      rw [hs] at hnu
      dsimp only
      have hE : moE w (rmP P 5) 5 p1 = nuE w 0 999 (nuE w 0 5 (.ok p1)) := rfl
      have hP : moP w (rmP P 5) 5 p1 = pKn P (nuV w 0 5 (.ok p1)) (nuV w 0 999 (nuE w 0 5 (.ok p1))) := rfl
      rw [hE, hP, hnu.1, hnu.2]
      cases hn : tNum w 0 5 nx with
      | error q' => exact rfl
      | ok x =>
        dsimp only
        rw [(nu_st w 0 999 x.2).1, (nu_st w 0 999 x.2).2]
        cases hn2 : tNum w 0 999 x.2 with
        | error q' => exact rfl
        | ok y => exact lr_then w _ _
theorem lr_line {w : List Nat} {P : PS} {p i : Nat} (h8 : P.1.1.2.1.length ≤ 8) (h6 : P.1.2.2.length ≤ 6) (hi : i < 6) (hs : sy w (tok w p) i = true) (hu : ∀ j, j < 11 → j ≠ i → sy w (tok w p) j = false) : LR w (liE w P p i) (liP w P p i) (lnLine w P (tok w p)) := by
  unfold lnLine
  rcases (show i = 0 ∨ i = 1 ∨ i = 2 ∨ i = 3 ∨ i = 4 ∨ i = 5 by omega) with rfl | rfl | rfl | rfl | rfl | rfl
  · rw [hs, if_pos rfl]; exact lr_law w P p
  · rw [hu 0 (by decide) (by decide), hs, if_neg (by decide), if_pos rfl]; exact lr_fee w P p
  · rw [hu 0 (by decide) (by decide), hu 1 (by decide) (by decide), hs, if_neg (by decide), if_neg (by decide), if_pos rfl]; exact lr_letter w P p
  · rw [hu 0 (by decide) (by decide), hu 1 (by decide) (by decide), hu 2 (by decide) (by decide), hs, if_neg (by decide), if_neg (by decide), if_neg (by decide), if_pos rfl]; exact lr_one w P p h8
  · rw [hu 0 (by decide) (by decide), hu 1 (by decide) (by decide), hu 2 (by decide) (by decide), hu 3 (by decide) (by decide), hs, if_neg (by decide), if_neg (by decide), if_neg (by decide), if_neg (by decide), if_pos rfl]; exact lr_list w P p
  · rw [hu 0 (by decide) (by decide), hu 1 (by decide) (by decide), hu 2 (by decide) (by decide), hu 3 (by decide) (by decide), hu 4 (by decide) (by decide), hs, if_neg (by decide), if_neg (by decide), if_neg (by decide), if_neg (by decide), if_neg (by decide), if_pos rfl]; exact lr_known w P p h6
theorem q_readLine {w : List Nat} {P : PS} {p : Nat} (h : ab_H) (M : ab_M) (hl : rL h M.2.2) (hw : tp_r M.1 w) (hcn : cn_r M.1) (hv : pv M.1 P) (he : rs2 M.1 w (.ok p)) : pr_X pX11_readLine [.ref 172] h M (fun r M' => r = none ∧ M'.2 = M.2 ∧ lfr M.1 M'.1 ∧ match lnLine w P (tok w p) with
    | .error q => rs2 M'.1 w (.error q)
    | .ok x => rs2 M'.1 w (stN w x.2) ∧ (okE (stN w x.2) = true → pv M'.1 x.1)) := by
  have ok2 : ∀ e : Er, okE e = true → ∃ p, e = .ok p := fun e z => by
    cases e with
    | error q => cases z
    | ok p => exact ⟨p, rfl⟩
  rcases wk_c w (tok w p) with ⟨i, i1, i2, i3, i4⟩ | ⟨i1, i2⟩
  · by_cases c : i < 6
    · have hlr := lr_line (P := P) hv.1.2.1 hv.2.2.1.2.1 c i2 i3
      refine (q_line1 h M hl hw hcn hv he c i4).mono (fun r M' ⟨a1, a2, a3, a4, a5⟩ => ⟨a1, a2, a3, ?_⟩)
      cases hL : lnLine w P (tok w p) with
      | error q =>
        rw [hL] at hlr
        rw [show liE w P p i = .error q from hlr] at a4
        exact a4
      | ok x =>
        rw [hL] at hlr
        obtain ⟨b1, b2⟩ := hlr
        rw [b1] at a4 a5
        exact ⟨a4, fun z => by rw [b2]; exact a5 (ok2 _ z)⟩
    · have hL : lnLine w P (tok w p) = .error (2, (tok w p).2.1) := by
        unfold lnLine
        rw [i3 0 (by decide) (by omega), i3 1 (by decide) (by omega), i3 2 (by decide) (by omega), i3 3 (by decide) (by omega), i3 4 (by decide) (by omega), i3 5 (by decide) (by omega)]
        rfl
      rw [hL]
      refine (q_line0 (P := P) h M hl hw hcn he i4 ?_).mono (fun r M' ⟨a1, a2, a3, a4, a5⟩ => ⟨a1, a2, a3, a4⟩)
      unfold pr_in
      rw [decide_eq_true (show (5 : Int32) < nI i from nI_lt (a := 5) (by omega) (by omega))]
      simp
  · have hL : lnLine w P (tok w p) = .error (2, (tok w p).2.1) := by
      unfold lnLine
      rw [i1 0 (by decide), i1 1 (by decide), i1 2 (by decide), i1 3 (by decide), i1 4 (by decide), i1 5 (by decide)]
      rfl
    rw [hL]
    exact (q_line0 (P := P) h M hl hw hcn he i2 (by decide)).mono (fun r M' ⟨a1, a2, a3, a4, a5⟩ => ⟨a1, a2, a3, a4⟩)
