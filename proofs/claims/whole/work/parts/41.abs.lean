
/-! ===== the operations as functions of the state; how a changed cell changes it ===== -/
abbrev ixb (x : Int32) (m : Nat) : Bool := !decide (x < 0) && !decide (nI m ≤ x)
theorem pr_rg (x hi : Int32) (m : Nat) (hhi : hi = nI m) (hm : m ≤ 1000000) : pr_in x 0 hi = false ∨ ∃ j, j ≤ m ∧ x = nI j ∧ pr_in x 0 hi = true := by
  subst hhi
  unfold pr_in
  by_cases h0 : x < 0
  · left; rw [decide_eq_true h0]; rfl
  · obtain ⟨j, hj, rfl⟩ := nI_of h0
    by_cases h1 : nI m < nI j
    · left; rw [decide_eq_true h1]; simp
    · right
      have h2 : ¬ m < j := fun q => h1 ((nI_ltI (by omega) (by omega)).mpr q)
      exact ⟨j, by omega, rfl, by rw [decide_eq_false h0, decide_eq_false h1]; rfl⟩
theorem pr_rg1 (x hi : Int32) (m : Nat) (hhi : hi = nI m) (hm : m ≤ 1000000) : pr_in x 1 hi = false ∨ ∃ j, 1 ≤ j ∧ j ≤ m ∧ x = nI j ∧ pr_in x 1 hi = true := by
  subst hhi
  unfold pr_in
  by_cases h0 : x < 1
  · left; rw [decide_eq_true h0]; rfl
  · have h0' : ¬ x < 0 := fun q => h0 (Int32.lt_iff_toInt_lt.mpr (Int.lt_of_lt_of_le (Int32.lt_iff_toInt_lt.mp q) (by decide)))
    obtain ⟨j, hj, rfl⟩ := nI_of h0'
    have hj1 : 1 ≤ j := by
      rcases Nat.eq_zero_or_pos j with rfl | hp
      · exact absurd (by decide) h0
      · exact hp
    by_cases h1 : nI m < nI j
    · left; rw [decide_eq_true h1]; simp
    · right
      have h2 : ¬ m < j := fun q => h1 ((nI_ltI (by omega) (by omega)).mpr q)
      exact ⟨j, hj1, by omega, rfl, by rw [decide_eq_false h0, decide_eq_false h1]; rfl⟩
theorem ts_out (x : Int32) (k : Nat) (hk : k ≤ 1000000) (h : ∀ j, j ≤ k → x ≠ nI j) : x.toInt < (0 : Int) ∨ (k : Int) < x.toInt := by
  by_cases h0 : x < 0
  · left; exact Int32.lt_iff_toInt_lt.mp h0
  · right
    obtain ⟨j, hj, rfl⟩ := nI_of h0
    rw [nI_toInt hj]
    by_cases h1 : j ≤ k
    · exact absurd rfl (h j h1)
    · omega
section PRL
variable {i : ab_I} {pc ex ln g : Nat} {L : ab_Ls} {t : List Value} {h h' : ab_H} {M M' : ab_M} {r : Option Value} {Q : Option Value → ab_M → Prop}
theorem pr_ls {d : Int} {ps : Array (Int × Int)} {x : Int32} (hk : ab_lk (ab_It i) pc = some (.lookupswitch d ps, ln, ex)) (ha : (ps.toList.zip (ps.toList.drop 1)).all (fun (a, next) => a.1 < next.1) = true) (hg : (pc : Int) + Op.lookupswitch.offset ps.toList d x.toInt = (g : Int)) (H : pr_E i g L t h M r h' M') : pr_E i pc L (.int x :: t) h M r h' M' := by
  obtain ⟨f, hf⟩ := H
  refine ⟨f + 1, ?_⟩
  unfold ab_ev
  rw [hk]
  exact ⟨g, ha, hg, hf⟩
theorem pr_lsT {d : Int} {ps : Array (Int × Int)} {x : Int32} (hk : ab_lk (ab_It i) pc = some (.lookupswitch d ps, ln, ex)) (ha : (ps.toList.zip (ps.toList.drop 1)).all (fun (a, next) => a.1 < next.1) = true) (hg : (pc : Int) + Op.lookupswitch.offset ps.toList d x.toInt = (g : Int)) (H : pr_T i g L t h M Q) : pr_T i pc L (.int x :: t) h M Q := by
  obtain ⟨r, M', h1, h2⟩ := H
  exact ⟨r, M', pr_ls hk ha hg h1, h2⟩
end PRL
/-- the post of an operation of the class -/
def cp (h : ab_H) (M : ab_M) (A : Int32 × St) (r : Option Value) (M' : ab_M) : Prop := r = some (.int A.1) ∧ ∃ b, Lay h M'.2.2 b ∧ cl_v M'.1 b A.2 ∧ ∀ a, 172 ≤ a → M'.1 a = M.1 a ∧ M'.2.2 a = M.2.2 a
theorem cp_q {h : ab_H} {M M' : ab_M} {b : Bool} {X : St} {v : Int32} (hl : Lay h M.2.2 b) (hv : cl_v M.1 b X) (h1 : M'.2.2 = M.2.2) (h2 : cl_same M.1 M'.1) : cp h M (v, X) (some (.int v)) M' := by
  refine ⟨rfl, b, by rw [h1]; exact hl, cl_v_same h2 hv, fun a ha => ⟨h2 a (by omega), by rw [h1]⟩⟩
theorem cp_s {h : ab_H} {M : ab_M} {b : Bool} {X : St} {v : Int32} (hl : Lay h M.2.2 b) (hv : cl_v M.1 b X) : cp h M (v, X) (some (.int v)) M := cp_q hl hv rfl (fun _ _ => rfl)
theorem cp_I {h : ab_H} {M : ab_M} {b : Bool} {X : St} {v : Int32} {I : Nat → Nat → Int32} {J : Nat → Nat → Int64} (hl : Lay h M.2.2 b) (hv : cl_v I b X) (hf : ∀ a, 172 ≤ a → I a = M.1 a) : cp h M (v, X) (some (.int v)) (I, J, M.2.2) := ⟨rfl, b, hl, hv, fun a ha => ⟨hf a ha, rfl⟩⟩
theorem tl_land {I I' : Nat → Nat → Int32} {t : Nat} {T : Tl} {d : Ld} (hv : tl_v I t T) (hf : ∀ a, (a < t + 1 ∨ t + 28 ≤ a) → I' a = I a) (hd : ld_v I' (t + 1) d) : tl_v I' t (d, T.2) := by
  obtain ⟨v1, v2, v3, v4, v5, v6, v7⟩ := hv
  refine ⟨hd, by rw [hf _ (by omega)]; exact v2, v3, by rw [hf _ (by omega)]; exact v4, v5, fun q w hq => ⟨nm_v_congr (hf _ (by omega)) (hf _ (by omega)) (v6 q w hq).1, (v6 q w hq).2⟩, fun i k hk => ?_⟩
  rw [hf _ (by omega), hf _ (by omega)]
  exact v7 i k hk
theorem im_v_congr {I I' : Nat → Nat → Int32} {k : Nat} {o : Option Ld} (hk : k < 2) (h1 : I' 65 k = I 65 k) (h2 : ∀ a, 110 + 27 * k ≤ a → a < 110 + 27 * k + 27 → I' a = I a) (hv : im_v I k o) : im_v I' k o := by
  cases o with
  | none => show I' 65 k = 0; rw [h1]; exact hv
  | some d => exact ⟨by rw [h1]; exact hv.1, ld_v_congr (fun a x1 x2 => h2 a x1 x2) hv.2⟩
theorem sh_v_congr {I I' : Nat → Nat → Int32} {s : Nat} {o : Sh1} (h1 : I' s = I s) (h2 : I' (s + 1) = I (s + 1)) (hv : sh_v I s o) : sh_v I' s o := by
  cases o with
  | none => show I' s 1 = 0; rw [h1]; exact hv
  | some q =>
    obtain ⟨ln, n, f⟩ := q
    obtain ⟨v1, v2, v3, v4, v5, v6⟩ := hv
    exact ⟨by rw [h1]; exact v1, by rw [h1]; exact v2, v3, by rw [h1]; exact v4, v5, fun j hj => by rw [h2]; exact v6 j hj⟩
theorem tp_v_congr {I I' : Nat → Nat → Int32} {w : List Nat} (h1 : I' 2 = I 2) (h2 : I' 3 = I 3) (hv : tp_v I w) : tp_v I' w := by
  unfold tp_v
  rw [h1, h2]
  exact hv
theorem tB_r (b : Bool) : 66 < tB b ∧ tB b + 43 ≤ 110 ∨ 5 < tB b ∧ tB b + 43 ≤ 49 := by cases b <;> decide
theorem cl_told {I I' : Nat → Nat → Int32} {b : Bool} {X : St} {T : Tl} (hv : cl_v I b X) (hf : ∀ a, (a < tB b ∨ tB b + 43 ≤ a) → ¬ (49 ≤ a ∧ a ≤ 63) → I' a = I a) (hT : tl_v I' (tB b) T) : cl_v I' b (T, X.2) := by
  have hb := tB_r b
  obtain ⟨v1, v2, v3, v4, v5, v6⟩ := hv
  exact ⟨hT, fun k hk => im_v_congr hk (by rw [hf 65 (by omega) (by omega)]) (fun a x1 x2 => hf a (by omega) (by omega)) (v2 k hk), fun k hk => sh_v_congr (hf _ (by omega) (by omega)) (hf _ (by omega) (by omega)) (v3 k hk), tp_v_congr (hf 2 (by omega) (by omega)) (hf 3 (by omega) (by omega)) v4, by rw [hf 1 (by omega) (by omega)]; exact v5, by rw [hf 1 (by omega) (by omega)]; exact v6⟩
/-- another land -/
def wLd (X : St) (d : Ld) : St := ((d, X.1.2), X.2)
theorem cl_land {I I' : Nat → Nat → Int32} {b : Bool} {X : St} {d : Ld} (hv : cl_v I b X) (hf : ∀ a, (a < tB b + 1 ∨ tB b + 28 ≤ a) → ¬ (49 ≤ a ∧ a ≤ 63) → I' a = I a) (hd : ld_v I' (tB b + 1) d) : cl_v I' b (wLd X d) := by
  have hb := tB_r b
  refine cl_told hv (fun a x1 x2 => hf a (by omega) x2) ?_
  obtain ⟨v1, v2, v3, v4, v5, v6, v7⟩ := hv.1
  refine ⟨hd, by rw [hf _ (by omega) (by omega)]; exact v2, v3, by rw [hf _ (by omega) (by omega)]; exact v4, v5, fun q w hq => ?_, fun i k hk => ?_⟩
  · have hl : q < X.1.2.1.length := (List.getElem?_eq_some_iff.mp hq).1
    exact ⟨nm_v_congr (hf _ (by omega) (by omega)) (hf _ (by omega) (by omega)) (v6 q w hq).1, (v6 q w hq).2⟩
  · rw [hf _ (by omega) (by omega), hf _ (by omega) (by omega)]
    exact v7 i k hk
/-- another one at p -/
def wOne (d : Ld) (p : Nat) (q : Pn) : Ld := (d.1, d.2.1.set p q, d.2.2)
theorem ld_one {I I' : Nat → Nat → Int32} {g p : Nat} {d : Ld} {q : Pn} (hv : ld_v I g d) (hf : ∀ a, g ≤ a → a < g + 27 → (a < g + 3 + 3 * p ∨ g + 3 + 3 * p + 3 ≤ a) → I' a = I a) (hp : p < d.2.1.length) (hq : on_v I' (g + 3 + 3 * p) q) : ld_v I' g (wOne d p q) := by
  obtain ⟨d1, d2, d3, d4, d5, d6, d7, d8⟩ := hv
  refine ⟨?_, ?_, ?_, d4, ?_, d6, fun l hl => ?_, fun p' q' hq' => ?_⟩
  · show I' g 2 = nI (d.2.1.set p q).length
    rw [List.length_set, hf g (by omega) (by omega) (by omega)]; exact d1
  · show (d.2.1.set p q).length ≤ 8
    rw [List.length_set]; exact d2
  · rw [hf g (by omega) (by omega) (by omega)]; exact d3
  · rw [hf g (by omega) (by omega) (by omega)]; exact d5
  · rw [hf (g + 1) (by omega) (by omega) (by omega)]; exact d7 l hl
  · have hq2 : (d.2.1.set p q)[p']? = some q' := hq'
    rw [List.getElem?_set] at hq2
    by_cases e : p = p'
    · subst e
      rw [if_pos rfl, if_pos hp] at hq2
      cases hq2
      exact hq
    · rw [if_neg e] at hq2
      have hl : p' < d.2.1.length := (List.getElem?_eq_some_iff.mp hq2).1
      exact on_v_congr (hf _ (by omega) (by omega) (by omega)) (hf _ (by omega) (by omega) (by omega)) (hf _ (by omega) (by omega) (by omega)) (d8 p' q' hq2)
/-- the operations -/
abbrev x_ld (X : St) : Ld := X.1.1
abbrev x_pn (X : St) (p : Nat) : Pn := d_pn X.1.1 p
def f_rule (X : St) (w : Int32) : Int32 := if w = 0 then nI (x_n X) else if w = 1 then nI X.1.1.2.2.1 else if w = 2 then nI X.1.1.2.2.2 else if w = 3 then nI X.1.2.1.length else -1
def f_worth (X : St) (l : Int32) : Int32 := if pr_in l 0 25 then nI (X.1.1.1 l.toNatClampNeg) else -1
def f_one (X : St) (p w : Int32) : Int32 := if ixb p (x_n X) then (if w = 0 then nI (x_pn X p.toNatClampNeg).1 else if w = 1 then nI (x_pn X p.toNatClampNeg).2.1 else if w = 2 then nI (x_pn X p.toNatClampNeg).2.2.1 else if w = 3 then nI (x_pn X p.toNatClampNeg).2.2.2.length else nm_q (x_pn X p.toNatClampNeg).2.2.2 (w - 10)) else -1
def x_ln (X : St) (n : Nat) : List Nat := X.1.2.1.getD n []
def f_listed (X : St) (p w : Int32) : Int32 := if ixb p X.1.2.1.length then (if w = 0 then nI (x_ln X p.toNatClampNeg).length else if w = 1 then nI (a_sum X.1.1.1 X.1.1.2.2.1 0 (x_ln X p.toNatClampNeg)) else nm_q (x_ln X p.toNatClampNeg) (w - 10)) else -1
def f_letter (X : St) (l v : Int32) : Int32 × St := if pr_in l 0 25 && pr_in v 0 40 then (nI (X.1.1.1 l.toNatClampNeg), wLd X (va_up X.1.1.1 l.toNatClampNeg v.toNatClampNeg, X.1.1.2)) else (-1, X)
def f_law (X : St) (v : Int32) : Int32 × St := if pr_in v 0 1 then (nI X.1.1.2.2.1, wLd X (X.1.1.1, X.1.1.2.1, v.toNatClampNeg, X.1.1.2.2.2)) else (-1, X)
def f_fee (X : St) (v : Int32) : Int32 × St := if pr_in v 1 9 then (nI X.1.1.2.2.2, wLd X (X.1.1.1, X.1.1.2.1, X.1.1.2.2.1, v.toNatClampNeg)) else (-1, X)
def f_debt (X : St) (p v : Int32) : Int32 × St := if ixb p (x_n X) && pr_in v 0 99 then (nI (x_pn X p.toNatClampNeg).2.1, wLd X (wOne X.1.1 p.toNatClampNeg ((x_pn X p.toNatClampNeg).1, v.toNatClampNeg, (x_pn X p.toNatClampNeg).2.2))) else (-1, X)
def f_wealth (X : St) (p v : Int32) : Int32 × St := if ixb p (x_n X) && pr_in v 0 99 then (nI (x_pn X p.toNatClampNeg).2.2.1, wLd X (wOne X.1.1 p.toNatClampNeg ((x_pn X p.toNatClampNeg).1, (x_pn X p.toNatClampNeg).2.1, v.toNatClampNeg, (x_pn X p.toNatClampNeg).2.2.2))) else (-1, X)
def f_become (X : St) (p v : Int32) : Int32 × St := if ixb p (x_n X) && pr_in v 0 4 then (nI (x_pn X p.toNatClampNeg).1, wLd X (wOne X.1.1 p.toNatClampNeg (v.toNatClampNeg, (x_pn X p.toNatClampNeg).2))) else (-1, X)
def f_bear (X : St) (x : Int32) : Int32 × St := if ixb x X.1.2.1.length then (if x_n X < 8 then (nI (x_n X), wLd X (X.1.1.1, X.1.1.2.1 ++ [(0, 0, 0, x_ln X x.toNatClampNeg)], X.1.1.2.2)) else (-3, X)) else (-1, X)
def f_wed (X : St) (p q : Int32) : Int32 × St := if (ixb p (x_n X) && ixb q (x_n X) && decide (¬ p = q)) = true then (if (x_pn X p.toNatClampNeg).1 = 1 ∨ (x_pn X q.toNatClampNeg).1 = 1 then (-2, X) else if (x_pn X p.toNatClampNeg).2.2.2.length + (x_pn X q.toNatClampNeg).2.2.2.length ≤ 20 then (nI (a_sum X.1.1.1 X.1.1.2.2.1 (x_pn X p.toNatClampNeg).1 ((x_pn X p.toNatClampNeg).2.2.2 ++ (x_pn X q.toNatClampNeg).2.2.2)), wLd X (wOne (wOne X.1.1 p.toNatClampNeg ((x_pn X p.toNatClampNeg).1, (x_pn X p.toNatClampNeg).2.1, (x_pn X p.toNatClampNeg).2.2.1, (x_pn X p.toNatClampNeg).2.2.2 ++ (x_pn X q.toNatClampNeg).2.2.2)) q.toNatClampNeg ((x_pn X q.toNatClampNeg).1, (x_pn X q.toNatClampNeg).2.1, (x_pn X q.toNatClampNeg).2.2.1, (x_pn X p.toNatClampNeg).2.2.2 ++ (x_pn X q.toNatClampNeg).2.2.2))) else (-3, X)) else (-1, X)
def f_person (X : St) (p : Int32) : Int32 := if ixb p (x_n X) then mk (al (x_S X) (x_K X) p.toNatClampNeg) (x_n X) else -1
def f_owes (X : St) (p : Int32) : Int32 := if ixb p (x_n X) then nI (mon (al (x_S X) (x_K X) p.toNatClampNeg) (x_D X) (x_n X)) else -1
def f_has (X : St) (p : Int32) : Int32 := if ixb p (x_n X) then nI (mon (al (x_S X) (x_K X) p.toNatClampNeg) (x_W X) (x_n X)) else -1
def f_persons (X : St) : Int32 := nI (cnt (fun p => nb (al (x_S X) (x_K X) p) p) (x_n X))
def f_lone (X : St) : Int32 := mk (fun p => decide (mk (al (x_S X) (x_K X) p) (x_n X) = bt1 p)) (x_n X)
def f_votes (X : St) : Int32 := nI (cnt (fun p => nb (al (x_S X) (x_K X) p) p && decide (¬ (mk (al (x_S X) (x_K X) p) (x_n X) &&& mk (fun q => decide (x_K X q ≠ 1)) (x_n X)) = 0)) (x_n X))
def f_heirs (X : St) (x : Int32) : Int32 := if x < 0 then -1 else mk (fun p => decide (x_S X p = x)) (x_n X) &&& mk (fun p => decide (x_K X p ≠ 1)) (x_n X)
def f_know (X : St) (n s : Int32) : Int32 × St := if ixb n X.1.2.1.length && pr_in s 0 999 then (if X.1.2.2.length < 6 then (nI (X.1.2.2.length + 1), ((X.1.1, X.1.2.1, X.1.2.2 ++ [(n.toNatClampNeg, s.toNatClampNeg)]), X.2)) else (-3, X)) else (-1, X)
def f_forget (X : St) (n : Int32) : Int32 × St := if pr_in n 0 (nI X.1.2.2.length) then (nI X.1.2.2.length, ((X.1.1, X.1.2.1, X.1.2.2.take n.toNatClampNeg), X.2)) else (-1, X)
def f_keep (X : St) (k : Int32) : Int32 × St := if pr_in k 0 1 then (pr_b (X.2.1 k.toNatClampNeg).isSome, (X.1, va_up X.2.1 k.toNatClampNeg (some X.1.1), X.2.2)) else (-1, X)
def f_back (X : St) (k : Int32) : Int32 × St := if pr_in k 0 1 then (match X.2.1 k.toNatClampNeg with
  | none => (-2, X)
  | some d => (nI d.2.1.length, wLd X d)) else (-1, X)
def f_sheet (X : St) (k ln n : Int32) : Int32 × St := if (pr_in k 0 3 && pr_in ln 0 2 && !decide ((40 : Int32) < n)) = true then (if n < 0 then (-14, X) else (1, (X.1, X.2.1, va_up X.2.2.1 k.toNatClampNeg (some (ln.toNatClampNeg, n.toNatClampNeg, fun _ => 0)), X.2.2.2))) else (-1, X)
def f_lay (X : St) (k i v : Int32) : Int32 × St := if pr_in k 0 3 then (match X.2.2.1 k.toNatClampNeg with
  | none => (-11, X)
  | some (ln, n, f) => if ixb i n then (1, (X.1, X.2.1, va_up X.2.2.1 k.toNatClampNeg (some (ln, n, va_up f i.toNatClampNeg (sh_nar ln v))), X.2.2.2)) else (-12, X)) else (-1, X)
def f_end (X : St) (n : Int32) : Int32 × St := if pr_in n 0 (nI X.2.2.2.1.length) then (nI X.2.2.2.1.length, (X.1, X.2.1, X.2.2.1, X.2.2.2.1.take n.toNatClampNeg, X.2.2.2.2)) else (-1, X)
/-- the byte k of a long -/
def byn (v : Int64) (k : Nat) : Nat := (v.toUInt64 >>> ((nI (56 - 8 * k)).toInt64.toUInt64 &&& Int64.toUInt64 63)).toNat % 256
def f_feed (X : St) (v : Int64) : Int32 × St := if X.2.2.2.1.length + 8 ≤ 320 then (nI (X.2.2.2.1.length + 8), (X.1, X.2.1, X.2.2.1, X.2.2.2.1 ++ (List.range 8).map (byn v), X.2.2.2.2)) else (-3, X)
