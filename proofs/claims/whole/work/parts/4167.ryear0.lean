
/-! ===== births by a seed: persons by a row of sums ===== -/
def tw (K : Nat → Nat) (n : Nat) : Nat := cnt (fun p => decide (K p = 4)) n
def nt (K : Nat → Nat) (n : Nat) : Nat := cnt (fun p => decide (K p ≠ 4)) n
theorem nt_1 {K : Nat → Nat} {p : Nat} (h : K p ≠ 4) : nt K (p + 1) = nt K p + 1 ∧ tw K (p + 1) = tw K p := ⟨cnt_s1 (f := fun p => decide (K p ≠ 4)) (decide_eq_true h), cnt_s0 (f := fun p => decide (K p = 4)) (decide_eq_false h)⟩
theorem nt_0 {K : Nat → Nat} {p : Nat} (h : K p = 4) : nt K (p + 1) = nt K p ∧ tw K (p + 1) = tw K p + 1 := ⟨cnt_s0 (f := fun p => decide (K p ≠ 4)) (decide_eq_false (fun q => q h)), cnt_s1 (f := fun p => decide (K p = 4)) (decide_eq_true h)⟩
theorem nt_le (K : Nat → Nat) {p : Nat} : ∀ d, nt K p ≤ nt K (p + d)
  | 0 => Nat.le_refl _
  | d + 1 => by
    have ih := nt_le K (p := p) d
    by_cases c : K (p + d) = 4
    · have := (nt_0 c).1
      rw [show p + (d + 1) = p + d + 1 by omega, this]; exact ih
    · have := (nt_1 c).1
      rw [show p + (d + 1) = p + d + 1 by omega, this]; omega
theorem nt_lt {K : Nat → Nat} {q p : Nat} (h : q < p) (hk : K q ≠ 4) : nt K q < nt K p := by
  have h1 := (nt_1 hk).1
  have h2 := nt_le K (p := q + 1) (p - (q + 1))
  rw [show q + 1 + (p - (q + 1)) = p by omega] at h2
  omega
theorem nt_sur (K : Nat → Nat) : ∀ n i, i < nt K n → ∃ q, q < n ∧ K q ≠ 4 ∧ nt K q = i := by
  intro n
  induction n with
  | zero => intro i hi; exact absurd hi (by show ¬ i < 0; omega)
  | succ n ih =>
    intro i hi
    by_cases c : K n = 4
    · rw [(nt_0 c).1] at hi
      obtain ⟨q, q1, q2, q3⟩ := ih i hi
      exact ⟨q, by omega, q2, q3⟩
    · rw [(nt_1 c).1] at hi
      by_cases e : i = nt K n
      · exact ⟨n, by omega, c, e.symm⟩
      · obtain ⟨q, q1, q2, q3⟩ := ih i (by omega)
        exact ⟨q, by omega, q2, q3⟩
theorem cnt_nt {K : Nat → Nat} {f g : Nat → Bool} : ∀ n, (∀ p, p < n → K p = 4 → f p = true) → (∀ p, p < n → K p ≠ 4 → f p = g (nt K p)) → cnt f n = tw K n + cnt g (nt K n)
  | 0, _, _ => rfl
  | n + 1, h1, h2 => by
    have ih := cnt_nt n (fun p hp => h1 p (by omega)) (fun p hp => h2 p (by omega))
    by_cases c : K n = 4
    · rw [cnt_s1 (h1 n (by omega) c), (nt_0 c).1, (nt_0 c).2, ih]
      omega
    · have e := h2 n (by omega) c
      rw [(nt_1 c).1, (nt_1 c).2]
      cases hf : f n with
      | true => rw [cnt_s1 hf, cnt_s1 (by rw [← e]; exact hf), ih]; omega
      | false => rw [cnt_s0 hf, cnt_s0 (by rw [← e]; exact hf), ih]
theorem nb_iff (f : Nat → Bool) : ∀ n, nb f n = true ↔ ∀ i, i < n → f i = false
  | 0 => ⟨fun _ i hi => absurd hi (by omega), fun _ => rfl⟩
  | n + 1 => by
    show (nb f n && !f n) = true ↔ _
    rw [Bool.and_eq_true, nb_iff f n]
    constructor
    · intro ⟨a, b⟩ i hi
      by_cases e : i = n
      · subst e; simpa using b
      · exact a i (by omega)
    · intro a
      exact ⟨fun i hi => a i (by omega), by rw [a n (by omega)]; rfl⟩
theorem mk_inj {f g : Nat → Bool} {n : Nat} (hn : n ≤ 31) (h : mk f n = mk g n) : ∀ i, i < n → f i = g i := by
  intro i hi
  rw [mk_bs f n (by omega), mk_bs g n (by omega)] at h
  have h := (nI_eq (bs_31 f hn) (bs_31 g hn)).mp h
  have h1 := bs_tb f n i
  have h2 := bs_tb g n i
  rw [h, h2, decide_eq_true hi, Bool.true_and, Bool.true_and] at h1
  exact h1.symm
theorem mk_bt {n p : Nat} (hp : p < n) : mk (fun q => decide (p = q)) n = bt1 p := by
  have a1 := mo_mk (fun _ => false) p n hp
  unfold mo at a1
  rw [mk_none, Int32.zero_or] at a1
  rw [a1]
  exact mk_congr _ (fun i _ => by simp)
/-- the first, the only one of its sum in a row -/
def yF (L : Nat → Int32) (k i : Nat) : Bool := decide (i < k) && decide (L i = L k)
def yO (L : Nat → Int32) (k i : Nat) : Bool := decide (i ≠ k) && decide (L i = L k)
theorem b_eq {a b : Bool} (h : a = true ↔ b = true) : a = b := by
  cases a <;> cases b <;> simp_all
theorem yr_p {S : Nat → Int32} {K : Nat → Nat} {L : Nat → Int32} {N : Nat} (hL : ∀ p, p < N → K p ≠ 4 → L (nt K p) = S p) : cnt (fun p => nb (al S K p) p) N = tw K N + cnt (fun k => nb (yF L k) (nt K N)) (nt K N) := by
  refine cnt_nt N (fun p hp hk => ?_) (fun p hp hk => ?_)
  · rw [nb_iff]
    intro q hq
    unfold al
    rw [decide_eq_false (show ¬ p = q by omega), decide_eq_false (fun z => z hk)]
    rfl
  · refine b_eq ?_
    rw [nb_iff, nb_iff]
    constructor
    · intro a i hi
      unfold yF
      by_cases c : i < nt K p
      · obtain ⟨q, q1, q2, q3⟩ := nt_sur K p i c
        have := a q q1
        unfold al at this
        rw [decide_eq_false (show ¬ p = q by omega), decide_eq_true (show K p ≠ 4 from hk), decide_eq_true (show K q ≠ 4 from q2)] at this
        have hne : ¬ S p = S q := by simpa using this
        rw [decide_eq_false (show ¬ L i = L (nt K p) from fun z => hne (by rw [← hL p hp hk, ← hL q (by omega) q2, q3]; exact z.symm)), Bool.and_false]
      · rw [decide_eq_false c, Bool.false_and]
    · intro a q hq
      unfold al
      rw [decide_eq_false (show ¬ p = q by omega), decide_eq_true (show K p ≠ 4 from hk), Bool.false_or, Bool.true_and]
      by_cases c : K q = 4
      · rw [decide_eq_false (fun z => z c), Bool.false_and]
      · have hlt := nt_lt hq c
        have := a (nt K q) (nt_lt (by omega) c)
        unfold yF at this
        rw [decide_eq_true hlt, Bool.true_and] at this
        have hne : ¬ L (nt K q) = L (nt K p) := of_decide_eq_false this
        rw [decide_eq_false (show ¬ S p = S q from fun z => hne (by rw [hL p hp hk, hL q (by omega) c]; exact z.symm)), Bool.and_false]
theorem yr_a {S : Nat → Int32} {K : Nat → Nat} {L : Nat → Int32} {N : Nat} (hN : N ≤ 31) (hL : ∀ p, p < N → K p ≠ 4 → L (nt K p) = S p) : cnt (fun p => decide (mk (al S K p) N = bt1 p)) N = tw K N + cnt (fun k => nb (yO L k) (nt K N)) (nt K N) := by
  have key : ∀ p, p < N → (mk (al S K p) N = bt1 p ↔ ∀ q, q < N → q ≠ p → al S K p q = false) := fun p hp => by
    constructor
    · intro a q hq hqp
      rw [← mk_bt hp] at a
      rw [mk_inj hN a q hq]
      exact decide_eq_false (fun z => hqp z.symm)
    · intro a
      rw [← mk_bt hp]
      refine mk_congr _ (fun q hq => ?_)
      by_cases c : p = q
      · rw [decide_eq_true c, c]
        unfold al
        rw [decide_eq_true rfl]; rfl
      · rw [decide_eq_false c]; exact a q hq (fun z => c z.symm)
  refine cnt_nt N (fun p hp hk => ?_) (fun p hp hk => ?_)
  · refine decide_eq_true ((key p hp).mpr (fun q hq hqp => ?_))
    unfold al
    rw [decide_eq_false (fun z => hqp z.symm), decide_eq_false (fun z => z hk)]
    rfl
  · refine b_eq ?_
    rw [decide_eq_true_iff, key p hp, nb_iff]
    constructor
    · intro a i hi
      unfold yO
      by_cases c : i = nt K p
      · rw [decide_eq_false (fun z => z c), Bool.false_and]
      · obtain ⟨q, q1, q2, q3⟩ := nt_sur K N i hi
        have := a q q1 (fun z => c (by rw [← q3, z]))
        unfold al at this
        rw [decide_eq_false (show ¬ p = q from fun z => c (by rw [← q3, z])), decide_eq_true (show K p ≠ 4 from hk), decide_eq_true (show K q ≠ 4 from q2)] at this
        have hne : ¬ S p = S q := by simpa using this
        rw [decide_eq_false (show ¬ L i = L (nt K p) from fun z => hne (by rw [← hL p hp hk, ← hL q q1 q2, q3]; exact z.symm)), Bool.and_false]
    · intro a q hq hqp
      unfold al
      rw [decide_eq_false (fun z => hqp z.symm), decide_eq_true (show K p ≠ 4 from hk), Bool.false_or, Bool.true_and]
      by_cases c : K q = 4
      · rw [decide_eq_false (fun z => z c), Bool.false_and]
      · have hne2 : nt K q ≠ nt K p := by
          rcases Nat.lt_or_gt_of_ne hqp with z | z
          · have := nt_lt z c; omega
          · have := nt_lt z hk; omega
        have := a (nt K q) (nt_lt hq c)
        unfold yO at this
        rw [decide_eq_true hne2, Bool.true_and] at this
        have hne : ¬ L (nt K q) = L (nt K p) := of_decide_eq_false this
        rw [decide_eq_false (show ¬ S p = S q from fun z => hne (by rw [hL p hp hk, hL q hq c]; exact z.symm)), Bool.and_false]
theorem nt_tw (K : Nat → Nat) : ∀ n, nt K n + tw K n = n
  | 0 => rfl
  | n + 1 => by
    have ih := nt_tw K n
    by_cases c : K n = 4
    · rw [(nt_0 c).1, (nt_0 c).2]; omega
    · rw [(nt_1 c).1, (nt_1 c).2]; omega
