/-! ===== from the law's entry ===== -/
theorem w_arrP {s : State} {args : Array Value} {ty : FieldType} (h : (Cond.arrayClass ty).before args s = true) (hp : ∀ C, ty ≠ .object C) : ∃ cA, ArrOfT s cA ty ∧ va_RA s cA ty := by
  obtain ⟨c, k, comp, h1, h2, h3⟩ := Cond.arrayClass_spec h
  refine ⟨c, fun N z => ⟨(fun k h => by cases h), k, h2, comp, h3⟩, ?_⟩
  cases ty with
  | object C => exact absurd rfl (hp C)
  | _ => exact h1
theorem w_arrQ {s : State} {args : Array Value} {C : String} (h : (Cond.arrayOver (.object C)).before args s = true) : ∃ cA, ArrOfT s cA (.object C) ∧ va_RA s cA (.object C) := by
  obtain ⟨comp, c, k, h1, -, h2, h3, h4⟩ := Cond.arrayOver_spec h
  exact ⟨c, fun N z => ⟨(fun k h => by cases h), k, h2, comp, h3⟩, k, comp, h2, h3, h1, h4⟩
theorem w_K {s : State} {args : Array Value} (hts : ∀ w ∈ lw_tbl, w.before args s = true) : ∃ (D : va_G) (cA : Nat → ClassId), va_K D vwCl (ab_tys cA) s := by
  have htb : ∀ w ∈ ab_tb, w.before args s = true := fun w h => hts w (List.mem_filter.mp h).1
  have hc : ∀ k : Nat, ∃ q : ClassId × (Nat → Nat), ∀ r : vw_C, vwCl[k]? = some r → u_Kn s r.1 r.2.1 r.2.2 q.1 q.2 := by
    intro k
    cases hv : vwCl[k]? with
    | none => exact ⟨(0, fun _ => 0), fun r h => by cases h⟩
    | some r =>
      obtain ⟨C, T, N⟩ := r
      obtain ⟨ty0, hCK⟩ := ab_ck hv
      obtain ⟨cC, iS, hk⟩ := u_known (C := C) (T := T) (N := N) htb hCK.2.2.1 (htb _ hCK.2.2.2.2.2.2.2.1)
      exact ⟨(cC, iS), fun r h => by cases h; exact hk⟩
  obtain ⟨f, hf⟩ := Classical.axiomOfChoice hc
  obtain ⟨a0, h0⟩ := w_arrP (htb _ ab_w_arrI) (fun C h => by cases h)
  obtain ⟨a1, h1⟩ := w_arrP (htb _ ab_w_arrB) (fun C h => by cases h)
  obtain ⟨a2, h2⟩ := w_arrP (htb _ ab_w_arrZ) (fun C h => by cases h)
  obtain ⟨a3, h3⟩ := w_arrP (htb _ ab_w_arrJ) (fun C h => by cases h)
  obtain ⟨a4, h4⟩ := w_arrQ (hts _ w_s11.1)
  obtain ⟨a5, h5⟩ := w_arrQ (hts _ w_s11.2.1)
  obtain ⟨a6, h6⟩ := w_arrQ (hts _ w_s11.2.2.1)
  obtain ⟨a7, h7⟩ := w_arrQ (hts _ w_s11.2.2.2)
  refine ⟨(fun k => (f k).1, fun k => (f k).2), fun k => ([a0, a1, a2, a3, a4, a5, a6, a7] : List ClassId).getD (k - 20) 0, fun c q hq => hf c q hq, fun k q hq => ?_⟩
  match k, hq with
  | 0, hq => cases hq; exact h0
  | 1, hq => cases hq; exact h1
  | 2, hq => cases hq; exact h2
  | 3, hq => cases hq; exact h3
  | 4, hq => cases hq; exact h4
  | 5, hq => cases hq; exact h5
  | 6, hq => cases hq; exact h6
  | 7, hq => cases hq; exact h7
  | n + 8, hq => simp [ab_tys] at hq
theorem w_k1 {L : Nat} : ab_k (w_h0 L) 2000000 = 30 := by
  show (if 2000000 = 2000000 then 30 else 0) = 30
  rw [if_pos rfl]
theorem w_k2 {L a : Nat} (h : a ≠ 2000000) : ab_k (w_h0 L) a = 0 := by
  show (if a = 2000000 then 30 else 0) = 0
  rw [if_neg h]
theorem w_k3 {L : Nat} : ab_n (w_h0 L) 2000000 = L := by
  show (if 2000000 = 2000000 then L else 0) = L
  rw [if_pos rfl]
theorem w_k4 {xs : Nat → Int32} : (w_M0 xs).1 2000000 = xs := by
  show (if 2000000 = 2000000 then xs else fun _ => 0) = xs
  rw [if_pos rfl]
theorem w_all {N : Nat} {P : Nat → Prop} {f : Nat → Bool} (h : (List.range N).all f = true) (hf : ∀ i, f i = true → P i) : ∀ i, i < N → P i := fun i hi => hf i (List.all_eq_true.mp h i (List.mem_range.mpr hi))
theorem w_str {s : State} {args : Array Value} (hts : ∀ w ∈ lw_tbl, w.before args s = true) (hgv : (Jvm.Cond.and given_1 narrow_1).before args s = true) {A : Nat → Prop} (hA : ∀ a : Nat, a < s.heap.size → ¬ A a) : ∃ adK adV : Nat → Nat, vk_S 11 (ab_str.map List.length) ab_str adK adV A s s.heap ∧ ∀ i : Nat, i < 11 → vk_R RX6 (ab_strI.getD i 0) (ab_strT.getD i "") (adK i) s := by
  have hs := flat_of_before _ hgv
  obtain ⟨adK, adV, h1, h2⟩ := vk_Sof (args := args) (s := s) (N := 11) (tm := w_tm) (len := ab_str.map List.length) (byt := ab_str) (A := A)
    (w_all w_s8 (fun i h => of_decide_eq_true h))
    (w_all w_s1 (fun i h => hs _ (of_decide_eq_true h)))
    (w_all w_s2 (fun i h => hs _ (of_decide_eq_true h)))
    (w_all w_s3 (fun i h => hs _ (of_decide_eq_true h)))
    (w_all w_s4 (fun i h => hs _ (of_decide_eq_true h)))
    (w_all w_s5 (fun i h => w_all h (fun j h => hs _ (of_decide_eq_true h))))
    (fun i j hi hj hij => by
      have h3 := List.all_eq_true.mp (List.all_eq_true.mp w_s6 i (List.mem_range.mpr hi)) j (List.mem_range.mpr hj)
      simp only [Bool.or_eq_true, decide_eq_true_eq] at h3
      rcases h3 with (q | q) | q
      · exact absurd q hij
      · exact Or.inl (hs _ q)
      · exact Or.inr (hs _ q)) hA
  refine ⟨adK, adV, h1, fun i hi => ?_⟩
  have hr : (Cond.stringRef RX6 (ab_strI.getD i 0) (ab_strT.getD i "")).before args s = true := hts _ (of_decide_eq_true (List.all_eq_true.mp w_s7 i (List.mem_range.mpr hi)))
  exact vk_R.of hr (h2 i hi)
/-- THE LAW FROM ITS ENTRY, out of a pure run -/
theorem w_start {p : Program} {e : Env} {s : State} {m : MethodId} {below : List Frame} {meth : Method} {c : Code} (l : Launch) {b L : Nat} {xs : Nat → Int32} (C0 : lw_At p s m meth c b L xs) {f : Nat} {h' : ab_H} {M' : ab_M} (hev : ab_ev ab_P f pL_law 0 (ab_ent pL_law [.ref 2000000]) [] (w_h0 L) (w_M0 xs) (some (.int 1)) h' M') (hc1 : h'.1 - 1 ≤ 600000) (hc2 : h'.2.1 ≤ 7302250) : W p l e room_1 s m #[Value.ref b] below meth c s.heap [] 0 0 (lw_Z below #[Value.ref b] s) (entryFrame m ([Value.ref b] : List Value).toArray 4) := by
  obtain ⟨hx, hb, hr, hml, hown, hts, hX, hbl, hlocks, hgv, hcode, hname⟩ := C0
  have hA : ∀ a : Nat, a < s.heap.size → ¬ s.heap.size ≤ a := fun a h => Nat.not_le.mpr h
  obtain ⟨D, cA, hK⟩ := w_K hts
  obtain ⟨adK, adV, hS, hR⟩ := w_str hts hgv (A := fun q => s.heap.size ≤ q) hA
  have hs := flat_of_before _ hgv
  obtain ⟨base, hbase⟩ : ∃ base, s.heap.size = base + 1 := ⟨s.heap.size - 1, by omega⟩
  obtain ⟨ad, had⟩ : ∃ ad : Nat → Nat, ad = fun k => if k = 2000000 then b else if 1000000 ≤ k then adK (k - 1000000) else base + k := ⟨_, rfl⟩
  have ad1 : ∀ k, 1 ≤ k → k < 1000000 → ad k = base + k := by
    intro k _ hk
    rw [had]
    dsimp only
    rw [if_neg (by omega), if_neg (by omega)]
  have ad2 : ad 2000000 = b := by rw [had]; exact if_pos rfl
  have ad3 : ∀ k, k < 11 → ad (1000000 + k) = adK k := by
    intro k hk
    rw [had]
    dsimp only
    rw [if_neg (by omega), if_pos (by omega), Nat.add_sub_cancel_left]
  have hK0 : ab_K (w_h0 L) := by
    refine ⟨Nat.le_refl _, show (1 : Nat) ≤ 1000000 by decide, fun a ha => ?_⟩
    by_cases e : a = 2000000
    · subst e
      exact Or.inl ⟨w_k1, by decide⟩
    · exact absurd (w_k2 e) ha
  have hk30 : ∀ a, ab_k (w_h0 L) a = 30 → a = 2000000 := by
    intro a ha
    by_cases e : a = 2000000
    · exact e
    · rw [w_k2 e] at ha
      cases ha
  have hXX : ab_X (fun q => s.heap.size ≤ q) ad (w_h0 L) (w_M0 xs) s := by
    refine ⟨fun w hw => va_Nw.of (ab_nst_on hw) (hts w (List.mem_filter.mp hw).1), fun k k1 k2 => ?_, fun a ha => ?_, ⟨adV, ?_⟩, fun k hk => ?_, ?_, ?_⟩
    · rcases (show k = 24 ∨ k = 25 ∨ k = 26 ∨ k = 27 by omega) with rfl | rfl | rfl | rfl
      · exact va_AO.of (hts _ w_s11.1)
      · exact va_AO.of (hts _ w_s11.2.1)
      · exact va_AO.of (hts _ w_s11.2.2.1)
      · exact va_AO.of (hts _ w_s11.2.2.2)
    · obtain rfl := hk30 a ha
      rw [ad2]
      refine ⟨?_, hbl, hA b hbl⟩
      rw [w_k3, w_k4]
      exact hX
    · have hS2 := hS
      refine ⟨fun i hi => ?_, fun i j hi hj hij => ?_⟩
      · dsimp only
        rw [ad3 i hi]
        exact hS.1 i hi
      · dsimp only at hij
        rw [ad3 i hi, ad3 j hj] at hij
        exact hS.2 i j hi hj hij
    · rw [ad3 k hk]
      exact hR k hk
    · exact va_Zof (hts _ w_s9.1) (hts _ w_s9.2.2.1) (va_eqt (hs _ w_s10.1)) hA
    · exact va_Zqof (hts _ w_s9.2.1) (hts _ w_s9.2.2.2) (hs _ w_s10.2) hA
  have hC : ab_C pL_law D cA (fun q => s.heap.size ≤ q) ad base p s m #[Value.ref b] meth c := by
    refine ⟨hx, hb, hml, hown, fun w hw => ?_, hK, fun q hq => hq, hname, ad1⟩
    rcases List.mem_cons.mp hw with rfl | hw
    · exact hcode
    · exact hts w (List.mem_filter.mp hw).1
  have hB : ab_B D cA (fun q => s.heap.size ≤ q) ad base 1 0 s (w_h0 L) (w_M0 xs) s.heap [] :=
    ⟨fun k q h => by simp [ab_ws, w_h0] at h, ⟨fun i j p q h => by simp [ab_ws, w_h0] at h, fun k q h => by simp [ab_ws, w_h0] at h⟩, va_S.rf, hbase, hK0, Nat.le_refl _, Nat.le_refl _, hXX⟩
  have hLP : pL_law ∈ ab_P := by
    unfold ab_P
    repeat (first | exact List.mem_cons_self | apply List.mem_cons_of_mem)
  obtain ⟨ls, e1, hL⟩ := ab_entry (ad := ad) pL_law [.ref 2000000] (Nat.le_of_ble_eq_true rfl) m
  have e2 : ([Value.ref 2000000] : List Value).map (ab_tv ad) = [Value.ref b] := by
    rw [List.map_cons, ab_tv_ref (by decide), ad2]
    rfl
  rw [e2] at e1
  have e3 : entryFrame m ([Value.ref b] : List Value).toArray 4 = F0 m 0 ls [] := e1
  rw [e3]
  have main := ab_sound ab_strRows f pL_law hLP 0 _ [] (w_h0 L) (w_M0 xs) _ h' M' hev (p := p) (l := l) (e := e) (R := room_1) (below := below) (Q := lw_Z below #[Value.ref b] s) hC hL hB ⟨hc1, hc2⟩ (by decide) (by decide) ?_
  · exact main
  · intro pc' ls' H' locs' I hd hro hB'
    rcases hro with ⟨rfl, y, hy, -⟩ | ⟨rfl, y, hy, -⟩ | ⟨rfl, y, hy, -⟩ | ⟨rfl, hy, -⟩
    · refine va_forget (fun q hq => hB'.2.2.1.2.2 q hq) ?_
      refine W.widen (k := 600000) (n := 7302250) hc1 hc2 ?_
      exact lw_ret hx hb hr hlocks hd
    · cases hy
    · cases hy
    · cases hy
