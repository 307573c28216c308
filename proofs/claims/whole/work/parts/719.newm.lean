
/-! ===== the reference's constructor: cell 172 and its arrays 173 to 187 ===== -/
abbrev AE : Type := Nat × Nat × Nat × (Nat → Int32)
def mi (h0 : ab_H) (M0 : ab_M) (A : List AE) (s : Nat) (h : ab_H) (M : ab_M) : Prop := h.1 = 173 + A.length ∧ h.2.1 = h0.2.1 + s ∧ (∀ c, (c < 172 ∨ 1000000 ≤ c) → ab_k h c = ab_k h0 c ∧ ab_n h c = ab_n h0 c ∧ M.1 c = M0.1 c ∧ M.2.2 c = M0.2.2 c) ∧ ab_k h 172 = 12 ∧ M.1 172 = M0.1 172 ∧ ∀ i e, A[i]? = some e → M.2.2 172 e.1 = 173 + i ∧ ab_k h (173 + i) = e.2.1 ∧ ab_n h (173 + i) = e.2.2.1 ∧ ∀ j, j < e.2.2.1 → M.1 (173 + i) j = e.2.2.2 j
theorem mi_a {h0 : ab_H} {M0 : ab_M} {A : List AE} {s c sl fd kn n : Nat} {kd ln : Nat → Nat} {M : ab_M} {f : Nat → Int32} {I' : Nat → Nat → Int32} {J' : Nat → Nat → Int64} (H : mi h0 M0 A s (c, sl, kd, ln) M) (hlt : c < 1000000) (hf : ∀ e ∈ A, e.1 ≠ fd) (h1 : ∀ j, j < n → I' c j = f j) (h2 : ∀ a, a ≠ c → I' a = M.1 a) : mi h0 M0 (A ++ [(fd, kn, n, f)]) (s + n) (c + 1, sl + n, va_up kd c kn, va_up ln c n) (I', J', ab_u (va_up M.2.2 c (fun _ => 0)) 172 fd c) := by
  obtain ⟨a1, a2, a3, a4, a5, a6⟩ := H
  have a1 : c = 173 + A.length := a1
  have a2 : sl = h0.2.1 + s := a2
  refine ⟨?_, ?_, fun q hq => ?_, (va_up_n (by omega)).trans a4, (h2 172 (by omega)).trans a5, fun i e he => ?_⟩
  · show c + 1 = 173 + (A ++ [(fd, kn, n, f)]).length
    rw [List.length_append, List.length_singleton]
    omega
  · show sl + n = h0.2.1 + (s + n)
    omega
  · obtain ⟨x1, x2, x3, x4⟩ := a3 q hq
    have d : q ≠ c := by omega
    exact ⟨(va_up_n d).trans x1, (va_up_n d).trans x2, (h2 q d).trans x3, (ab_u_ne (by omega)).trans ((va_up_n d).trans x4)⟩
  · by_cases hi : i < A.length
    · rw [List.getElem?_append_left hi] at he
      obtain ⟨y1, y2, y3, y4⟩ := a6 i e he
      have d : 173 + i ≠ c := by omega
      refine ⟨?_, (va_up_n d).trans y2, (va_up_n d).trans y3, fun j hj => ?_⟩
      · show ab_u (va_up M.2.2 c (fun _ => 0)) 172 fd c 172 e.1 = 173 + i
        rw [ab_u_j (hf e (List.mem_of_getElem? he)), va_up_n (by omega)]
        exact y1
      · show I' (173 + i) j = _
        rw [h2 _ d]
        exact y4 j hj
    · have hi2 : i = A.length := by
        rw [List.getElem?_append_right (by omega)] at he
        have h3 := (List.getElem?_eq_some_iff.mp he).1
        rw [List.length_singleton] at h3
        omega
      subst hi2
      rw [List.getElem?_append_right (Nat.le_refl _), Nat.sub_self] at he
      obtain rfl : (fd, kn, n, f) = e := Option.some.inj he
      subst a1
      exact ⟨ab_u_at, va_up_at _ _ _, va_up_at _ _ _, h1⟩
def fi (I0 : Nat → Nat → Int32) (c : Nat) (f : Nat → Int32) (K : Nat) (I : Nat → Nat → Int32) : Prop := (∀ a, a ≠ c → I a = I0 a) ∧ ∀ j, j < K → I c j = f j
theorem fi_s {I0 I : Nat → Nat → Int32} {c K x : Nat} {f : Nat → Int32} {v : Int32} (H : fi I0 c f K I) (hx : x = K) (hv : v = f K) : fi I0 c f (K + 1) (ab_u I c x v) := by
  subst hx
  refine ⟨fun a ha => (ab_u_ne ha).trans (H.1 a ha), fun j hj => ?_⟩
  by_cases e : j = x
  · subst e
    rw [ab_u_at]
    exact hv
  · rw [ab_u_j e]
    exact H.2 j (by omega)
def md_p (h0 : ab_H) (M0 : ab_M) (r : Option Value) (h' : ab_H) (M' : ab_M) : Prop := r = none ∧ h'.1 = 188 ∧ h'.2.1 = h0.2.1 + 178260 ∧ (∀ c, (c < 172 ∨ 1000000 ≤ c) → ab_k h' c = ab_k h0 c ∧ ab_n h' c = ab_n h0 c ∧ M'.1 c = M0.1 c ∧ M'.2.2 c = M0.2.2 c) ∧ rL h' M'.2.2 ∧ rv M'.1 (P0.1, fun _ => none, fun _ => none, [], 0, 0)
def mA : List AE := [(0, 20, 884, (fun _ => 0)), (1, 20, 66, (fun _ => 0)), (3, 20, 12, (fun _ => 0)), (5, 20, 221, (fun _ => 0)), (6, 20, 66, (fun _ => 0)), (7, 20, 12, (fun _ => 0)), (13, 20, 320, (fun _ => 0)), (22, 20, 12, (fun j => nI (cutsL.getD j 0))), (23, 20, 48, (fun j => nI (ltsL.getD j 0))), (24, 20, 176421, (fun _ => 0)), (25, 20, 28, (fun _ => 0)), (26, 22, 2, (fun _ => 0)), (27, 20, 4, (fun _ => -4)), (28, 20, 4, (fun _ => 0)), (29, 20, 160, (fun _ => 0))]
def mB (k : Nat) : List AE := mA.take k
set_option maxRecDepth 20000 in
theorem nm_15 {h0 : ab_H} {M0 : ab_M} (hz : ∀ j, M0.1 172 j = 0) (h : ab_H) (M : ab_M) (H : mi h0 M0 (mB 15) 178260 h M) : pr_Y pX11_init 491 [some (.ref 172)] [] h M (md_p h0 M0) := by
  obtain ⟨a1, a2, a3, a4, a5, a6⟩ := H
  obtain ⟨r0, k0, n0, v0⟩ := a6 0 _ rfl
  obtain ⟨r1, k1, n1, v1⟩ := a6 1 _ rfl
  obtain ⟨r2, k2, n2, v2⟩ := a6 2 _ rfl
  obtain ⟨r3, k3, n3, v3⟩ := a6 3 _ rfl
  obtain ⟨r4, k4, n4, v4⟩ := a6 4 _ rfl
  obtain ⟨r5, k5, n5, v5⟩ := a6 5 _ rfl
  obtain ⟨r6, k6, n6, v6⟩ := a6 6 _ rfl
  obtain ⟨r7, k7, n7, v7⟩ := a6 7 _ rfl
  obtain ⟨r8, k8, n8, v8⟩ := a6 8 _ rfl
  obtain ⟨r9, k9, n9, v9⟩ := a6 9 _ rfl
  obtain ⟨r10, k10, n10, v10⟩ := a6 10 _ rfl
  obtain ⟨r11, k11, n11, v11⟩ := a6 11 _ rfl
  obtain ⟨r12, k12, n12, v12⟩ := a6 12 _ rfl
  obtain ⟨r13, k13, n13, v13⟩ := a6 13 _ rfl
  obtain ⟨r14, k14, n14, v14⟩ := a6 14 _ rfl
  refine pr_vrY rfl rfl ⟨rfl, a1, a2, a3, ⟨a4, r0, r1, r2, r3, r4, r5, r6, r7, r8, r9, r10, r11, r12, r13, r14, ⟨k0, n0⟩, ⟨k1, n1⟩, ⟨k2, n2⟩, ⟨k3, n3⟩, ⟨k4, n4⟩, ⟨k5, n5⟩, ⟨k6, n6⟩, ⟨k7, n7⟩, ⟨k8, n8⟩, ⟨k9, n9⟩, ⟨k10, n10⟩, ⟨k11, n11⟩, ⟨k12, n12⟩, ⟨k13, n13⟩, k14, n14⟩, ?_⟩
  have z : ∀ j, M.1 172 j = 0 := fun j => (congrFun a5 j).trans (hz j)
  refine ⟨⟨v0 192 (by decide), Nat.zero_le _, v0 219 (by decide), Nat.zero_le _, (v0 220 (by decide)).trans (show (0 : Int32) = nI 1 - 1 from by decide), ⟨Nat.le_refl _, by decide⟩, fun l hl => ⟨?_, by show l + 1 ≤ 40; omega⟩, fun p hp => absurd hp (Nat.not_lt_zero p)⟩, ⟨z 2, Nat.zero_le _, fun n hn => absurd hn (Nat.not_lt_zero n)⟩, ⟨z 4, Nat.zero_le _, fun n hn => absurd hn (Nat.not_lt_zero n)⟩, fun k hk => v11 k hk, fun k hk => v12 k hk, ⟨z 14, Nat.zero_le _, fun n hn => absurd hn (Nat.not_lt_zero n)⟩, z 15, z 30, fun j hj => v7 j hj, fun j hj => v8 j hj⟩
  rw [v0 (193 + l) (by show 193 + l < 884; omega)]
  show (0 : Int32) = nI (l + 1) - nI l - 1
  rw [← nI_1]
  grind
set_option maxRecDepth 20000 in
theorem nm_14 {h0 : ab_H} {M0 : ab_M} (hz : ∀ j, M0.1 172 j = 0) (h : ab_H) (M : ab_M) (H : mi h0 M0 (mB 14) 178100 h M) : pr_Y pX11_init 482 [some (.ref 172)] [] h M (md_p h0 M0) := by
  obtain ⟨n, sl, kd, ln⟩ := h
  obtain rfl : n = 187 := H.1
  have hk : kd 172 = 12 := H.2.2.2.1
  have hk2 : va_up kd 187 20 172 = 12 := by rw [va_up_n (by decide)]; exact hk
  have nn : (Int16.ofInt 160).toInt32.toNatClampNeg = 160 := by decide
  refine pr_seqY (pc' := 491) 4 rfl ⟨⟨⟨⟨trivial, by decide⟩, trivial⟩, ⟨by decide, by rw [nn]; decide, by show 187 < 1000000; decide⟩⟩, ⟨hk2, by show 187 ≠ 0; decide⟩⟩ ?_
  dsimp only
  rw [nn]
  exact nm_15 hz _ _ (mi_a (A := mB 14) (fd := 29) (kn := 20) (n := 160) (f := (fun _ => 0)) H (by decide) (by decide) (fun j _ => congrFun (va_up_at _ _ _) j) (fun a ha => va_up_n ha))
set_option maxRecDepth 20000 in
theorem nm_13 {h0 : ab_H} {M0 : ab_M} (hz : ∀ j, M0.1 172 j = 0) (h : ab_H) (M : ab_M) (H : mi h0 M0 (mB 13) 178096 h M) : pr_Y pX11_init 475 [some (.ref 172)] [] h M (md_p h0 M0) := by
  obtain ⟨n, sl, kd, ln⟩ := h
  obtain rfl : n = 186 := H.1
  have hk : kd 172 = 12 := H.2.2.2.1
  have hk2 : va_up kd 186 20 172 = 12 := by rw [va_up_n (by decide)]; exact hk
  have nn : (Int32.ofInt 4).toNatClampNeg = 4 := by decide
  refine pr_seqY (pc' := 482) 4 rfl ⟨⟨⟨⟨trivial, by decide⟩, trivial⟩, ⟨by decide, by rw [nn]; decide, by show 186 < 1000000; decide⟩⟩, ⟨hk2, by show 186 ≠ 0; decide⟩⟩ ?_
  dsimp only
  rw [nn]
  exact nm_14 hz _ _ (mi_a (A := mB 13) (fd := 28) (kn := 20) (n := 4) (f := (fun _ => 0)) H (by decide) (by decide) (fun j _ => congrFun (va_up_at _ _ _) j) (fun a ha => va_up_n ha))
set_option maxRecDepth 20000 in
theorem nm_12 {h0 : ab_H} {M0 : ab_M} (hz : ∀ j, M0.1 172 j = 0) (h : ab_H) (M : ab_M) (H : mi h0 M0 (mB 12) 178092 h M) : pr_Y pX11_init 448 [some (.ref 172)] [] h M (md_p h0 M0) := by
  obtain ⟨n, sl, kd, ln⟩ := h
  obtain rfl : n = 185 := H.1
  have hk : kd 172 = 12 := H.2.2.2.1
  have hk2 : va_up kd 185 20 172 = 12 := by rw [va_up_n (by decide)]; exact hk
  have nn : (Int32.ofInt 4).toNatClampNeg = 4 := by decide
  have k20 : va_up kd 185 20 185 = 20 := va_up_at _ _ _
  have n20 : va_up ln 185 4 185 = 4 := va_up_at ln 185 4
  have s4 : ∀ I, fi M.1 185 (fun _ => -4) 4 I → pr_Y pX11_init 472 [some (.ref 172)] [.ref 185, .ref 172] (185 + 1, sl + 4, va_up kd 185 20, va_up ln 185 4) (I, va_up M.2.1 185 (fun _ => 0), va_up M.2.2 185 (fun _ => 0)) (md_p h0 M0) := fun I HI => pr_seqY (pc' := 475) 1 rfl ⟨trivial, ⟨hk2, by decide⟩⟩ (nm_13 hz _ _ (mi_a (A := mB 12) (fd := 27) (kn := 20) (n := 4) (f := (fun _ => -4)) H (by decide) (by decide) HI.2 HI.1))
  have s3 : ∀ I, fi M.1 185 (fun _ => -4) 3 I → pr_Y pX11_init 467 [some (.ref 172)] [.ref 185, .ref 172] (185 + 1, sl + 4, va_up kd 185 20, va_up ln 185 4) (I, va_up M.2.1 185 (fun _ => 0), va_up M.2.2 185 (fun _ => 0)) (md_p h0 M0) := fun I HI => pr_seqY (pc' := 472) 4 rfl ⟨⟨⟨⟨trivial, trivial⟩, trivial⟩, trivial⟩, ⟨k20, by show vp_in _ (va_up ln 185 4 185); rw [n20]; unfold vp_in; decide⟩⟩ (s4 _ (fi_s HI (by decide) (by decide)))
  have s2 : ∀ I, fi M.1 185 (fun _ => -4) 2 I → pr_Y pX11_init 462 [some (.ref 172)] [.ref 185, .ref 172] (185 + 1, sl + 4, va_up kd 185 20, va_up ln 185 4) (I, va_up M.2.1 185 (fun _ => 0), va_up M.2.2 185 (fun _ => 0)) (md_p h0 M0) := fun I HI => pr_seqY (pc' := 467) 4 rfl ⟨⟨⟨⟨trivial, trivial⟩, trivial⟩, trivial⟩, ⟨k20, by show vp_in _ (va_up ln 185 4 185); rw [n20]; unfold vp_in; decide⟩⟩ (s3 _ (fi_s HI (by decide) (by decide)))
  have s1 : ∀ I, fi M.1 185 (fun _ => -4) 1 I → pr_Y pX11_init 457 [some (.ref 172)] [.ref 185, .ref 172] (185 + 1, sl + 4, va_up kd 185 20, va_up ln 185 4) (I, va_up M.2.1 185 (fun _ => 0), va_up M.2.2 185 (fun _ => 0)) (md_p h0 M0) := fun I HI => pr_seqY (pc' := 462) 4 rfl ⟨⟨⟨⟨trivial, trivial⟩, trivial⟩, trivial⟩, ⟨k20, by show vp_in _ (va_up ln 185 4 185); rw [n20]; unfold vp_in; decide⟩⟩ (s2 _ (fi_s HI (by decide) (by decide)))
  have s0 : ∀ I, fi M.1 185 (fun _ => -4) 0 I → pr_Y pX11_init 452 [some (.ref 172)] [.ref 185, .ref 172] (185 + 1, sl + 4, va_up kd 185 20, va_up ln 185 4) (I, va_up M.2.1 185 (fun _ => 0), va_up M.2.2 185 (fun _ => 0)) (md_p h0 M0) := fun I HI => pr_seqY (pc' := 457) 4 rfl ⟨⟨⟨⟨trivial, trivial⟩, trivial⟩, trivial⟩, ⟨k20, by show vp_in _ (va_up ln 185 4 185); rw [n20]; unfold vp_in; decide⟩⟩ (s1 _ (fi_s HI (by decide) (by decide)))
  refine pr_seqY (pc' := 452) 3 rfl ⟨⟨⟨trivial, by decide⟩, trivial⟩, ⟨by decide, by rw [nn]; decide, by show 185 < 1000000; decide⟩⟩ ?_
  dsimp only
  rw [nn]
  exact s0 _ ⟨fun a ha => va_up_n ha, fun j hj => absurd hj (Nat.not_lt_zero j)⟩
set_option maxRecDepth 20000 in
theorem nm_11 {h0 : ab_H} {M0 : ab_M} (hz : ∀ j, M0.1 172 j = 0) (h : ab_H) (M : ab_M) (H : mi h0 M0 (mB 11) 178090 h M) : pr_Y pX11_init 441 [some (.ref 172)] [] h M (md_p h0 M0) := by
  obtain ⟨n, sl, kd, ln⟩ := h
  obtain rfl : n = 184 := H.1
  have hk : kd 172 = 12 := H.2.2.2.1
  have hk2 : va_up kd 184 22 172 = 12 := by rw [va_up_n (by decide)]; exact hk
  have nn : (Int32.ofInt 2).toNatClampNeg = 2 := by decide
  refine pr_seqY (pc' := 448) 4 rfl ⟨⟨⟨⟨trivial, by decide⟩, trivial⟩, ⟨by decide, by rw [nn]; decide, by show 184 < 1000000; decide⟩⟩, ⟨hk2, by show 184 ≠ 0; decide⟩⟩ ?_
  dsimp only
  rw [nn]
  exact nm_12 hz _ _ (mi_a (A := mB 11) (fd := 26) (kn := 22) (n := 2) (f := (fun _ => 0)) H (by decide) (by decide) (fun j _ => congrFun (va_up_at _ _ _) j) (fun a ha => va_up_n ha))
set_option maxRecDepth 20000 in
theorem nm_10 {h0 : ab_H} {M0 : ab_M} (hz : ∀ j, M0.1 172 j = 0) (h : ab_H) (M : ab_M) (H : mi h0 M0 (mB 10) 178062 h M) : pr_Y pX11_init 433 [some (.ref 172)] [] h M (md_p h0 M0) := by
  obtain ⟨n, sl, kd, ln⟩ := h
  obtain rfl : n = 183 := H.1
  have hk : kd 172 = 12 := H.2.2.2.1
  have hk2 : va_up kd 183 20 172 = 12 := by rw [va_up_n (by decide)]; exact hk
  have nn : (Int8.ofInt 28).toInt32.toNatClampNeg = 28 := by decide
  refine pr_seqY (pc' := 441) 4 rfl ⟨⟨⟨⟨trivial, by decide⟩, trivial⟩, ⟨by decide, by rw [nn]; decide, by show 183 < 1000000; decide⟩⟩, ⟨hk2, by show 183 ≠ 0; decide⟩⟩ ?_
  dsimp only
  rw [nn]
  exact nm_11 hz _ _ (mi_a (A := mB 10) (fd := 25) (kn := 20) (n := 28) (f := (fun _ => 0)) H (by decide) (by decide) (fun j _ => congrFun (va_up_at _ _ _) j) (fun a ha => va_up_n ha))
set_option maxRecDepth 20000 in
theorem nm_9 {h0 : ab_H} {M0 : ab_M} (hz : ∀ j, M0.1 172 j = 0) (h : ab_H) (M : ab_M) (H : mi h0 M0 (mB 9) 1641 h M) : pr_Y pX11_init 425 [some (.ref 172)] [] h M (md_p h0 M0) := by
  obtain ⟨n, sl, kd, ln⟩ := h
  obtain rfl : n = 182 := H.1
  have hk : kd 172 = 12 := H.2.2.2.1
  have hk2 : va_up kd 182 20 172 = 12 := by rw [va_up_n (by decide)]; exact hk
  have nn : (Int32.ofNat 176421).toNatClampNeg = 176421 := by decide
  refine pr_seqY (pc' := 433) 4 rfl ⟨⟨⟨⟨trivial, by decide⟩, trivial⟩, ⟨by decide, by rw [nn]; decide, by show 182 < 1000000; decide⟩⟩, ⟨hk2, by show 182 ≠ 0; decide⟩⟩ ?_
  dsimp only
  rw [nn]
  exact nm_10 hz _ _ (mi_a (A := mB 9) (fd := 24) (kn := 20) (n := 176421) (f := (fun _ => 0)) H (by decide) (by decide) (fun j _ => congrFun (va_up_at _ _ _) j) (fun a ha => va_up_n ha))
set_option maxRecDepth 20000 in
theorem nm_8 {h0 : ab_H} {M0 : ab_M} (hz : ∀ j, M0.1 172 j = 0) (h : ab_H) (M : ab_M) (H : mi h0 M0 (mB 8) 1593 h M) : pr_Y pX11_init 135 [some (.ref 172)] [] h M (md_p h0 M0) := by
  obtain ⟨n, sl, kd, ln⟩ := h
  obtain rfl : n = 181 := H.1
  have hk : kd 172 = 12 := H.2.2.2.1
  have hk2 : va_up kd 181 20 172 = 12 := by rw [va_up_n (by decide)]; exact hk
  have nn : (Int8.ofInt 48).toInt32.toNatClampNeg = 48 := by decide
  have k20 : va_up kd 181 20 181 = 20 := va_up_at _ _ _
  have n20 : va_up ln 181 48 181 = 48 := va_up_at ln 181 48
  have s48 : ∀ I, fi M.1 181 (fun j => nI (ltsL.getD j 0)) 48 I → pr_Y pX11_init 422 [some (.ref 172)] [.ref 181, .ref 172] (181 + 1, sl + 48, va_up kd 181 20, va_up ln 181 48) (I, va_up M.2.1 181 (fun _ => 0), va_up M.2.2 181 (fun _ => 0)) (md_p h0 M0) := fun I HI => pr_seqY (pc' := 425) 1 rfl ⟨trivial, ⟨hk2, by decide⟩⟩ (nm_9 hz _ _ (mi_a (A := mB 8) (fd := 23) (kn := 20) (n := 48) (f := (fun j => nI (ltsL.getD j 0))) H (by decide) (by decide) HI.2 HI.1))
  have s47 : ∀ I, fi M.1 181 (fun j => nI (ltsL.getD j 0)) 47 I → pr_Y pX11_init 416 [some (.ref 172)] [.ref 181, .ref 172] (181 + 1, sl + 48, va_up kd 181 20, va_up ln 181 48) (I, va_up M.2.1 181 (fun _ => 0), va_up M.2.2 181 (fun _ => 0)) (md_p h0 M0) := fun I HI => pr_seqY (pc' := 422) 4 rfl ⟨⟨⟨⟨trivial, trivial⟩, trivial⟩, trivial⟩, ⟨k20, by show vp_in _ (va_up ln 181 48 181); rw [n20]; unfold vp_in; decide⟩⟩ (s48 _ (fi_s HI (by decide) (by decide)))
  have s46 : ∀ I, fi M.1 181 (fun j => nI (ltsL.getD j 0)) 46 I → pr_Y pX11_init 410 [some (.ref 172)] [.ref 181, .ref 172] (181 + 1, sl + 48, va_up kd 181 20, va_up ln 181 48) (I, va_up M.2.1 181 (fun _ => 0), va_up M.2.2 181 (fun _ => 0)) (md_p h0 M0) := fun I HI => pr_seqY (pc' := 416) 4 rfl ⟨⟨⟨⟨trivial, trivial⟩, trivial⟩, trivial⟩, ⟨k20, by show vp_in _ (va_up ln 181 48 181); rw [n20]; unfold vp_in; decide⟩⟩ (s47 _ (fi_s HI (by decide) (by decide)))
  have s45 : ∀ I, fi M.1 181 (fun j => nI (ltsL.getD j 0)) 45 I → pr_Y pX11_init 404 [some (.ref 172)] [.ref 181, .ref 172] (181 + 1, sl + 48, va_up kd 181 20, va_up ln 181 48) (I, va_up M.2.1 181 (fun _ => 0), va_up M.2.2 181 (fun _ => 0)) (md_p h0 M0) := fun I HI => pr_seqY (pc' := 410) 4 rfl ⟨⟨⟨⟨trivial, trivial⟩, trivial⟩, trivial⟩, ⟨k20, by show vp_in _ (va_up ln 181 48 181); rw [n20]; unfold vp_in; decide⟩⟩ (s46 _ (fi_s HI (by decide) (by decide)))
  have s44 : ∀ I, fi M.1 181 (fun j => nI (ltsL.getD j 0)) 44 I → pr_Y pX11_init 398 [some (.ref 172)] [.ref 181, .ref 172] (181 + 1, sl + 48, va_up kd 181 20, va_up ln 181 48) (I, va_up M.2.1 181 (fun _ => 0), va_up M.2.2 181 (fun _ => 0)) (md_p h0 M0) := fun I HI => pr_seqY (pc' := 404) 4 rfl ⟨⟨⟨⟨trivial, trivial⟩, trivial⟩, trivial⟩, ⟨k20, by show vp_in _ (va_up ln 181 48 181); rw [n20]; unfold vp_in; decide⟩⟩ (s45 _ (fi_s HI (by decide) (by decide)))
  have s43 : ∀ I, fi M.1 181 (fun j => nI (ltsL.getD j 0)) 43 I → pr_Y pX11_init 392 [some (.ref 172)] [.ref 181, .ref 172] (181 + 1, sl + 48, va_up kd 181 20, va_up ln 181 48) (I, va_up M.2.1 181 (fun _ => 0), va_up M.2.2 181 (fun _ => 0)) (md_p h0 M0) := fun I HI => pr_seqY (pc' := 398) 4 rfl ⟨⟨⟨⟨trivial, trivial⟩, trivial⟩, trivial⟩, ⟨k20, by show vp_in _ (va_up ln 181 48 181); rw [n20]; unfold vp_in; decide⟩⟩ (s44 _ (fi_s HI (by decide) (by decide)))
  have s42 : ∀ I, fi M.1 181 (fun j => nI (ltsL.getD j 0)) 42 I → pr_Y pX11_init 386 [some (.ref 172)] [.ref 181, .ref 172] (181 + 1, sl + 48, va_up kd 181 20, va_up ln 181 48) (I, va_up M.2.1 181 (fun _ => 0), va_up M.2.2 181 (fun _ => 0)) (md_p h0 M0) := fun I HI => pr_seqY (pc' := 392) 4 rfl ⟨⟨⟨⟨trivial, trivial⟩, trivial⟩, trivial⟩, ⟨k20, by show vp_in _ (va_up ln 181 48 181); rw [n20]; unfold vp_in; decide⟩⟩ (s43 _ (fi_s HI (by decide) (by decide)))
  have s41 : ∀ I, fi M.1 181 (fun j => nI (ltsL.getD j 0)) 41 I → pr_Y pX11_init 380 [some (.ref 172)] [.ref 181, .ref 172] (181 + 1, sl + 48, va_up kd 181 20, va_up ln 181 48) (I, va_up M.2.1 181 (fun _ => 0), va_up M.2.2 181 (fun _ => 0)) (md_p h0 M0) := fun I HI => pr_seqY (pc' := 386) 4 rfl ⟨⟨⟨⟨trivial, trivial⟩, trivial⟩, trivial⟩, ⟨k20, by show vp_in _ (va_up ln 181 48 181); rw [n20]; unfold vp_in; decide⟩⟩ (s42 _ (fi_s HI (by decide) (by decide)))
  have s40 : ∀ I, fi M.1 181 (fun j => nI (ltsL.getD j 0)) 40 I → pr_Y pX11_init 374 [some (.ref 172)] [.ref 181, .ref 172] (181 + 1, sl + 48, va_up kd 181 20, va_up ln 181 48) (I, va_up M.2.1 181 (fun _ => 0), va_up M.2.2 181 (fun _ => 0)) (md_p h0 M0) := fun I HI => pr_seqY (pc' := 380) 4 rfl ⟨⟨⟨⟨trivial, trivial⟩, trivial⟩, trivial⟩, ⟨k20, by show vp_in _ (va_up ln 181 48 181); rw [n20]; unfold vp_in; decide⟩⟩ (s41 _ (fi_s HI (by decide) (by decide)))
  have s39 : ∀ I, fi M.1 181 (fun j => nI (ltsL.getD j 0)) 39 I → pr_Y pX11_init 368 [some (.ref 172)] [.ref 181, .ref 172] (181 + 1, sl + 48, va_up kd 181 20, va_up ln 181 48) (I, va_up M.2.1 181 (fun _ => 0), va_up M.2.2 181 (fun _ => 0)) (md_p h0 M0) := fun I HI => pr_seqY (pc' := 374) 4 rfl ⟨⟨⟨⟨trivial, trivial⟩, trivial⟩, trivial⟩, ⟨k20, by show vp_in _ (va_up ln 181 48 181); rw [n20]; unfold vp_in; decide⟩⟩ (s40 _ (fi_s HI (by decide) (by decide)))
  have s38 : ∀ I, fi M.1 181 (fun j => nI (ltsL.getD j 0)) 38 I → pr_Y pX11_init 362 [some (.ref 172)] [.ref 181, .ref 172] (181 + 1, sl + 48, va_up kd 181 20, va_up ln 181 48) (I, va_up M.2.1 181 (fun _ => 0), va_up M.2.2 181 (fun _ => 0)) (md_p h0 M0) := fun I HI => pr_seqY (pc' := 368) 4 rfl ⟨⟨⟨⟨trivial, trivial⟩, trivial⟩, trivial⟩, ⟨k20, by show vp_in _ (va_up ln 181 48 181); rw [n20]; unfold vp_in; decide⟩⟩ (s39 _ (fi_s HI (by decide) (by decide)))
  have s37 : ∀ I, fi M.1 181 (fun j => nI (ltsL.getD j 0)) 37 I → pr_Y pX11_init 356 [some (.ref 172)] [.ref 181, .ref 172] (181 + 1, sl + 48, va_up kd 181 20, va_up ln 181 48) (I, va_up M.2.1 181 (fun _ => 0), va_up M.2.2 181 (fun _ => 0)) (md_p h0 M0) := fun I HI => pr_seqY (pc' := 362) 4 rfl ⟨⟨⟨⟨trivial, trivial⟩, trivial⟩, trivial⟩, ⟨k20, by show vp_in _ (va_up ln 181 48 181); rw [n20]; unfold vp_in; decide⟩⟩ (s38 _ (fi_s HI (by decide) (by decide)))
  have s36 : ∀ I, fi M.1 181 (fun j => nI (ltsL.getD j 0)) 36 I → pr_Y pX11_init 350 [some (.ref 172)] [.ref 181, .ref 172] (181 + 1, sl + 48, va_up kd 181 20, va_up ln 181 48) (I, va_up M.2.1 181 (fun _ => 0), va_up M.2.2 181 (fun _ => 0)) (md_p h0 M0) := fun I HI => pr_seqY (pc' := 356) 4 rfl ⟨⟨⟨⟨trivial, trivial⟩, trivial⟩, trivial⟩, ⟨k20, by show vp_in _ (va_up ln 181 48 181); rw [n20]; unfold vp_in; decide⟩⟩ (s37 _ (fi_s HI (by decide) (by decide)))
  have s35 : ∀ I, fi M.1 181 (fun j => nI (ltsL.getD j 0)) 35 I → pr_Y pX11_init 344 [some (.ref 172)] [.ref 181, .ref 172] (181 + 1, sl + 48, va_up kd 181 20, va_up ln 181 48) (I, va_up M.2.1 181 (fun _ => 0), va_up M.2.2 181 (fun _ => 0)) (md_p h0 M0) := fun I HI => pr_seqY (pc' := 350) 4 rfl ⟨⟨⟨⟨trivial, trivial⟩, trivial⟩, trivial⟩, ⟨k20, by show vp_in _ (va_up ln 181 48 181); rw [n20]; unfold vp_in; decide⟩⟩ (s36 _ (fi_s HI (by decide) (by decide)))
  have s34 : ∀ I, fi M.1 181 (fun j => nI (ltsL.getD j 0)) 34 I → pr_Y pX11_init 338 [some (.ref 172)] [.ref 181, .ref 172] (181 + 1, sl + 48, va_up kd 181 20, va_up ln 181 48) (I, va_up M.2.1 181 (fun _ => 0), va_up M.2.2 181 (fun _ => 0)) (md_p h0 M0) := fun I HI => pr_seqY (pc' := 344) 4 rfl ⟨⟨⟨⟨trivial, trivial⟩, trivial⟩, trivial⟩, ⟨k20, by show vp_in _ (va_up ln 181 48 181); rw [n20]; unfold vp_in; decide⟩⟩ (s35 _ (fi_s HI (by decide) (by decide)))
  have s33 : ∀ I, fi M.1 181 (fun j => nI (ltsL.getD j 0)) 33 I → pr_Y pX11_init 332 [some (.ref 172)] [.ref 181, .ref 172] (181 + 1, sl + 48, va_up kd 181 20, va_up ln 181 48) (I, va_up M.2.1 181 (fun _ => 0), va_up M.2.2 181 (fun _ => 0)) (md_p h0 M0) := fun I HI => pr_seqY (pc' := 338) 4 rfl ⟨⟨⟨⟨trivial, trivial⟩, trivial⟩, trivial⟩, ⟨k20, by show vp_in _ (va_up ln 181 48 181); rw [n20]; unfold vp_in; decide⟩⟩ (s34 _ (fi_s HI (by decide) (by decide)))
  have s32 : ∀ I, fi M.1 181 (fun j => nI (ltsL.getD j 0)) 32 I → pr_Y pX11_init 326 [some (.ref 172)] [.ref 181, .ref 172] (181 + 1, sl + 48, va_up kd 181 20, va_up ln 181 48) (I, va_up M.2.1 181 (fun _ => 0), va_up M.2.2 181 (fun _ => 0)) (md_p h0 M0) := fun I HI => pr_seqY (pc' := 332) 4 rfl ⟨⟨⟨⟨trivial, trivial⟩, trivial⟩, trivial⟩, ⟨k20, by show vp_in _ (va_up ln 181 48 181); rw [n20]; unfold vp_in; decide⟩⟩ (s33 _ (fi_s HI (by decide) (by decide)))
  have s31 : ∀ I, fi M.1 181 (fun j => nI (ltsL.getD j 0)) 31 I → pr_Y pX11_init 320 [some (.ref 172)] [.ref 181, .ref 172] (181 + 1, sl + 48, va_up kd 181 20, va_up ln 181 48) (I, va_up M.2.1 181 (fun _ => 0), va_up M.2.2 181 (fun _ => 0)) (md_p h0 M0) := fun I HI => pr_seqY (pc' := 326) 4 rfl ⟨⟨⟨⟨trivial, trivial⟩, trivial⟩, trivial⟩, ⟨k20, by show vp_in _ (va_up ln 181 48 181); rw [n20]; unfold vp_in; decide⟩⟩ (s32 _ (fi_s HI (by decide) (by decide)))
  have s30 : ∀ I, fi M.1 181 (fun j => nI (ltsL.getD j 0)) 30 I → pr_Y pX11_init 314 [some (.ref 172)] [.ref 181, .ref 172] (181 + 1, sl + 48, va_up kd 181 20, va_up ln 181 48) (I, va_up M.2.1 181 (fun _ => 0), va_up M.2.2 181 (fun _ => 0)) (md_p h0 M0) := fun I HI => pr_seqY (pc' := 320) 4 rfl ⟨⟨⟨⟨trivial, trivial⟩, trivial⟩, trivial⟩, ⟨k20, by show vp_in _ (va_up ln 181 48 181); rw [n20]; unfold vp_in; decide⟩⟩ (s31 _ (fi_s HI (by decide) (by decide)))
  have s29 : ∀ I, fi M.1 181 (fun j => nI (ltsL.getD j 0)) 29 I → pr_Y pX11_init 308 [some (.ref 172)] [.ref 181, .ref 172] (181 + 1, sl + 48, va_up kd 181 20, va_up ln 181 48) (I, va_up M.2.1 181 (fun _ => 0), va_up M.2.2 181 (fun _ => 0)) (md_p h0 M0) := fun I HI => pr_seqY (pc' := 314) 4 rfl ⟨⟨⟨⟨trivial, trivial⟩, trivial⟩, trivial⟩, ⟨k20, by show vp_in _ (va_up ln 181 48 181); rw [n20]; unfold vp_in; decide⟩⟩ (s30 _ (fi_s HI (by decide) (by decide)))
  have s28 : ∀ I, fi M.1 181 (fun j => nI (ltsL.getD j 0)) 28 I → pr_Y pX11_init 302 [some (.ref 172)] [.ref 181, .ref 172] (181 + 1, sl + 48, va_up kd 181 20, va_up ln 181 48) (I, va_up M.2.1 181 (fun _ => 0), va_up M.2.2 181 (fun _ => 0)) (md_p h0 M0) := fun I HI => pr_seqY (pc' := 308) 4 rfl ⟨⟨⟨⟨trivial, trivial⟩, trivial⟩, trivial⟩, ⟨k20, by show vp_in _ (va_up ln 181 48 181); rw [n20]; unfold vp_in; decide⟩⟩ (s29 _ (fi_s HI (by decide) (by decide)))
  have s27 : ∀ I, fi M.1 181 (fun j => nI (ltsL.getD j 0)) 27 I → pr_Y pX11_init 296 [some (.ref 172)] [.ref 181, .ref 172] (181 + 1, sl + 48, va_up kd 181 20, va_up ln 181 48) (I, va_up M.2.1 181 (fun _ => 0), va_up M.2.2 181 (fun _ => 0)) (md_p h0 M0) := fun I HI => pr_seqY (pc' := 302) 4 rfl ⟨⟨⟨⟨trivial, trivial⟩, trivial⟩, trivial⟩, ⟨k20, by show vp_in _ (va_up ln 181 48 181); rw [n20]; unfold vp_in; decide⟩⟩ (s28 _ (fi_s HI (by decide) (by decide)))
  have s26 : ∀ I, fi M.1 181 (fun j => nI (ltsL.getD j 0)) 26 I → pr_Y pX11_init 290 [some (.ref 172)] [.ref 181, .ref 172] (181 + 1, sl + 48, va_up kd 181 20, va_up ln 181 48) (I, va_up M.2.1 181 (fun _ => 0), va_up M.2.2 181 (fun _ => 0)) (md_p h0 M0) := fun I HI => pr_seqY (pc' := 296) 4 rfl ⟨⟨⟨⟨trivial, trivial⟩, trivial⟩, trivial⟩, ⟨k20, by show vp_in _ (va_up ln 181 48 181); rw [n20]; unfold vp_in; decide⟩⟩ (s27 _ (fi_s HI (by decide) (by decide)))
  have s25 : ∀ I, fi M.1 181 (fun j => nI (ltsL.getD j 0)) 25 I → pr_Y pX11_init 284 [some (.ref 172)] [.ref 181, .ref 172] (181 + 1, sl + 48, va_up kd 181 20, va_up ln 181 48) (I, va_up M.2.1 181 (fun _ => 0), va_up M.2.2 181 (fun _ => 0)) (md_p h0 M0) := fun I HI => pr_seqY (pc' := 290) 4 rfl ⟨⟨⟨⟨trivial, trivial⟩, trivial⟩, trivial⟩, ⟨k20, by show vp_in _ (va_up ln 181 48 181); rw [n20]; unfold vp_in; decide⟩⟩ (s26 _ (fi_s HI (by decide) (by decide)))
  have s24 : ∀ I, fi M.1 181 (fun j => nI (ltsL.getD j 0)) 24 I → pr_Y pX11_init 278 [some (.ref 172)] [.ref 181, .ref 172] (181 + 1, sl + 48, va_up kd 181 20, va_up ln 181 48) (I, va_up M.2.1 181 (fun _ => 0), va_up M.2.2 181 (fun _ => 0)) (md_p h0 M0) := fun I HI => pr_seqY (pc' := 284) 4 rfl ⟨⟨⟨⟨trivial, trivial⟩, trivial⟩, trivial⟩, ⟨k20, by show vp_in _ (va_up ln 181 48 181); rw [n20]; unfold vp_in; decide⟩⟩ (s25 _ (fi_s HI (by decide) (by decide)))
  have s23 : ∀ I, fi M.1 181 (fun j => nI (ltsL.getD j 0)) 23 I → pr_Y pX11_init 272 [some (.ref 172)] [.ref 181, .ref 172] (181 + 1, sl + 48, va_up kd 181 20, va_up ln 181 48) (I, va_up M.2.1 181 (fun _ => 0), va_up M.2.2 181 (fun _ => 0)) (md_p h0 M0) := fun I HI => pr_seqY (pc' := 278) 4 rfl ⟨⟨⟨⟨trivial, trivial⟩, trivial⟩, trivial⟩, ⟨k20, by show vp_in _ (va_up ln 181 48 181); rw [n20]; unfold vp_in; decide⟩⟩ (s24 _ (fi_s HI (by decide) (by decide)))
  have s22 : ∀ I, fi M.1 181 (fun j => nI (ltsL.getD j 0)) 22 I → pr_Y pX11_init 266 [some (.ref 172)] [.ref 181, .ref 172] (181 + 1, sl + 48, va_up kd 181 20, va_up ln 181 48) (I, va_up M.2.1 181 (fun _ => 0), va_up M.2.2 181 (fun _ => 0)) (md_p h0 M0) := fun I HI => pr_seqY (pc' := 272) 4 rfl ⟨⟨⟨⟨trivial, trivial⟩, trivial⟩, trivial⟩, ⟨k20, by show vp_in _ (va_up ln 181 48 181); rw [n20]; unfold vp_in; decide⟩⟩ (s23 _ (fi_s HI (by decide) (by decide)))
  have s21 : ∀ I, fi M.1 181 (fun j => nI (ltsL.getD j 0)) 21 I → pr_Y pX11_init 260 [some (.ref 172)] [.ref 181, .ref 172] (181 + 1, sl + 48, va_up kd 181 20, va_up ln 181 48) (I, va_up M.2.1 181 (fun _ => 0), va_up M.2.2 181 (fun _ => 0)) (md_p h0 M0) := fun I HI => pr_seqY (pc' := 266) 4 rfl ⟨⟨⟨⟨trivial, trivial⟩, trivial⟩, trivial⟩, ⟨k20, by show vp_in _ (va_up ln 181 48 181); rw [n20]; unfold vp_in; decide⟩⟩ (s22 _ (fi_s HI (by decide) (by decide)))
  have s20 : ∀ I, fi M.1 181 (fun j => nI (ltsL.getD j 0)) 20 I → pr_Y pX11_init 254 [some (.ref 172)] [.ref 181, .ref 172] (181 + 1, sl + 48, va_up kd 181 20, va_up ln 181 48) (I, va_up M.2.1 181 (fun _ => 0), va_up M.2.2 181 (fun _ => 0)) (md_p h0 M0) := fun I HI => pr_seqY (pc' := 260) 4 rfl ⟨⟨⟨⟨trivial, trivial⟩, trivial⟩, trivial⟩, ⟨k20, by show vp_in _ (va_up ln 181 48 181); rw [n20]; unfold vp_in; decide⟩⟩ (s21 _ (fi_s HI (by decide) (by decide)))
  have s19 : ∀ I, fi M.1 181 (fun j => nI (ltsL.getD j 0)) 19 I → pr_Y pX11_init 248 [some (.ref 172)] [.ref 181, .ref 172] (181 + 1, sl + 48, va_up kd 181 20, va_up ln 181 48) (I, va_up M.2.1 181 (fun _ => 0), va_up M.2.2 181 (fun _ => 0)) (md_p h0 M0) := fun I HI => pr_seqY (pc' := 254) 4 rfl ⟨⟨⟨⟨trivial, trivial⟩, trivial⟩, trivial⟩, ⟨k20, by show vp_in _ (va_up ln 181 48 181); rw [n20]; unfold vp_in; decide⟩⟩ (s20 _ (fi_s HI (by decide) (by decide)))
  have s18 : ∀ I, fi M.1 181 (fun j => nI (ltsL.getD j 0)) 18 I → pr_Y pX11_init 242 [some (.ref 172)] [.ref 181, .ref 172] (181 + 1, sl + 48, va_up kd 181 20, va_up ln 181 48) (I, va_up M.2.1 181 (fun _ => 0), va_up M.2.2 181 (fun _ => 0)) (md_p h0 M0) := fun I HI => pr_seqY (pc' := 248) 4 rfl ⟨⟨⟨⟨trivial, trivial⟩, trivial⟩, trivial⟩, ⟨k20, by show vp_in _ (va_up ln 181 48 181); rw [n20]; unfold vp_in; decide⟩⟩ (s19 _ (fi_s HI (by decide) (by decide)))
  have s17 : ∀ I, fi M.1 181 (fun j => nI (ltsL.getD j 0)) 17 I → pr_Y pX11_init 236 [some (.ref 172)] [.ref 181, .ref 172] (181 + 1, sl + 48, va_up kd 181 20, va_up ln 181 48) (I, va_up M.2.1 181 (fun _ => 0), va_up M.2.2 181 (fun _ => 0)) (md_p h0 M0) := fun I HI => pr_seqY (pc' := 242) 4 rfl ⟨⟨⟨⟨trivial, trivial⟩, trivial⟩, trivial⟩, ⟨k20, by show vp_in _ (va_up ln 181 48 181); rw [n20]; unfold vp_in; decide⟩⟩ (s18 _ (fi_s HI (by decide) (by decide)))
  have s16 : ∀ I, fi M.1 181 (fun j => nI (ltsL.getD j 0)) 16 I → pr_Y pX11_init 230 [some (.ref 172)] [.ref 181, .ref 172] (181 + 1, sl + 48, va_up kd 181 20, va_up ln 181 48) (I, va_up M.2.1 181 (fun _ => 0), va_up M.2.2 181 (fun _ => 0)) (md_p h0 M0) := fun I HI => pr_seqY (pc' := 236) 4 rfl ⟨⟨⟨⟨trivial, trivial⟩, trivial⟩, trivial⟩, ⟨k20, by show vp_in _ (va_up ln 181 48 181); rw [n20]; unfold vp_in; decide⟩⟩ (s17 _ (fi_s HI (by decide) (by decide)))
  have s15 : ∀ I, fi M.1 181 (fun j => nI (ltsL.getD j 0)) 15 I → pr_Y pX11_init 224 [some (.ref 172)] [.ref 181, .ref 172] (181 + 1, sl + 48, va_up kd 181 20, va_up ln 181 48) (I, va_up M.2.1 181 (fun _ => 0), va_up M.2.2 181 (fun _ => 0)) (md_p h0 M0) := fun I HI => pr_seqY (pc' := 230) 4 rfl ⟨⟨⟨⟨trivial, trivial⟩, trivial⟩, trivial⟩, ⟨k20, by show vp_in _ (va_up ln 181 48 181); rw [n20]; unfold vp_in; decide⟩⟩ (s16 _ (fi_s HI (by decide) (by decide)))
  have s14 : ∀ I, fi M.1 181 (fun j => nI (ltsL.getD j 0)) 14 I → pr_Y pX11_init 218 [some (.ref 172)] [.ref 181, .ref 172] (181 + 1, sl + 48, va_up kd 181 20, va_up ln 181 48) (I, va_up M.2.1 181 (fun _ => 0), va_up M.2.2 181 (fun _ => 0)) (md_p h0 M0) := fun I HI => pr_seqY (pc' := 224) 4 rfl ⟨⟨⟨⟨trivial, trivial⟩, trivial⟩, trivial⟩, ⟨k20, by show vp_in _ (va_up ln 181 48 181); rw [n20]; unfold vp_in; decide⟩⟩ (s15 _ (fi_s HI (by decide) (by decide)))
  have s13 : ∀ I, fi M.1 181 (fun j => nI (ltsL.getD j 0)) 13 I → pr_Y pX11_init 212 [some (.ref 172)] [.ref 181, .ref 172] (181 + 1, sl + 48, va_up kd 181 20, va_up ln 181 48) (I, va_up M.2.1 181 (fun _ => 0), va_up M.2.2 181 (fun _ => 0)) (md_p h0 M0) := fun I HI => pr_seqY (pc' := 218) 4 rfl ⟨⟨⟨⟨trivial, trivial⟩, trivial⟩, trivial⟩, ⟨k20, by show vp_in _ (va_up ln 181 48 181); rw [n20]; unfold vp_in; decide⟩⟩ (s14 _ (fi_s HI (by decide) (by decide)))
  have s12 : ∀ I, fi M.1 181 (fun j => nI (ltsL.getD j 0)) 12 I → pr_Y pX11_init 206 [some (.ref 172)] [.ref 181, .ref 172] (181 + 1, sl + 48, va_up kd 181 20, va_up ln 181 48) (I, va_up M.2.1 181 (fun _ => 0), va_up M.2.2 181 (fun _ => 0)) (md_p h0 M0) := fun I HI => pr_seqY (pc' := 212) 4 rfl ⟨⟨⟨⟨trivial, trivial⟩, trivial⟩, trivial⟩, ⟨k20, by show vp_in _ (va_up ln 181 48 181); rw [n20]; unfold vp_in; decide⟩⟩ (s13 _ (fi_s HI (by decide) (by decide)))
  have s11 : ∀ I, fi M.1 181 (fun j => nI (ltsL.getD j 0)) 11 I → pr_Y pX11_init 200 [some (.ref 172)] [.ref 181, .ref 172] (181 + 1, sl + 48, va_up kd 181 20, va_up ln 181 48) (I, va_up M.2.1 181 (fun _ => 0), va_up M.2.2 181 (fun _ => 0)) (md_p h0 M0) := fun I HI => pr_seqY (pc' := 206) 4 rfl ⟨⟨⟨⟨trivial, trivial⟩, trivial⟩, trivial⟩, ⟨k20, by show vp_in _ (va_up ln 181 48 181); rw [n20]; unfold vp_in; decide⟩⟩ (s12 _ (fi_s HI (by decide) (by decide)))
  have s10 : ∀ I, fi M.1 181 (fun j => nI (ltsL.getD j 0)) 10 I → pr_Y pX11_init 194 [some (.ref 172)] [.ref 181, .ref 172] (181 + 1, sl + 48, va_up kd 181 20, va_up ln 181 48) (I, va_up M.2.1 181 (fun _ => 0), va_up M.2.2 181 (fun _ => 0)) (md_p h0 M0) := fun I HI => pr_seqY (pc' := 200) 4 rfl ⟨⟨⟨⟨trivial, trivial⟩, trivial⟩, trivial⟩, ⟨k20, by show vp_in _ (va_up ln 181 48 181); rw [n20]; unfold vp_in; decide⟩⟩ (s11 _ (fi_s HI (by decide) (by decide)))
  have s9 : ∀ I, fi M.1 181 (fun j => nI (ltsL.getD j 0)) 9 I → pr_Y pX11_init 188 [some (.ref 172)] [.ref 181, .ref 172] (181 + 1, sl + 48, va_up kd 181 20, va_up ln 181 48) (I, va_up M.2.1 181 (fun _ => 0), va_up M.2.2 181 (fun _ => 0)) (md_p h0 M0) := fun I HI => pr_seqY (pc' := 194) 4 rfl ⟨⟨⟨⟨trivial, trivial⟩, trivial⟩, trivial⟩, ⟨k20, by show vp_in _ (va_up ln 181 48 181); rw [n20]; unfold vp_in; decide⟩⟩ (s10 _ (fi_s HI (by decide) (by decide)))
  have s8 : ∀ I, fi M.1 181 (fun j => nI (ltsL.getD j 0)) 8 I → pr_Y pX11_init 182 [some (.ref 172)] [.ref 181, .ref 172] (181 + 1, sl + 48, va_up kd 181 20, va_up ln 181 48) (I, va_up M.2.1 181 (fun _ => 0), va_up M.2.2 181 (fun _ => 0)) (md_p h0 M0) := fun I HI => pr_seqY (pc' := 188) 4 rfl ⟨⟨⟨⟨trivial, trivial⟩, trivial⟩, trivial⟩, ⟨k20, by show vp_in _ (va_up ln 181 48 181); rw [n20]; unfold vp_in; decide⟩⟩ (s9 _ (fi_s HI (by decide) (by decide)))
  have s7 : ∀ I, fi M.1 181 (fun j => nI (ltsL.getD j 0)) 7 I → pr_Y pX11_init 176 [some (.ref 172)] [.ref 181, .ref 172] (181 + 1, sl + 48, va_up kd 181 20, va_up ln 181 48) (I, va_up M.2.1 181 (fun _ => 0), va_up M.2.2 181 (fun _ => 0)) (md_p h0 M0) := fun I HI => pr_seqY (pc' := 182) 4 rfl ⟨⟨⟨⟨trivial, trivial⟩, trivial⟩, trivial⟩, ⟨k20, by show vp_in _ (va_up ln 181 48 181); rw [n20]; unfold vp_in; decide⟩⟩ (s8 _ (fi_s HI (by decide) (by decide)))
  have s6 : ∀ I, fi M.1 181 (fun j => nI (ltsL.getD j 0)) 6 I → pr_Y pX11_init 170 [some (.ref 172)] [.ref 181, .ref 172] (181 + 1, sl + 48, va_up kd 181 20, va_up ln 181 48) (I, va_up M.2.1 181 (fun _ => 0), va_up M.2.2 181 (fun _ => 0)) (md_p h0 M0) := fun I HI => pr_seqY (pc' := 176) 4 rfl ⟨⟨⟨⟨trivial, trivial⟩, trivial⟩, trivial⟩, ⟨k20, by show vp_in _ (va_up ln 181 48 181); rw [n20]; unfold vp_in; decide⟩⟩ (s7 _ (fi_s HI (by decide) (by decide)))
  have s5 : ∀ I, fi M.1 181 (fun j => nI (ltsL.getD j 0)) 5 I → pr_Y pX11_init 165 [some (.ref 172)] [.ref 181, .ref 172] (181 + 1, sl + 48, va_up kd 181 20, va_up ln 181 48) (I, va_up M.2.1 181 (fun _ => 0), va_up M.2.2 181 (fun _ => 0)) (md_p h0 M0) := fun I HI => pr_seqY (pc' := 170) 4 rfl ⟨⟨⟨⟨trivial, trivial⟩, trivial⟩, trivial⟩, ⟨k20, by show vp_in _ (va_up ln 181 48 181); rw [n20]; unfold vp_in; decide⟩⟩ (s6 _ (fi_s HI (by decide) (by decide)))
  have s4 : ∀ I, fi M.1 181 (fun j => nI (ltsL.getD j 0)) 4 I → pr_Y pX11_init 160 [some (.ref 172)] [.ref 181, .ref 172] (181 + 1, sl + 48, va_up kd 181 20, va_up ln 181 48) (I, va_up M.2.1 181 (fun _ => 0), va_up M.2.2 181 (fun _ => 0)) (md_p h0 M0) := fun I HI => pr_seqY (pc' := 165) 4 rfl ⟨⟨⟨⟨trivial, trivial⟩, trivial⟩, trivial⟩, ⟨k20, by show vp_in _ (va_up ln 181 48 181); rw [n20]; unfold vp_in; decide⟩⟩ (s5 _ (fi_s HI (by decide) (by decide)))
  have s3 : ∀ I, fi M.1 181 (fun j => nI (ltsL.getD j 0)) 3 I → pr_Y pX11_init 155 [some (.ref 172)] [.ref 181, .ref 172] (181 + 1, sl + 48, va_up kd 181 20, va_up ln 181 48) (I, va_up M.2.1 181 (fun _ => 0), va_up M.2.2 181 (fun _ => 0)) (md_p h0 M0) := fun I HI => pr_seqY (pc' := 160) 4 rfl ⟨⟨⟨⟨trivial, trivial⟩, trivial⟩, trivial⟩, ⟨k20, by show vp_in _ (va_up ln 181 48 181); rw [n20]; unfold vp_in; decide⟩⟩ (s4 _ (fi_s HI (by decide) (by decide)))
  have s2 : ∀ I, fi M.1 181 (fun j => nI (ltsL.getD j 0)) 2 I → pr_Y pX11_init 150 [some (.ref 172)] [.ref 181, .ref 172] (181 + 1, sl + 48, va_up kd 181 20, va_up ln 181 48) (I, va_up M.2.1 181 (fun _ => 0), va_up M.2.2 181 (fun _ => 0)) (md_p h0 M0) := fun I HI => pr_seqY (pc' := 155) 4 rfl ⟨⟨⟨⟨trivial, trivial⟩, trivial⟩, trivial⟩, ⟨k20, by show vp_in _ (va_up ln 181 48 181); rw [n20]; unfold vp_in; decide⟩⟩ (s3 _ (fi_s HI (by decide) (by decide)))
  have s1 : ∀ I, fi M.1 181 (fun j => nI (ltsL.getD j 0)) 1 I → pr_Y pX11_init 145 [some (.ref 172)] [.ref 181, .ref 172] (181 + 1, sl + 48, va_up kd 181 20, va_up ln 181 48) (I, va_up M.2.1 181 (fun _ => 0), va_up M.2.2 181 (fun _ => 0)) (md_p h0 M0) := fun I HI => pr_seqY (pc' := 150) 4 rfl ⟨⟨⟨⟨trivial, trivial⟩, trivial⟩, trivial⟩, ⟨k20, by show vp_in _ (va_up ln 181 48 181); rw [n20]; unfold vp_in; decide⟩⟩ (s2 _ (fi_s HI (by decide) (by decide)))
  have s0 : ∀ I, fi M.1 181 (fun j => nI (ltsL.getD j 0)) 0 I → pr_Y pX11_init 140 [some (.ref 172)] [.ref 181, .ref 172] (181 + 1, sl + 48, va_up kd 181 20, va_up ln 181 48) (I, va_up M.2.1 181 (fun _ => 0), va_up M.2.2 181 (fun _ => 0)) (md_p h0 M0) := fun I HI => pr_seqY (pc' := 145) 4 rfl ⟨⟨⟨⟨trivial, trivial⟩, trivial⟩, trivial⟩, ⟨k20, by show vp_in _ (va_up ln 181 48 181); rw [n20]; unfold vp_in; decide⟩⟩ (s1 _ (fi_s HI (by decide) (by decide)))
  refine pr_seqY (pc' := 140) 3 rfl ⟨⟨⟨trivial, by decide⟩, trivial⟩, ⟨by decide, by rw [nn]; decide, by show 181 < 1000000; decide⟩⟩ ?_
  dsimp only
  rw [nn]
  exact s0 _ ⟨fun a ha => va_up_n ha, fun j hj => absurd hj (Nat.not_lt_zero j)⟩
set_option maxRecDepth 20000 in
theorem nm_7 {h0 : ab_H} {M0 : ab_M} (hz : ∀ j, M0.1 172 j = 0) (h : ab_H) (M : ab_M) (H : mi h0 M0 (mB 7) 1581 h M) : pr_Y pX11_init 63 [some (.ref 172)] [] h M (md_p h0 M0) := by
  obtain ⟨n, sl, kd, ln⟩ := h
  obtain rfl : n = 180 := H.1
  have hk : kd 172 = 12 := H.2.2.2.1
  have hk2 : va_up kd 180 20 172 = 12 := by rw [va_up_n (by decide)]; exact hk
  have nn : (Int8.ofInt 12).toInt32.toNatClampNeg = 12 := by decide
  have k20 : va_up kd 180 20 180 = 20 := va_up_at _ _ _
  have n20 : va_up ln 180 12 180 = 12 := va_up_at ln 180 12
  have s12 : ∀ I, fi M.1 180 (fun j => nI (cutsL.getD j 0)) 12 I → pr_Y pX11_init 132 [some (.ref 172)] [.ref 180, .ref 172] (180 + 1, sl + 12, va_up kd 180 20, va_up ln 180 12) (I, va_up M.2.1 180 (fun _ => 0), va_up M.2.2 180 (fun _ => 0)) (md_p h0 M0) := fun I HI => pr_seqY (pc' := 135) 1 rfl ⟨trivial, ⟨hk2, by decide⟩⟩ (nm_8 hz _ _ (mi_a (A := mB 7) (fd := 22) (kn := 20) (n := 12) (f := (fun j => nI (cutsL.getD j 0))) H (by decide) (by decide) HI.2 HI.1))
  have s11 : ∀ I, fi M.1 180 (fun j => nI (cutsL.getD j 0)) 11 I → pr_Y pX11_init 126 [some (.ref 172)] [.ref 180, .ref 172] (180 + 1, sl + 12, va_up kd 180 20, va_up ln 180 12) (I, va_up M.2.1 180 (fun _ => 0), va_up M.2.2 180 (fun _ => 0)) (md_p h0 M0) := fun I HI => pr_seqY (pc' := 132) 4 rfl ⟨⟨⟨⟨trivial, trivial⟩, trivial⟩, trivial⟩, ⟨k20, by show vp_in _ (va_up ln 180 12 180); rw [n20]; unfold vp_in; decide⟩⟩ (s12 _ (fi_s HI (by decide) (by decide)))
  have s10 : ∀ I, fi M.1 180 (fun j => nI (cutsL.getD j 0)) 10 I → pr_Y pX11_init 120 [some (.ref 172)] [.ref 180, .ref 172] (180 + 1, sl + 12, va_up kd 180 20, va_up ln 180 12) (I, va_up M.2.1 180 (fun _ => 0), va_up M.2.2 180 (fun _ => 0)) (md_p h0 M0) := fun I HI => pr_seqY (pc' := 126) 4 rfl ⟨⟨⟨⟨trivial, trivial⟩, trivial⟩, trivial⟩, ⟨k20, by show vp_in _ (va_up ln 180 12 180); rw [n20]; unfold vp_in; decide⟩⟩ (s11 _ (fi_s HI (by decide) (by decide)))
  have s9 : ∀ I, fi M.1 180 (fun j => nI (cutsL.getD j 0)) 9 I → pr_Y pX11_init 114 [some (.ref 172)] [.ref 180, .ref 172] (180 + 1, sl + 12, va_up kd 180 20, va_up ln 180 12) (I, va_up M.2.1 180 (fun _ => 0), va_up M.2.2 180 (fun _ => 0)) (md_p h0 M0) := fun I HI => pr_seqY (pc' := 120) 4 rfl ⟨⟨⟨⟨trivial, trivial⟩, trivial⟩, trivial⟩, ⟨k20, by show vp_in _ (va_up ln 180 12 180); rw [n20]; unfold vp_in; decide⟩⟩ (s10 _ (fi_s HI (by decide) (by decide)))
  have s8 : ∀ I, fi M.1 180 (fun j => nI (cutsL.getD j 0)) 8 I → pr_Y pX11_init 108 [some (.ref 172)] [.ref 180, .ref 172] (180 + 1, sl + 12, va_up kd 180 20, va_up ln 180 12) (I, va_up M.2.1 180 (fun _ => 0), va_up M.2.2 180 (fun _ => 0)) (md_p h0 M0) := fun I HI => pr_seqY (pc' := 114) 4 rfl ⟨⟨⟨⟨trivial, trivial⟩, trivial⟩, trivial⟩, ⟨k20, by show vp_in _ (va_up ln 180 12 180); rw [n20]; unfold vp_in; decide⟩⟩ (s9 _ (fi_s HI (by decide) (by decide)))
  have s7 : ∀ I, fi M.1 180 (fun j => nI (cutsL.getD j 0)) 7 I → pr_Y pX11_init 102 [some (.ref 172)] [.ref 180, .ref 172] (180 + 1, sl + 12, va_up kd 180 20, va_up ln 180 12) (I, va_up M.2.1 180 (fun _ => 0), va_up M.2.2 180 (fun _ => 0)) (md_p h0 M0) := fun I HI => pr_seqY (pc' := 108) 4 rfl ⟨⟨⟨⟨trivial, trivial⟩, trivial⟩, trivial⟩, ⟨k20, by show vp_in _ (va_up ln 180 12 180); rw [n20]; unfold vp_in; decide⟩⟩ (s8 _ (fi_s HI (by decide) (by decide)))
  have s6 : ∀ I, fi M.1 180 (fun j => nI (cutsL.getD j 0)) 6 I → pr_Y pX11_init 96 [some (.ref 172)] [.ref 180, .ref 172] (180 + 1, sl + 12, va_up kd 180 20, va_up ln 180 12) (I, va_up M.2.1 180 (fun _ => 0), va_up M.2.2 180 (fun _ => 0)) (md_p h0 M0) := fun I HI => pr_seqY (pc' := 102) 4 rfl ⟨⟨⟨⟨trivial, trivial⟩, trivial⟩, trivial⟩, ⟨k20, by show vp_in _ (va_up ln 180 12 180); rw [n20]; unfold vp_in; decide⟩⟩ (s7 _ (fi_s HI (by decide) (by decide)))
  have s5 : ∀ I, fi M.1 180 (fun j => nI (cutsL.getD j 0)) 5 I → pr_Y pX11_init 91 [some (.ref 172)] [.ref 180, .ref 172] (180 + 1, sl + 12, va_up kd 180 20, va_up ln 180 12) (I, va_up M.2.1 180 (fun _ => 0), va_up M.2.2 180 (fun _ => 0)) (md_p h0 M0) := fun I HI => pr_seqY (pc' := 96) 4 rfl ⟨⟨⟨⟨trivial, trivial⟩, trivial⟩, trivial⟩, ⟨k20, by show vp_in _ (va_up ln 180 12 180); rw [n20]; unfold vp_in; decide⟩⟩ (s6 _ (fi_s HI (by decide) (by decide)))
  have s4 : ∀ I, fi M.1 180 (fun j => nI (cutsL.getD j 0)) 4 I → pr_Y pX11_init 86 [some (.ref 172)] [.ref 180, .ref 172] (180 + 1, sl + 12, va_up kd 180 20, va_up ln 180 12) (I, va_up M.2.1 180 (fun _ => 0), va_up M.2.2 180 (fun _ => 0)) (md_p h0 M0) := fun I HI => pr_seqY (pc' := 91) 4 rfl ⟨⟨⟨⟨trivial, trivial⟩, trivial⟩, trivial⟩, ⟨k20, by show vp_in _ (va_up ln 180 12 180); rw [n20]; unfold vp_in; decide⟩⟩ (s5 _ (fi_s HI (by decide) (by decide)))
  have s3 : ∀ I, fi M.1 180 (fun j => nI (cutsL.getD j 0)) 3 I → pr_Y pX11_init 81 [some (.ref 172)] [.ref 180, .ref 172] (180 + 1, sl + 12, va_up kd 180 20, va_up ln 180 12) (I, va_up M.2.1 180 (fun _ => 0), va_up M.2.2 180 (fun _ => 0)) (md_p h0 M0) := fun I HI => pr_seqY (pc' := 86) 4 rfl ⟨⟨⟨⟨trivial, trivial⟩, trivial⟩, trivial⟩, ⟨k20, by show vp_in _ (va_up ln 180 12 180); rw [n20]; unfold vp_in; decide⟩⟩ (s4 _ (fi_s HI (by decide) (by decide)))
  have s2 : ∀ I, fi M.1 180 (fun j => nI (cutsL.getD j 0)) 2 I → pr_Y pX11_init 76 [some (.ref 172)] [.ref 180, .ref 172] (180 + 1, sl + 12, va_up kd 180 20, va_up ln 180 12) (I, va_up M.2.1 180 (fun _ => 0), va_up M.2.2 180 (fun _ => 0)) (md_p h0 M0) := fun I HI => pr_seqY (pc' := 81) 4 rfl ⟨⟨⟨⟨trivial, trivial⟩, trivial⟩, trivial⟩, ⟨k20, by show vp_in _ (va_up ln 180 12 180); rw [n20]; unfold vp_in; decide⟩⟩ (s3 _ (fi_s HI (by decide) (by decide)))
  have s1 : ∀ I, fi M.1 180 (fun j => nI (cutsL.getD j 0)) 1 I → pr_Y pX11_init 72 [some (.ref 172)] [.ref 180, .ref 172] (180 + 1, sl + 12, va_up kd 180 20, va_up ln 180 12) (I, va_up M.2.1 180 (fun _ => 0), va_up M.2.2 180 (fun _ => 0)) (md_p h0 M0) := fun I HI => pr_seqY (pc' := 76) 4 rfl ⟨⟨⟨⟨trivial, trivial⟩, trivial⟩, trivial⟩, ⟨k20, by show vp_in _ (va_up ln 180 12 180); rw [n20]; unfold vp_in; decide⟩⟩ (s2 _ (fi_s HI (by decide) (by decide)))
  have s0 : ∀ I, fi M.1 180 (fun j => nI (cutsL.getD j 0)) 0 I → pr_Y pX11_init 68 [some (.ref 172)] [.ref 180, .ref 172] (180 + 1, sl + 12, va_up kd 180 20, va_up ln 180 12) (I, va_up M.2.1 180 (fun _ => 0), va_up M.2.2 180 (fun _ => 0)) (md_p h0 M0) := fun I HI => pr_seqY (pc' := 72) 4 rfl ⟨⟨⟨⟨trivial, trivial⟩, trivial⟩, trivial⟩, ⟨k20, by show vp_in _ (va_up ln 180 12 180); rw [n20]; unfold vp_in; decide⟩⟩ (s1 _ (fi_s HI (by decide) (by decide)))
  refine pr_seqY (pc' := 68) 3 rfl ⟨⟨⟨trivial, by decide⟩, trivial⟩, ⟨by decide, by rw [nn]; decide, by show 180 < 1000000; decide⟩⟩ ?_
  dsimp only
  rw [nn]
  exact s0 _ ⟨fun a ha => va_up_n ha, fun j hj => absurd hj (Nat.not_lt_zero j)⟩
set_option maxRecDepth 20000 in
theorem nm_6 {h0 : ab_H} {M0 : ab_M} (hz : ∀ j, M0.1 172 j = 0) (h : ab_H) (M : ab_M) (H : mi h0 M0 (mB 6) 1261 h M) : pr_Y pX11_init 54 [some (.ref 172)] [] h M (md_p h0 M0) := by
  obtain ⟨n, sl, kd, ln⟩ := h
  obtain rfl : n = 179 := H.1
  have hk : kd 172 = 12 := H.2.2.2.1
  have hk2 : va_up kd 179 20 172 = 12 := by rw [va_up_n (by decide)]; exact hk
  have nn : (Int16.ofInt 320).toInt32.toNatClampNeg = 320 := by decide
  refine pr_seqY (pc' := 63) 4 rfl ⟨⟨⟨⟨trivial, by decide⟩, trivial⟩, ⟨by decide, by rw [nn]; decide, by show 179 < 1000000; decide⟩⟩, ⟨hk2, by show 179 ≠ 0; decide⟩⟩ ?_
  dsimp only
  rw [nn]
  exact nm_7 hz _ _ (mi_a (A := mB 6) (fd := 13) (kn := 20) (n := 320) (f := (fun _ => 0)) H (by decide) (by decide) (fun j _ => congrFun (va_up_at _ _ _) j) (fun a ha => va_up_n ha))
set_option maxRecDepth 20000 in
theorem nm_5 {h0 : ab_H} {M0 : ab_M} (hz : ∀ j, M0.1 172 j = 0) (h : ab_H) (M : ab_M) (H : mi h0 M0 (mB 5) 1249 h M) : pr_Y pX11_init 46 [some (.ref 172)] [] h M (md_p h0 M0) := by
  obtain ⟨n, sl, kd, ln⟩ := h
  obtain rfl : n = 178 := H.1
  have hk : kd 172 = 12 := H.2.2.2.1
  have hk2 : va_up kd 178 20 172 = 12 := by rw [va_up_n (by decide)]; exact hk
  have nn : (Int8.ofInt 12).toInt32.toNatClampNeg = 12 := by decide
  refine pr_seqY (pc' := 54) 4 rfl ⟨⟨⟨⟨trivial, by decide⟩, trivial⟩, ⟨by decide, by rw [nn]; decide, by show 178 < 1000000; decide⟩⟩, ⟨hk2, by show 178 ≠ 0; decide⟩⟩ ?_
  dsimp only
  rw [nn]
  exact nm_6 hz _ _ (mi_a (A := mB 5) (fd := 7) (kn := 20) (n := 12) (f := (fun _ => 0)) H (by decide) (by decide) (fun j _ => congrFun (va_up_at _ _ _) j) (fun a ha => va_up_n ha))
set_option maxRecDepth 20000 in
theorem nm_4 {h0 : ab_H} {M0 : ab_M} (hz : ∀ j, M0.1 172 j = 0) (h : ab_H) (M : ab_M) (H : mi h0 M0 (mB 4) 1183 h M) : pr_Y pX11_init 38 [some (.ref 172)] [] h M (md_p h0 M0) := by
  obtain ⟨n, sl, kd, ln⟩ := h
  obtain rfl : n = 177 := H.1
  have hk : kd 172 = 12 := H.2.2.2.1
  have hk2 : va_up kd 177 20 172 = 12 := by rw [va_up_n (by decide)]; exact hk
  have nn : (Int8.ofInt 66).toInt32.toNatClampNeg = 66 := by decide
  refine pr_seqY (pc' := 46) 4 rfl ⟨⟨⟨⟨trivial, by decide⟩, trivial⟩, ⟨by decide, by rw [nn]; decide, by show 177 < 1000000; decide⟩⟩, ⟨hk2, by show 177 ≠ 0; decide⟩⟩ ?_
  dsimp only
  rw [nn]
  exact nm_5 hz _ _ (mi_a (A := mB 4) (fd := 6) (kn := 20) (n := 66) (f := (fun _ => 0)) H (by decide) (by decide) (fun j _ => congrFun (va_up_at _ _ _) j) (fun a ha => va_up_n ha))
set_option maxRecDepth 20000 in
theorem nm_3 {h0 : ab_H} {M0 : ab_M} (hz : ∀ j, M0.1 172 j = 0) (h : ab_H) (M : ab_M) (H : mi h0 M0 (mB 3) 962 h M) : pr_Y pX11_init 29 [some (.ref 172)] [] h M (md_p h0 M0) := by
  obtain ⟨n, sl, kd, ln⟩ := h
  obtain rfl : n = 176 := H.1
  have hk : kd 172 = 12 := H.2.2.2.1
  have hk2 : va_up kd 176 20 172 = 12 := by rw [va_up_n (by decide)]; exact hk
  have nn : (Int16.ofInt 221).toInt32.toNatClampNeg = 221 := by decide
  refine pr_seqY (pc' := 38) 4 rfl ⟨⟨⟨⟨trivial, by decide⟩, trivial⟩, ⟨by decide, by rw [nn]; decide, by show 176 < 1000000; decide⟩⟩, ⟨hk2, by show 176 ≠ 0; decide⟩⟩ ?_
  dsimp only
  rw [nn]
  exact nm_4 hz _ _ (mi_a (A := mB 3) (fd := 5) (kn := 20) (n := 221) (f := (fun _ => 0)) H (by decide) (by decide) (fun j _ => congrFun (va_up_at _ _ _) j) (fun a ha => va_up_n ha))
set_option maxRecDepth 20000 in
theorem nm_2 {h0 : ab_H} {M0 : ab_M} (hz : ∀ j, M0.1 172 j = 0) (h : ab_H) (M : ab_M) (H : mi h0 M0 (mB 2) 950 h M) : pr_Y pX11_init 21 [some (.ref 172)] [] h M (md_p h0 M0) := by
  obtain ⟨n, sl, kd, ln⟩ := h
  obtain rfl : n = 175 := H.1
  have hk : kd 172 = 12 := H.2.2.2.1
  have hk2 : va_up kd 175 20 172 = 12 := by rw [va_up_n (by decide)]; exact hk
  have nn : (Int8.ofInt 12).toInt32.toNatClampNeg = 12 := by decide
  refine pr_seqY (pc' := 29) 4 rfl ⟨⟨⟨⟨trivial, by decide⟩, trivial⟩, ⟨by decide, by rw [nn]; decide, by show 175 < 1000000; decide⟩⟩, ⟨hk2, by show 175 ≠ 0; decide⟩⟩ ?_
  dsimp only
  rw [nn]
  exact nm_3 hz _ _ (mi_a (A := mB 2) (fd := 3) (kn := 20) (n := 12) (f := (fun _ => 0)) H (by decide) (by decide) (fun j _ => congrFun (va_up_at _ _ _) j) (fun a ha => va_up_n ha))
set_option maxRecDepth 20000 in
theorem nm_1 {h0 : ab_H} {M0 : ab_M} (hz : ∀ j, M0.1 172 j = 0) (h : ab_H) (M : ab_M) (H : mi h0 M0 (mB 1) 884 h M) : pr_Y pX11_init 13 [some (.ref 172)] [] h M (md_p h0 M0) := by
  obtain ⟨n, sl, kd, ln⟩ := h
  obtain rfl : n = 174 := H.1
  have hk : kd 172 = 12 := H.2.2.2.1
  have hk2 : va_up kd 174 20 172 = 12 := by rw [va_up_n (by decide)]; exact hk
  have nn : (Int8.ofInt 66).toInt32.toNatClampNeg = 66 := by decide
  refine pr_seqY (pc' := 21) 4 rfl ⟨⟨⟨⟨trivial, by decide⟩, trivial⟩, ⟨by decide, by rw [nn]; decide, by show 174 < 1000000; decide⟩⟩, ⟨hk2, by show 174 ≠ 0; decide⟩⟩ ?_
  dsimp only
  rw [nn]
  exact nm_2 hz _ _ (mi_a (A := mB 1) (fd := 1) (kn := 20) (n := 66) (f := (fun _ => 0)) H (by decide) (by decide) (fun j _ => congrFun (va_up_at _ _ _) j) (fun a ha => va_up_n ha))
set_option maxRecDepth 20000 in
theorem nm_0 {h0 : ab_H} {M0 : ab_M} (hz : ∀ j, M0.1 172 j = 0) (h : ab_H) (M : ab_M) (H : mi h0 M0 (mB 0) 0 h M) : pr_Y pX11_init 4 [some (.ref 172)] [] h M (md_p h0 M0) := by
  obtain ⟨n, sl, kd, ln⟩ := h
  obtain rfl : n = 173 := H.1
  have hk : kd 172 = 12 := H.2.2.2.1
  have hk2 : va_up kd 173 20 172 = 12 := by rw [va_up_n (by decide)]; exact hk
  have nn : (Int16.ofInt 884).toInt32.toNatClampNeg = 884 := by decide
  refine pr_seqY (pc' := 13) 4 rfl ⟨⟨⟨⟨trivial, by decide⟩, trivial⟩, ⟨by decide, by rw [nn]; decide, by show 173 < 1000000; decide⟩⟩, ⟨hk2, by show 173 ≠ 0; decide⟩⟩ ?_
  dsimp only
  rw [nn]
  exact nm_1 hz _ _ (mi_a (A := mB 0) (fd := 0) (kn := 20) (n := 884) (f := (fun _ => 0)) H (by decide) (by decide) (fun j _ => congrFun (va_up_at _ _ _) j) (fun a ha => va_up_n ha))
theorem n_model (h : ab_H) (M : ab_M) (hk : ab_k h 172 = 12) (hn : h.1 = 173) (hz : ∀ j, M.1 172 j = 0) : pr_Z pX11_init [.ref 172] h M (md_p h M) := by
  have wd : ab_wd [] := by unfold ab_wd; decide
  refine pr_seqY (pc' := 4) 2 rfl ⟨⟨trivial, by decide⟩, ⟨by decide, wd⟩⟩ ?_
  exact nm_0 hz _ _ ⟨hn, rfl, fun _ _ => ⟨rfl, rfl, rfl, rfl⟩, hk, rfl, fun i e he => by cases he⟩
