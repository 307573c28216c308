/-! ===== arrays and new cells of the pure machine ===== -/
theorem ab_oc_lt (k : Nat) : ab_oc k < 12 := by
  unfold ab_oc
  split <;> decide
theorem ab_u_rowQ {ad : Nat → Nat} {f : Nat → Nat → Nat} {a k q : Nat} (hq : q ≠ 0) : (fun i => ab_rq ad (ab_u f a k q a i)) = va_up (fun i => ab_rq ad (f a i)) k (some (ad q)) := by
  funext x
  by_cases hx : x = k
  · subst hx
    rw [ab_u_at, ab_rq, if_neg hq]
    simp [va_up]
  · rw [ab_u_j hx]
    simp [va_up, hx]
section ABV
variable {p : Program} {l : Launch} {e : Env} {R : Room} {s : State} {m : MethodId} {args : Array Value} {below : List Frame} {meth : Method} {c : Code} {H : Heap} {locs : List Loc} {Q : State → Prop}
variable {D : va_G} {cA : Nat → ClassId} {A : Nat → Prop} {ad : Nat → Nat} {base n0 s0 : Nat} {i : ab_I} {h h1 : ab_H} {M M1 : ab_M} {ls : Array Slot} {pc pc' ex : Nat} {L L' : ab_Ls} {st st' : List Value} {φ : Prop}
theorem ab_tys_q {k : Nat} (h24 : 24 ≤ k) (h27 : k ≤ 27) : ∃ r : vw_C, (ab_tys cA)[k - 20]? = some (cA k, .object r.1) ∧ vwCl[ab_oc k]? = some r ∧ r.1 = ab_cn (ab_oc k) := by
  rcases (show k = 24 ∨ k = 25 ∨ k = 26 ∨ k = 27 by omega) with rfl | rfl | rfl | rfl
  · exact ⟨_, rfl, rfl, rfl⟩
  · exact ⟨_, rfl, rfl, rfl⟩
  · exact ⟨_, rfl, rfl, rfl⟩
  · exact ⟨_, rfl, rfl, rfl⟩
theorem ab_B.scr {a : Nat} (hB : ab_B D cA A ad base n0 s0 s h M H locs) (hk : ab_k h a = 30) : a ≠ 0 := by
  rcases hB.2.2.2.2.1.2.2 a (by omega) with ⟨-, q⟩ | ⟨q, -⟩
  · exact Nat.ne_of_gt (Nat.lt_of_lt_of_le (by decide) q)
  · exact Nat.ne_of_gt q
theorem ab_ialdW (hC : ab_C i D cA A ad base p s m args meth c) (hd : decode (ab_Ib i) pc = .ok (.iaload, 1)) (hs : ab_iald (pc + 1) L h M st = some ((pc', L', st', h1, M1), φ)) (hφ : φ) (hL : ab_Lr ad ls (ab_Il i) L) (hB : ab_B D cA A ad base n0 s0 s h M H locs)
    (K : ∀ ls' H' locs', ab_Lr ad ls' (ab_Il i) L' → ab_B D cA A ad base n0 s0 s h1 M1 H' locs' → W p l e R s m args below meth c H' locs' (h1.1 - n0) (h1.2.1 - s0) Q (F0 m pc' ls' (st'.map (ab_tv ad)))) : W p l e R s m args below meth c H locs (h.1 - n0) (h.2.1 - s0) Q (F0 m pc ls (st.map (ab_tv ad))) := by
  obtain ⟨hx, hb, hml, hown, hts, hK, hA, hnm, had⟩ := hC
  unfold ab_iald at hs
  split at hs
  · cases hs
    obtain ⟨hk, hin⟩ := hφ
    rcases hk with hk | hk
    · obtain ⟨g1, g2, g3⟩ := hB.arrI hk (by decide) (by decide)
      rw [List.map_cons, List.map_cons, ab_tv_ref (Nat.ne_of_gt g1)]
      exact va_iald hx hb hK hB.1 _ 0 g3 rfl hin hd (K _ _ _ hL hB)
    · obtain ⟨x1, x2, x3⟩ := hB.2.2.2.2.2.2.2.2.2.1 _ hk
      rw [List.map_cons, List.map_cons, ab_tv_ref (hB.scr hk)]
      exact va_sld hx hb x1 x2 x3 hB.2.2.1 hin hd (K _ _ _ hL hB)
  · cases hs
theorem ab_baldW (hC : ab_C i D cA A ad base p s m args meth c) (hd : decode (ab_Ib i) pc = .ok (.baload, 1)) (hs : ab_bald (pc + 1) L h M st = some ((pc', L', st', h1, M1), φ)) (hφ : φ) (hL : ab_Lr ad ls (ab_Il i) L) (hB : ab_B D cA A ad base n0 s0 s h M H locs)
    (K : ∀ ls' H' locs', ab_Lr ad ls' (ab_Il i) L' → ab_B D cA A ad base n0 s0 s h1 M1 H' locs' → W p l e R s m args below meth c H' locs' (h1.1 - n0) (h1.2.1 - s0) Q (F0 m pc' ls' (st'.map (ab_tv ad)))) : W p l e R s m args below meth c H locs (h.1 - n0) (h.2.1 - s0) Q (F0 m pc ls (st.map (ab_tv ad))) := by
  obtain ⟨hx, hb, hml, hown, hts, hK, hA, hnm, had⟩ := hC
  unfold ab_bald at hs
  split at hs
  · cases hs
    obtain ⟨hk, hin⟩ := hφ
    rcases hk with hk | hk
    · obtain ⟨g1, g2, g3⟩ := hB.arrI hk (by decide) (by decide)
      rw [List.map_cons, List.map_cons, ab_tv_ref (Nat.ne_of_gt g1)]
      exact va_bald hx hb hK hB.1 _ 1 g3 rfl hin hd (K _ _ _ hL hB)
    · obtain ⟨g1, g2, g3⟩ := hB.arrI hk (by decide) (by decide)
      rw [List.map_cons, List.map_cons, ab_tv_ref (Nat.ne_of_gt g1)]
      exact va_zald hx hb hK hB.1 _ 2 g3 rfl hin hd (K _ _ _ hL hB)
  · cases hs
theorem ab_laldW (hC : ab_C i D cA A ad base p s m args meth c) (hd : decode (ab_Ib i) pc = .ok (.laload, 1)) (hs : ab_lald (pc + 1) L h M st = some ((pc', L', st', h1, M1), φ)) (hφ : φ) (hL : ab_Lr ad ls (ab_Il i) L) (hB : ab_B D cA A ad base n0 s0 s h M H locs)
    (K : ∀ ls' H' locs', ab_Lr ad ls' (ab_Il i) L' → ab_B D cA A ad base n0 s0 s h1 M1 H' locs' → W p l e R s m args below meth c H' locs' (h1.1 - n0) (h1.2.1 - s0) Q (F0 m pc' ls' (st'.map (ab_tv ad)))) : W p l e R s m args below meth c H locs (h.1 - n0) (h.2.1 - s0) Q (F0 m pc ls (st.map (ab_tv ad))) := by
  obtain ⟨hx, hb, hml, hown, hts, hK, hA, hnm, had⟩ := hC
  unfold ab_lald at hs
  split at hs
  · cases hs
    obtain ⟨hk, hin⟩ := hφ
    obtain ⟨g1, g2, g3⟩ := hB.arrL hk
    rw [List.map_cons, List.map_cons, ab_tv_ref (Nat.ne_of_gt g1)]
    exact va_lald hx hb hK hB.1 _ 3 g3 rfl hin hd (K _ _ _ hL hB)
  · cases hs
theorem ab_aaldW (hC : ab_C i D cA A ad base p s m args meth c) (hd : decode (ab_Ib i) pc = .ok (.aaload, 1)) (hs : ab_aald (pc + 1) L h M st = some ((pc', L', st', h1, M1), φ)) (hφ : φ) (hL : ab_Lr ad ls (ab_Il i) L) (hB : ab_B D cA A ad base n0 s0 s h M H locs)
    (K : ∀ ls' H' locs', ab_Lr ad ls' (ab_Il i) L' → ab_B D cA A ad base n0 s0 s h1 M1 H' locs' → W p l e R s m args below meth c H' locs' (h1.1 - n0) (h1.2.1 - s0) Q (F0 m pc' ls' (st'.map (ab_tv ad)))) : W p l e R s m args below meth c H locs (h.1 - n0) (h.2.1 - s0) Q (F0 m pc ls (st.map (ab_tv ad))) := by
  obtain ⟨hx, hb, hml, hown, hts, hK, hA, hnm, had⟩ := hC
  unfold ab_aald at hs
  split at hs
  · cases hs
    obtain ⟨hk, hin⟩ := hφ
    obtain ⟨g1, g2, g3⟩ := hB.arrQ hk.1 hk.2
    obtain ⟨r, t1, t2, t3⟩ := ab_tys_q (cA := cA) hk.1 hk.2
    rw [List.map_cons, List.map_cons, ab_tv_ref (Nat.ne_of_gt g1)]
    exact va_aldq hx hb hK hB.1 _ _ g3 t1 hin hd (K _ _ _ hL hB)
  · cases hs
theorem ab_alenW (hC : ab_C i D cA A ad base p s m args meth c) (hd : decode (ab_Ib i) pc = .ok (.arraylength, 1)) (hs : ab_alen (pc + 1) L h M st = some ((pc', L', st', h1, M1), φ)) (hφ : φ) (hL : ab_Lr ad ls (ab_Il i) L) (hB : ab_B D cA A ad base n0 s0 s h M H locs)
    (K : ∀ ls' H' locs', ab_Lr ad ls' (ab_Il i) L' → ab_B D cA A ad base n0 s0 s h1 M1 H' locs' → W p l e R s m args below meth c H' locs' (h1.1 - n0) (h1.2.1 - s0) Q (F0 m pc' ls' (st'.map (ab_tv ad)))) : W p l e R s m args below meth c H locs (h.1 - n0) (h.2.1 - s0) Q (F0 m pc ls (st.map (ab_tv ad))) := by
  obtain ⟨hx, hb, hml, hown, hts, hK, hA, hnm, had⟩ := hC
  unfold ab_alen at hs
  split at hs
  · cases hs
    rename_i a r
    rcases hφ with ⟨k1, k2⟩ | hk
    · rcases (show ab_k h a ≤ 22 ∨ ab_k h a = 23 ∨ 24 ≤ ab_k h a by omega) with q | q | q
      · obtain ⟨g1, g2, g3⟩ := hB.arrI rfl k1 q
        rw [List.map_cons, ab_tv_ref (Nat.ne_of_gt g1)]
        rcases (show ab_k h a = 20 ∨ ab_k h a = 21 ∨ ab_k h a = 22 by omega) with z | z | z
        · rw [z] at g3; exact va_alen hx hb hK hB.1 _ 0 g3 rfl rfl hd (K _ _ _ hL hB)
        · rw [z] at g3; exact va_alen hx hb hK hB.1 _ 1 g3 rfl rfl hd (K _ _ _ hL hB)
        · rw [z] at g3; exact va_alen hx hb hK hB.1 _ 2 g3 rfl rfl hd (K _ _ _ hL hB)
      · obtain ⟨g1, g2, g3⟩ := hB.arrL q
        rw [List.map_cons, ab_tv_ref (Nat.ne_of_gt g1)]
        exact va_alen hx hb hK hB.1 _ 3 g3 rfl rfl hd (K _ _ _ hL hB)
      · obtain ⟨g1, g2, g3⟩ := hB.arrQ q k2
        obtain ⟨r, t1, t2, t3⟩ := ab_tys_q (cA := cA) q k2
        rw [List.map_cons, ab_tv_ref (Nat.ne_of_gt g1)]
        exact va_alen hx hb hK hB.1 _ _ g3 t1 rfl hd (K _ _ _ hL hB)
    · obtain ⟨x1, x2, x3⟩ := hB.2.2.2.2.2.2.2.2.2.1 _ hk
      rw [List.map_cons, ab_tv_ref (hB.scr hk)]
      exact va_slen hx hb x1 x2 x3 hB.2.2.1 hd (K _ _ _ hL hB)
  · cases hs
theorem ab_iastWW (hC : ab_C i D cA A ad base p s m args meth c) (hd : decode (ab_Ib i) pc = .ok (.iastore, 1)) (hs : ab_iast (pc + 1) L h M st = some ((pc', L', st', h1, M1), φ)) (hφ : φ) (hL : ab_Lr ad ls (ab_Il i) L) (hB : ab_B D cA A ad base n0 s0 s h M H locs)
    (K : ∀ ls' H' locs', ab_Lr ad ls' (ab_Il i) L' → ab_B D cA A ad base n0 s0 s h1 M1 H' locs' → W p l e R s m args below meth c H' locs' (h1.1 - n0) (h1.2.1 - s0) Q (F0 m pc' ls' (st'.map (ab_tv ad)))) : W p l e R s m args below meth c H locs (h.1 - n0) (h.2.1 - s0) Q (F0 m pc ls (st.map (ab_tv ad))) := by
  obtain ⟨hx, hb, hml, hown, hts, hK, hA, hnm, had⟩ := hC
  unfold ab_iast at hs
  split at hs
  · cases hs
    obtain ⟨hk, hin⟩ := hφ
    obtain ⟨g1, g2, g3⟩ := hB.arrI hk (by decide) (by decide)
    rw [List.map_cons, List.map_cons, List.map_cons, ab_tv_ref (Nat.ne_of_gt g1)]
    refine ab_iastW hx hb hK hB.1 hB.2.1 hB.2.2.1 _ 0 g3 rfl hin hd (fun H1 locs1 z p1 d1 s1 => K _ _ _ hL ?_)
    refine hB.put g1 g2 (ab_Rel.put (by rw [hk]; decide)) (fun b hb => ab_te_congr rfl rfl (ab_u_ne hb) rfl rfl) ?_ z p1 d1 s1
    rw [ab_te, if_neg (by omega), if_neg (by omega), if_neg (by omega), hk]
    dsimp only
    rw [ab_u_row]
  · cases hs
theorem ab_bastWW (hC : ab_C i D cA A ad base p s m args meth c) (hd : decode (ab_Ib i) pc = .ok (.bastore, 1)) (hs : ab_bast (pc + 1) L h M st = some ((pc', L', st', h1, M1), φ)) (hφ : φ) (hL : ab_Lr ad ls (ab_Il i) L) (hB : ab_B D cA A ad base n0 s0 s h M H locs)
    (K : ∀ ls' H' locs', ab_Lr ad ls' (ab_Il i) L' → ab_B D cA A ad base n0 s0 s h1 M1 H' locs' → W p l e R s m args below meth c H' locs' (h1.1 - n0) (h1.2.1 - s0) Q (F0 m pc' ls' (st'.map (ab_tv ad)))) : W p l e R s m args below meth c H locs (h.1 - n0) (h.2.1 - s0) Q (F0 m pc ls (st.map (ab_tv ad))) := by
  obtain ⟨hx, hb, hml, hown, hts, hK, hA, hnm, had⟩ := hC
  unfold ab_bast at hs
  split at hs
  · cases hs
    obtain ⟨hk, hin⟩ := hφ
    rcases hk with hk | ⟨hk, h01⟩
    · obtain ⟨g1, g2, g3⟩ := hB.arrI hk (by decide) (by decide)
      rw [List.map_cons, List.map_cons, List.map_cons, ab_tv_ref (Nat.ne_of_gt g1)]
      refine ab_bastW hx hb hK hB.1 hB.2.1 hB.2.2.1 _ 1 g3 rfl hin hd (fun H1 locs1 z p1 d1 s1 => K _ _ _ hL ?_)
      refine hB.put g1 g2 (ab_Rel.put (by rw [hk]; decide)) (fun b hb => ab_te_congr rfl rfl (ab_u_ne hb) rfl rfl) ?_ z p1 d1 s1
      rw [ab_te, if_neg (by omega), if_neg (by omega), if_neg (by omega), hk]
      dsimp only
      rw [ab_u_row]
    · obtain ⟨g1, g2, g3⟩ := hB.arrI hk (by decide) (by decide)
      rw [List.map_cons, List.map_cons, List.map_cons, ab_tv_ref (Nat.ne_of_gt g1)]
      refine ab_zastW hx hb hK hB.1 hB.2.1 hB.2.2.1 _ 2 g3 rfl h01 hin hd (fun H1 locs1 z p1 d1 s1 => K _ _ _ hL ?_)
      refine hB.put g1 g2 (ab_Rel.put (by rw [hk]; decide)) (fun b hb => ab_te_congr rfl rfl (ab_u_ne hb) rfl rfl) ?_ z p1 d1 s1
      rw [ab_te, if_neg (by omega), if_neg (by omega), if_neg (by omega), hk]
      dsimp only
      rw [ab_u_row]
  · cases hs
theorem ab_lastWW (hC : ab_C i D cA A ad base p s m args meth c) (hd : decode (ab_Ib i) pc = .ok (.lastore, 1)) (hs : ab_last (pc + 1) L h M st = some ((pc', L', st', h1, M1), φ)) (hφ : φ) (hL : ab_Lr ad ls (ab_Il i) L) (hB : ab_B D cA A ad base n0 s0 s h M H locs)
    (K : ∀ ls' H' locs', ab_Lr ad ls' (ab_Il i) L' → ab_B D cA A ad base n0 s0 s h1 M1 H' locs' → W p l e R s m args below meth c H' locs' (h1.1 - n0) (h1.2.1 - s0) Q (F0 m pc' ls' (st'.map (ab_tv ad)))) : W p l e R s m args below meth c H locs (h.1 - n0) (h.2.1 - s0) Q (F0 m pc ls (st.map (ab_tv ad))) := by
  obtain ⟨hx, hb, hml, hown, hts, hK, hA, hnm, had⟩ := hC
  unfold ab_last at hs
  split at hs
  · cases hs
    obtain ⟨hk, hin⟩ := hφ
    obtain ⟨g1, g2, g3⟩ := hB.arrL hk
    rw [List.map_cons, List.map_cons, List.map_cons, ab_tv_ref (Nat.ne_of_gt g1)]
    refine ab_lastW hx hb hK hB.1 hB.2.1 hB.2.2.1 _ 3 g3 rfl hin hd (fun H1 locs1 z p1 d1 s1 => K _ _ _ hL ?_)
    refine hB.put g1 g2 (ab_Rel.mem (fun _ _ => rfl)) (fun b hb => ab_te_congr rfl rfl rfl (ab_u_ne hb) rfl) ?_ z p1 d1 s1
    rw [ab_te, if_neg (by omega), if_pos hk]
    dsimp only
    rw [ab_u_rowL]
  · cases hs
theorem ab_aastWW (hC : ab_C i D cA A ad base p s m args meth c) (hd : decode (ab_Ib i) pc = .ok (.aastore, 1)) (hs : ab_aast (pc + 1) L h M st = some ((pc', L', st', h1, M1), φ)) (hφ : φ) (hL : ab_Lr ad ls (ab_Il i) L) (hB : ab_B D cA A ad base n0 s0 s h M H locs)
    (K : ∀ ls' H' locs', ab_Lr ad ls' (ab_Il i) L' → ab_B D cA A ad base n0 s0 s h1 M1 H' locs' → W p l e R s m args below meth c H' locs' (h1.1 - n0) (h1.2.1 - s0) Q (F0 m pc' ls' (st'.map (ab_tv ad)))) : W p l e R s m args below meth c H locs (h.1 - n0) (h.2.1 - s0) Q (F0 m pc ls (st.map (ab_tv ad))) := by
  obtain ⟨hx, hb, hml, hown, hts, hK, hA, hnm, had⟩ := hC
  unfold ab_aast at hs
  split at hs
  · cases hs
    obtain ⟨hk, hq, hin⟩ := hφ
    obtain ⟨g1, g2, g3⟩ := hB.arrQ hk.1 hk.2
    obtain ⟨r, t1, t2, t3⟩ := ab_tys_q (cA := cA) hk.1 hk.2
    obtain ⟨w1, w2, w3⟩ := hB.obj hq (ab_oc_lt _)
    rw [List.map_cons, List.map_cons, List.map_cons, ab_tv_ref (Nat.ne_of_gt g1), ab_tv_ref (Nat.ne_of_gt w1)]
    refine ab_aastW hx hb hK hB.1 hB.2.1 hB.2.2.1 _ _ _ _ g3 t1 w3 t2 hin hd (fun H1 locs1 z p1 d1 s1 => K _ _ _ hL ?_)
    refine hB.put g1 g2 (ab_Rel.mem (fun _ _ => rfl)) (fun b hb => ab_te_congr rfl rfl rfl rfl (ab_u_ne hb)) ?_ z p1 d1 s1
    rw [ab_te, if_neg (by omega), if_neg (by omega), if_pos hk.1]
    dsimp only
    rw [ab_u_rowQ (Nat.ne_of_gt w1)]
  · cases hs
end ABV
