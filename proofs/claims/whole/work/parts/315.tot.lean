/-! ===== runs whose end is told by a property ===== -/
def pr_T (i : ab_I) (pc : Nat) (L : ab_Ls) (st : List Value) (h : ab_H) (M : ab_M) (Q : Option Value → ab_M → Prop) : Prop := ∃ (r : Option Value) (M' : ab_M), pr_E i pc L st h M r h M' ∧ Q r M'
abbrev pr_X (i : ab_I) (vs : List Value) (h : ab_H) (M : ab_M) (Q : Option Value → ab_M → Prop) : Prop := pr_T i 0 (ab_ent i vs) [] h M Q
section PRT
variable {i j : ab_I} {pc pc' ex ln k : Nat} {L L' : ab_Ls} {st st' t : List Value} {h : ab_H} {M M1 : ab_M} {Q Q1 : Option Value → ab_M → Prop} {φ : Prop} {v r : Option Value}
theorem pr_ofC {vs : List Value} (H : pr_C i vs h M r h M1) (hQ : Q r M1) : pr_X i vs h M Q := ⟨r, M1, H, hQ⟩
theorem pr_T.mono (H : pr_T i pc L st h M Q1) (hQ : ∀ r M', Q1 r M' → Q r M') : pr_T i pc L st h M Q := by
  obtain ⟨r, M', h1, h2⟩ := H
  exact ⟨r, M', h1, hQ r M' h2⟩
theorem pr_seqT (k : Nat) (hs : pr_seg k (ab_It i) pc L st h M True = some ((pc', L', st', h, M1), φ)) (hφ : φ) (H : pr_T i pc' L' st' h M1 Q) : pr_T i pc L st h M Q := by
  obtain ⟨r, M', h1, h2⟩ := H
  exact ⟨r, M', pr_seq k hs hφ h1, h2⟩
theorem pr_ifT {c : Jvm.ClassFile.Cond} {o : Int} {x : Int32} (hk : ab_lk (ab_It i) pc = some (.ifCond c o, ln, ex)) (H1 : ab_cmp c x 0 → pr_T i ex L t h M Q) (H2 : ¬ ab_cmp c x 0 → pr_T i (pc + 3) L t h M Q) : pr_T i pc L (.int x :: t) h M Q := by
  by_cases hc : ab_cmp c x 0
  · obtain ⟨r, M', h1, h2⟩ := H1 hc
    exact ⟨r, M', pr_if hk (fun _ => h1) (fun q => absurd hc q), h2⟩
  · obtain ⟨r, M', h1, h2⟩ := H2 hc
    exact ⟨r, M', pr_if hk (fun q => absurd q hc) (fun _ => h1), h2⟩
theorem pr_icT {c : Jvm.ClassFile.Cond} {o : Int} {x y : Int32} (hk : ab_lk (ab_It i) pc = some (.if_icmp c o, ln, ex)) (H1 : ab_cmp c x y → pr_T i ex L t h M Q) (H2 : ¬ ab_cmp c x y → pr_T i (pc + 3) L t h M Q) : pr_T i pc L (.int y :: .int x :: t) h M Q := by
  by_cases hc : ab_cmp c x y
  · obtain ⟨r, M', h1, h2⟩ := H1 hc
    exact ⟨r, M', pr_ic hk (fun _ => h1) (fun q => absurd hc q), h2⟩
  · obtain ⟨r, M', h1, h2⟩ := H2 hc
    exact ⟨r, M', pr_ic hk (fun q => absurd q hc) (fun _ => h1), h2⟩
theorem pr_irT {x : Int32} (hk : ab_lk (ab_It i) pc = some (.ireturn, ln, ex)) (ht : ab_rt (ab_Ir i) (.int x)) (hQ : Q (some (.int x)) M) : pr_T i pc L [.int x] h M Q := ⟨_, _, pr_ir hk rfl ht, hQ⟩
theorem pr_lrT {x : Int64} (hk : ab_lk (ab_It i) pc = some (.lreturn, ln, ex)) (ht : ab_rt (ab_Ir i) (.long x)) (hQ : Q (some (.long x)) M) : pr_T i pc L [.long x] h M Q := ⟨_, _, pr_lr hk rfl ht, hQ⟩
theorem pr_arT {x : Nat} (hk : ab_lk (ab_It i) pc = some (.areturn, ln, ex)) (ht : ab_rt (ab_Ir i) (.ref x)) (hQ : Q (some (.ref x)) M) : pr_T i pc L [.ref x] h M Q := ⟨_, _, pr_ar hk rfl ht, hQ⟩
theorem pr_vrT (hk : ab_lk (ab_It i) pc = some (.return_, ln, ex)) (ht : ab_Ir i = none) (hQ : Q none M) : pr_T i pc L [] h M Q := ⟨_, _, pr_vr hk rfl ht, hQ⟩
theorem pr_cvT {z a : Nat} (As : List Value) (hk : ab_lk (ab_It i) pc = some (.invokevirtual z, ln, ex)) (hx : Nat.blt ex 9000 = true) (hj : ab_P[ex % 1000]? = some j) (hst : st = As.reverse ++ .ref a :: t) (hn : As.length + 1 = ab_In j) (hl : (ab_args (.ref a :: As)).length ≤ ab_Il j) (hka : ab_k h a = ab_Ic j + 1) (hw : (t.map fun v => v.category).sum ≤ 8) (H1 : pr_C j (.ref a :: As) h M v h M1) (H2 : pr_T i (pc + 3) L (v.toList ++ t) h M1 Q) : pr_T i pc L st h M Q := by
  obtain ⟨r, M', h1, h2⟩ := H2
  exact ⟨r, M', pr_cv As hk hx hj hst hn hl hka hw H1 h1, h2⟩
theorem pr_csT {z : Nat} (As : List Value) (hk : ab_lk (ab_It i) pc = some (.invokestatic z, ln, ex)) (hx : Nat.blt ex 9000 = true) (hj : ab_P[ex % 1000]? = some j) (hst : st = As.reverse ++ t) (hn : As.length = ab_In j) (hl : (ab_args As).length ≤ ab_Il j) (hw : (t.map fun v => v.category).sum ≤ 8) (H1 : pr_C j As h M v h M1) (H2 : pr_T i (pc + 3) L (v.toList ++ t) h M1 Q) : pr_T i pc L st h M Q := by
  obtain ⟨r, M', h1, h2⟩ := H2
  exact ⟨r, M', pr_cs As hk hx hj hst hn hl hw H1 h1, h2⟩
theorem pr_cvX {z a : Nat} (As : List Value) (hk : ab_lk (ab_It i) pc = some (.invokevirtual z, ln, ex)) (hx : Nat.blt ex 9000 = true) (hj : ab_P[ex % 1000]? = some j) (hst : st = As.reverse ++ .ref a :: t) (hn : As.length + 1 = ab_In j) (hl : (ab_args (.ref a :: As)).length ≤ ab_Il j) (hka : ab_k h a = ab_Ic j + 1) (hw : (t.map fun v => v.category).sum ≤ 8) (H1 : pr_X j (.ref a :: As) h M Q1) (H2 : ∀ v M1, Q1 v M1 → pr_T i (pc + 3) L (v.toList ++ t) h M1 Q) : pr_T i pc L st h M Q := by
  obtain ⟨v, M1, h1, h2⟩ := H1
  obtain ⟨r, M', h3, h4⟩ := H2 v M1 h2
  exact ⟨r, M', pr_cv As hk hx hj hst hn hl hka hw h1 h3, h4⟩
theorem pr_csX {z : Nat} (As : List Value) (hk : ab_lk (ab_It i) pc = some (.invokestatic z, ln, ex)) (hx : Nat.blt ex 9000 = true) (hj : ab_P[ex % 1000]? = some j) (hst : st = As.reverse ++ t) (hn : As.length = ab_In j) (hl : (ab_args As).length ≤ ab_Il j) (hw : (t.map fun v => v.category).sum ≤ 8) (H1 : pr_X j As h M Q1) (H2 : ∀ v M1, Q1 v M1 → pr_T i (pc + 3) L (v.toList ++ t) h M1 Q) : pr_T i pc L st h M Q := by
  obtain ⟨v, M1, h1, h2⟩ := H1
  obtain ⟨r, M', h3, h4⟩ := H2 v M1 h2
  exact ⟨r, M', pr_cs As hk hx hj hst hn hl hw h1 h3, h4⟩
end PRT
