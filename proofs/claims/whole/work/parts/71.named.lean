/-! the reference: levels put into a named term; rows copied -/
theorem ln370 : ln 370 = 8000 := rfl
theorem ln368 : ln 368 = 8000 := rfl
theorem ln367 : ln 367 = 8000 := rfl
theorem ln369 : ln 369 = 8000 := rfl
theorem ln371 : ln 371 = 1500000 := rfl
theorem wLv_c {a b : List Nat} {t : Nat} {l : List Nat} : wLv a b (t :: l) = sbl a b t ++ wLv a b l := rfl
theorem wLv_app {a b l k : List Nat} : wLv a b (l ++ k) = wLv a b l ++ wLv a b k := List.flatMap_append
theorem s_withLv_l {n f o : Nat} {a b : List Nat} (hf : 367 ≤ f ∧ f ≤ 368) (hn : 10000 ≤ n) (h16 : a.length ≤ 16 ∧ b.length ≤ 16) (ho : o + a.length + b.length ≤ ln f) : ∀ (l : List Nat) (p mm e : Nat) (S : St) (c : List Nat), (∀ t ∈ l, t < 100) → sg (S.2.1 370 0) p l → e = p + l.length → e ≤ 8000 → l.length < mm → sg (S.2.1 f 0) o a → sg (S.2.1 f 0) (o + a.length) b → NXT S c → ∃ S', l_X8_withLevels_19 n mm S (nI e) f (nI o) (nI (o + a.length)) (nI (o + a.length + b.length)) (nI p) = some S' ∧ NXT S' (c ++ wLv a b l) ∧ FR NR S S' := by
  obtain ⟨hf1, hf2⟩ := ln8 (f := f) (by omega)
  intro l
  induction l with
  | nil =>
    intro p mm e S c ht hs he h8 hmm ha hb hN
    obtain ⟨mm, rfl⟩ : ∃ y, mm = y + 1 := ⟨mm - 1, by omega⟩
    rw [List.length_nil] at he
    refine ⟨S, ?_, by rw [show wLv a b [] = [] from rfl, List.append_nil]; exact hN, FR_rf⟩
    unfold l_X8_withLevels_19
    ((try simp only [i0, i1, i2, i3, i4, i5, i6, i8, i16, i30, i60, i100, i200, i201, i300, i1500, i8000, iM, i_m6]); repeat (first | rw [zt_eq (by omega)] | rw [zt_ne (by omega) (by omega) (by omega)] | rw [zt_nle (by omega) (by omega)] | rw [zt_le (by omega) (by omega)] | rw [zt_nlt (by omega) (by omega)] | rw [zt_lt (by omega) (by omega)] | rw [zt_nm (by omega)] | rw [zt_mm] | rw [zt_ml] | rw [zt_0m] | rw [zt_m0] | rw [zt_n6 (by omega)] | rw [zt_66] | rw [zt_06] | simp (disch := omega) only [i0, i1, i2, i3, i4, i5, i6, i8, i16, i30, i60, i100, i200, i201, i300, i1500, i8000, iM, i_m6, nIa, nIp, nIs, sI_1, sI_22, sL_1, sL_21, sS_21, sS_22, sI_ne, sL_ne, sS_ne, sS_eq, sI_eq, sI_at, sL_eq, sL_at, Nat.add_zero, if_true, if_false] | rw [bV_e] | rw [pS_e] | rw [bI_s] | rw [bU_s] | rw [bL_s] | rw [gI_n (by omega) (by omega)] | rw [pI_n (by omega) (by omega)] | rw [gL_n (by omega) (by omega)] | rw [pL_n (by omega) (by omega)]))
  | cons t l ih =>
    intro p mm e S c ht hs he h8 hmm ha hb hN
    obtain ⟨mm, rfl⟩ : ∃ y, mm = y + 1 := ⟨mm - 1, by omega⟩
    rw [List.length_cons] at he hmm
    obtain ⟨h1, h2⟩ := hs
    have t1 := ht t List.mem_cons_self
    have nN : ∀ g, g = 370 ∨ g = f → rg g 0 ∉ NR := fun g hg => by rw [rg8 (by omega)]; simp [NR]; omega
    have fin : ∀ S1 : St, NXT S1 (c ++ sbl a b t) → FR NR S S1 → ∃ S', l_X8_withLevels_19 n mm S1 (nI e) f (nI o) (nI (o + a.length)) (nI (o + a.length + b.length)) (nI (p + 1)) = some S' ∧ NXT S' (c ++ wLv a b (t :: l)) ∧ FR NR S S' := by
      intro S1 n1 f1
      obtain ⟨S2, a2, b2, f2⟩ := ih (p + 1) mm e S1 (c ++ sbl a b t) (fun x hx => ht x (List.mem_cons_of_mem _ hx)) (sg_fr f1 (nN 370 (Or.inl rfl)) h2) (by omega) h8 (by omega) (sg_fr f1 (nN f (Or.inr rfl)) ha) (sg_fr f1 (nN f (Or.inr rfl)) hb) n1
      exact ⟨S2, a2, by rw [wLv_c, ← List.append_assoc]; exact b2, FR_tr f1 f2⟩
    unfold l_X8_withLevels_19
    by_cases hc : c.length ≤ 8000
    · obtain ⟨w1, w2, w3⟩ := NXT_ok hN hc
      by_cases q4 : t = 4
      · obtain ⟨S1, a1, b1, f1⟩ := s_copy (n := n) (f := f) (by omega) (by omega) ha hN rfl (by omega) (by omega)
        obtain ⟨S2, a2, b2, f2⟩ := fin S1 (by unfold sbl; rw [if_pos q4]; exact b1) f1
        refine ⟨S2, ?_, b2, f2⟩
        ((try simp only [i0, i1, i2, i3, i4, i5, i6, i8, i16, i30, i60, i100, i200, i201, i300, i1500, i8000, iM, i_m6]); repeat (first | rw [zt_eq (by omega)] | rw [zt_ne (by omega) (by omega) (by omega)] | rw [zt_nle (by omega) (by omega)] | rw [zt_le (by omega) (by omega)] | rw [zt_nlt (by omega) (by omega)] | rw [zt_lt (by omega) (by omega)] | rw [zt_nm (by omega)] | rw [zt_mm] | rw [zt_ml] | rw [zt_0m] | rw [zt_m0] | rw [zt_n6 (by omega)] | rw [zt_66] | rw [zt_06] | simp (disch := omega) only [i0, i1, i2, i3, i4, i5, i6, i8, i16, i30, i60, i100, i200, i201, i300, i1500, i8000, iM, i_m6, nIa, nIp, nIs, sI_1, sI_22, sL_1, sL_21, sS_21, sS_22, sI_ne, sL_ne, sS_ne, sS_eq, sI_eq, sI_at, sL_eq, sL_at, Nat.add_zero, if_true, if_false, w1, h1, q4, a1] | rw [bV_e] | rw [pS_e] | rw [bI_s] | rw [bU_s] | rw [bL_s] | rw [gI_n (by omega) (by omega)] | rw [pI_n (by omega) (by omega)] | rw [gL_n (by omega) (by omega)] | rw [pL_n (by omega) (by omega)] | rw [j_X8_withLevels_89]))
        exact a2
      · by_cases q5 : t = 5
        · obtain ⟨S1, a1, b1, f1⟩ := s_copy (n := n) (f := f) (by omega) (by omega) hb hN rfl (by omega) (by omega)
          obtain ⟨S2, a2, b2, f2⟩ := fin S1 (by unfold sbl; rw [if_neg q4, if_pos q5]; exact b1) f1
          refine ⟨S2, ?_, b2, f2⟩
          ((try simp only [i0, i1, i2, i3, i4, i5, i6, i8, i16, i30, i60, i100, i200, i201, i300, i1500, i8000, iM, i_m6]); repeat (first | rw [zt_eq (by omega)] | rw [zt_ne (by omega) (by omega) (by omega)] | rw [zt_nle (by omega) (by omega)] | rw [zt_le (by omega) (by omega)] | rw [zt_nlt (by omega) (by omega)] | rw [zt_lt (by omega) (by omega)] | rw [zt_nm (by omega)] | rw [zt_mm] | rw [zt_ml] | rw [zt_0m] | rw [zt_m0] | rw [zt_n6 (by omega)] | rw [zt_66] | rw [zt_06] | simp (disch := omega) only [i0, i1, i2, i3, i4, i5, i6, i8, i16, i30, i60, i100, i200, i201, i300, i1500, i8000, iM, i_m6, nIa, nIp, nIs, sI_1, sI_22, sL_1, sL_21, sS_21, sS_22, sI_ne, sL_ne, sS_ne, sS_eq, sI_eq, sI_at, sL_eq, sL_at, Nat.add_zero, if_true, if_false, w1, h1, q5, a1] | rw [bV_e] | rw [pS_e] | rw [bI_s] | rw [bU_s] | rw [bL_s] | rw [gI_n (by omega) (by omega)] | rw [pI_n (by omega) (by omega)] | rw [gL_n (by omega) (by omega)] | rw [pL_n (by omega) (by omega)] | rw [j_X8_withLevels_89]))
          exact a2
        · obtain ⟨S1, a1, b1, f1⟩ := s_put (n := n) hN (x := t) (v := nI t) rfl
          obtain ⟨S2, a2, b2, f2⟩ := fin S1 (by unfold sbl; rw [if_neg q4, if_neg q5]; exact b1) f1
          refine ⟨S2, ?_, b2, f2⟩
          ((try simp only [i0, i1, i2, i3, i4, i5, i6, i8, i16, i30, i60, i100, i200, i201, i300, i1500, i8000, iM, i_m6]); repeat (first | rw [zt_eq (by omega)] | rw [zt_ne (by omega) (by omega) (by omega)] | rw [zt_nle (by omega) (by omega)] | rw [zt_le (by omega) (by omega)] | rw [zt_nlt (by omega) (by omega)] | rw [zt_lt (by omega) (by omega)] | rw [zt_nm (by omega)] | rw [zt_mm] | rw [zt_ml] | rw [zt_0m] | rw [zt_m0] | rw [zt_n6 (by omega)] | rw [zt_66] | rw [zt_06] | simp (disch := omega) only [i0, i1, i2, i3, i4, i5, i6, i8, i16, i30, i60, i100, i200, i201, i300, i1500, i8000, iM, i_m6, nIa, nIp, nIs, sI_1, sI_22, sL_1, sL_21, sS_21, sS_22, sI_ne, sL_ne, sS_ne, sS_eq, sI_eq, sI_at, sL_eq, sL_at, Nat.add_zero, if_true, if_false, w1, h1, a1] | rw [bV_e] | rw [pS_e] | rw [bI_s] | rw [bU_s] | rw [bL_s] | rw [gI_n (by omega) (by omega)] | rw [pI_n (by omega) (by omega)] | rw [gL_n (by omega) (by omega)] | rw [pL_n (by omega) (by omega)] | rw [j_X8_withLevels_89]))
          exact a2
    · obtain ⟨w1, w2⟩ := NXT_w hN hc
      refine ⟨S, ?_, NXT_mo hN hc, FR_rf⟩
      ((try simp only [i0, i1, i2, i3, i4, i5, i6, i8, i16, i30, i60, i100, i200, i201, i300, i1500, i8000, iM, i_m6]); repeat (first | rw [zt_eq (by omega)] | rw [zt_ne (by omega) (by omega) (by omega)] | rw [zt_nle (by omega) (by omega)] | rw [zt_le (by omega) (by omega)] | rw [zt_nlt (by omega) (by omega)] | rw [zt_lt (by omega) (by omega)] | rw [zt_nm (by omega)] | rw [zt_mm] | rw [zt_ml] | rw [zt_0m] | rw [zt_m0] | rw [zt_n6 (by omega)] | rw [zt_66] | rw [zt_06] | simp (disch := omega) only [i0, i1, i2, i3, i4, i5, i6, i8, i16, i30, i60, i100, i200, i201, i300, i1500, i8000, iM, i_m6, nIa, nIp, nIs, sI_1, sI_22, sL_1, sL_21, sS_21, sS_22, sI_ne, sL_ne, sS_ne, sS_eq, sI_eq, sI_at, sL_eq, sL_at, Nat.add_zero, if_true, if_false, w1] | rw [bV_e] | rw [pS_e] | rw [bI_s] | rw [bU_s] | rw [bL_s] | rw [gI_n (by omega) (by omega)] | rw [pI_n (by omega) (by omega)] | rw [gL_n (by omega) (by omega)] | rw [pL_n (by omega) (by omega)]))
theorem s_wLevels8 {n f o p e : Nat} {a b l : List Nat} {S : St} {c : List Nat} (hf : 367 ≤ f ∧ f ≤ 368) (hn : 10000 ≤ n) (la : lvO a) (lb : lvO b) (ho : o + a.length + b.length ≤ ln f) (ht : ∀ t ∈ l, t < 100) (hs : sg (S.2.1 370 0) p l) (he : e = p + l.length) (h8 : e ≤ 8000) (ha : sg (S.2.1 f 0) o a) (hb : sg (S.2.1 f 0) (o + a.length) b) (hN : NXT S c) : ∃ S', f_X8_withLevels n S (nI p) (nI e) f (nI o) = some S' ∧ NXT S' (c ++ wLv a b l) ∧ FR NR S S' := by
  obtain ⟨hf1, hf2⟩ := ln8 (f := f) (by omega)
  have h1 := la.2.1
  have h2 := lb.2.1
  obtain ⟨S', q1, q2, q3⟩ := s_withLv_l (n := n) hf hn ⟨h1, h2⟩ ho l p n e S c ht hs he h8 (by omega) ha hb hN
  have e1 := s_behindLevel (n := n) (S := S) hf2 la.1 la.2.2 ha (by omega) (by omega)
  have e2 := s_behindLevel (n := n) (S := S) hf2 lb.1 lb.2.2 hb (by omega) (by omega)
  refine ⟨S', ?_, q2, q3⟩
  unfold f_X8_withLevels
  rw [e1, bI_s, e2, bI_s]
  exact q1
theorem tks_gv {a b : List Nat} {m : Mk} : tks (gvM a b m) = if m.1 = 0 then 0 :: wLv a b m.2.2.2.1 else if m.1 = 1 then [1, m.2.1] else if m.1 = 2 then 2 :: m.2.1 :: wLv a b (m.2.2.2.1 ++ m.2.2.2.2) else [m.1] := by
  rw [wLv_app]; rfl
theorem lv100 {l : List Nat} (h : okL l) : ∀ t ∈ l, t < 100 := fun t ht => by have := h t ht; omega
theorem s_named_l {n f o : Nat} {a b : List Nat} (hf : 367 ≤ f ∧ f ≤ 368) (hn : 10000 ≤ n) (la : lvO a) (lb : lvO b) (ho : o + a.length + b.length ≤ ln f) : ∀ (x : List Mk) (p mm e : Nat) (S : St) (c : List Nat), (∀ m ∈ x, mV m) → sg (S.2.1 370 0) p (flt x) → e = p + (flt x).length → e ≤ 8000 → S.1 374 0 = nI e → x.length < mm → sg (S.2.1 f 0) o a → sg (S.2.1 f 0) (o + a.length) b → NXT S c → ∃ S', l_X8_named_17 n mm S f (nI o) (nI p) = some S' ∧ NXT S' (c ++ flt (x.map (gvM a b))) ∧ FR NR S S' := by
  obtain ⟨hf1, hf2⟩ := ln8 (f := f) (by omega)
  intro x
  induction x with
  | nil =>
    intro p mm e S c hm hs he h8 h4 hmm ha hb hN
    obtain ⟨mm, rfl⟩ : ∃ y, mm = y + 1 := ⟨mm - 1, by omega⟩
    rw [flt_n, List.length_nil] at he
    refine ⟨S, ?_, by rw [List.map_nil, flt_n, List.append_nil]; exact hN, FR_rf⟩
    unfold l_X8_named_17
    ((try simp only [i0, i1, i2, i3, i4, i5, i6, i8, i16, i30, i60, i100, i200, i201, i300, i1500, i8000, iM, i_m6]); repeat (first | rw [zt_eq (by omega)] | rw [zt_ne (by omega) (by omega) (by omega)] | rw [zt_nle (by omega) (by omega)] | rw [zt_le (by omega) (by omega)] | rw [zt_nlt (by omega) (by omega)] | rw [zt_lt (by omega) (by omega)] | rw [zt_nm (by omega)] | rw [zt_mm] | rw [zt_ml] | rw [zt_0m] | rw [zt_m0] | rw [zt_n6 (by omega)] | rw [zt_66] | rw [zt_06] | simp (disch := omega) only [i0, i1, i2, i3, i4, i5, i6, i8, i16, i30, i60, i100, i200, i201, i300, i1500, i8000, iM, i_m6, nIa, nIp, nIs, sI_1, sI_22, sL_1, sL_21, sS_21, sS_22, sI_ne, sL_ne, sS_ne, sS_eq, sI_eq, sI_at, sL_eq, sL_at, Nat.add_zero, if_true, if_false, h4] | rw [bV_e] | rw [pS_e] | rw [bI_s] | rw [bU_s] | rw [bL_s] | rw [gI_n (by omega) (by omega)] | rw [pI_n (by omega) (by omega)] | rw [gL_n (by omega) (by omega)] | rw [pL_n (by omega) (by omega)]))
  | cons m r ih =>
    intro p mm e S c hm hs he h8 h4 hmm ha hb hN
    obtain ⟨mm, rfl⟩ : ∃ y, mm = y + 1 := ⟨mm - 1, by omega⟩
    rw [List.length_cons] at hmm
    rw [flt_c] at hs he
    have hk0 := sg_h hs
    obtain ⟨h1, h2⟩ := sg_app.mp hs
    rw [List.length_append] at he
    have hmv := hm m List.mem_cons_self
    have hmw := mV_mW hmv
    have tp := tks_pos m
    have m6 := hmw.1
    have bT : ∀ S1 : St, FR NR S S1 → f_X8_behindToken n S1 370 (nI p) = some (S1, nI (p + (tks m).length)) := fun S1 f1 => s_behindToken (by omega) hmw (sg_fr f1 (by rw [rg8 (by omega)]; decide) h1) (by rw [ln370]; omega) (by omega)
    have nf : rg f 0 ∉ NR := by rw [rg8 (by omega)]; simp [NR]; omega
    have n3 : rg 370 0 ∉ NR := by rw [rg8 (by omega)]; decide
    have n4 : rg 374 0 ∉ NR := by rw [rg8 (by omega)]; decide
    have fin : ∀ S1 : St, NXT S1 (c ++ tks (gvM a b m)) → FR NR S S1 → ∃ S', j_X8_named_143 n (fun S a2 l3 l4 => l_X8_named_17 n mm S a2 l3 l4) S1 f (nI o) (nI p) = some S' ∧ NXT S' (c ++ flt ((m :: r).map (gvM a b))) ∧ FR NR S S' := by
      intro S1 n1 f1
      obtain ⟨S2, a2, b2, f2⟩ := ih (p + (tks m).length) mm e S1 (c ++ tks (gvM a b m)) (fun y hy => hm y (List.mem_cons_of_mem _ hy)) (sg_fr f1 n3 h2) (by omega) h8 (by rw [(f1 374 0 n4).1]; exact h4) (by omega) (sg_fr f1 nf ha) (sg_fr f1 nf hb) n1
      refine ⟨S2, ?_, by rw [List.map_cons, flt_c, ← List.append_assoc]; exact b2, FR_tr f1 f2⟩
      unfold j_X8_named_143
      rw [bT S1 f1, bI_s]
      exact a2
    have bT0 := bT S FR_rf
    unfold l_X8_named_17
    by_cases hc : c.length ≤ 8000
    · obtain ⟨w1, w2, w3⟩ := NXT_ok hN hc
      obtain ⟨S1, a1, b1, f1⟩ := s_put (n := n) hN (x := m.1) (v := nI m.1) rfl
      have hk1 : S1.2.1 370 0 p = nI m.1 := by rw [(f1 370 0 n3).2.1]; exact hk0
      by_cases q2 : m.1 = 2
      · rw [tks_2 q2] at h1
        obtain ⟨h3, h5, h6⟩ := h1
        have tkl : (tks m).length = (m.2.2.2.1 ++ m.2.2.2.2).length + 2 := by rw [tks_2 q2]; rfl
        have hi1 : S1.2.1 370 0 (p + 1) = nI m.2.1 := by rw [(f1 370 0 n3).2.1]; exact h5
        obtain ⟨S2, a2, b2, f2⟩ := s_put (n := n) b1 (x := m.2.1) (v := nI m.2.1) rfl
        have ok12 : okL (m.2.2.2.1 ++ m.2.2.2.2) := fun t ht => by
          rcases List.mem_append.mp ht with z | z
          · exact (hmw.2.2.2.1 q2).1.1 t z
          · exact (hmw.2.2.2.1 q2).2.1 t z
        have f12 := FR_tr f1 f2
        obtain ⟨S3, a3, b3, f3⟩ := s_wLevels8 (n := n) (p := p + 2) (e := p + (tks m).length) hf hn la lb ho (lv100 ok12) (sg_fr f12 n3 h6) (by rw [tkl]; omega) (by omega) (sg_fr f12 nf ha) (sg_fr f12 nf hb) b2
        obtain ⟨S4, a4, b4, f4⟩ := fin S3 (by
          rw [tks_gv, if_neg (by omega), if_neg (by omega), if_pos q2]
          rw [q2] at b3
          simp only [List.append_assoc, List.cons_append, List.nil_append] at b3
          exact b3) (FR_tr f12 f3)
        refine ⟨S4, ?_, b4, f4⟩
        rw [q2] at a1 hk1 hk0
        ((try simp only [i0, i1, i2, i3, i4, i5, i6, i8, i16, i30, i60, i100, i200, i201, i300, i1500, i8000, iM, i_m6]); repeat (first | rw [zt_eq (by omega)] | rw [zt_ne (by omega) (by omega) (by omega)] | rw [zt_nle (by omega) (by omega)] | rw [zt_le (by omega) (by omega)] | rw [zt_nlt (by omega) (by omega)] | rw [zt_lt (by omega) (by omega)] | rw [zt_nm (by omega)] | rw [zt_mm] | rw [zt_ml] | rw [zt_0m] | rw [zt_m0] | rw [zt_n6 (by omega)] | rw [zt_66] | rw [zt_06] | simp (disch := omega) only [i0, i1, i2, i3, i4, i5, i6, i8, i16, i30, i60, i100, i200, i201, i300, i1500, i8000, iM, i_m6, nIa, nIp, nIs, sI_1, sI_22, sL_1, sL_21, sS_21, sS_22, sI_ne, sL_ne, sS_ne, sS_eq, sI_eq, sI_at, sL_eq, sL_at, Nat.add_zero, if_true, if_false, h4, w1, bT0, hk0, a1, hk1, hi1, a2, a3] | rw [bV_e] | rw [pS_e] | rw [bI_s] | rw [bU_s] | rw [bL_s] | rw [gI_n (by omega) (by omega)] | rw [pI_n (by omega) (by omega)] | rw [gL_n (by omega) (by omega)] | rw [pL_n (by omega) (by omega)]))
        exact a4
      · by_cases q0 : m.1 = 0
        · rw [tks_0 q0] at h1
          obtain ⟨h3, h6⟩ := h1
          have tkl : (tks m).length = m.2.2.2.1.length + 1 := by rw [tks_0 q0]; rfl
          obtain ⟨S3, a3, b3, f3⟩ := s_wLevels8 (n := n) (p := p + 1) (e := p + (tks m).length) hf hn la lb ho (lv100 (hmw.2.2.1 q0).1) (sg_fr f1 n3 h6) (by rw [tkl]; omega) (by omega) (sg_fr f1 nf ha) (sg_fr f1 nf hb) b1
          obtain ⟨S4, a4, b4, f4⟩ := fin S3 (by
            rw [tks_gv, if_pos q0]
            rw [q0] at b3
            simp only [List.append_assoc, List.cons_append, List.nil_append] at b3
            exact b3) (FR_tr f1 f3)
          refine ⟨S4, ?_, b4, f4⟩
          rw [q0] at a1 hk1 hk0
          ((try simp only [i0, i1, i2, i3, i4, i5, i6, i8, i16, i30, i60, i100, i200, i201, i300, i1500, i8000, iM, i_m6]); repeat (first | rw [zt_eq (by omega)] | rw [zt_ne (by omega) (by omega) (by omega)] | rw [zt_nle (by omega) (by omega)] | rw [zt_le (by omega) (by omega)] | rw [zt_nlt (by omega) (by omega)] | rw [zt_lt (by omega) (by omega)] | rw [zt_nm (by omega)] | rw [zt_mm] | rw [zt_ml] | rw [zt_0m] | rw [zt_m0] | rw [zt_n6 (by omega)] | rw [zt_66] | rw [zt_06] | simp (disch := omega) only [i0, i1, i2, i3, i4, i5, i6, i8, i16, i30, i60, i100, i200, i201, i300, i1500, i8000, iM, i_m6, nIa, nIp, nIs, sI_1, sI_22, sL_1, sL_21, sS_21, sS_22, sI_ne, sL_ne, sS_ne, sS_eq, sI_eq, sI_at, sL_eq, sL_at, Nat.add_zero, if_true, if_false, h4, w1, bT0, hk0, a1, hk1, a3] | rw [bV_e] | rw [pS_e] | rw [bI_s] | rw [bU_s] | rw [bL_s] | rw [gI_n (by omega) (by omega)] | rw [pI_n (by omega) (by omega)] | rw [gL_n (by omega) (by omega)] | rw [pL_n (by omega) (by omega)]))
          exact a4
        · by_cases q1 : m.1 = 1
          · rw [tks_1 q1] at h1
            obtain ⟨h3, h5, _⟩ := h1
            have hi1 : S1.2.1 370 0 (p + 1) = nI m.2.1 := by rw [(f1 370 0 n3).2.1]; exact h5
            have tkl : (tks m).length = 2 := by rw [tks_1 q1]; rfl
            obtain ⟨S2, a2, b2, f2⟩ := s_put (n := n) b1 (x := m.2.1) (v := nI m.2.1) rfl
            obtain ⟨S4, a4, b4, f4⟩ := fin S2 (by
              rw [tks_gv, if_neg q0, if_pos q1]
              rw [q1] at b2
              simp only [List.append_assoc, List.cons_append, List.nil_append] at b2
              exact b2) (FR_tr f1 f2)
            refine ⟨S4, ?_, b4, f4⟩
            rw [q1] at a1 hk1 hk0
            ((try simp only [i0, i1, i2, i3, i4, i5, i6, i8, i16, i30, i60, i100, i200, i201, i300, i1500, i8000, iM, i_m6]); repeat (first | rw [zt_eq (by omega)] | rw [zt_ne (by omega) (by omega) (by omega)] | rw [zt_nle (by omega) (by omega)] | rw [zt_le (by omega) (by omega)] | rw [zt_nlt (by omega) (by omega)] | rw [zt_lt (by omega) (by omega)] | rw [zt_nm (by omega)] | rw [zt_mm] | rw [zt_ml] | rw [zt_0m] | rw [zt_m0] | rw [zt_n6 (by omega)] | rw [zt_66] | rw [zt_06] | simp (disch := omega) only [i0, i1, i2, i3, i4, i5, i6, i8, i16, i30, i60, i100, i200, i201, i300, i1500, i8000, iM, i_m6, nIa, nIp, nIs, sI_1, sI_22, sL_1, sL_21, sS_21, sS_22, sI_ne, sL_ne, sS_ne, sS_eq, sI_eq, sI_at, sL_eq, sL_at, Nat.add_zero, if_true, if_false, h4, w1, bT0, hk0, a1, hk1, hi1, a2] | rw [bV_e] | rw [pS_e] | rw [bI_s] | rw [bU_s] | rw [bL_s] | rw [gI_n (by omega) (by omega)] | rw [pI_n (by omega) (by omega)] | rw [gL_n (by omega) (by omega)] | rw [pL_n (by omega) (by omega)]))
            exact a4
          · obtain ⟨S4, a4, b4, f4⟩ := fin S1 (by rw [tks_gv, if_neg q0, if_neg q1, if_neg q2]; exact b1) f1
            refine ⟨S4, ?_, b4, f4⟩
            ((try simp only [i0, i1, i2, i3, i4, i5, i6, i8, i16, i30, i60, i100, i200, i201, i300, i1500, i8000, iM, i_m6]); repeat (first | rw [zt_eq (by omega)] | rw [zt_ne (by omega) (by omega) (by omega)] | rw [zt_nle (by omega) (by omega)] | rw [zt_le (by omega) (by omega)] | rw [zt_nlt (by omega) (by omega)] | rw [zt_lt (by omega) (by omega)] | rw [zt_nm (by omega)] | rw [zt_mm] | rw [zt_ml] | rw [zt_0m] | rw [zt_m0] | rw [zt_n6 (by omega)] | rw [zt_66] | rw [zt_06] | simp (disch := omega) only [i0, i1, i2, i3, i4, i5, i6, i8, i16, i30, i60, i100, i200, i201, i300, i1500, i8000, iM, i_m6, nIa, nIp, nIs, sI_1, sI_22, sL_1, sL_21, sS_21, sS_22, sI_ne, sL_ne, sS_ne, sS_eq, sI_eq, sI_at, sL_eq, sL_at, Nat.add_zero, if_true, if_false, h4, w1, bT0, hk0, a1, hk1] | rw [bV_e] | rw [pS_e] | rw [bI_s] | rw [bU_s] | rw [bL_s] | rw [gI_n (by omega) (by omega)] | rw [pI_n (by omega) (by omega)] | rw [gL_n (by omega) (by omega)] | rw [pL_n (by omega) (by omega)]))
            exact a4
    · obtain ⟨w1, w2⟩ := NXT_w hN hc
      refine ⟨S, ?_, NXT_mo hN hc, FR_rf⟩
      ((try simp only [i0, i1, i2, i3, i4, i5, i6, i8, i16, i30, i60, i100, i200, i201, i300, i1500, i8000, iM, i_m6]); repeat (first | rw [zt_eq (by omega)] | rw [zt_ne (by omega) (by omega) (by omega)] | rw [zt_nle (by omega) (by omega)] | rw [zt_le (by omega) (by omega)] | rw [zt_nlt (by omega) (by omega)] | rw [zt_lt (by omega) (by omega)] | rw [zt_nm (by omega)] | rw [zt_mm] | rw [zt_ml] | rw [zt_0m] | rw [zt_m0] | rw [zt_n6 (by omega)] | rw [zt_66] | rw [zt_06] | simp (disch := omega) only [i0, i1, i2, i3, i4, i5, i6, i8, i16, i30, i60, i100, i200, i201, i300, i1500, i8000, iM, i_m6, nIa, nIp, nIs, sI_1, sI_22, sL_1, sL_21, sS_21, sS_22, sI_ne, sL_ne, sS_ne, sS_eq, sI_eq, sI_at, sL_eq, sL_at, Nat.add_zero, if_true, if_false, w1, h4] | rw [bV_e] | rw [pS_e] | rw [bI_s] | rw [bU_s] | rw [bL_s] | rw [gI_n (by omega) (by omega)] | rw [pI_n (by omega) (by omega)] | rw [gL_n (by omega) (by omega)] | rw [pL_n (by omega) (by omega)]))
def DR : List Nat := 370 :: 374 :: 376 :: 378 :: NR
theorem s_named {n f o N t : Nat} {a b : List Nat} {L : List (List Nat)} {T : List (List Mk)} {S : St} {ms : List Mk} {c : List Nat} (hf : 367 ≤ f ∧ f ≤ 368) (hn : 10000 ≤ n) (la : lvO a) (lb : lvO b) (ho : o + a.length + b.length ≤ ln f) (hL : LOk L) (hT : TOk L T N) (hM : LM S L) (hTM : TM S L T) (ht : T[t]? = some ms) (ha : sg (S.2.1 f 0) o a) (hb : sg (S.2.1 f 0) (o + a.length) b) (hN : NXT S c) : ∃ S', f_X8_named n S (nI t) f (nI o) = some S' ∧ NXT S' (c ++ flt (ms.map (gvM a b))) ∧ FR DR S S' := by
  have hgd := hT.2.2.2.1 ms (gt_mem ht)
  have h40 := hT.2.2.1
  have hz := zB_le hT
  have hmv := gdT_mV hgd (by omega) (by omega)
  have hl := flt_len hmv
  have h200 := hgd.2.1
  obtain ⟨S1, a1, b1, f1⟩ := s_layTerm (n := n) (f := 370) hL hT (by omega) hM hTM ht hn
  have f2 : FR [374] S1 (sS S1 374 0 (nI (flt ms).length)) := FR_sS FR_rf (by rw [rg8 (by omega)]; simp)
  have f12 : FR [370, 374, 376, 378] S (sS S1 374 0 (nI (flt ms).length)) := FR_tr (FR_mo f1 (by simp)) (FR_mo f2 (by simp))
  have nf : rg f 0 ∉ [370, 374, 376, 378] := by rw [rg8 (by omega)]; simp; omega
  obtain ⟨S3, a3, b3, f3⟩ := s_named_l (n := n) hf hn la lb ho ms 0 n (flt ms).length (sS S1 374 0 (nI (flt ms).length)) c hmv b1 (by omega) (by omega) sS_eq (by omega) (sg_fr f12 nf ha) (sg_fr f12 nf hb) (NXT_fr hN f12 (by simp) (by simp) (by simp))
  refine ⟨S3, ?_, b3, FR_tr (FR_mo f12 (by simp [DR])) (FR_mo f3 (by simp [DR, NR]))⟩
  unfold f_X8_named
  rw [a1, bI_s, pS_e]
  exact a3
