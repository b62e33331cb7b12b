/-! a numbered term is written into a row -/
/-- the terms that wait, the next one first: their numbers and depths -/
def den (T : List (List Mk)) (st : List (Nat × Nat)) : List Mk := st.flatMap (fun p => ((T[p.1]?).getD []).map (shM p.2))
theorem den_c {T : List (List Mk)} {t d : Nat} {st : List (Nat × Nat)} {ms : List Mk} (h : T[t]? = some ms) : den T ((t, d) :: st) = ms.map (shM d) ++ den T st := by
  unfold den
  rw [List.flatMap_cons, h]; rfl
def wtS (S : St) (st : List (Nat × Nat)) : Prop := S.1 210 0 = nI st.length ∧ stk (S.2.1 208 0) (st.map Prod.fst) ∧ stk (S.2.1 209 0) (st.map Prod.snd)
theorem rgW {f : Nat} (h : 208 ≤ f ∧ f ≤ 210) (j : Nat) : rg f j = 208 := by
  unfold rg; rw [if_neg (by omega), if_neg (by omega), if_neg (by omega), if_neg (by omega), if_pos h]
theorem wtS_fr {S S' : St} {R : List Nat} {st : List (Nat × Nat)} (h : wtS S st) (g : FR R S S') (hj : 208 ∉ R) : wtS S' st := by
  have k : ∀ f, 208 ≤ f ∧ f ≤ 210 → S'.1 f 0 = S.1 f 0 ∧ S'.2.1 f 0 = S.2.1 f 0 ∧ S'.2.2 f 0 = S.2.2 f 0 := fun f hf => g f 0 (by rw [rgW hf]; exact hj)
  refine ⟨(k 210 (by omega)).1.trans h.1, ?_, ?_⟩
  · rw [(k 208 (by omega)).2.1]; exact h.2.1
  · rw [(k 209 (by omega)).2.1]; exact h.2.2
def aw (S : St) (st : List (Nat × Nat)) (t d : Nat) : St := sS (sI (sI S 208 0 st.length (nI t)) 209 0 st.length (nI d)) 210 0 (nI (st.length + 1))
theorem aw_fr {S S1 : St} {st : List (Nat × Nat)} {t d : Nat} {R : List Nat} (g : FR R S S1) (h : 208 ∈ R) : FR R S (aw S1 st t d) := FR_sS (FR_sI (FR_sI g (by rw [rgW (by omega)]; exact h)) (by rw [rgW (by omega)]; exact h)) (by rw [rgW (by omega)]; exact h)
theorem sI_self {S : St} {f j i : Nat} {v : Int32} : (sI S f j i v).2.1 f j = upd (S.2.1 f j) i v := by simp [sI]
theorem aw_wt {S : St} {st : List (Nat × Nat)} {t d : Nat} (h : wtS S st) : wtS (aw S st t d) ((t, d) :: st) := by
  refine ⟨by unfold aw; rw [sS_eq]; rfl, ?_, ?_⟩
  · unfold aw
    rw [sS_21, sI_ne (by omega), sI_self, List.map_cons]
    exact ⟨by rw [List.length_map]; exact pk_us, stk_up h.2.1 (by rw [List.length_map]; exact Nat.le_refl _)⟩
  · unfold aw
    rw [sS_21, sI_self, sI_ne (by omega), List.map_cons]
    exact ⟨by rw [List.length_map]; exact pk_us, stk_up h.2.2 (by rw [List.length_map]; exact Nat.le_refl _)⟩
theorem s_await {n : Nat} {S : St} {L : List (List Nat)} {T : List (List Mk)} {st : List (Nat × Nat)} {t d : Nat} (hT : TC S L T) (hl : T.length ≤ 1500) (hw : wtS S st) (ht : t < T.length) (hs : st.length < 201) : f_X5_await n S (nI t) (nI d) = some (aw S st t d) := by
  unfold f_X5_await
  simp (maxSteps := 400000) (disch := omega) only [↓bV_e, ↓bI_s, ↓bL_s, ↓bU_s, ↓pS_e, ↓gI_n, ↓gL_n, ↓pI_n, ↓pL_n, ↓reduceIte, Nat.reduceEqDiff, Nat.reduceLeDiff, i0, i1, i2, i3, i4, i5, i6, i8, i16, i30, i60, i100, i200, i201, i300, i1500, i8000, iM, nIa, nIp, nIs, nIle, nIlt, nIeq, nImlt, nImle, nImeq, nImeq2, nI0le, bV_e, bI_s, bL_s, bU_s, pS_e, gI_n, gL_n, pI_n, pL_n, sI_1, sI_22, sL_1, sL_21, sS_21, sS_22, sI_ne, sL_ne, sS_ne, sS_eq, sI_eq, sI_at, sL_eq, sL_at, if_true, if_false, eq_self, Nat.add_zero, if_pos, if_neg, hT.1, hw.1]
  rfl
theorem den_pos {T : List (List Mk)} {L : List (List Nat)} {N : Nat} (hT : TOk L T N) : ∀ {st : List (Nat × Nat)}, (∀ p ∈ st, p.1 < T.length) → st.length ≤ (den T st).length := by
  intro st
  induction st with
  | nil => intro _; simp
  | cons p st ih =>
    intro h
    obtain ⟨t, d⟩ := p
    have hlt := h (t, d) List.mem_cons_self
    have e : T[t]? = some T[t] := List.getElem?_eq_getElem hlt
    have := Tm_ne (hT.2.2.2.1 T[t] (List.getElem_mem hlt)).1
    have := ih (fun p hp => h p (List.mem_cons_of_mem _ hp))
    rw [den_c e, List.length_append, List.length_map, List.length_cons]; omega
theorem sh_lf {d : Nat} {m : Mk} (h : m.2.2.1 = 0) : shM d m = (m.1, m.2.1, d, m.2.2.2) := by unfold shM; rw [h, Nat.zero_add]
theorem s_codeX {n : Nat} {S : St} {L : List (List Nat)} {l : List Nat} (h : LC S L) (hL : LOk L) (hm : l ∈ L) : f_X1_codeOf n S (nI (ix L l)) = some (S, en l) := by
  have := s_codeOf (n := n) h hL (ix_lt hm)
  rw [this]
  have e := ix_get hm
  rw [List.getElem?_eq_getElem (ix_lt hm)] at e
  rw [Option.some.inj e]
/-- a term, taken apart -/
theorem tm_den {L : List (List Nat)} {T : List (List Mk)} {N : Nat} {m : Mk} {r : List Mk} {st : List (Nat × Nat)} {d B : Nat} (hg : gdT B N (m :: r)) (hp : pT L T (m :: r)) : (m.1 ≤ 2 → (m :: r).map (shM d) = [shM d m]) ∧ (3 ≤ m.1 → m.1 ≠ 6 → (m :: r).map (shM d) ++ den T st = shM d m :: den T ((ixT T (p1 (m :: r)), d) :: (ixT T (p2 (m :: r)), d + dl m.1) :: st)) ∧ (m.1 = 6 → (m :: r).map (shM d) ++ den T st = shM d m :: den T ((ixT T (p1 (m :: r)), d) :: (ixT T (p2 (m :: r)), d) :: (ixT T (p3 (m :: r)), d + 1) :: st)) := by
  have h6 : m.1 ≤ 6 := hk_le hg
  obtain ⟨d0, e0, e1, e2, e3⟩ := tm_parts hg.1
  refine ⟨fun z => ?_, fun z y => ?_, fun z => ?_⟩
  · rw [e0 (ar_0 z)]; rfl
  · have pp := hp.2.2.1 z
    have er := e2 ((ar_2 z h6).2.2.mp y)
    rw [den_c (ixT_get pp.1), den_c (ixT_get pp.2)]
    conv => lhs; rw [er]
    rw [List.map_cons, List.map_append, sh_sh, List.cons_append, List.append_assoc, Nat.add_comm d]
  · have pp := hp.2.2.1 (show 3 ≤ m.1 by omega)
    have er := (e3 (by rw [z]; rfl)).1
    rw [den_c (ixT_get pp.1), den_c (ixT_get pp.2), den_c (ixT_get (hp.2.2.2 z))]
    conv => lhs; rw [er]
    rw [List.map_cons, List.map_append, List.map_append, sh_sh, List.cons_append, List.append_assoc, List.append_assoc, Nat.add_comm d]
theorem s_spread_l {n N : Nat} {L : List (List Nat)} {T : List (List Mk)} {j : Nat} (hL : LOk L) (hT : TOk L T N) : ∀ (k m : Nat) (S : St) (st : List (Nat × Nat)) (done : List Mk), (den T st).length = k → k < m → RW S j done → done.length + k ≤ 200 → wtS S st → (∀ p ∈ st, p.1 < T.length) → TC S L T → LC S L → ∃ S', l_X5_spread_18 n m S j (nI done.length) = some S' ∧ RW S' j (done ++ den T st) ∧ FR [208, 1000 + j] S S' := by
  have h15 := hT.1
  intro k
  induction k with
  | zero =>
    intro m S st done hk0 hm hR hl hw hst hC hLC
    obtain ⟨m, rfl⟩ : ∃ x, m = x + 1 := ⟨m - 1, by omega⟩
    have := den_pos hT hst
    have hst0 : st = [] := List.length_eq_zero_iff.mp (by omega)
    subst hst0
    have w1 := hw.1
    refine ⟨S, ?_, ?_, FR_rf⟩
    · unfold l_X5_spread_18
      by_cases h2 : done.length = 200
      · simp (maxSteps := 400000) (disch := omega) only [↓bV_e, ↓bI_s, ↓bL_s, ↓bU_s, ↓pS_e, ↓gI_n, ↓gL_n, ↓pI_n, ↓pL_n, ↓reduceIte, Nat.reduceEqDiff, Nat.reduceLeDiff, i0, i1, i2, i3, i4, i5, i6, i8, i16, i30, i60, i100, i200, i201, i300, i1500, i8000, iM, nIa, nIp, nIs, nIle, nIlt, nIeq, nImlt, nImle, nImeq, nImeq2, nI0le, bV_e, bI_s, bL_s, bU_s, pS_e, gI_n, gL_n, pI_n, pL_n, sI_1, sI_22, sL_1, sL_21, sS_21, sS_22, sI_ne, sL_ne, sS_ne, sS_eq, sI_eq, sI_at, sL_eq, sL_at, if_true, if_false, eq_self, Nat.add_zero, if_pos, if_neg]
      · simp (maxSteps := 400000) (disch := omega) only [↓bV_e, ↓bI_s, ↓bL_s, ↓bU_s, ↓pS_e, ↓gI_n, ↓gL_n, ↓pI_n, ↓pL_n, ↓reduceIte, Nat.reduceEqDiff, Nat.reduceLeDiff, i0, i1, i2, i3, i4, i5, i6, i8, i16, i30, i60, i100, i200, i201, i300, i1500, i8000, iM, nIa, nIp, nIs, nIle, nIlt, nIeq, nImlt, nImle, nImeq, nImeq2, nI0le, bV_e, bI_s, bL_s, bU_s, pS_e, gI_n, gL_n, pI_n, pL_n, sI_1, sI_22, sL_1, sL_21, sS_21, sS_22, sI_ne, sL_ne, sS_ne, sS_eq, sI_eq, sI_at, sL_eq, sL_at, if_true, if_false, eq_self, Nat.add_zero, if_pos, if_neg, w1, List.length_nil]
    · show RW S j (done ++ []); rw [List.append_nil]; exact hR
  | succ k ih =>
    intro m S st done hk0 hm hR hl hw hst hC hLC
    obtain ⟨m, rfl⟩ : ∃ x, m = x + 1 := ⟨m - 1, by omega⟩
    cases st with
    | nil => simp [den] at hk0
    | cons p st =>
      obtain ⟨t, d⟩ := p
      have hlt : t < T.length := hst (t, d) List.mem_cons_self
      have hst' : ∀ p ∈ st, p.1 < T.length := fun p hp => hst p (List.mem_cons_of_mem _ hp)
      have e : T[t]? = some T[t] := List.getElem?_eq_getElem hlt
      have hg := hT.2.2.2.1 T[t] (List.getElem_mem hlt)
      have hp := hT.2.2.2.2 T[t] (List.getElem_mem hlt)
      have hln := den_pos hT hst
      have hln2 := den_pos hT hst'
      rw [List.length_cons] at hln
      have hslk : st.length ≤ k := by omega
      obtain ⟨w1, w2, w3⟩ := hw
      rw [List.map_cons] at w2 w3
      have w2a : S.2.1 208 0 st.length = nI t := by have := w2.1; rw [List.length_map] at this; exact this
      have w3a : S.2.1 209 0 st.length = nI d := by have := w3.1; rw [List.length_map] at this; exact this
      rw [List.length_cons] at w1
      obtain ⟨c1, c2, c3, c4, -, -⟩ := hC.2 t _ e
      generalize hTt : T[t] = ms at *
      cases ms with
      | nil => exact absurd (Tm_ne hg.1) (by simp)
      | cons x r =>
        have hd0 : x.2.2.1 = 0 := (tm_parts hg.1).1
        have hx6 : x.1 ≤ 6 := hk_le hg
        obtain ⟨v1, v2, v3, v4, v5, v6, v7, v8⟩ := hg.2.2 x List.mem_cons_self
        have hkx : hk (x :: r) = x.1 := rfl
        obtain ⟨g1, g2, g3⟩ := tm_den (st := st) (d := d) hg hp
        rw [den_c e] at hk0 ⊢
        have f3 : FR [208, 1000 + j] S (sS S 210 0 (nI st.length)) := FR_sS FR_rf (by rw [rgW (by omega)]; simp)
        have wS3 : wtS (sS S 210 0 (nI st.length)) st := ⟨sS_eq, w2.2, w3.2⟩
        have hR3 : RW (sS S 210 0 (nI st.length)) j done := RW_fr hR (FR_sS (R := [208]) FR_rf (by rw [rgW (by omega)]; simp)) (by simp; omega)
        have hC3 : TC (sS S 210 0 (nI st.length)) L T := TC_fr hC f3 (by simp; omega)
        have hLC3 : LC (sS S 210 0 (nI st.length)) L := LC_fr hLC f3 (by simp; omega)
        rw [hkx] at c1
        have cont : ∀ (S1 : St) (st1 : List (Nat × Nat)), (x :: r).map (shM d) ++ den T st = shM d x :: den T st1 → RW S1 j done → wtS S1 st1 → (∀ p ∈ st1, p.1 < T.length) → TC S1 L T → LC S1 L → FR [208, 1000 + j] S S1 → ∃ S', l_X5_spread_18 n m (addm S1 j done (shM d x)) j (nI (done.length + 1)) = some S' ∧ RW S' j (done ++ ((x :: r).map (shM d) ++ den T st)) ∧ FR [208, 1000 + j] S S' := by
          intro S1 st1 he h1 h2 h3 h4 h5 h6
          have fa : FR [1000 + j] S1 (addm S1 j done (shM d x)) := addm_fr FR_rf (by simp)
          rw [he, List.length_cons] at hk0
          obtain ⟨S', q1, q2, q3⟩ := ih m (addm S1 j done (shM d x)) st1 (done ++ [shM d x]) (by omega) (by omega) (RW_add h1 (by omega)) (by rw [List.length_append, List.length_singleton]; omega) (wtS_fr h2 fa (by simp; omega)) h3 (TC_fr h4 fa (by simp; omega)) (LC_fr h5 fa (by simp; omega))
          rw [List.length_append, List.length_singleton] at q1
          rw [List.append_assoc, List.singleton_append, ← he] at q2
          exact ⟨S', q1, q2, FR_tr h6 (FR_tr (FR_mo fa (by simp)) q3)⟩
        unfold l_X5_spread_18 j_X5_spread_264 j_X5_spread_293
        by_cases z2 : x.1 ≤ 2
        · obtain ⟨S', q1, q2, q3⟩ := cont (sS S 210 0 (nI st.length)) st (by rw [g1 z2]; rfl) hR3 wS3 hst' hC3 hLC3 f3
          refine ⟨S', ?_, q2, q3⟩
          have ad := s_add (n := n) (m := shM d x) hR3 (by omega)
          rw [sh_lf hd0] at ad q1
          generalize hS3 : sS S 210 0 (nI st.length) = S3 at *
          have u0 := (hC3.2 t _ e)
          rw [hkx] at u0
          have s1 : S3.1 210 0 = nI st.length := by rw [← hS3]; exact sS_eq
          have s2 : S3.2.1 = S.2.1 := by rw [← hS3]; rfl
          rw [if_neg (show ¬ (200 : Int32) ≤ nI done.length from nI_ge (b := 200) (by omega) (by omega)), w1, if_neg (show ¬ nI (st.length + 1) ≤ 0 from nI_nle (by omega) (by omega)), pS_e, show nI (st.length + 1) - 1 = nI st.length from nI_pred _, hS3, s1, gI_n (by omega) (by omega), gI_n (by omega) (by omega), s2, w2a, w3a, gI_n (by omega) (by omega), u0.1]
          rcases (show x.1 = 0 ∨ x.1 = 1 ∨ x.1 = 2 by omega) with z | z | z
          · have co := s_codeX (n := n) hLC3 hL (hp.1 z)
            have e1 : a1 L T (x :: r) = nI (ix L x.2.2.2.1) := by unfold a1; rw [hkx, if_pos z]; rfl
            rw [z, v8 (by omega) (by omega), show x.2.2.2 = (x.2.2.2.1, []) from by rw [← v7 (by omega)]] at ad q1
            have ad' : f_X4_add n S3 j 0 0 (nI d) (en x.2.2.2.1) 0 = some (addm S3 j done (0, 0, d, x.2.2.2.1, [])) := ad
            have co' : f_X1_codeOf n S3 (nI (ix L x.2.2.2.1)) = some (S3, en x.2.2.2.1) := co
            rw [if_pos (by rw [z]; rfl), gI_n (by omega) (by omega), u0.2.1, e1, co', bL_s, ad', bU_s, bV_e, nI_1]
            exact q1
          · have e1 : a1 L T (x :: r) = nI x.2.1 := by unfold a1; rw [hkx, if_neg (by omega), if_pos (by omega)]; rfl
            have ls : x.2.2.2 = ([], []) := by
              conv => lhs; rw [show x.2.2.2 = (x.2.2.2.1, x.2.2.2.2) from rfl, v6 (by omega) (by omega), v7 (by omega)]
            rw [z, ls] at ad q1
            have ad' : f_X4_add n S3 j 1 (nI x.2.1) (nI d) 0 0 = some (addm S3 j done (1, x.2.1, d, [], [])) := ad
            rw [if_neg (by rw [z]; decide), if_pos (by rw [z]; rfl), gI_n (by omega) (by omega), u0.2.1, e1, ad', bU_s, bV_e, nI_1]
            exact q1
          · have pp := hp.2.1 z
            have co := s_codeX (n := n) hLC3 hL pp.1
            have co2 := s_codeX (n := n) hLC3 hL pp.2
            have e1 : a1 L T (x :: r) = nI x.2.1 := by unfold a1; rw [hkx, if_neg (by omega), if_pos (by omega)]; rfl
            have e2 : a2 L T (x :: r) = nI (ix L (hl1 (x :: r))) := by unfold a2; rw [hkx, if_neg (by omega), if_pos z]
            have e3 : a3 L T (x :: r) = nI (ix L (hl2 (x :: r))) := by unfold a3; rw [hkx, if_pos z]
            rw [z] at ad q1
            have ad' : f_X4_add n S3 j 2 (nI x.2.1) (nI d) (en (hl1 (x :: r))) (en (hl2 (x :: r))) = some (addm S3 j done (2, x.2.1, d, x.2.2.2)) := ad
            rw [if_neg (by rw [z]; decide), if_neg (by rw [z]; decide), if_pos (by rw [z]; rfl), gI_n (by omega) (by omega), u0.2.1, e1, gI_n (by omega) (by omega), u0.2.2.1, e2, co, bL_s, gI_n (by omega) (by omega), u0.2.2.2.1, e3, co2, bL_s, ad', bU_s, bV_e, nI_1]
            exact q1
        · have z3 : 3 ≤ x.1 := by omega
          have pp := hp.2.2.1 z3
          have e1 : a1 L T (x :: r) = nI (ixT T (p1 (x :: r))) := by unfold a1; rw [hkx, if_neg (by omega), if_neg (by omega)]
          have e2 : a2 L T (x :: r) = nI (ixT T (p2 (x :: r))) := by unfold a2; rw [hkx, if_neg (by omega), if_neg (by omega)]
          have ls : x.2.2.2 = ([], []) := by
            conv => lhs; rw [show x.2.2.2 = (x.2.2.2.1, x.2.2.2.2) from rfl, v6 (by omega) (by omega), v7 (by omega)]
          have hlen : 3 ≤ (x :: r).length := by
            have pq := (tm_parts hg.1).2.2.1 (ar_2 z3 hx6).1
            have n1 := Tm_ne pq.1
            have n2 := Tm_ne pq.2
            by_cases z6 : x.1 = 6
            · have := (tlen hg).2.2 z6; omega
            · have := (tlen hg).2.1 z3 z6; omega
          have hl20 : st.length + 3 ≤ 201 := by rw [List.length_append, List.length_map] at hk0; omega
          by_cases z6 : x.1 = 6
          · have p33 := hp.2.2.2 z6
            have e3 : a3 L T (x :: r) = nI (ixT T (p3 (x :: r))) := by unfold a3; rw [hkx, if_neg (by omega), if_pos z6]
            have A1 := s_await (n := n) (d := d + 1) hC3 h15 wS3 (ixT_lt p33) (by omega)
            have W1 := aw_wt (t := ixT T (p3 (x :: r))) (d := d + 1) wS3
            have F1 : FR [208] (sS S 210 0 (nI st.length)) (aw (sS S 210 0 (nI st.length)) st (ixT T (p3 (x :: r))) (d + 1)) := aw_fr FR_rf (by simp)
            have C1 := TC_fr hC3 F1 (by simp)
            have A2 := s_await (n := n) (d := d) C1 h15 W1 (ixT_lt pp.2) (by rw [List.length_cons]; omega)
            have W2 := aw_wt (t := ixT T (p2 (x :: r))) (d := d) W1
            have F2 : FR [208] (sS S 210 0 (nI st.length)) (aw (aw (sS S 210 0 (nI st.length)) st (ixT T (p3 (x :: r))) (d + 1)) ((ixT T (p3 (x :: r)), d + 1) :: st) (ixT T (p2 (x :: r))) d) := aw_fr F1 (by simp)
            have C2 := TC_fr hC3 F2 (by simp)
            have A3 := s_await (n := n) (d := d) C2 h15 W2 (ixT_lt pp.1) (by rw [List.length_cons, List.length_cons]; omega)
            have W3 := aw_wt (t := ixT T (p1 (x :: r))) (d := d) W2
            have F3 : FR [208] (sS S 210 0 (nI st.length)) (aw (aw (aw (sS S 210 0 (nI st.length)) st (ixT T (p3 (x :: r))) (d + 1)) ((ixT T (p3 (x :: r)), d + 1) :: st) (ixT T (p2 (x :: r))) d) ((ixT T (p2 (x :: r)), d) :: (ixT T (p3 (x :: r)), d + 1) :: st) (ixT T (p1 (x :: r))) d) := aw_fr F2 (by simp)
            have C3 := TC_fr hC3 F3 (by simp)
            have R3 := RW_fr hR3 F3 (by simp; omega)
            have h3S : ∀ p ∈ ((ixT T (p1 (x :: r)), d) :: (ixT T (p2 (x :: r)), d) :: (ixT T (p3 (x :: r)), d + 1) :: st), p.1 < T.length := by
              intro p hp'
              simp only [List.mem_cons] at hp'
              rcases hp' with q | q | q | q
              · rw [q]; exact ixT_lt pp.1
              · rw [q]; exact ixT_lt pp.2
              · rw [q]; exact ixT_lt p33
              · exact hst' p q
            obtain ⟨S', q1, q2, q3⟩ := cont _ _ (g3 z6) R3 W3 h3S C3 (LC_fr hLC3 F3 (by simp)) (FR_tr f3 (FR_mo F3 (by simp)))
            refine ⟨S', ?_, q2, q3⟩
            have ad := s_add (n := n) (m := shM d x) R3 (by omega)
            rw [sh_lf hd0, z6, v8 (by omega) (by omega), ls] at ad q1
            generalize hS3 : sS S 210 0 (nI st.length) = S3 at *
            have u0 := (hC3.2 t _ e)
            have u1 := (C1.2 t _ e)
            have u2 := (C2.2 t _ e)
            have u3 := (C3.2 t _ e)
            rw [hkx, z6] at u0 u1 u2 u3
            rw [e1] at u0 u1 u2 u3
            rw [e2] at u0 u1 u2 u3
            rw [e3] at u0 u1 u2 u3
            have s1 : S3.1 210 0 = nI st.length := by rw [← hS3]; exact sS_eq
            have s2 : S3.2.1 = S.2.1 := by rw [← hS3]; rfl
            rw [if_neg (show ¬ (200 : Int32) ≤ nI done.length from nI_ge (b := 200) (by omega) (by omega)), w1, if_neg (show ¬ nI (st.length + 1) ≤ 0 from nI_nle (by omega) (by omega)), pS_e, show nI (st.length + 1) - 1 = nI st.length from nI_pred _, hS3, s1, gI_n (by omega) (by omega), gI_n (by omega) (by omega), s2, w2a, w3a, gI_n (by omega) (by omega), u0.1]
            rw [if_neg (by decide), if_neg (by decide), if_neg (by decide), if_neg (by decide), if_neg (by decide), if_neg (by decide), if_pos (by decide), gI_n (by omega) (by omega), u0.2.2.2.1, nI_1, A1, bU_s, gI_n (by omega) (by omega), u1.2.2.1, A2, bU_s, gI_n (by omega) (by omega), u2.2.1, A3, bU_s, gI_n (by omega) (by omega), u3.1]
            have ad' : f_X4_add n (aw (aw (aw S3 st (ixT T (p3 (x :: r))) (d + 1)) ((ixT T (p3 (x :: r)), d + 1) :: st) (ixT T (p2 (x :: r))) d) ((ixT T (p2 (x :: r)), d) :: (ixT T (p3 (x :: r)), d + 1) :: st) (ixT T (p1 (x :: r))) d) j (nI 6) 0 (nI d) 0 0 = _ := ad
            rw [ad', bU_s, bV_e, nI_1]
            exact q1
          · have A1 := s_await (n := n) (d := d + dl x.1) hC3 h15 wS3 (ixT_lt pp.2) (by omega)
            have W1 := aw_wt (t := ixT T (p2 (x :: r))) (d := d + dl x.1) wS3
            have F1 : FR [208] (sS S 210 0 (nI st.length)) (aw (sS S 210 0 (nI st.length)) st (ixT T (p2 (x :: r))) (d + dl x.1)) := aw_fr FR_rf (by simp)
            have C1 := TC_fr hC3 F1 (by simp)
            have A2 := s_await (n := n) (d := d) C1 h15 W1 (ixT_lt pp.1) (by rw [List.length_cons]; omega)
            have W2 := aw_wt (t := ixT T (p1 (x :: r))) (d := d) W1
            have F2 : FR [208] (sS S 210 0 (nI st.length)) (aw (aw (sS S 210 0 (nI st.length)) st (ixT T (p2 (x :: r))) (d + dl x.1)) ((ixT T (p2 (x :: r)), d + dl x.1) :: st) (ixT T (p1 (x :: r))) d) := aw_fr F1 (by simp)
            have C2 := TC_fr hC3 F2 (by simp)
            have R2 := RW_fr hR3 F2 (by simp; omega)
            have h2S : ∀ p ∈ ((ixT T (p1 (x :: r)), d) :: (ixT T (p2 (x :: r)), d + dl x.1) :: st), p.1 < T.length := by
              intro p hp'
              simp only [List.mem_cons] at hp'
              rcases hp' with q | q | q
              · rw [q]; exact ixT_lt pp.1
              · rw [q]; exact ixT_lt pp.2
              · exact hst' p q
            obtain ⟨S', q1, q2, q3⟩ := cont _ _ (g2 z3 z6) R2 W2 h2S C2 (LC_fr hLC3 F2 (by simp)) (FR_tr f3 (FR_mo F2 (by simp)))
            refine ⟨S', ?_, q2, q3⟩
            have ad := s_add (n := n) (m := shM d x) R2 (by omega)
            rw [sh_lf hd0, v8 (by omega) (by omega), ls] at ad q1
            generalize hS3 : sS S 210 0 (nI st.length) = S3 at *
            have u0 := (hC3.2 t _ e)
            have u1 := (C1.2 t _ e)
            have u2 := (C2.2 t _ e)
            rw [hkx] at u0 u1 u2
            rw [e1] at u0 u1 u2
            rw [e2] at u0 u1 u2
            have s1 : S3.1 210 0 = nI st.length := by rw [← hS3]; exact sS_eq
            have s2 : S3.2.1 = S.2.1 := by rw [← hS3]; rfl
            rw [if_neg (show ¬ (200 : Int32) ≤ nI done.length from nI_ge (b := 200) (by omega) (by omega)), w1, if_neg (show ¬ nI (st.length + 1) ≤ 0 from nI_nle (by omega) (by omega)), pS_e, show nI (st.length + 1) - 1 = nI st.length from nI_pred _, hS3, s1, gI_n (by omega) (by omega), gI_n (by omega) (by omega), s2, w2a, w3a, gI_n (by omega) (by omega), u0.1]
            have tail : ∀ k : Nat, k = x.1 → (gI S3 203 0 (nI t) 1500 fun v => bU (f_X5_await n S3 v (nI (d + dl x.1))) fun S51 => gI S51 202 0 (nI t) 1500 fun v1 => bU (f_X5_await n S51 v1 (nI d)) fun S4 => gI S4 201 0 (nI t) 1500 fun v6 => bU (f_X4_add n S4 j v6 0 (nI d) 0 0) fun S9 => bV (nI done.length + 1) fun v1 => l_X5_spread_18 n m S9 j v1) = some S' := by
              intro k hk'
              rw [gI_n (by omega) (by omega), u0.2.2.1, A1, bU_s, gI_n (by omega) (by omega), u1.2.1, A2, bU_s, gI_n (by omega) (by omega), u2.1]
              have ad' : f_X4_add n (aw (aw S3 st (ixT T (p2 (x :: r))) (d + dl x.1)) ((ixT T (p2 (x :: r)), d + dl x.1) :: st) (ixT T (p1 (x :: r))) d) j (nI x.1) 0 (nI d) 0 0 = _ := ad
              rw [ad', bU_s, bV_e, nI_1]
              exact q1
            rcases (show x.1 = 3 ∨ x.1 = 4 ∨ x.1 = 5 by omega) with z | z | z
            · rw [if_neg (by rw [z]; decide), if_neg (by rw [z]; decide), if_neg (by rw [z]; decide), if_pos (by rw [z]; decide), nI_1]
              have t3 := tail x.1 rfl
              rw [show d + dl x.1 = d + 1 by rw [z]; rfl] at t3
              exact t3
            · rw [if_neg (by rw [z]; decide), if_neg (by rw [z]; decide), if_neg (by rw [z]; decide), if_neg (by rw [z]; decide), if_pos (by rw [z]; decide), nI_1]
              have t3 := tail x.1 rfl
              rw [show d + dl x.1 = d + 1 by rw [z]; rfl] at t3
              exact t3
            · rw [if_neg (by rw [z]; decide), if_neg (by rw [z]; decide), if_neg (by rw [z]; decide), if_neg (by rw [z]; decide), if_neg (by rw [z]; decide), if_pos (by rw [z]; decide)]
              have t3 := tail x.1 rfl
              rw [show d + dl x.1 = d by rw [z]; rfl] at t3
              exact t3
theorem s_spread {n N : Nat} {L : List (List Nat)} {T : List (List Mk)} {j t : Nat} {S : St} {ms : List Mk} (hL : LOk L) (hT : TOk L T N) (hC : TC S L T) (hLC : LC S L) (ht : T[t]? = some ms) (hn : 201 ≤ n) : ∃ S', f_X5_spread n S (nI t) j = some S' ∧ RW S' j ms ∧ FR [208, 1000 + j] S S' := by
  have h15 := hT.1
  have hlt := gt_lt ht
  have h200 := (hT.2.2.2.1 ms (gt_mem ht)).2.1
  have f1 : FR [208, 1000 + j] S (sS (sS S 150 j (nI 0)) 210 0 (nI 0)) := FR_sS (FR_sS FR_rf (by rw [rgR (by omega)]; simp)) (by rw [rgW (by omega)]; simp)
  have hC1 := TC_fr hC f1 (by simp; omega)
  have w1 : wtS (sS (sS S 150 j (nI 0)) 210 0 (nI 0)) [] := ⟨sS_eq, trivial, trivial⟩
  have r1 : RW (sS (sS S 150 j (nI 0)) 210 0 (nI 0)) j [] := RW_fr RW_0 (FR_sS (R := [208]) FR_rf (by rw [rgW (by omega)]; simp)) (by simp; omega)
  have A := s_await (n := n) (d := 0) hC1 h15 w1 hlt (by simp)
  have f2 : FR [208] (sS (sS S 150 j (nI 0)) 210 0 (nI 0)) (aw (sS (sS S 150 j (nI 0)) 210 0 (nI 0)) [] t 0) := aw_fr FR_rf (by simp)
  have eden : den T [(t, 0)] = ms := by rw [den_c ht, sh_0]; exact List.append_nil _
  obtain ⟨S', q1, q2, q3⟩ := s_spread_l (n := n) (j := j) hL hT ms.length n _ [(t, 0)] [] (by rw [eden]) (by omega) (RW_fr r1 f2 (by simp; omega)) (by simp; omega) (aw_wt w1) (fun p hp => by rw [List.mem_singleton.mp hp]; exact hlt) (TC_fr hC1 f2 (by simp)) (LC_fr (LC_fr hLC f1 (by simp; omega)) f2 (by simp))
  rw [eden, List.nil_append] at q2
  refine ⟨S', ?_, q2, FR_tr f1 (FR_tr (FR_mo f2 (by simp)) q3)⟩
  unfold f_X5_spread
  rw [pS_e, pS_e, i0, A, bU_s]
  exact q1
