/-! the reference's numberOfTerm -/
def pushTM (S : St) (L : List (List Nat)) (T : List (List Mk)) (ms : List Mk) : St := sS (sI (sI (sI (sI (sI (sI S 356 0 T.length (nI (hk ms))) 357 0 T.length (a1 L T ms)) 358 0 T.length (a2 L T ms)) 359 0 T.length (a3 L T ms)) 360 0 T.length (nI ms.length)) 361 0 T.length (nI (opn ms))) 362 0 (nI (T.length + 1))
theorem pushTM_fr {S : St} {L : List (List Nat)} {T : List (List Mk)} {ms : List Mk} : FR [356] S (pushTM S L T ms) := by
  have k : ∀ f, 356 ≤ f ∧ f ≤ 362 → rg f 0 ∈ [356] := fun f hf => by rw [rgTM hf]; simp
  exact FR_sS (FR_sI (FR_sI (FR_sI (FR_sI (FR_sI (FR_sI FR_rf (k 356 (by omega))) (k 357 (by omega))) (k 358 (by omega))) (k 359 (by omega))) (k 360 (by omega))) (k 361 (by omega))) (k 362 (by omega))
theorem TM_push {S : St} {L : List (List Nat)} {T : List (List Mk)} {N : Nat} {ms : List Mk} (h : TM S L T) (hT : TOk L T N) (hp : pT L T ms) : TM (pushTM S L T ms) L (T ++ [ms]) := by
  have eL : L ++ [] = L := List.append_nil L
  refine ⟨by unfold pushTM; rw [sS_eq, List.length_append]; rfl, fun i x hx => ?_⟩
  rcases Nat.lt_trichotomy i T.length with q | q | q
  · rw [List.getElem?_append_left q] at hx
    have hq := hT.2.2.2.2 x (gt_mem hx)
    have b1 := a1_app (eL := []) (l := ms) hq
    have b2 := a2_app (eL := []) (l := ms) hq
    have b3 := a3_app (eL := []) (l := ms) hq
    rw [eL] at b1 b2 b3
    rw [b1, b2, b3]
    obtain ⟨c1, c2, c3, c4, c5, c6⟩ := h.2 i x hx
    unfold pushTM
    refine ⟨?_, ?_, ?_, ?_, ?_, ?_⟩ <;> simp (disch := omega) only [sI_1, sI_22, sL_1, sL_21, sS_21, sS_22, sI_ne, sL_ne, sS_ne, sS_eq, sI_eq, sI_at, sL_eq, sL_at] <;> assumption
  · subst q
    rw [List.getElem?_append_right (Nat.le_refl _), Nat.sub_self] at hx
    have : ms = x := by simpa using hx
    subst this
    have b1 := a1_app (eL := []) (l := ms) hp
    have b2 := a2_app (eL := []) (l := ms) hp
    have b3 := a3_app (eL := []) (l := ms) hp
    rw [eL] at b1 b2 b3
    rw [b1, b2, b3]
    unfold pushTM
    refine ⟨?_, ?_, ?_, ?_, ?_, ?_⟩ <;> simp (disch := omega) only [sI_1, sI_22, sL_1, sL_21, sS_21, sS_22, sI_ne, sL_ne, sS_ne, sS_eq, sI_eq, sI_at, sL_eq, sL_at]
  · rw [List.getElem?_eq_none (by rw [List.length_append, List.length_singleton]; omega)] at hx
    cases hx
theorem nI_sub1 {b : Nat} : nI b - nI 1 ≤ nI 0 ∨ True := Or.inr trivial
theorem mx1' {a b c : Nat} (ha : a < 2 ^ 31) (hb : b < 2 ^ 31) : (if nI b - nI 1 ≤ nI a then nI a else nI b - nI 1) = nI (max a (b - 1)) := by
  rw [← mx1 ha hb]
  by_cases h : nI a < nI b - nI 1
  · rw [if_pos h, if_neg (Int32.not_le.mpr h)]
  · rw [if_neg h, if_pos (Int32.not_lt.mp h)]
theorem mx0' {a b : Nat} (ha : a < 2 ^ 31) (hb : b < 2 ^ 31) : (if nI b ≤ nI a then nI a else nI b) = nI (max a b) := by
  rw [← mx0 ha hb]
  by_cases h : nI a < nI b
  · rw [if_pos h, if_neg (Int32.not_le.mpr h)]
  · rw [if_neg h, if_pos (Int32.not_lt.mp h)]
theorem ite_some {c : Prop} [Decidable c] {S : St} {a b : Int32} : (if c then some (S, a) else some (S, b)) = some (S, if c then a else b) := by split <;> rfl
theorem s_openOf8 {n N : Nat} {S : St} {L : List (List Nat)} {T : List (List Mk)} {ms : List Mk} (h : TM S L T) (hT : TOk L T N) (hg : gdT 1000000 N ms) (hp : pT L T ms) : f_X8_openOf n S (nI (hk ms)) (a1 L T ms) (a2 L T ms) (a3 L T ms) = some (S, nI (opn ms)) := by
  have h6 := hk_le hg
  have hT1 := hT.1
  obtain ⟨t1, t2, t3, t4, t5⟩ := topn hg
  have ob : ∀ {x}, x ∈ T → opn x < 2 ^ 31 := fun hx => by have := opn_le (TOk_g hT hx).2.2; omega
  have rd : ∀ {x : List Mk} {k : Int32 → Option (St × Int32)}, x ∈ T → gI S 361 0 (nI (ixT T x)) 1500 k = k (nI (opn x)) := fun {x k} hx => by
    rw [gI_n (by have := ixT_lt hx; omega) (by omega), (h.2 _ _ (ixT_get hx)).2.2.2.2.2]
  unfold f_X8_openOf
  by_cases z : hk ms ≤ 2
  · rcases (show hk ms = 0 ∨ hk ms = 1 ∨ hk ms = 2 by omega) with q | q | q
    · rw [q, t2 (Or.inl q)]; rfl
    · have e1 : a1 L T ms = nI (hid ms) := by unfold a1; rw [if_neg (by omega), if_pos z]
      rw [q, t1 q, if_neg (by decide), if_pos (by decide), e1, nI_1]
    · rw [q, t2 (Or.inr q)]; rfl
  · have z3 : 3 ≤ hk ms := by omega
    have pp := hp.2.2.1 z3
    have e1 : a1 L T ms = nI (ixT T (p1 ms)) := by unfold a1; rw [if_neg (by omega), if_neg (by omega)]
    have e2 : a2 L T ms = nI (ixT T (p2 ms)) := by unfold a2; rw [if_neg (by omega), if_neg (by omega)]
    have fin0 : ∀ s : Int32, ∀ A B : Nat, A < 2 ^ 31 → s = nI B ∨ (B = 0 ∧ s = nI 0 - nI 1) → True := fun _ _ _ _ _ => trivial
    rcases (show hk ms = 3 ∨ hk ms = 4 ∨ hk ms = 5 ∨ hk ms = 6 by omega) with q | q | q | q
    · unfold j_X8_openOf_36 j_X8_openOf_53 j_X8_openOf_74 j_X8_openOf_90
      rw [q, t3 (Or.inl q), if_pos (by decide), e1, rd pp.1, if_pos (by decide), e2, rd pp.2, if_neg (by decide), ite_some, ite_some, i0, i1]
      have k1 : (0 : Nat) < 2 ^ 31 := by omega
      by_cases hc : nI (opn (p2 ms)) - nI 1 ≤ nI (opn (p1 ms))
      · have m1 := mx1' (c := 0) (ob pp.1) (ob pp.2)
        rw [if_pos hc] at m1
        rw [if_pos hc, if_pos (show nI 0 ≤ _ from nI_pos' (ob pp.1)), ← m1]
      · have m1 := mx1' (c := 0) (ob pp.1) (ob pp.2)
        rw [if_neg hc] at m1
        rw [if_neg hc, m1, if_pos (show nI 0 ≤ _ from nI_pos' (by have := ob pp.1; have := ob pp.2; omega))]
    · unfold j_X8_openOf_36 j_X8_openOf_53 j_X8_openOf_74 j_X8_openOf_90
      rw [q, t3 (Or.inr q), if_pos (by decide), e1, rd pp.1, if_neg (by decide), if_pos (by decide), e2, rd pp.2, if_neg (by decide), ite_some, ite_some, i0, i1]
      by_cases hc : nI (opn (p2 ms)) - nI 1 ≤ nI (opn (p1 ms))
      · have m1 := mx1' (c := 0) (ob pp.1) (ob pp.2)
        rw [if_pos hc] at m1
        rw [if_pos hc, if_pos (show nI 0 ≤ _ from nI_pos' (ob pp.1)), ← m1]
      · have m1 := mx1' (c := 0) (ob pp.1) (ob pp.2)
        rw [if_neg hc] at m1
        rw [if_neg hc, m1, if_pos (show nI 0 ≤ _ from nI_pos' (by have := ob pp.1; have := ob pp.2; omega))]
    · unfold j_X8_openOf_53 j_X8_openOf_74 j_X8_openOf_90
      rw [q, t4 q, if_pos (by decide), e1, rd pp.1, if_neg (by decide), if_neg (by decide), e2, rd pp.2, if_neg (by decide), ite_some, ite_some, i0]
      by_cases hc : nI (opn (p2 ms)) ≤ nI (opn (p1 ms))
      · have m1 := mx0' (ob pp.1) (ob pp.2)
        rw [if_pos hc] at m1
        rw [if_pos hc, if_pos (show nI 0 ≤ _ from nI_pos' (ob pp.1)), ← m1]
      · have m1 := mx0' (ob pp.1) (ob pp.2)
        rw [if_neg hc] at m1
        rw [if_neg hc, m1, if_pos (show nI 0 ≤ _ from nI_pos' (by have := ob pp.1; have := ob pp.2; omega))]
    · have p33 := hp.2.2.2 q
      have e3 : a3 L T ms = nI (ixT T (p3 ms)) := by unfold a3; rw [if_neg (by omega), if_pos q]
      unfold j_X8_openOf_53 j_X8_openOf_74 j_X8_openOf_90
      rw [q, t5 q, if_pos (by decide), e1, rd pp.1, if_neg (by decide), if_neg (by decide), e2, rd pp.2, if_pos (by decide), e3, rd p33, ite_some, ite_some, i1]
      have m2 := mx1' (c := 0) (a := max (opn (p1 ms)) (opn (p2 ms))) (by have := ob pp.1; have := ob pp.2; omega) (ob p33)
      by_cases hc : nI (opn (p2 ms)) ≤ nI (opn (p1 ms))
      · have m1 := mx0' (ob pp.1) (ob pp.2)
        rw [if_pos hc] at m1
        rw [if_pos hc, m1, m2]
      · have m1 := mx0' (ob pp.1) (ob pp.2)
        rw [if_neg hc] at m1
        rw [if_neg hc, m1, m2]
theorem s_not_l {n N : Nat} {S : St} {L : List (List Nat)} {T : List (List Mk)} {ms : List Mk} (h : TM S L T) (hL : L.length ≤ 300) (hT : TOk L T N) (hg : gdT 1000000 N ms) (hp : pT L T ms) : ∀ (d m i : Nat), i + d = T.length → d < m → (∀ x ∈ T.take i, x ≠ ms) → l_X8_numberOfTerm_63 n m S (nI (hk ms)) (a1 L T ms) (a2 L T ms) (a3 L T ms) (nI ms.length) (nI i) = some (if ms ∈ T then (S, nI (ixT T ms)) else if T.length < 1500 then (pushTM S L T ms, nI T.length) else (S, mI)) := by
  have h15 := hT.1
  intro d
  induction d with
  | zero =>
    intro m i hi hm hno
    obtain ⟨m, rfl⟩ : ∃ x, m = x + 1 := ⟨m - 1, by omega⟩
    have hi2 : i = T.length := by omega
    have hnin : ms ∉ T := fun z => by rw [hi2, List.take_length] at hno; exact hno ms z rfl
    unfold l_X8_numberOfTerm_63
    rw [if_neg hnin]
    by_cases hc : T.length < 1500
    · have w5 := TM_w (f := 360) (v := nI ms.length) (TM_w (f := 359) (v := a3 L T ms) (TM_w (f := 358) (v := a2 L T ms) (TM_w (f := 357) (v := a1 L T ms) (TM_w (f := 356) (v := nI (hk ms)) h))))
      have op := s_openOf8 (n := n) w5 hT hg hp
      simp (disch := omega) only [i0, i1, i2, i3, i4, i5, i6, i8, i16, i30, i60, i100, i200, i201, i300, i1500, i8000, iM, nIa, nIp, nIs, nIle, nIlt, nIeq, nImlt, nImle, nImeq, nImeq2, nI0le, bV_e, bI_s, bL_s, bU_s, pS_e, gI_n, gL_n, pI_n, pL_n, sI_1, sI_22, sL_1, sL_21, sS_21, sS_22, sI_ne, sL_ne, sS_ne, sS_eq, sI_eq, sI_at, sL_eq, sL_at, if_true, if_false, eq_self, Nat.add_zero, if_pos, if_neg, h.1, op]
      rfl
    · have : T.length = 1500 := by omega
      simp (disch := omega) only [i0, i1, i2, i3, i4, i5, i6, i8, i16, i30, i60, i100, i200, i201, i300, i1500, i8000, iM, nIa, nIp, nIs, nIle, nIlt, nIeq, nImlt, nImle, nImeq, nImeq2, nI0le, bV_e, bI_s, bL_s, bU_s, pS_e, gI_n, gL_n, pI_n, pL_n, sI_1, sI_22, sL_1, sL_21, sS_21, sS_22, sI_ne, sL_ne, sS_ne, sS_eq, sI_eq, sI_at, sL_eq, sL_at, if_true, if_false, eq_self, Nat.add_zero, if_pos, if_neg, h.1]
  | succ d ih =>
    intro m i hi hm hno
    obtain ⟨m, rfl⟩ : ∃ x, m = x + 1 := ⟨m - 1, by omega⟩
    have hlt : i < T.length := by omega
    have e : T[i]? = some T[i] := List.getElem?_eq_getElem hlt
    obtain ⟨c1, c2, c3, c4, -, -⟩ := h.2 i _ e
    have hgx := hT.2.2.2.1 T[i] (List.getElem_mem hlt)
    have hpx := hT.2.2.2.2 T[i] (List.getElem_mem hlt)
    have k1 := hk_le hg
    have k2 := hk_le hgx
    have next : T[i] ≠ ms → l_X8_numberOfTerm_63 n m S (nI (hk ms)) (a1 L T ms) (a2 L T ms) (a3 L T ms) (nI ms.length) (nI (i + 1)) = some (if ms ∈ T then (S, nI (ixT T ms)) else if T.length < 1500 then (pushTM S L T ms, nI T.length) else (S, mI)) := by
      intro hne
      refine ih m (i + 1) (by omega) (by omega) (fun x hx => ?_)
      rw [List.take_succ, e] at hx
      rcases List.mem_append.mp hx with q | q
      · exact hno x q
      · have : x = T[i] := by simpa using q
        rw [this]; exact hne
    unfold l_X8_numberOfTerm_63 j_X8_numberOfTerm_120
    rw [h.1, if_neg (nI_ge hlt (by omega)), gI_n (by omega) (by omega), c1]
    by_cases g4 : hk T[i] = hk ms
    · rw [if_pos (by rw [g4]), gI_n (by omega) (by omega), c2]
      by_cases g1 : a1 L T T[i] = a1 L T ms
      · rw [if_pos g1, gI_n (by omega) (by omega), c3]
        by_cases g2 : a2 L T T[i] = a2 L T ms
        · rw [if_pos g2, gI_n (by omega) (by omega), c4]
          by_cases g3 : a3 L T T[i] = a3 L T ms
          · rw [if_pos g3]
            have e2 := tm_inj hL h15 hT.2.2.1 (gdT_mo hgx (by have := zB_le hT; omega)) hg hpx hp g4 g1 g2 g3
            have hin : ms ∈ T := by rw [← e2]; exact List.getElem_mem hlt
            rw [if_pos hin]
            congr 3
            have h7 := ixT_get hin
            have h8 : T[i]? = some ms := by rw [e, e2]
            exact (List.getElem?_inj hlt hT.2.1).mp (h8.trans h7.symm)
          · rw [if_neg g3, bV_e, nI_1]; exact next (fun z => g3 (by rw [z]))
        · rw [if_neg g2, bV_e, nI_1]; exact next (fun z => g2 (by rw [z]))
      · rw [if_neg g1, bV_e, nI_1]; exact next (fun z => g1 (by rw [z]))
    · rw [if_neg (fun z => g4 ((nI_eq (by omega) (by omega)).mp z)), bV_e, nI_1]
      exact next (fun z => g4 (by rw [z]))
/-- numberOfTerm: refused where the size of 60 counts, else as the class keeps it -/
theorem s_not {n N : Nat} {S : St} {L : List (List Nat)} {T : List (List Mk)} {ms : List Mk} (h : TM S L T) (hL : L.length ≤ 300) (hT : TOk L T N) (hg : gdT 1000000 N ms) (hp : pT L T ms) (hn : 1501 ≤ n) {asked : Bool} (ha : S.1 379 0 = if asked then 1 else 0) : ∃ S', f_X8_numberOfTerm n S (nI (hk ms)) (a1 L T ms) (a2 L T ms) (a3 L T ms) = some (S', if asked && decide (60 < ms.length) then mI else if (tk T ms).2 then nI (ixT (tk T ms).1 ms) else mI) ∧ (asked && decide (60 < ms.length) → S' = S) ∧ ((asked && decide (60 < ms.length)) = false → TM S' L (tk T ms).1) ∧ FR [356] S S' := by
  have h15 := hT.1
  have h6 := hk_le hg
  have h200 := hg.2.1
  have rd : ∀ {x : List Mk} {k : Int32 → Option (St × Int32)}, x ∈ T → gI S 360 0 (nI (ixT T x)) 1500 k = k (nI x.length) := fun {x k} hx => by
    rw [gI_n (by have := ixT_lt hx; omega) (by omega), (h.2 _ _ (ixT_get hx)).2.2.2.2.1]
  obtain ⟨t1, t2, t3⟩ := tlen hg
  have go : j_X8_numberOfTerm_60 n S (nI (hk ms)) (a1 L T ms) (a2 L T ms) (a3 L T ms) (nI ms.length) = some (if ms ∈ T then (S, nI (ixT T ms)) else if T.length < 1500 then (pushTM S L T ms, nI T.length) else (S, mI)) := by
    unfold j_X8_numberOfTerm_60
    exact s_not_l h hL hT hg hp T.length n 0 (by omega) (by omega) (fun x hx => by simp at hx)
  have fin : ∀ s1 s0 : Int32, s1 + s0 = nI ms.length → ∃ S', j_X8_numberOfTerm_41 n S (nI (hk ms)) (a1 L T ms) (a2 L T ms) (a3 L T ms) s0 s1 = some (S', if asked && decide (60 < ms.length) then mI else if (tk T ms).2 then nI (ixT (tk T ms).1 ms) else mI) ∧ (asked && decide (60 < ms.length) → S' = S) ∧ ((asked && decide (60 < ms.length)) = false → TM S' L (tk T ms).1) ∧ FR [356] S S' := by
    intro s1 s0 hs
    unfold j_X8_numberOfTerm_41
    rw [bV_e, hs, ha]
    have body : (asked && decide (60 < ms.length)) = false → ∃ S', j_X8_numberOfTerm_60 n S (nI (hk ms)) (a1 L T ms) (a2 L T ms) (a3 L T ms) (nI ms.length) = some (S', if asked && decide (60 < ms.length) then mI else if (tk T ms).2 then nI (ixT (tk T ms).1 ms) else mI) ∧ (asked && decide (60 < ms.length) → S' = S) ∧ ((asked && decide (60 < ms.length)) = false → TM S' L (tk T ms).1) ∧ FR [356] S S' := by
      intro hf
      rw [go, hf, if_neg (show ¬ (false = true) by decide)]
      unfold tk
      by_cases hin : ms ∈ T
      · refine ⟨S, ?_, (fun z => nomatch z), fun _ => ?_, FR_rf⟩
        · rw [if_pos hin, if_pos hin]; rfl
        · rw [if_pos hin]; exact h
      · by_cases hc : T.length < 1500
        · refine ⟨pushTM S L T ms, ?_, (fun z => nomatch z), fun _ => ?_, pushTM_fr⟩
          · rw [if_neg hin, if_neg hin, if_pos hc, if_pos hc, if_pos (show true = true from rfl), ixT_new hin]
          · rw [if_neg hin, if_pos hc]; exact TM_push h hT hp
        · refine ⟨S, ?_, (fun z => nomatch z), fun _ => ?_, FR_rf⟩
          · rw [if_neg hin, if_neg hin, if_neg hc, if_neg hc]; rfl
          · rw [if_neg hin, if_neg hc]; exact h
    cases asked with
    | false => rw [if_pos (by decide)]; exact body (by rw [Bool.false_and])
    | true =>
      rw [if_neg (show ¬ ((if true = true then (1 : Int32) else 0) = 0) by decide)]
      by_cases h8 : ms.length ≤ 60
      · rw [if_pos (show nI ms.length ≤ (60 : Int32) from nI_le (b := 60) h8 (by omega))]
        exact body (by rw [Bool.true_and]; exact decide_eq_false (by omega))
      · rw [if_neg (show ¬ nI ms.length ≤ (60 : Int32) from nI_ge (a := 60) (by omega) (by omega))]
        have hd : (true && decide (60 < ms.length)) = true := by rw [Bool.true_and]; exact decide_eq_true (by omega)
        refine ⟨S, ?_, fun _ => rfl, fun z => ?_, FR_rf⟩
        · rw [hd]; rfl
        · rw [hd] at z; cases z
  unfold f_X8_numberOfTerm
  by_cases z : hk ms ≤ 2
  · rw [if_pos (show nI (hk ms) ≤ (2 : Int32) from nI_le (b := 2) z (by omega))]
    unfold j_X8_numberOfTerm_23
    rw [if_neg (show ¬ nI (hk ms) = (6 : Int32) from fun q => by have := (nq6 (by omega)).mp q; omega)]
    exact fin _ _ (by rw [t1 z]; rfl)
  · have z3 : 3 ≤ hk ms := by omega
    have pp := hp.2.2.1 z3
    have e1 : a1 L T ms = nI (ixT T (p1 ms)) := by unfold a1; rw [if_neg (by omega), if_neg (by omega)]
    have e2 : a2 L T ms = nI (ixT T (p2 ms)) := by unfold a2; rw [if_neg (by omega), if_neg (by omega)]
    rw [if_neg (show ¬ nI (hk ms) ≤ (2 : Int32) from nI_ge (a := 2) (by omega) (by omega))]
    have st : ∀ K : Int32 → Option (St × Int32), gI S 360 0 (a1 L T ms) 1500 K = K (nI (p1 ms).length) := fun K => by rw [e1]; exact rd pp.1
    have st2 : ∀ K : Int32 → Option (St × Int32), gI S 360 0 (a2 L T ms) 1500 K = K (nI (p2 ms).length) := fun K => by rw [e2]; exact rd pp.2
    rw [st, st2]
    unfold j_X8_numberOfTerm_23
    by_cases y : hk ms = 6
    · have e3 : a3 L T ms = nI (ixT T (p3 ms)) := by unfold a3; rw [if_neg (by omega), if_pos y]
      have st3 : ∀ K : Int32 → Option (St × Int32), gI S 360 0 (a3 L T ms) 1500 K = K (nI (p3 ms).length) := fun K => by rw [e3]; exact rd (hp.2.2.2 y)
      rw [if_pos ((nq6 (by omega)).mpr y), st3]
      exact fin _ _ (by rw [t3 y, i1, nIa, nIa, nIa]; congr 1; omega)
    · rw [if_neg (fun q => y ((nq6 (by omega)).mp q))]
      exact fin _ _ (by rw [t2 z3 y, i1, nIa, nIa, Int32.add_zero, Nat.add_assoc])
