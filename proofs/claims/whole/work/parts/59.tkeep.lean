/-! a term gets its number -/
theorem frL_FR {S S' : St} (h : frL S S') : FR [0] S S' := by
  intro f j z
  have hf : ¬ f < 4 := fun q => z (by rw [rgL q]; simp)
  exact ⟨h.1 f j (by omega), h.2.1 f j (by omega), h.2.2 f j (by omega)⟩
theorem frM_FR {S S' : St} (h : frM S S') : FR [351] S S' := by
  intro f j z
  have hf : ¬ (351 ≤ f ∧ f ≤ 355) := fun q => z (by rw [rgLM q]; simp)
  exact ⟨h.1 f j (by omega), h.2.1 f j (by omega), h.2.2 f j⟩
theorem a1_app {L eL : List (List Nat)} {T : List (List Mk)} {x l : List Mk} (h : pT L T x) : a1 (L ++ eL) (T ++ [l]) x = a1 L T x := by
  unfold a1
  by_cases z : hk x = 0
  · rw [if_pos z, if_pos z, ix_appE (h.1 z)]
  · rw [if_neg z, if_neg z]
    by_cases y : hk x ≤ 2
    · rw [if_pos y, if_pos y]
    · rw [if_neg y, if_neg y, ixT_app (h.2.2.1 (by omega)).1]
theorem a2_app {L eL : List (List Nat)} {T : List (List Mk)} {x l : List Mk} (h : pT L T x) : a2 (L ++ eL) (T ++ [l]) x = a2 L T x := by
  unfold a2
  by_cases z : hk x ≤ 1
  · rw [if_pos z, if_pos z]
  · rw [if_neg z, if_neg z]
    by_cases y : hk x = 2
    · rw [if_pos y, if_pos y, ix_appE (h.2.1 y).1]
    · rw [if_neg y, if_neg y, ixT_app (h.2.2.1 (by omega)).2]
theorem a3_app {L eL : List (List Nat)} {T : List (List Mk)} {x l : List Mk} (h : pT L T x) : a3 (L ++ eL) (T ++ [l]) x = a3 L T x := by
  unfold a3
  by_cases z : hk x = 2
  · rw [if_pos z, if_pos z, ix_appE (h.2.1 z).2]
  · rw [if_neg z, if_neg z]
    by_cases y : hk x = 6
    · rw [if_pos y, if_pos y, ixT_app (h.2.2.2 y)]
    · rw [if_neg y, if_neg y]
theorem a1_L {L eL : List (List Nat)} {T : List (List Mk)} {x : List Mk} (h : pT L T x) : a1 (L ++ eL) T x = a1 L T x := by
  unfold a1
  by_cases z : hk x = 0
  · rw [if_pos z, if_pos z, ix_appE (h.1 z)]
  · rw [if_neg z, if_neg z]
theorem a2_L {L eL : List (List Nat)} {T : List (List Mk)} {x : List Mk} (h : pT L T x) : a2 (L ++ eL) T x = a2 L T x := by
  unfold a2
  by_cases z : hk x ≤ 1
  · rw [if_pos z, if_pos z]
  · rw [if_neg z, if_neg z]
    by_cases y : hk x = 2
    · rw [if_pos y, if_pos y, ix_appE (h.2.1 y).1]
    · rw [if_neg y, if_neg y]
theorem a3_L {L eL : List (List Nat)} {T : List (List Mk)} {x : List Mk} (h : pT L T x) : a3 (L ++ eL) T x = a3 L T x := by
  unfold a3
  by_cases z : hk x = 2
  · rw [if_pos z, if_pos z, ix_appE (h.2.1 z).2]
  · rw [if_neg z, if_neg z]
theorem pT_L {L eL : List (List Nat)} {T : List (List Mk)} {x : List Mk} (h : pT L T x) : pT (L ++ eL) T x := ⟨fun z => List.mem_append_left _ (h.1 z), fun z => ⟨List.mem_append_left _ (h.2.1 z).1, List.mem_append_left _ (h.2.1 z).2⟩, h.2.2.1, h.2.2.2⟩
theorem pT_T {L : List (List Nat)} {T eT : List (List Mk)} {x : List Mk} (h : pT L T x) : pT L (T ++ eT) x := ⟨h.1, h.2.1, fun z => ⟨List.mem_append_left _ (h.2.2.1 z).1, List.mem_append_left _ (h.2.2.1 z).2⟩, fun z => List.mem_append_left _ (h.2.2.2 z)⟩
theorem TOk_L {L eL : List (List Nat)} {T : List (List Mk)} {N : Nat} (h : TOk L T N) : TOk (L ++ eL) T N := ⟨h.1, h.2.1, h.2.2.1, h.2.2.2.1, fun x hx => pT_L (h.2.2.2.2 x hx)⟩
theorem TC_L {S : St} {L eL : List (List Nat)} {T : List (List Mk)} {N : Nat} (h : TC S L T) (hT : TOk L T N) : TC S (L ++ eL) T := by
  refine ⟨h.1, fun i ms hm => ?_⟩
  have := hT.2.2.2.2 ms (gt_mem hm)
  rw [a1_L this, a2_L this, a3_L this]
  exact h.2 i ms hm
theorem TM_L {S : St} {L eL : List (List Nat)} {T : List (List Mk)} {N : Nat} (h : TM S L T) (hT : TOk L T N) : TM S (L ++ eL) T := by
  refine ⟨h.1, fun i ms hm => ?_⟩
  have := hT.2.2.2.2 ms (gt_mem hm)
  rw [a1_L this, a2_L this, a3_L this]
  exact h.2 i ms hm
theorem TOk_add {L : List (List Nat)} {T : List (List Mk)} {N : Nat} {ms : List Mk} (h : TOk L T N) (hg : gdT (zB T + 200) N ms) (hp : pT L T ms) (hn : ms ∉ T) (hc : T.length < 1500) : TOk L (T ++ [ms]) N := by
  obtain ⟨h1, h2, h3, h4, h5⟩ := h
  refine ⟨by rw [List.length_append, List.length_singleton]; omega, ?_, h3, ?_, ?_⟩
  · rw [List.nodup_append]
    refine ⟨h2, by simp, ?_⟩
    intro a ha b hb
    rw [List.mem_singleton.mp hb]
    intro e; exact hn (e ▸ ha)
  · intro x hx
    rcases List.mem_append.mp hx with q | q
    · exact gdT_mo (h4 x q) (by unfold zB; rw [List.length_append, List.length_singleton]; omega)
    · rw [List.mem_singleton.mp q]; exact gdT_mo hg (by unfold zB; rw [List.length_append, List.length_singleton]; omega)
  · intro x hx
    rcases List.mem_append.mp hx with q | q
    · exact pT_T (h5 x q)
    · rw [List.mem_singleton.mp q]; exact pT_T hp
theorem tlen {B N : Nat} {ms : List Mk} (h : gdT B N ms) : (hk ms ≤ 2 → ms.length = 1) ∧ (3 ≤ hk ms → hk ms ≠ 6 → ms.length = 1 + (p1 ms).length + (p2 ms).length) ∧ (hk ms = 6 → ms.length = 1 + (p1 ms).length + (p2 ms).length + (p3 ms).length) := by
  have h6 := hk_le h
  cases ms with
  | nil => exact absurd (Tm_ne h.1) (by simp)
  | cons m r =>
    obtain ⟨d0, e0, e1, e2, e3⟩ := tm_parts h.1
    refine ⟨fun z => ?_, fun z y => ?_, fun z => ?_⟩
    · rw [e0 (ar_0 z)]; rfl
    · have := congrArg List.length (e2 ((ar_2 z h6).2.2.mp y))
      rw [List.length_append, List.length_map] at this
      rw [List.length_cons]; omega
    · have := congrArg List.length (e3 (by rw [show m.1 = 6 from z]; rfl)).1
      rw [List.length_append, List.length_append, List.length_map] at this
      rw [List.length_cons]; omega
theorem topn {B N : Nat} {ms : List Mk} (h : gdT B N ms) : (hk ms = 1 → opn ms = hid ms + 1) ∧ (hk ms = 0 ∨ hk ms = 2 → opn ms = 0) ∧ (hk ms = 3 ∨ hk ms = 4 → opn ms = max (opn (p1 ms)) (opn (p2 ms) - 1)) ∧ (hk ms = 5 → opn ms = max (opn (p1 ms)) (opn (p2 ms))) ∧ (hk ms = 6 → opn ms = max (max (opn (p1 ms)) (opn (p2 ms))) (opn (p3 ms) - 1)) := by
  cases ms with
  | nil => exact absurd (Tm_ne h.1) (by simp)
  | cons m r =>
    obtain ⟨d0, e0, e1, e2, e3⟩ := tm_parts h.1
    have om : m.1 ≠ 1 → opm m = 0 := fun z => by unfold opm; rw [if_neg z]
    refine ⟨fun z => ?_, fun z => ?_, fun z => ?_, fun z => ?_, fun z => ?_⟩
    · have z1 : m.1 = 1 := z
      rw [e0 (by rw [z1]; rfl)]
      show max (opm m) 0 = m.2.1 + 1
      unfold opm
      rw [if_pos z1]; omega
    · have z1 : m.1 = 0 ∨ m.1 = 2 := z
      rw [e0 (ar_0 (by omega))]
      show max (opm m) 0 = 0
      rw [om (by omega)]; rfl
    · have z1 : m.1 = 3 ∨ m.1 = 4 := z
      have := e2 (by rcases z1 with q | q <;> rw [q] <;> rfl)
      rw [show dl m.1 = 1 by unfold dl; rw [if_pos z1]] at this
      show max (opm m) (opn r) = _
      have e := congrArg opn this
      rw [opn_app, opn_sh1] at e
      rw [om (by omega), e]; omega
    · have z1 : m.1 = 5 := z
      have := e2 (by rw [z1]; rfl)
      rw [show dl m.1 = 0 by rw [z1]; rfl, sh_0] at this
      show max (opm m) (opn r) = _
      have e := congrArg opn this
      rw [opn_app] at e
      rw [om (by omega), e]; omega
    · have z1 : m.1 = 6 := z
      have := (e3 (by rw [z1]; rfl)).1
      show max (opm m) (opn r) = _
      have e := congrArg opn this
      rw [opn_app, opn_app, opn_sh1] at e
      rw [om (by omega), e]; omega
theorem mx0 {a b : Nat} (ha : a < 2 ^ 31) (hb : b < 2 ^ 31) : (if nI a < nI b then nI b else nI a) = nI (max a b) := by
  by_cases h : a < b
  · rw [if_pos (nI_lt h hb), Nat.max_eq_right (by omega)]
  · rw [if_neg (nI_nlt (by omega) ha), Nat.max_eq_left (by omega)]
theorem mx1 {a b : Nat} (ha : a < 2 ^ 31) (hb : b < 2 ^ 31) : (if nI a < nI b - nI 1 then nI b - nI 1 else nI a) = nI (max a (b - 1)) := by
  cases b with
  | zero =>
    have : nI 0 - nI 1 = mI := by decide
    rw [this, if_neg (fun z => by
      have h1 : (nI a).toInt < mI.toInt := Int32.lt_iff_toInt_lt.mp z
      rw [nI_toInt ha, show mI.toInt = -1 by decide] at h1
      omega)]
    rw [Nat.max_eq_left (by omega)]
  | succ b =>
    rw [nIs (by omega)]
    exact mx0 ha (by omega)
theorem TC_w {S : St} {L : List (List Nat)} {T : List (List Mk)} {f : Nat} {v : Int32} (h : TC S L T) : TC (sI S f 0 T.length v) L T := by
  refine ⟨h.1, fun i ms hm => ?_⟩
  have hi := gt_lt hm
  have k : ∀ g, (sI S f 0 T.length v).2.1 g 0 i = S.2.1 g 0 i := fun g => by
    by_cases q : g = f
    · subst q; exact sI_at (by omega)
    · rw [sI_ne (Or.inl q)]
  rw [k, k, k, k, k, k]
  exact h.2 i ms hm
theorem TM_w {S : St} {L : List (List Nat)} {T : List (List Mk)} {f : Nat} {v : Int32} (h : TM S L T) : TM (sI S f 0 T.length v) L T := by
  refine ⟨h.1, fun i ms hm => ?_⟩
  have hi := gt_lt hm
  have k : ∀ g, (sI S f 0 T.length v).2.1 g 0 i = S.2.1 g 0 i := fun g => by
    by_cases q : g = f
    · subst q; exact sI_at (by omega)
    · rw [sI_ne (Or.inl q)]
  rw [k, k, k, k, k, k]
  exact h.2 i ms hm
section TK
variable {n N : Nat} {S : St} {L : List (List Nat)} {T : List (List Mk)} {ms x : List Mk}
theorem s_has5 (h : TC S L T) (hT : T.length ≤ 1500) {i : Nat} (hi : i < T.length) : f_X5_has n S (nI i) = some (S, nI 1) := by
  unfold f_X5_has g_X5_has
  simp (disch := omega) only [i0, i1, i2, i3, i4, i5, i6, i8, i16, i30, i60, i100, i200, i201, i300, i1500, i8000, iM, nIa, nIp, nIs, nIle, nIlt, nIeq, nImlt, nImle, nImeq, nImeq2, nI0le, bV_e, bI_s, bL_s, bU_s, pS_e, gI_n, gL_n, pI_n, pL_n, sI_1, sI_22, sL_1, sL_21, sS_21, sS_22, sI_ne, sL_ne, sS_ne, sS_eq, sI_eq, sI_at, sL_eq, sL_at, if_true, if_false, eq_self, Nat.add_zero, if_pos, if_neg, h.1]
  exact zW_01 (Or.inr rfl)
theorem s_sizeOf5 (h : TC S L T) (hT : T.length ≤ 1500) (hx : x ∈ T) : f_X5_sizeOf n S (nI (ixT T x)) = some (S, nI x.length) := by
  have hi := ixT_lt hx
  have c := (h.2 _ _ (ixT_get hx)).2.2.2.2.1
  unfold f_X5_sizeOf
  rw [s_has5 h hT hi, bI_s]
  simp (disch := omega) only [i0, i1, i2, i3, i4, i5, i6, i8, i16, i30, i60, i100, i200, i201, i300, i1500, i8000, iM, nIa, nIp, nIs, nIle, nIlt, nIeq, nImlt, nImle, nImeq, nImeq2, nI0le, bV_e, bI_s, bL_s, bU_s, pS_e, gI_n, gL_n, pI_n, pL_n, sI_1, sI_22, sL_1, sL_21, sS_21, sS_22, sI_ne, sL_ne, sS_ne, sS_eq, sI_eq, sI_at, sL_eq, sL_at, if_true, if_false, eq_self, Nat.add_zero, if_pos, if_neg, c]
theorem s_openOf5 (h : TC S L T) (hT : T.length ≤ 1500) (hx : x ∈ T) : f_X5_openOf n S (nI (ixT T x)) = some (S, nI (opn x)) := by
  have hi := ixT_lt hx
  have c := (h.2 _ _ (ixT_get hx)).2.2.2.2.2
  unfold f_X5_openOf
  rw [s_has5 h hT hi, bI_s]
  simp (disch := omega) only [i0, i1, i2, i3, i4, i5, i6, i8, i16, i30, i60, i100, i200, i201, i300, i1500, i8000, iM, nIa, nIp, nIs, nIle, nIlt, nIeq, nImlt, nImle, nImeq, nImeq2, nI0le, bV_e, bI_s, bL_s, bU_s, pS_e, gI_n, gL_n, pI_n, pL_n, sI_1, sI_22, sL_1, sL_21, sS_21, sS_22, sI_ne, sL_ne, sS_ne, sS_eq, sI_eq, sI_at, sL_eq, sL_at, if_true, if_false, eq_self, Nat.add_zero, if_pos, if_neg, c]
theorem s_sizeFor (h : TC S L T) (hT : TOk L T N) (hg : gdT 1000000 N ms) (hp : pT L T ms) : f_X5_sizeFor n S (nI (hk ms)) (a1 L T ms) (a2 L T ms) (a3 L T ms) = some (S, nI ms.length) := by
  have h6 := hk_le hg
  have hT1 := hT.1
  obtain ⟨t1, t2, t3⟩ := tlen hg
  unfold f_X5_sizeFor
  rw [s_partsOf4 h6, bI_s]
  by_cases z : hk ms ≤ 2
  · rw [ar_0 z, if_neg (by decide), if_neg (by decide), t1 z]; rfl
  · have z3 : 3 ≤ hk ms := by omega
    have pp := hp.2.2.1 z3
    have e1 : a1 L T ms = nI (ixT T (p1 ms)) := by unfold a1; rw [if_neg (by omega), if_neg (by omega)]
    have e2 : a2 L T ms = nI (ixT T (p2 ms)) := by unfold a2; rw [if_neg (by omega), if_neg (by omega)]
    by_cases y : hk ms = 6
    · have e3 : a3 L T ms = nI (ixT T (p3 ms)) := by unfold a3; rw [if_neg (by omega), if_pos y]
      rw [(ar_2 z3 h6).2.1.mp y, if_neg (by decide), if_pos (by decide), e1, e2, e3, s_sizeOf5 h hT1 pp.1, bI_s, s_sizeOf5 h hT1 pp.2, bI_s, s_sizeOf5 h hT1 (hp.2.2.2 y), bI_s, t3 y, i1, nIa, nIa, nIa]
    · rw [(ar_2 z3 h6).2.2.mp y, if_pos (by decide), e1, e2, s_sizeOf5 h hT1 pp.1, bI_s, s_sizeOf5 h hT1 pp.2, bI_s, t2 z3 y, i1, nIa, nIa]
theorem s_openFor (h : TC S L T) (hT : TOk L T N) (hg : gdT 1000000 N ms) (hp : pT L T ms) : f_X5_openFor n S (nI (hk ms)) (a1 L T ms) (a2 L T ms) (a3 L T ms) = some (S, nI (opn ms)) := by
  have h6 := hk_le hg
  have hT1 := hT.1
  obtain ⟨t1, t2, t3, t4, t5⟩ := topn hg
  have ob : ∀ {x}, x ∈ T → opn x < 2 ^ 31 := fun hx => by have := opn_le (TOk_g hT hx).2.2; omega
  unfold f_X5_openFor
  by_cases z : hk ms ≤ 2
  · rcases (show hk ms = 0 ∨ hk ms = 1 ∨ hk ms = 2 by omega) with q | q | q
    · rw [q, t2 (Or.inl q)]; rfl
    · have e1 : a1 L T ms = nI (hid ms) := by unfold a1; rw [if_neg (by omega), if_pos z]
      rw [q, t1 q, if_pos (by decide), e1, nI_1]
    · rw [q, t2 (Or.inr q)]; rfl
  · have z3 : 3 ≤ hk ms := by omega
    have pp := hp.2.2.1 z3
    have e1 : a1 L T ms = nI (ixT T (p1 ms)) := by unfold a1; rw [if_neg (by omega), if_neg (by omega)]
    have e2 : a2 L T ms = nI (ixT T (p2 ms)) := by unfold a2; rw [if_neg (by omega), if_neg (by omega)]
    rcases (show hk ms = 3 ∨ hk ms = 4 ∨ hk ms = 5 ∨ hk ms = 6 by omega) with q | q | q | q
    · rw [q, t3 (Or.inl q), if_neg (by decide), if_neg (by decide), if_pos (by decide), e1, e2, s_openOf5 h hT1 pp.1, bI_s, s_openOf5 h hT1 pp.2, bI_s, i1, mx1 (ob pp.1) (ob pp.2), bV_e]
    · rw [q, t3 (Or.inr q), if_neg (by decide), if_neg (by decide), if_neg (by decide), if_pos (by decide), e1, e2, s_openOf5 h hT1 pp.1, bI_s, s_openOf5 h hT1 pp.2, bI_s, i1, mx1 (ob pp.1) (ob pp.2), bV_e]
    · rw [q, t4 q, if_neg (by decide), if_neg (by decide), if_neg (by decide), if_neg (by decide), if_pos (by decide), e1, e2, s_openOf5 h hT1 pp.1, bI_s, s_openOf5 h hT1 pp.2, bI_s, mx0 (ob pp.1) (ob pp.2), bV_e]
    · have p33 := hp.2.2.2 q
      have e3 : a3 L T ms = nI (ixT T (p3 ms)) := by unfold a3; rw [if_neg (by omega), if_pos q]
      rw [q, t5 q, if_neg (by decide), if_neg (by decide), if_neg (by decide), if_neg (by decide), if_neg (by decide), if_pos (by decide), e1, e2, e3, s_openOf5 h hT1 pp.1, bI_s, s_openOf5 h hT1 pp.2, bI_s, mx0 (ob pp.1) (ob pp.2), bV_e, s_openOf5 h hT1 p33, bI_s, i1, mx1 (by have := ob pp.1; have := ob pp.2; omega) (ob p33), bV_e]
end TK
def pushT (S : St) (L : List (List Nat)) (T : List (List Mk)) (ms : List Mk) : St := sS (sI (sI (sI (sI (sI (sI S 201 0 T.length (nI (hk ms))) 202 0 T.length (a1 L T ms)) 203 0 T.length (a2 L T ms)) 204 0 T.length (a3 L T ms)) 205 0 T.length (nI ms.length)) 206 0 T.length (nI (opn ms))) 200 0 (nI (T.length + 1))
theorem pushT_fr {S : St} {L : List (List Nat)} {T : List (List Mk)} {ms : List Mk} : FR [200] S (pushT S L T ms) := by
  have k : ∀ f, 200 ≤ f ∧ f ≤ 206 → rg f 0 ∈ [200] := fun f hf => by rw [rgT hf]; simp
  exact FR_sS (FR_sI (FR_sI (FR_sI (FR_sI (FR_sI (FR_sI FR_rf (k 201 (by omega))) (k 202 (by omega))) (k 203 (by omega))) (k 204 (by omega))) (k 205 (by omega))) (k 206 (by omega))) (k 200 (by omega))
theorem TC_push {S : St} {L : List (List Nat)} {T : List (List Mk)} {N : Nat} {ms : List Mk} (h : TC S L T) (hT : TOk L T N) (hp : pT L T ms) : TC (pushT S L T ms) L (T ++ [ms]) := by
  have eL : L ++ [] = L := List.append_nil L
  refine ⟨by unfold pushT; rw [sS_eq, List.length_append]; rfl, fun i x hx => ?_⟩
  rcases Nat.lt_trichotomy i T.length with q | q | q
  · rw [List.getElem?_append_left q] at hx
    have hq := hT.2.2.2.2 x (gt_mem hx)
    have b1 := a1_app (eL := []) (l := ms) hq
    have b2 := a2_app (eL := []) (l := ms) hq
    have b3 := a3_app (eL := []) (l := ms) hq
    rw [eL] at b1 b2 b3
    rw [b1, b2, b3]
    obtain ⟨c1, c2, c3, c4, c5, c6⟩ := h.2 i x hx
    unfold pushT
    refine ⟨?_, ?_, ?_, ?_, ?_, ?_⟩ <;> simp (disch := omega) only [sI_1, sI_22, sL_1, sL_21, sS_21, sS_22, sI_ne, sL_ne, sS_ne, sS_eq, sI_eq, sI_at, sL_eq, sL_at] <;> assumption
  · subst q
    rw [List.getElem?_append_right (Nat.le_refl _), Nat.sub_self] at hx
    have : ms = x := by simpa using hx
    subst this
    have b1 := a1_app (eL := []) (l := ms) hp
    have b2 := a2_app (eL := []) (l := ms) hp
    have b3 := a3_app (eL := []) (l := ms) hp
    rw [eL] at b1 b2 b3
    rw [b1, b2, b3]
    unfold pushT
    refine ⟨?_, ?_, ?_, ?_, ?_, ?_⟩ <;> simp (disch := omega) only [sI_1, sI_22, sL_1, sL_21, sS_21, sS_22, sI_ne, sL_ne, sS_ne, sS_eq, sI_eq, sI_at, sL_eq, sL_at]
  · rw [List.getElem?_eq_none (by rw [List.length_append, List.length_singleton]; omega)] at hx
    cases hx
theorem s_find5_l {n N : Nat} {S : St} {L : List (List Nat)} {T : List (List Mk)} {ms : List Mk} (h : TC S L T) (hL : L.length ≤ 300) (hT : TOk L T N) (hg : gdT 1000000 N ms) (hp : pT L T ms) : ∀ (d m i : Nat), i + d = T.length → d < m → (∀ x ∈ T.take i, x ≠ ms) → l_X5_find_3 n m S (nI (hk ms)) (a1 L T ms) (a2 L T ms) (a3 L T ms) (nI i) = some (S, if ms ∈ T then nI (ixT T ms) else mI) := by
  have h15 := hT.1
  intro d
  induction d with
  | zero =>
    intro m i hi hm hno
    obtain ⟨m, rfl⟩ : ∃ x, m = x + 1 := ⟨m - 1, by omega⟩
    have hi2 : i = T.length := by omega
    have hnin : ms ∉ T := fun z => by rw [hi2, List.take_length] at hno; exact hno ms z rfl
    unfold l_X5_find_3
    rw [if_neg hnin]
    simp (disch := omega) only [i0, i1, i2, i3, i4, i5, i6, i8, i16, i30, i60, i100, i200, i201, i300, i1500, i8000, iM, nIa, nIp, nIs, nIle, nIlt, nIeq, nImlt, nImle, nImeq, nImeq2, nI0le, bV_e, bI_s, bL_s, bU_s, pS_e, gI_n, gL_n, pI_n, pL_n, sI_1, sI_22, sL_1, sL_21, sS_21, sS_22, sI_ne, sL_ne, sS_ne, sS_eq, sI_eq, sI_at, sL_eq, sL_at, if_true, if_false, eq_self, Nat.add_zero, if_pos, if_neg, h.1]
  | succ d ih =>
    intro m i hi hm hno
    obtain ⟨m, rfl⟩ : ∃ x, m = x + 1 := ⟨m - 1, by omega⟩
    have hlt : i < T.length := by omega
    have e : T[i]? = some T[i] := List.getElem?_eq_getElem hlt
    obtain ⟨c1, c2, c3, c4, -, -⟩ := h.2 i _ e
    have hgx := hT.2.2.2.1 T[i] (List.getElem_mem hlt)
    have hpx := hT.2.2.2.2 T[i] (List.getElem_mem hlt)
    have k1 := hk_le hg
    have k2 := hk_le hgx
    have next : T[i] ≠ ms → l_X5_find_3 n m S (nI (hk ms)) (a1 L T ms) (a2 L T ms) (a3 L T ms) (nI (i + 1)) = some (S, if ms ∈ T then nI (ixT T ms) else mI) := by
      intro hne
      refine ih m (i + 1) (by omega) (by omega) (fun x hx => ?_)
      rw [List.take_succ, e] at hx
      rcases List.mem_append.mp hx with q | q
      · exact hno x q
      · have : x = T[i] := by simpa using q
        rw [this]; exact hne
    unfold l_X5_find_3 j_X5_find_60
    rw [h.1, if_neg (nI_ge hlt (by omega)), gI_n (by omega) (by omega), c2]
    by_cases g1 : a1 L T T[i] = a1 L T ms
    · rw [if_pos g1, gI_n (by omega) (by omega), c3]
      by_cases g2 : a2 L T T[i] = a2 L T ms
      · rw [if_pos g2, gI_n (by omega) (by omega), c4]
        by_cases g3 : a3 L T T[i] = a3 L T ms
        · rw [if_pos g3, gI_n (by omega) (by omega), c1]
          by_cases g4 : hk T[i] = hk ms
          · rw [if_pos (by rw [g4])]
            have e2 := tm_inj hL h15 hT.2.2.1 (gdT_mo hgx (by have := zB_le hT; omega)) hg hpx hp g4 g1 g2 g3
            have hin : ms ∈ T := by rw [← e2]; exact List.getElem_mem hlt
            rw [if_pos hin]
            congr 3
            have h7 := ixT_get hin
            have h8 : T[i]? = some ms := by rw [e, e2]
            exact (List.getElem?_inj hlt hT.2.1).mp (h8.trans h7.symm)
          · rw [if_neg (fun z => g4 ((nI_eq (by omega) (by omega)).mp z)), bV_e, nI_1]
            exact next (fun z => g4 (by rw [z]))
        · rw [if_neg g3, bV_e, nI_1]; exact next (fun z => g3 (by rw [z]))
      · rw [if_neg g2, bV_e, nI_1]; exact next (fun z => g2 (by rw [z]))
    · rw [if_neg g1, bV_e, nI_1]; exact next (fun z => g1 (by rw [z]))
/-- the table behind a keep, and the answer -/
def tk (T : List (List Mk)) (ms : List Mk) : List (List Mk) × Bool := if ms ∈ T then (T, true) else if T.length < 1500 then (T ++ [ms], true) else (T, false)
theorem ixT_new {T : List (List Mk)} {l : List Mk} (h : l ∉ T) : ixT (T ++ [l]) l = T.length := by
  unfold ixT
  rw [List.idxOf_append, if_neg h, List.idxOf_cons_self, Nat.zero_add]
theorem tk_ok {L : List (List Nat)} {T : List (List Mk)} {N : Nat} {ms : List Mk} (hT : TOk L T N) (hg : gdT (zB T + 200) N ms) (hp : pT L T ms) : TOk L (tk T ms).1 N ∧ (∃ e, (tk T ms).1 = T ++ e) ∧ ((tk T ms).2 = true → ms ∈ (tk T ms).1) := by
  unfold tk
  by_cases h : ms ∈ T
  · rw [if_pos h]; exact ⟨hT, ⟨[], (List.append_nil _).symm⟩, fun _ => h⟩
  · rw [if_neg h]
    by_cases hc : T.length < 1500
    · rw [if_pos hc]; exact ⟨TOk_add hT hg hp h hc, ⟨[ms], rfl⟩, fun _ => by simp⟩
    · rw [if_neg hc]; exact ⟨hT, ⟨[], (List.append_nil _).symm⟩, fun z => nomatch z⟩
theorem s_keep5 {n N : Nat} {S : St} {L : List (List Nat)} {T : List (List Mk)} {ms : List Mk} (h : TC S L T) (hL : L.length ≤ 300) (hT : TOk L T N) (hg : gdT 1000000 N ms) (hp : pT L T ms) (hn : 1501 ≤ n) : ∃ S', f_X5_keep n S (nI (hk ms)) (a1 L T ms) (a2 L T ms) (a3 L T ms) = some (S', if (tk T ms).2 then nI (ixT (tk T ms).1 ms) else mI) ∧ TC S' L (tk T ms).1 ∧ FR [200] S S' := by
  have h15 := hT.1
  have hf : f_X5_find n S (nI (hk ms)) (a1 L T ms) (a2 L T ms) (a3 L T ms) = some (S, if ms ∈ T then nI (ixT T ms) else mI) := s_find5_l h hL hT hg hp T.length n 0 (by omega) (by omega) (fun x hx => by simp at hx)
  unfold f_X5_keep tk
  rw [hf, bI_s]
  by_cases hin : ms ∈ T
  · refine ⟨S, ?_, ?_, FR_rf⟩
    · rw [if_pos hin, if_pos hin, if_neg (show ¬ nI (ixT T ms) = -1 from nI_ne_m (by have := ixT_lt hin; omega))]; rfl
    · rw [if_pos hin]; exact h
  · rw [if_neg hin, if_neg hin, if_pos (show mI = -1 from rfl)]
    by_cases hc : T.length < 1500
    · refine ⟨pushT S L T ms, ?_, ?_, pushT_fr⟩
      · rw [if_pos hc]
        have w4 := TC_w (f := 204) (v := a3 L T ms) (TC_w (f := 203) (v := a2 L T ms) (TC_w (f := 202) (v := a1 L T ms) (TC_w (f := 201) (v := nI (hk ms)) h)))
        have w5 := TC_w (f := 205) (v := nI ms.length) w4
        have sz := s_sizeFor (n := n) w4 hT hg hp
        have op := s_openFor (n := n) w5 hT hg hp
        simp (disch := omega) only [i0, i1, i2, i3, i4, i5, i6, i8, i16, i30, i60, i100, i200, i201, i300, i1500, i8000, iM, nIa, nIp, nIs, nIle, nIlt, nIeq, nImlt, nImle, nImeq, nImeq2, nI0le, bV_e, bI_s, bL_s, bU_s, pS_e, gI_n, gL_n, pI_n, pL_n, sI_1, sI_22, sL_1, sL_21, sS_21, sS_22, sI_ne, sL_ne, sS_ne, sS_eq, sI_eq, sI_at, sL_eq, sL_at, if_true, if_false, eq_self, Nat.add_zero, if_pos, if_neg, h.1, sz, op]
        rw [ixT_new hin]
        rfl
      · rw [if_pos hc]; exact TC_push h hT hp
    · refine ⟨S, ?_, ?_, FR_rf⟩
      · rw [if_neg hc, h.1, if_neg (show ¬ nI T.length < (1500 : Int32) from nI_nlt (b := 1500) (by omega) (by omega))]; rfl
      · rw [if_neg hc]; exact h
