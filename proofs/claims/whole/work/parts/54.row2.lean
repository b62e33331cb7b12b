/-! counting, raising, filling -/
def isN (m : Mk) : Bool := decide (m.1 = 1 ∧ m.2.1 = m.2.2.1)
def cntN (ms : List Mk) : Nat := ms.countP isN
theorem s_cntN_l {n : Nat} {S : St} {j : Nat} {ms : List Mk} (h : RW S j ms) (hb : ∀ m ∈ ms, mB m) : ∀ (d m c i : Nat), i + d = ms.length → d < m → l_X4_countNextOuter_4 n m S j (nI c) (nI i) = some (S, nI (c + cntN (ms.drop i))) := by
  have h2 := h.2.1
  intro d
  induction d with
  | zero =>
    intro m c i hi hm
    obtain ⟨m, rfl⟩ : ∃ x, m = x + 1 := ⟨m - 1, by omega⟩
    unfold l_X4_countNextOuter_4
    rw [List.drop_eq_nil_iff.mpr (by omega)]
    simp (disch := omega) only [i0, i1, i2, i3, i4, i5, i6, i8, i16, i30, i60, i100, i200, i201, i300, i1500, i8000, iM, nIa, nIp, nIs, nIle, nIlt, nIeq, nImlt, nImle, nImeq, nImeq2, nI0le, bV_e, bI_s, bL_s, bU_s, pS_e, gI_n, gL_n, pI_n, pL_n, sI_1, sI_22, sL_1, sL_21, sS_21, sS_22, sI_ne, sL_ne, sS_ne, sS_eq, sI_eq, sI_at, sL_eq, sL_at, if_true, if_false, eq_self, Nat.add_zero, if_pos, if_neg, h.1]
    rfl
  | succ d ih =>
    intro m c i hi hm
    obtain ⟨m, rfl⟩ : ∃ x, m = x + 1 := ⟨m - 1, by omega⟩
    have hlt : i < ms.length := by omega
    have e : ms[i]? = some ms[i] := List.getElem?_eq_getElem hlt
    obtain ⟨c1, c2, c3, -⟩ := h.2.2 i _ e
    obtain ⟨b1, b2, b3⟩ := hb _ (List.getElem_mem hlt)
    have hih := fun c => ih m c (i + 1) (by omega) (by omega)
    rw [drop_c hlt]
    unfold l_X4_countNextOuter_4 j_X4_countNextOuter_40
    by_cases h1 : ms[i].1 = 1
    · by_cases h3 : ms[i].2.1 = ms[i].2.2.1
      · have e3 : cntN (ms[i] :: ms.drop (i + 1)) = cntN (ms.drop (i + 1)) + 1 := List.countP_cons_of_pos (by simp [isN, h1, h3])
        rw [e3]
        simp (disch := omega) only [i0, i1, i2, i3, i4, i5, i6, i8, i16, i30, i60, i100, i200, i201, i300, i1500, i8000, iM, nIa, nIp, nIs, nIle, nIlt, nIeq, nImlt, nImle, nImeq, nImeq2, nI0le, bV_e, bI_s, bL_s, bU_s, pS_e, gI_n, gL_n, pI_n, pL_n, sI_1, sI_22, sL_1, sL_21, sS_21, sS_22, sI_ne, sL_ne, sS_ne, sS_eq, sI_eq, sI_at, sL_eq, sL_at, if_true, if_false, eq_self, Nat.add_zero, if_pos, if_neg, h.1, c1, c2, c3, hih]
        rw [show c + 1 + cntN (ms.drop (i + 1)) = c + (cntN (ms.drop (i + 1)) + 1) by omega]
      · have e3 : cntN (ms[i] :: ms.drop (i + 1)) = cntN (ms.drop (i + 1)) := List.countP_cons_of_neg (by simp [isN, h3])
        rw [e3]
        simp (disch := omega) only [i0, i1, i2, i3, i4, i5, i6, i8, i16, i30, i60, i100, i200, i201, i300, i1500, i8000, iM, nIa, nIp, nIs, nIle, nIlt, nIeq, nImlt, nImle, nImeq, nImeq2, nI0le, bV_e, bI_s, bL_s, bU_s, pS_e, gI_n, gL_n, pI_n, pL_n, sI_1, sI_22, sL_1, sL_21, sS_21, sS_22, sI_ne, sL_ne, sS_ne, sS_eq, sI_eq, sI_at, sL_eq, sL_at, if_true, if_false, eq_self, Nat.add_zero, if_pos, if_neg, h.1, c1, c2, c3, hih]
    · have e3 : cntN (ms[i] :: ms.drop (i + 1)) = cntN (ms.drop (i + 1)) := List.countP_cons_of_neg (by simp [isN, h1])
      rw [e3]
      simp (disch := omega) only [i0, i1, i2, i3, i4, i5, i6, i8, i16, i30, i60, i100, i200, i201, i300, i1500, i8000, iM, nIa, nIp, nIs, nIle, nIlt, nIeq, nImlt, nImle, nImeq, nImeq2, nI0le, bV_e, bI_s, bL_s, bU_s, pS_e, gI_n, gL_n, pI_n, pL_n, sI_1, sI_22, sL_1, sL_21, sS_21, sS_22, sI_ne, sL_ne, sS_ne, sS_eq, sI_eq, sI_at, sL_eq, sL_at, if_true, if_false, eq_self, Nat.add_zero, if_pos, if_neg, h.1, c1, c2, c3, hih]
theorem s_cntN {n : Nat} {S : St} {j : Nat} {ms : List Mk} (h : RW S j ms) (hb : ∀ m ∈ ms, mB m) (hn : 201 ≤ n) : f_X4_countNextOuter n S j = some (S, nI (cntN ms)) := by
  have h2 := h.2.1
  unfold f_X4_countNextOuter
  have := s_cntN_l (n := n) h hb ms.length n 0 0 (by omega) (by omega)
  rw [List.drop_zero, Nat.zero_add] at this
  exact this
theorem set_mid {α : Type} {a b : List α} {x y : α} : (a ++ x :: b).set a.length y = a ++ y :: b := by
  rw [List.set_append_right _ _ (Nat.le_refl _), Nat.sub_self]; rfl
theorem mid_at {α : Type} {a b : List α} {x : α} : (a ++ x :: b)[a.length]? = some x := by
  rw [List.getElem?_append_right (Nat.le_refl _), Nat.sub_self]; rfl
/-- a row in which one mark becomes another -/
theorem RW_set {S S' : St} {j i : Nat} {ms : List Mk} {m' : Mk} (h : RW S j ms) (hs : S'.1 150 j = S.1 150 j) (hc : cell S' j i m') (ho : ∀ i' m0, i' ≠ i → cell S j i' m0 → cell S' j i' m0) : RW S' j (ms.set i m') := by
  refine ⟨by rw [hs, h.1, List.length_set], by rw [List.length_set]; exact h.2.1, fun i' m0 hm => ?_⟩
  by_cases q : i = i'
  · subst q
    have hl := gt_lt hm
    rw [List.length_set] at hl
    rw [List.getElem?_set_self hl] at hm
    rw [← Option.some.inj hm]; exact hc
  · rw [List.getElem?_set_ne q] at hm
    exact ho i' m0 (fun z => q z.symm) (h.2.2 i' m0 hm)
/-- a variable from outside is raised -/
def rsM (e : Nat) (m : Mk) : Mk := (m.1, if m.1 = 1 ∧ m.2.2.1 ≤ m.2.1 then m.2.1 + e else m.2.1, m.2.2)
def pdM (m : Mk) : Mk := (m.1, if m.1 = 1 ∧ m.2.2.1 ≤ m.2.1 then m.2.1 - 1 else m.2.1, m.2.2)
theorem s_raise_l {n : Nat} {j : Nat} {by_ : Int32} {ms : List Mk} {g : Mk → Mk} (hb : ∀ m ∈ ms, mB m) (hg : ∀ m ∈ ms, (g m).1 = m.1 ∧ (g m).2.2 = m.2.2 ∧ nI (g m).2.1 = nI m.2.1 + (if m.1 = 1 ∧ m.2.2.1 ≤ m.2.1 then by_ else 0)) : ∀ (rest done : List Mk) (m : Nat) (S : St), RW S j (done.map g ++ rest) → ms = done ++ rest → rest.length < m → ∃ S', l_X4_raise_2 n m S j by_ (nI done.length) = some S' ∧ RW S' j (ms.map g) ∧ FR [1000 + j] S S' := by
  intro rest
  induction rest with
  | nil =>
    intro done m S h e hm
    have h2 := h.2.1
    have h1 := h.1
    obtain ⟨m, rfl⟩ : ∃ x, m = x + 1 := ⟨m - 1, by omega⟩
    rw [List.append_nil] at e h h1 h2
    rw [List.length_map] at h1 h2
    subst e
    refine ⟨S, ?_, h, FR_rf⟩
    unfold l_X4_raise_2
    simp (disch := omega) only [i0, i1, i2, i3, i4, i5, i6, i8, i16, i30, i60, i100, i200, i201, i300, i1500, i8000, iM, nIa, nIp, nIs, nIle, nIlt, nIeq, nImlt, nImle, nImeq, nImeq2, nI0le, bV_e, bI_s, bL_s, bU_s, pS_e, gI_n, gL_n, pI_n, pL_n, sI_1, sI_22, sL_1, sL_21, sS_21, sS_22, sI_ne, sL_ne, sS_ne, sS_eq, sI_eq, sI_at, sL_eq, sL_at, if_true, if_false, eq_self, Nat.add_zero, if_pos, if_neg, h1]
  | cons x rest ih =>
    intro done m S h e hm
    have h2 := h.2.1
    have h1 := h.1
    rw [List.length_append, List.length_map, List.length_cons] at h1 h2
    rw [List.length_cons] at hm
    obtain ⟨m, rfl⟩ : ∃ x, m = x + 1 := ⟨m - 1, by omega⟩
    have hmem : x ∈ ms := by rw [e]; simp
    obtain ⟨b1, b2, b3⟩ := hb _ hmem
    have hat : (done.map g ++ x :: rest)[done.length]? = some x := by
      have := mid_at (a := done.map g) (b := rest) (x := x)
      rw [List.length_map] at this
      exact this
    obtain ⟨c1, c2, c3, c4, c5⟩ := h.2.2 _ _ hat
    obtain ⟨g1, g2, g3⟩ := hg _ hmem
    have nxt : ∀ S1 : St, RW S1 j ((done.map g ++ x :: rest).set done.length (g x)) → FR [1000 + j] S S1 → ∃ S', l_X4_raise_2 n m S1 j by_ (nI (done.length + 1)) = some S' ∧ RW S' j (ms.map g) ∧ FR [1000 + j] S S' := by
      intro S1 hS1 hf
      have e2 : (done.map g ++ x :: rest).set done.length (g x) = (done ++ [x]).map g ++ rest := by
        have := set_mid (a := done.map g) (b := rest) (x := x) (y := g x)
        rw [List.length_map] at this
        rw [this, List.map_append, List.map_singleton, List.append_assoc, List.singleton_append]
      rw [e2] at hS1
      obtain ⟨S', q1, q2, q3⟩ := ih (done ++ [x]) m S1 hS1 (by rw [e, List.append_assoc, List.singleton_append]) (by omega)
      rw [List.length_append, List.length_singleton] at q1
      exact ⟨S', q1, q2, FR_tr hf q3⟩
    by_cases h0 : x.1 = 1 ∧ x.2.2.1 ≤ x.2.1
    · rw [if_pos h0] at g3
      obtain ⟨S', q1, q2, q3⟩ := nxt (sI S 152 j done.length (nI (g x).2.1)) (RW_set h rfl ⟨by rw [sI_ne (by omega), c1, g1], sI_eq, by rw [sI_ne (by omega), c3, g2], by rw [sI_22, c4, g2], by rw [sI_22, c5, g2]⟩ (fun i' m0 hi hc => ⟨by rw [sI_ne (by omega)]; exact hc.1, by rw [sI_at hi]; exact hc.2.1, by rw [sI_ne (by omega)]; exact hc.2.2.1, hc.2.2.2.1, hc.2.2.2.2⟩)) (FR_sI FR_rf (by rw [rgR (by omega)]; simp))
      refine ⟨S', ?_, q2, q3⟩
      unfold l_X4_raise_2 j_X4_raise_45
      simp (disch := omega) only [i0, i1, i2, i3, i4, i5, i6, i8, i16, i30, i60, i100, i200, i201, i300, i1500, i8000, iM, nIa, nIp, nIs, nIle, nIlt, nIeq, nImlt, nImle, nImeq, nImeq2, nI0le, bV_e, bI_s, bL_s, bU_s, pS_e, gI_n, gL_n, pI_n, pL_n, sI_1, sI_22, sL_1, sL_21, sS_21, sS_22, sI_ne, sL_ne, sS_ne, sS_eq, sI_eq, sI_at, sL_eq, sL_at, if_true, if_false, eq_self, Nat.add_zero, if_pos, if_neg, h1, c1, c2, c3, ← g3]
      exact q1
    · rw [if_neg h0, Int32.add_zero] at g3
      obtain ⟨S', q1, q2, q3⟩ := nxt S (RW_set h rfl ⟨by rw [c1, g1], by rw [c2, g3], by rw [c3, g2], by rw [c4, g2], by rw [c5, g2]⟩ (fun i' m0 hi hc => hc)) FR_rf
      refine ⟨S', ?_, q2, q3⟩
      unfold l_X4_raise_2 j_X4_raise_45
      by_cases h01 : x.1 = 1
      · simp (disch := omega) only [i0, i1, i2, i3, i4, i5, i6, i8, i16, i30, i60, i100, i200, i201, i300, i1500, i8000, iM, nIa, nIp, nIs, nIle, nIlt, nIeq, nImlt, nImle, nImeq, nImeq2, nI0le, bV_e, bI_s, bL_s, bU_s, pS_e, gI_n, gL_n, pI_n, pL_n, sI_1, sI_22, sL_1, sL_21, sS_21, sS_22, sI_ne, sL_ne, sS_ne, sS_eq, sI_eq, sI_at, sL_eq, sL_at, if_true, if_false, eq_self, Nat.add_zero, if_pos, if_neg, h1, c1, c2, c3]
        exact q1
      · simp (disch := omega) only [i0, i1, i2, i3, i4, i5, i6, i8, i16, i30, i60, i100, i200, i201, i300, i1500, i8000, iM, nIa, nIp, nIs, nIle, nIlt, nIeq, nImlt, nImle, nImeq, nImeq2, nI0le, bV_e, bI_s, bL_s, bU_s, pS_e, gI_n, gL_n, pI_n, pL_n, sI_1, sI_22, sL_1, sL_21, sS_21, sS_22, sI_ne, sL_ne, sS_ne, sS_eq, sI_eq, sI_at, sL_eq, sL_at, if_true, if_false, eq_self, Nat.add_zero, if_pos, if_neg, h1, c1, c2, c3]
        exact q1
theorem s_raise {n j e : Nat} {S : St} {ms : List Mk} (hb : ∀ m ∈ ms, mB m) (h : RW S j ms) (hn : 201 ≤ n) : ∃ S', f_X4_raise n S j (nI e) = some S' ∧ RW S' j (ms.map (rsM e)) ∧ FR [1000 + j] S S' := by
  have h2 := h.2.1
  refine s_raise_l hb (g := rsM e) (fun m hm => ⟨rfl, rfl, ?_⟩) ms [] n S h rfl (by omega)
  unfold rsM
  split <;> simp only [nI_add, Int32.add_zero]
theorem s_raiseN {n j : Nat} {S : St} {ms : List Mk} (hb : ∀ m ∈ ms, mB m) (hz : ∀ m ∈ ms, m.1 = 1 → m.2.2.1 ≤ m.2.1 → 1 ≤ m.2.1) (h : RW S j ms) (hn : 201 ≤ n) : ∃ S', f_X4_raise n S j mI = some S' ∧ RW S' j (ms.map pdM) ∧ FR [1000 + j] S S' := by
  have h2 := h.2.1
  refine s_raise_l hb (g := pdM) (fun m hm => ⟨rfl, rfl, ?_⟩) ms [] n S h rfl (by omega)
  unfold pdM
  split
  · rename_i q
    rw [nIp (hz m hm q.1 q.2)]
  · simp only [Int32.add_zero]
/-- a mark of the value, below e more binders -/
def upM (e : Nat) (m : Mk) : Mk := (m.1, if m.1 = 1 ∧ m.2.2.1 ≤ m.2.1 then m.2.1 + e else m.2.1, m.2.2.1 + e, m.2.2.2)
theorem cpm_up {e : Nat} {m : Mk} : cpm (nI e) (nI e) m (upM e m) := by
  refine ⟨rfl, ?_, (nI_add _ _).symm, rfl⟩
  unfold upM
  split <;> simp only [nI_add, Int32.add_zero]
theorem cpm_pd {m : Mk} (h : m.1 = 1 → m.2.2.1 ≤ m.2.1 → 1 ≤ m.2.1) : cpm 0 mI m (pdM m) := by
  refine ⟨rfl, ?_, (Int32.add_zero _).symm, rfl⟩
  unfold pdM
  split
  · rename_i q
    rw [nIp (h q.1 q.2)]
  · simp only [Int32.add_zero]
def fil1 (val : List Mk) (m : Mk) : List Mk := if isN m then val.map (upM m.2.2.1) else [pdM m]
/-- body WITH value -/
def fil (body val : List Mk) : List Mk := body.flatMap (fil1 val)
theorem fil_c {val r : List Mk} {m : Mk} : fil (m :: r) val = fil1 val m ++ fil r val := rfl
theorem fil_len {val : List Mk} (hv : 1 ≤ val.length) : ∀ (body : List Mk), (fil body val).length = body.length + cntN body * (val.length - 1) := by
  intro body
  induction body with
  | nil => simp [fil, cntN]
  | cons m r ih =>
    rw [fil_c, List.length_append, ih, List.length_cons]
    unfold fil1
    by_cases h : isN m
    · have e3 : cntN (m :: r) = cntN r + 1 := List.countP_cons_of_pos h
      rw [if_pos h, List.length_map, e3, Nat.add_mul]; omega
    · have e3 : cntN (m :: r) = cntN r := List.countP_cons_of_neg h
      rw [if_neg h, e3, List.length_singleton]; omega
theorem s_fill_in {n : Nat} {K : St → Nat → Nat → Nat → Int32 → Option (St × Int32)} {j a1 a e : Nat} {l3 : Int32} {src : List Mk} (hja : j ≠ a) (hb : ∀ m ∈ src, mB m) : ∀ (d m i : Nat) (S : St) (ms : List Mk), RW S j ms → RW S a src → i + d = src.length → d < m → ms.length + d ≤ 200 → ∃ S', l_X4_fillWith_82 n K m S j a1 a l3 (nI e) (nI i) = j_X4_fillWith_108 n K S' j a1 a l3 ∧ RW S' j (ms ++ (src.drop i).map (upM e)) ∧ FR [1000 + j] S S' := by
  intro d
  induction d with
  | zero =>
    intro m i S ms hj ha hi hm hl
    have h2 := ha.2.1
    obtain ⟨m, rfl⟩ : ∃ x, m = x + 1 := ⟨m - 1, by omega⟩
    refine ⟨S, ?_, ?_, FR_rf⟩
    · unfold l_X4_fillWith_82
      simp (disch := omega) only [i0, i1, i2, i3, i4, i5, i6, i8, i16, i30, i60, i100, i200, i201, i300, i1500, i8000, iM, nIa, nIp, nIs, nIle, nIlt, nIeq, nImlt, nImle, nImeq, nImeq2, nI0le, bV_e, bI_s, bL_s, bU_s, pS_e, gI_n, gL_n, pI_n, pL_n, sI_1, sI_22, sL_1, sL_21, sS_21, sS_22, sI_ne, sL_ne, sS_ne, sS_eq, sI_eq, sI_at, sL_eq, sL_at, if_true, if_false, eq_self, Nat.add_zero, if_pos, if_neg, ha.1]
    · rw [List.drop_eq_nil_iff.mpr (by omega), List.map_nil, List.append_nil]; exact hj
  | succ d ih =>
    intro m i S ms hj ha hi hm hl
    have h2 := ha.2.1
    obtain ⟨m, rfl⟩ : ∃ x, m = x + 1 := ⟨m - 1, by omega⟩
    have hlt : i < src.length := by omega
    have e0 : src[i]? = some src[i] := List.getElem?_eq_getElem hlt
    have hmem := List.getElem_mem hlt
    have fr : FR [1000 + j] S (addm S j ms (upM e src[i])) := addm_fr FR_rf (by simp)
    obtain ⟨S', q1, q2, q3⟩ := ih m (i + 1) (addm S j ms (upM e src[i])) (ms ++ [upM e src[i]]) (RW_add hj (by omega)) (RW_fr ha fr (by simp; omega)) (by omega) (by omega) (by rw [List.length_append, List.length_singleton]; omega)
    refine ⟨S', ?_, ?_, FR_tr fr q3⟩
    · unfold l_X4_fillWith_82
      rw [if_neg (by rw [ha.1]; exact nI_ge hlt (by omega)), s_copyMark hj ha hja e0 (hb _ hmem) (by omega) cpm_up, bU_s, bV_e, nI_1, q1]
    · rw [drop_c hlt, List.map_cons]
      rw [List.append_assoc, List.singleton_append] at q2
      exact q2
theorem s_fill_l {n : Nat} {j b a : Nat} {body val : List Mk} (hja : j ≠ a) (hjb : j ≠ b) (hbb : ∀ m ∈ body, mB m) (hba : ∀ m ∈ val, mB m) (hv : val.length < n) : ∀ (d m i : Nat) (S : St) (ms : List Mk), RW S j ms → RW S b body → RW S a val → i + d = body.length → d < m → ms.length + (fil (body.drop i) val).length ≤ 200 → ∃ S', l_X4_fillWith_31 n m S j b a (nI i) = some (S', 1) ∧ RW S' j (ms ++ fil (body.drop i) val) ∧ FR [1000 + j] S S' := by
  intro d
  induction d with
  | zero =>
    intro m i S ms hj hb ha hi hm hl
    have h2 := hb.2.1
    obtain ⟨m, rfl⟩ : ∃ x, m = x + 1 := ⟨m - 1, by omega⟩
    refine ⟨S, ?_, ?_, FR_rf⟩
    · unfold l_X4_fillWith_31
      simp (disch := omega) only [i0, i1, i2, i3, i4, i5, i6, i8, i16, i30, i60, i100, i200, i201, i300, i1500, i8000, iM, nIa, nIp, nIs, nIle, nIlt, nIeq, nImlt, nImle, nImeq, nImeq2, nI0le, bV_e, bI_s, bL_s, bU_s, pS_e, gI_n, gL_n, pI_n, pL_n, sI_1, sI_22, sL_1, sL_21, sS_21, sS_22, sI_ne, sL_ne, sS_ne, sS_eq, sI_eq, sI_at, sL_eq, sL_at, if_true, if_false, eq_self, Nat.add_zero, if_pos, if_neg, hb.1]
    · rw [List.drop_eq_nil_iff.mpr (by omega), show fil [] val = [] from rfl, List.append_nil]; exact hj
  | succ d ih =>
    intro m i S ms hj hb ha hi hm hl
    have h2 := hb.2.1
    have h3 := ha.2.1
    obtain ⟨m, rfl⟩ : ∃ x, m = x + 1 := ⟨m - 1, by omega⟩
    have hlt : i < body.length := by omega
    have e0 : body[i]? = some body[i] := List.getElem?_eq_getElem hlt
    have hmem := List.getElem_mem hlt
    obtain ⟨c1, c2, c3, -⟩ := hb.2.2 i _ e0
    obtain ⟨b1, b2, b3⟩ := hbb _ hmem
    rw [drop_c hlt, fil_c, List.length_append] at hl
    by_cases hN : isN body[i]
    · have hN2 : body[i].1 = 1 ∧ body[i].2.1 = body[i].2.2.1 := by unfold isN at hN; exact of_decide_eq_true hN
      have f1 : fil1 val body[i] = val.map (upM body[i].2.2.1) := by unfold fil1; rw [if_pos hN]
      rw [f1, List.length_map] at hl
      obtain ⟨S1, p1, p2, p3⟩ := s_fill_in (n := n) (K := fun S j a1 a2 l3 => l_X4_fillWith_31 n m S j a1 a2 l3) (a1 := b) (e := body[i].2.2.1) (l3 := nI i) hja hba val.length n 0 S ms hj ha (by omega) hv (by omega)
      rw [List.drop_zero] at p2
      obtain ⟨S', q1, q2, q3⟩ := ih m (i + 1) S1 _ p2 (RW_fr hb p3 (by simp; omega)) (RW_fr ha p3 (by simp; omega)) (by omega) (by omega) (by rw [List.length_append, List.length_map]; omega)
      refine ⟨S', ?_, ?_, FR_tr p3 q3⟩
      · unfold l_X4_fillWith_31
        unfold j_X4_fillWith_108 at p1
        rw [bV_e, nI_1] at p1
        replace p1 := p1.trans q1
        simp (disch := omega) only [i0, i1, i2, i3, i4, i5, i6, i8, i16, i30, i60, i100, i200, i201, i300, i1500, i8000, iM, nIa, nIp, nIs, nIle, nIlt, nIeq, nImlt, nImle, nImeq, nImeq2, nI0le, bV_e, bI_s, bL_s, bU_s, pS_e, gI_n, gL_n, pI_n, pL_n, sI_1, sI_22, sL_1, sL_21, sS_21, sS_22, sI_ne, sL_ne, sS_ne, sS_eq, sI_eq, sI_at, sL_eq, sL_at, if_true, if_false, eq_self, Nat.add_zero, if_pos, if_neg, hb.1, c1, c2, c3, hN2.2]
        exact p1
      · rw [drop_c hlt, fil_c, f1, ← List.append_assoc]; exact q2
    · have f1 : fil1 val body[i] = [pdM body[i]] := by unfold fil1; rw [if_neg hN]
      have hN2 : ¬ (body[i].1 = 1 ∧ body[i].2.1 = body[i].2.2.1) := fun z => hN (by unfold isN; exact decide_eq_true z)
      rw [f1, List.length_singleton] at hl
      have fr : FR [1000 + j] S (addm S j ms (pdM body[i])) := addm_fr FR_rf (by simp)
      obtain ⟨S', q1, q2, q3⟩ := ih m (i + 1) (addm S j ms (pdM body[i])) _ (RW_add hj (by omega)) (RW_fr hb fr (by simp; omega)) (RW_fr ha fr (by simp; omega)) (by omega) (by omega) (by rw [List.length_append, List.length_singleton]; omega)
      have cp : f_X4_copyMark n S j b (nI i) (nI 0) mI = some (addm S j ms (pdM body[i])) := s_copyMark hj hb hjb e0 (hbb _ hmem) (by omega) (cpm_pd (fun z1 z2 => by omega))
      refine ⟨S', ?_, ?_, FR_tr fr q3⟩
      · unfold l_X4_fillWith_31 j_X4_fillWith_68 j_X4_fillWith_108
        by_cases h1 : body[i].1 = 1
        · simp (disch := omega) only [i0, i1, i2, i3, i4, i5, i6, i8, i16, i30, i60, i100, i200, i201, i300, i1500, i8000, iM, nIa, nIp, nIs, nIle, nIlt, nIeq, nImlt, nImle, nImeq, nImeq2, nI0le, bV_e, bI_s, bL_s, bU_s, pS_e, gI_n, gL_n, pI_n, pL_n, sI_1, sI_22, sL_1, sL_21, sS_21, sS_22, sI_ne, sL_ne, sS_ne, sS_eq, sI_eq, sI_at, sL_eq, sL_at, if_true, if_false, eq_self, Nat.add_zero, if_pos, if_neg, hb.1, c1, c2, c3, cp]
          exact q1
        · simp (disch := omega) only [i0, i1, i2, i3, i4, i5, i6, i8, i16, i30, i60, i100, i200, i201, i300, i1500, i8000, iM, nIa, nIp, nIs, nIle, nIlt, nIeq, nImlt, nImle, nImeq, nImeq2, nI0le, bV_e, bI_s, bL_s, bU_s, pS_e, gI_n, gL_n, pI_n, pL_n, sI_1, sI_22, sL_1, sL_21, sS_21, sS_22, sI_ne, sL_ne, sS_ne, sS_eq, sI_eq, sI_at, sL_eq, sL_at, if_true, if_false, eq_self, Nat.add_zero, if_pos, if_neg, hb.1, c1, c2, c3, cp]
          exact q1
      · rw [drop_c hlt, fil_c, f1]
        rw [List.append_assoc, List.singleton_append] at q2
        exact q2
theorem s_fillWith {n : Nat} {j b a : Nat} {body val : List Mk} {S : St} (hja : j ≠ a) (hjb : j ≠ b) (hbb : ∀ m ∈ body, mB m) (hba : ∀ m ∈ val, mB m) (hv : 1 ≤ val.length) (hn : 201 ≤ n) (hb : RW S b body) (ha : RW S a val) : ∃ S', f_X4_fillWith n S j b a = some (S', if (fil body val).length ≤ 200 then 1 else 0) ∧ ((fil body val).length ≤ 200 → RW S' j (fil body val)) ∧ FR [1000 + j] S S' := by
  have h2 := hb.2.1
  have h3 := ha.2.1
  have f0 : FR [1000 + j] S (sS S 150 j (nI 0)) := FR_sS FR_rf (by rw [rgR (by omega)]; simp)
  have hb1 := RW_fr hb f0 (by simp; omega)
  have ha1 := RW_fr ha f0 (by simp; omega)
  have hc : cntN body ≤ 200 := Nat.le_trans List.countP_le_length h2
  have hm : cntN body * (val.length - 1) ≤ 200 * 200 := Nat.mul_le_mul hc (by omega)
  have cn := s_cntN (n := n) hb1 hbb hn
  unfold f_X4_fillWith g_X4_fillWith
  have hz : nI body.length + nI (cntN body) * (nI val.length - 1) = nI (fil body val).length := by
    rw [show nI val.length - 1 = nI (val.length - 1) from nIs (b := 1) hv, pk_mul, nI_add, fil_len hv]
  rw [pS_e, i0, cn, bI_s, hb1.1, ha1.1, hz]
  have hL := fil_len hv body
  by_cases hle : (fil body val).length ≤ 200
  · obtain ⟨S', q1, q2, q3⟩ := s_fill_l (n := n) hja hjb hbb hba (by omega) body.length n 0 _ [] RW_0 hb1 ha1 (by omega) (by omega) (by rw [List.drop_zero, List.length_nil]; omega)
    rw [List.drop_zero, List.nil_append] at q2
    refine ⟨S', ?_, fun _ => q2, FR_tr f0 q3⟩
    rw [if_pos (show nI (fil body val).length ≤ (200 : Int32) from nI_le (b := 200) hle (by omega)), q1, if_pos hle]
    exact zW_01 (Or.inr rfl)
  · refine ⟨_, ?_, fun z => absurd z hle, f0⟩
    rw [if_neg (show ¬ nI (fil body val).length ≤ (200 : Int32) from nI_ge (a := 200) (by omega) (by omega)), if_neg hle]
    exact zW_01 (Or.inl rfl)
