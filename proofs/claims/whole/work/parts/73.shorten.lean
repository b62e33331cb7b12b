/-! the reference: is the next outer variable there; shortening -/
def zb (b : Bool) : Int32 := if b then nI 1 else nI 0
theorem zb_t : zb true = nI 1 := rfl
theorem zb_f : zb false = nI 0 := rfl
theorem s_has_k {n k o d : Nat} {K : St → Int32 → Int32 → Int32 → Option (St × Int32)} {S : St} {st : List Nat} {l4 : Int32} (hk : k ≤ 6) (ho : o < 8000) (hc : S.2.1 368 0 o = nI k) (hs : stk (S.2.1 376 0) st) (hl : st.length ≤ 900) (hn : 10 ≤ n) : ∃ S1, l_X8_has_79 n K n S (nI o) (nI st.length) l4 (nI d) (nI (ar k)) (nI (ar k)) = (bI (f_X8_behindToken n S1 368 (nI o)) fun S2 v4 => K S2 v4 (nI (kids k d ++ st).length) l4) ∧ stk (S1.2.1 376 0) (kids k d ++ st) ∧ FR [376] S S1 := by
  have r1 : rg 376 0 ∈ [376] := by rw [rg8 (by omega)]; simp
  obtain ⟨n, rfl⟩ : ∃ y, n = y + 4 := ⟨n - 4, by omega⟩
  have hcases : k ≤ 2 ∨ (k = 3 ∨ k = 4) ∨ k = 5 ∨ k = 6 := by omega
  rcases hcases with q | q | q | q
  · rw [ar_0 q, kids_0 (ar_0 q)]
    refine ⟨S, ?_, hs, FR_rf⟩
    unfold l_X8_has_79
    rfl
  · rw [ar_3 (by omega), kids_3 q]
    refine ⟨sI (sI S 376 0 st.length (nI (d + 1))) 376 0 (st.length + 1) (nI d), ?_, ?_, FR_sI (FR_sI FR_rf r1) r1⟩
    · ((try simp only [i0, i1, i2, i3, i4, i5, i6, i8, i16, i30, i60, i100, i200, i201, i300, i1500, i8000, iM, i_m6]); repeat (first | rw [zt_eq (by omega)] | rw [zt_ne (by omega) (by omega) (by omega)] | rw [zt_nle (by omega) (by omega)] | rw [zt_le (by omega) (by omega)] | rw [zt_nlt (by omega) (by omega)] | rw [zt_lt (by omega) (by omega)] | rw [zt_nm (by omega)] | rw [zt_mm] | rw [zt_ml] | rw [zt_0m] | rw [zt_m0] | rw [zt_n6 (by omega)] | rw [zt_66] | rw [zt_06] | simp (disch := omega) only [i0, i1, i2, i3, i4, i5, i6, i8, i16, i30, i60, i100, i200, i201, i300, i1500, i8000, iM, i_m6, nIa, nIp, nIs, sI_1, sI_22, sL_1, sL_21, sS_21, sS_22, sI_ne, sL_ne, sS_ne, sS_eq, sI_eq, sI_at, sL_eq, sL_at, Nat.add_zero, if_true, if_false, hc] | rw [bV_e] | rw [pS_e] | rw [bI_s] | rw [bU_s] | rw [bL_s] | rw [gI_n (by omega) (by omega)] | rw [pI_n (by omega) (by omega)] | rw [gL_n (by omega) (by omega)] | rw [pL_n (by omega) (by omega)] | rw [l_X8_has_79] | rw [j_X8_has_113] | rw [j_X8_has_115]))
      rfl
    · rw [sI_self]
      refine stk_push (st := (d + 1) :: st) ?_
      rw [sI_self]
      exact stk_push hs
  · subst q
    rw [ar_3 (by omega), kids_5]
    refine ⟨sI (sI S 376 0 st.length (nI d)) 376 0 (st.length + 1) (nI d), ?_, ?_, FR_sI (FR_sI FR_rf r1) r1⟩
    · ((try simp only [i0, i1, i2, i3, i4, i5, i6, i8, i16, i30, i60, i100, i200, i201, i300, i1500, i8000, iM, i_m6]); repeat (first | rw [zt_eq (by omega)] | rw [zt_ne (by omega) (by omega) (by omega)] | rw [zt_nle (by omega) (by omega)] | rw [zt_le (by omega) (by omega)] | rw [zt_nlt (by omega) (by omega)] | rw [zt_lt (by omega) (by omega)] | rw [zt_nm (by omega)] | rw [zt_mm] | rw [zt_ml] | rw [zt_0m] | rw [zt_m0] | rw [zt_n6 (by omega)] | rw [zt_66] | rw [zt_06] | simp (disch := omega) only [i0, i1, i2, i3, i4, i5, i6, i8, i16, i30, i60, i100, i200, i201, i300, i1500, i8000, iM, i_m6, nIa, nIp, nIs, sI_1, sI_22, sL_1, sL_21, sS_21, sS_22, sI_ne, sL_ne, sS_ne, sS_eq, sI_eq, sI_at, sL_eq, sL_at, Nat.add_zero, if_true, if_false, hc] | rw [bV_e] | rw [pS_e] | rw [bI_s] | rw [bU_s] | rw [bL_s] | rw [gI_n (by omega) (by omega)] | rw [pI_n (by omega) (by omega)] | rw [gL_n (by omega) (by omega)] | rw [pL_n (by omega) (by omega)] | rw [l_X8_has_79] | rw [j_X8_has_113] | rw [j_X8_has_115]))
      rfl
    · rw [sI_self]
      refine stk_push (st := d :: st) ?_
      rw [sI_self]
      exact stk_push hs
  · subst q
    rw [show ar 6 = 3 from rfl, kids_6]
    refine ⟨sI (sI (sI S 376 0 st.length (nI (d + 1))) 376 0 (st.length + 1) (nI d)) 376 0 (st.length + 1 + 1) (nI d), ?_, ?_, FR_sI (FR_sI (FR_sI FR_rf r1) r1) r1⟩
    · ((try simp only [i0, i1, i2, i3, i4, i5, i6, i8, i16, i30, i60, i100, i200, i201, i300, i1500, i8000, iM, i_m6]); repeat (first | rw [zt_eq (by omega)] | rw [zt_ne (by omega) (by omega) (by omega)] | rw [zt_nle (by omega) (by omega)] | rw [zt_le (by omega) (by omega)] | rw [zt_nlt (by omega) (by omega)] | rw [zt_lt (by omega) (by omega)] | rw [zt_nm (by omega)] | rw [zt_mm] | rw [zt_ml] | rw [zt_0m] | rw [zt_m0] | rw [zt_n6 (by omega)] | rw [zt_66] | rw [zt_06] | simp (disch := omega) only [i0, i1, i2, i3, i4, i5, i6, i8, i16, i30, i60, i100, i200, i201, i300, i1500, i8000, iM, i_m6, nIa, nIp, nIs, sI_1, sI_22, sL_1, sL_21, sS_21, sS_22, sI_ne, sL_ne, sS_ne, sS_eq, sI_eq, sI_at, sL_eq, sL_at, Nat.add_zero, if_true, if_false, hc] | rw [bV_e] | rw [pS_e] | rw [bI_s] | rw [bU_s] | rw [bL_s] | rw [gI_n (by omega) (by omega)] | rw [pI_n (by omega) (by omega)] | rw [gL_n (by omega) (by omega)] | rw [pL_n (by omega) (by omega)] | rw [l_X8_has_79] | rw [j_X8_has_113] | rw [j_X8_has_115]))
      rfl
    · rw [sI_self]
      refine stk_push (st := d :: (d + 1) :: st) ?_
      rw [sI_self]
      refine stk_push (st := (d + 1) :: st) ?_
      rw [sI_self]
      exact stk_push hs
theorem s_has8_l {n : Nat} (hn : 10000 ≤ n) : ∀ (x : List Mk) (mm o : Nat) (S : St) (st : List Nat) (fd : Bool), run st x = some [] → (∀ m ∈ x, mW m ∧ m.2.2.1 < 100000) → sg (S.2.1 368 0) o (flt x) → o + (flt x).length ≤ 8000 → x.length ≤ 500 → x.length < mm → stk (S.2.1 376 0) st → ∃ S', l_X8_has_14 n mm S (nI o) (nI st.length) (zb fd) = some (S', zb (fd || x.any isN)) ∧ FR [376] S S' := by
  intro x
  induction x with
  | nil =>
    intro mm o S st fd hr hm hs ho h5 hmm hst
    obtain ⟨mm, rfl⟩ : ∃ y, mm = y + 1 := ⟨mm - 1, by omega⟩
    rw [run_nil] at hr
    cases hr
    refine ⟨S, ?_, FR_rf⟩
    rw [List.any_nil, Bool.or_false]
    rfl
  | cons m r ih =>
    intro mm o S st fd hr hm hs ho h5 hmm hst
    obtain ⟨mm, rfl⟩ : ∃ y, mm = y + 1 := ⟨mm - 1, by omega⟩
    have hle := run_le hr
    obtain ⟨s, rfl, hr2⟩ := run_cc hr
    rw [flt_c] at hs ho
    have hk0 := sg_h hs
    obtain ⟨h1, h2⟩ := sg_app.mp hs
    rw [List.length_append] at ho
    rw [List.length_cons] at hmm h5 hle
    rw [List.length_cons] at hle
    obtain ⟨hmw, hmd⟩ := hm m List.mem_cons_self
    have m6 := hmw.1
    have mi := hmw.2.1
    have tp := tks_pos m
    have hst1 : S.2.1 376 0 s.length = nI m.2.2.1 := hst.1
    have n8 : rg 368 0 ∉ [376] := by rw [rg8 (by omega)]; simp
    have fin : ∀ b : Bool, b = (fd || isN m) → ∃ S', j_X8_has_62 n (fun S l2 l3 l4 => l_X8_has_14 n mm S l2 l3 l4) S (nI o) (nI s.length) (nI m.2.2.1) (zb b) = some (S', zb (fd || (m :: r).any isN)) ∧ FR [376] S S' := by
      intro b hb
      obtain ⟨S1, a1, b1, f1⟩ := s_has_k (n := n) (K := fun S l2 l3 l4 => l_X8_has_14 n mm S l2 l3 l4) (d := m.2.2.1) (l4 := zb b) m6 (by omega) hk0 hst.2 (by omega) (by omega)
      have bT := s_behindToken (n := n) (f := 368) (by omega) hmw (sg_fr f1 n8 h1) (by rw [ln368]; omega) (by omega)
      obtain ⟨S2, a2, f2⟩ := ih mm (o + (tks m).length) S1 (kids m.1 m.2.2.1 ++ s) b hr2 (fun y hy => hm y (List.mem_cons_of_mem _ hy)) (sg_fr f1 n8 h2) (by omega) (by omega) (by omega) b1
      refine ⟨S2, ?_, FR_tr f1 f2⟩
      unfold j_X8_has_62
      rw [gI_n (by omega) (by omega), hk0, s_partsOf8 m6, bI_s, a1, bT, bI_s, a2, hb, List.any_cons, Bool.or_assoc]
    unfold l_X8_has_14
    rw [List.length_cons]
    cases fd with
    | true =>
      obtain ⟨S1, a1, f1⟩ := fin true (by rfl)
      refine ⟨S1, ?_, f1⟩
      ((try simp only [i0, i1, i2, i3, i4, i5, i6, i8, i16, i30, i60, i100, i200, i201, i300, i1500, i8000, iM, i_m6]); repeat (first | rw [zt_eq (by omega)] | rw [zt_ne (by omega) (by omega) (by omega)] | rw [zt_nle (by omega) (by omega)] | rw [zt_le (by omega) (by omega)] | rw [zt_nlt (by omega) (by omega)] | rw [zt_lt (by omega) (by omega)] | rw [zt_nm (by omega)] | rw [zt_mm] | rw [zt_ml] | rw [zt_0m] | rw [zt_m0] | rw [zt_n6 (by omega)] | rw [zt_66] | rw [zt_06] | simp (disch := omega) only [i0, i1, i2, i3, i4, i5, i6, i8, i16, i30, i60, i100, i200, i201, i300, i1500, i8000, iM, i_m6, nIa, nIp, nIs, sI_1, sI_22, sL_1, sL_21, sS_21, sS_22, sI_ne, sL_ne, sS_ne, sS_eq, sI_eq, sI_at, sL_eq, sL_at, Nat.add_zero, if_true, if_false, hst1, Nat.add_sub_cancel, zb_t] | rw [bV_e] | rw [pS_e] | rw [bI_s] | rw [bU_s] | rw [bL_s] | rw [gI_n (by omega) (by omega)] | rw [pI_n (by omega) (by omega)] | rw [gL_n (by omega) (by omega)] | rw [pL_n (by omega) (by omega)] | rw [j_X8_has_57]))
      exact a1
    | false =>
      by_cases q1 : m.1 = 1
      · have tk1 := tks_1 q1
        rw [tk1] at h1
        have hv : S.2.1 368 0 (o + 1) = nI m.2.1 := h1.2.1
        have tl : (tks m).length = 2 := by rw [tk1]; rfl
        rw [q1] at hk0
        by_cases z : m.2.1 = m.2.2.1
        · obtain ⟨S1, a1, f1⟩ := fin true (by unfold isN; simp [q1, z])
          refine ⟨S1, ?_, f1⟩
          rw [z] at hv
          ((try simp only [i0, i1, i2, i3, i4, i5, i6, i8, i16, i30, i60, i100, i200, i201, i300, i1500, i8000, iM, i_m6]); repeat (first | rw [zt_eq (by omega)] | rw [zt_ne (by omega) (by omega) (by omega)] | rw [zt_nle (by omega) (by omega)] | rw [zt_le (by omega) (by omega)] | rw [zt_nlt (by omega) (by omega)] | rw [zt_lt (by omega) (by omega)] | rw [zt_nm (by omega)] | rw [zt_mm] | rw [zt_ml] | rw [zt_0m] | rw [zt_m0] | rw [zt_n6 (by omega)] | rw [zt_66] | rw [zt_06] | simp (disch := omega) only [i0, i1, i2, i3, i4, i5, i6, i8, i16, i30, i60, i100, i200, i201, i300, i1500, i8000, iM, i_m6, nIa, nIp, nIs, sI_1, sI_22, sL_1, sL_21, sS_21, sS_22, sI_ne, sL_ne, sS_ne, sS_eq, sI_eq, sI_at, sL_eq, sL_at, Nat.add_zero, if_true, if_false, hst1, Nat.add_sub_cancel, zb_f, hk0, hv] | rw [bV_e] | rw [pS_e] | rw [bI_s] | rw [bU_s] | rw [bL_s] | rw [gI_n (by omega) (by omega)] | rw [pI_n (by omega) (by omega)] | rw [gL_n (by omega) (by omega)] | rw [pL_n (by omega) (by omega)] | rw [j_X8_has_57]))
          exact a1
        · obtain ⟨S1, a1, f1⟩ := fin false (by unfold isN; simp [z])
          refine ⟨S1, ?_, f1⟩
          ((try simp only [i0, i1, i2, i3, i4, i5, i6, i8, i16, i30, i60, i100, i200, i201, i300, i1500, i8000, iM, i_m6]); repeat (first | rw [zt_eq (by omega)] | rw [zt_ne (by omega) (by omega) (by omega)] | rw [zt_nle (by omega) (by omega)] | rw [zt_le (by omega) (by omega)] | rw [zt_nlt (by omega) (by omega)] | rw [zt_lt (by omega) (by omega)] | rw [zt_nm (by omega)] | rw [zt_mm] | rw [zt_ml] | rw [zt_0m] | rw [zt_m0] | rw [zt_n6 (by omega)] | rw [zt_66] | rw [zt_06] | simp (disch := omega) only [i0, i1, i2, i3, i4, i5, i6, i8, i16, i30, i60, i100, i200, i201, i300, i1500, i8000, iM, i_m6, nIa, nIp, nIs, sI_1, sI_22, sL_1, sL_21, sS_21, sS_22, sI_ne, sL_ne, sS_ne, sS_eq, sI_eq, sI_at, sL_eq, sL_at, Nat.add_zero, if_true, if_false, hst1, Nat.add_sub_cancel, zb_f, hk0, hv] | rw [bV_e] | rw [pS_e] | rw [bI_s] | rw [bU_s] | rw [bL_s] | rw [gI_n (by omega) (by omega)] | rw [pI_n (by omega) (by omega)] | rw [gL_n (by omega) (by omega)] | rw [pL_n (by omega) (by omega)] | rw [j_X8_has_61]))
          exact a1
      · obtain ⟨S1, a1, f1⟩ := fin false (by unfold isN; simp [q1])
        refine ⟨S1, ?_, f1⟩
        ((try simp only [i0, i1, i2, i3, i4, i5, i6, i8, i16, i30, i60, i100, i200, i201, i300, i1500, i8000, iM, i_m6]); repeat (first | rw [zt_eq (by omega)] | rw [zt_ne (by omega) (by omega) (by omega)] | rw [zt_nle (by omega) (by omega)] | rw [zt_le (by omega) (by omega)] | rw [zt_nlt (by omega) (by omega)] | rw [zt_lt (by omega) (by omega)] | rw [zt_nm (by omega)] | rw [zt_mm] | rw [zt_ml] | rw [zt_0m] | rw [zt_m0] | rw [zt_n6 (by omega)] | rw [zt_66] | rw [zt_06] | simp (disch := omega) only [i0, i1, i2, i3, i4, i5, i6, i8, i16, i30, i60, i100, i200, i201, i300, i1500, i8000, iM, i_m6, nIa, nIp, nIs, sI_1, sI_22, sL_1, sL_21, sS_21, sS_22, sI_ne, sL_ne, sS_ne, sS_eq, sI_eq, sI_at, sL_eq, sL_at, Nat.add_zero, if_true, if_false, hst1, Nat.add_sub_cancel, zb_f, hk0] | rw [bV_e] | rw [pS_e] | rw [bI_s] | rw [bU_s] | rw [bL_s] | rw [gI_n (by omega) (by omega)] | rw [pI_n (by omega) (by omega)] | rw [gL_n (by omega) (by omega)] | rw [pL_n (by omega) (by omega)] | rw [j_X8_has_61]))
        exact a1
theorem s_has8 {n o : Nat} {S : St} {x : List Mk} (hn : 10000 ≤ n) (hr : Tm x) (hm : ∀ m ∈ x, mW m ∧ m.2.2.1 < 100000) (hs : sg (S.2.1 368 0) o (flt x)) (ho : o + (flt x).length ≤ 8000) (h5 : x.length ≤ 500) : ∃ S', f_X8_has n S (nI o) = some (S', zb (decide (cntN x ≠ 0))) ∧ FR [376] S S' := by
  have f0 : FR [376] S (sI S 376 0 0 (nI 0)) := FR_sI FR_rf (by rw [rg8 (by omega)]; simp)
  obtain ⟨S', a, b⟩ := s_has8_l (n := n) hn x n o (sI S 376 0 0 (nI 0)) [0] false hr hm (sg_fr f0 (by rw [rg8 (by omega)]; simp) hs) ho h5 (by omega) (by rw [sI_self]; exact stk_push (st := []) trivial)
  have e : x.any isN = decide (cntN x ≠ 0) := by
    unfold cntN
    by_cases z : x.any isN = true
    · rw [z]
      obtain ⟨m, hm1, hm2⟩ := List.any_eq_true.mp z
      have : 0 < x.countP isN := List.countP_pos_iff.mpr ⟨m, hm1, hm2⟩
      simp; exact ⟨m.1, m.2.1, m.2.2.1, m.2.2.2.1, m.2.2.2.2, hm1, hm2⟩
    · have z' : x.any isN = false := by simpa using z
      rw [z']
      have : x.countP isN = 0 := List.countP_eq_zero.mpr (fun m hm1 hm2 => z (List.any_eq_true.mpr ⟨m, hm1, hm2⟩))
      rw [this]; rfl
  rw [Bool.false_or, e] at a
  refine ⟨S', ?_, FR_tr f0 b⟩
  unfold f_X8_has g_X8_has
  rw [i0, i1, pI_n (by omega) (by omega)]
  have a' : l_X8_has_14 n n (sI S 376 0 0 (nI 0)) (nI o) (nI 1) (nI 0) = some (S', zb (decide (cntN x ≠ 0))) := a
  rw [a']
  cases decide (cntN x ≠ 0) <;> rfl
