/-! the reference: lifting, and putting a term in a variable's place -/
theorem stk_2 {S S1 : St} {f : Nat} {R st : List Nat} (h : stk (S.2.1 f 0) st) (g : FR R S S1) (hr : rg f 0 ∉ R) : stk (S1.2.1 f 0) st := by rw [(g f 0 hr).2.1]; exact h
theorem kids_3 {k d : Nat} (h : k = 3 ∨ k = 4) : kids k d = [d, d + 1] := by unfold kids; rw [if_neg (by omega), if_pos h]
theorem kids_5 {d : Nat} : kids 5 d = [d, d] := rfl
theorem kids_6 {d : Nat} : kids 6 d = [d, d, d + 1] := rfl
theorem ar_3 {k : Nat} (h : k = 3 ∨ k = 4 ∨ k = 5) : ar k = 2 := by rcases h with q | q | q <;> subst q <;> rfl
theorem s_lift_k {n f k o d : Nat} {K : St → Nat → Int32 → Int32 → Int32 → Option St} {S : St} {st : List Nat} {by_ l7 : Int32} (hf : 367 ≤ f ∧ f ≤ 371) (hk : k ≤ 6) (ho : o < ln f) (hc : S.2.1 f 0 o = nI k) (hs : stk (S.2.1 376 0) st) (hl : st.length ≤ 900) (hn : 10 ≤ n) : ∃ S1, l_X8_lift_115 n K n S f by_ (nI o) (nI st.length) (nI d) l7 (nI (ar k)) (nI (ar k)) = K S1 f by_ l7 (nI (kids k d ++ st).length) ∧ stk (S1.2.1 376 0) (kids k d ++ st) ∧ FR [376] S S1 := by
  obtain ⟨hf1, hf2⟩ := ln8 hf
  have r1 : rg 376 0 ∈ [376] := by rw [rg8 (by omega)]; simp
  obtain ⟨n, rfl⟩ : ∃ y, n = y + 4 := ⟨n - 4, by omega⟩
  have hcases : k ≤ 2 ∨ (k = 3 ∨ k = 4) ∨ k = 5 ∨ k = 6 := by omega
  rcases hcases with q | q | q | q
  · rw [ar_0 q, kids_0 (ar_0 q)]
    refine ⟨S, ?_, hs, FR_rf⟩
    unfold l_X8_lift_115
    rfl
  · rw [ar_3 (by omega), kids_3 q]
    refine ⟨sI (sI S 376 0 st.length (nI (d + 1))) 376 0 (st.length + 1) (nI d), ?_, ?_, FR_sI (FR_sI FR_rf r1) r1⟩
    · ((try simp only [i0, i1, i2, i3, i4, i5, i6, i8, i16, i30, i60, i100, i200, i201, i300, i1500, i8000, iM, i_m6]); repeat (first | rw [zt_eq (by omega)] | rw [zt_ne (by omega) (by omega) (by omega)] | rw [zt_nle (by omega) (by omega)] | rw [zt_le (by omega) (by omega)] | rw [zt_nlt (by omega) (by omega)] | rw [zt_lt (by omega) (by omega)] | rw [zt_nm (by omega)] | rw [zt_mm] | rw [zt_ml] | rw [zt_0m] | rw [zt_m0] | rw [zt_n6 (by omega)] | rw [zt_66] | rw [zt_06] | simp (disch := omega) only [i0, i1, i2, i3, i4, i5, i6, i8, i16, i30, i60, i100, i200, i201, i300, i1500, i8000, iM, i_m6, nIa, nIp, nIs, sI_1, sI_22, sL_1, sL_21, sS_21, sS_22, sI_ne, sL_ne, sS_ne, sS_eq, sI_eq, sI_at, sL_eq, sL_at, Nat.add_zero, if_true, if_false, hc] | rw [bV_e] | rw [pS_e] | rw [bI_s] | rw [bU_s] | rw [bL_s] | rw [gI_n (by omega) (by omega)] | rw [pI_n (by omega) (by omega)] | rw [gL_n (by omega) (by omega)] | rw [pL_n (by omega) (by omega)] | rw [l_X8_lift_115] | rw [j_X8_lift_148] | rw [j_X8_lift_150]))
      rfl
    · rw [sI_self]
      refine stk_push (st := (d + 1) :: st) ?_
      rw [sI_self]
      exact stk_push hs
  · subst q
    rw [ar_3 (by omega), kids_5]
    refine ⟨sI (sI S 376 0 st.length (nI d)) 376 0 (st.length + 1) (nI d), ?_, ?_, FR_sI (FR_sI FR_rf r1) r1⟩
    · ((try simp only [i0, i1, i2, i3, i4, i5, i6, i8, i16, i30, i60, i100, i200, i201, i300, i1500, i8000, iM, i_m6]); repeat (first | rw [zt_eq (by omega)] | rw [zt_ne (by omega) (by omega) (by omega)] | rw [zt_nle (by omega) (by omega)] | rw [zt_le (by omega) (by omega)] | rw [zt_nlt (by omega) (by omega)] | rw [zt_lt (by omega) (by omega)] | rw [zt_nm (by omega)] | rw [zt_mm] | rw [zt_ml] | rw [zt_0m] | rw [zt_m0] | rw [zt_n6 (by omega)] | rw [zt_66] | rw [zt_06] | simp (disch := omega) only [i0, i1, i2, i3, i4, i5, i6, i8, i16, i30, i60, i100, i200, i201, i300, i1500, i8000, iM, i_m6, nIa, nIp, nIs, sI_1, sI_22, sL_1, sL_21, sS_21, sS_22, sI_ne, sL_ne, sS_ne, sS_eq, sI_eq, sI_at, sL_eq, sL_at, Nat.add_zero, if_true, if_false, hc] | rw [bV_e] | rw [pS_e] | rw [bI_s] | rw [bU_s] | rw [bL_s] | rw [gI_n (by omega) (by omega)] | rw [pI_n (by omega) (by omega)] | rw [gL_n (by omega) (by omega)] | rw [pL_n (by omega) (by omega)] | rw [l_X8_lift_115] | rw [j_X8_lift_148] | rw [j_X8_lift_150]))
      rfl
    · rw [sI_self]
      refine stk_push (st := d :: st) ?_
      rw [sI_self]
      exact stk_push hs
  · subst q
    rw [show ar 6 = 3 from rfl, kids_6]
    refine ⟨sI (sI (sI S 376 0 st.length (nI (d + 1))) 376 0 (st.length + 1) (nI d)) 376 0 (st.length + 1 + 1) (nI d), ?_, ?_, FR_sI (FR_sI (FR_sI FR_rf r1) r1) r1⟩
    · ((try simp only [i0, i1, i2, i3, i4, i5, i6, i8, i16, i30, i60, i100, i200, i201, i300, i1500, i8000, iM, i_m6]); repeat (first | rw [zt_eq (by omega)] | rw [zt_ne (by omega) (by omega) (by omega)] | rw [zt_nle (by omega) (by omega)] | rw [zt_le (by omega) (by omega)] | rw [zt_nlt (by omega) (by omega)] | rw [zt_lt (by omega) (by omega)] | rw [zt_nm (by omega)] | rw [zt_mm] | rw [zt_ml] | rw [zt_0m] | rw [zt_m0] | rw [zt_n6 (by omega)] | rw [zt_66] | rw [zt_06] | simp (disch := omega) only [i0, i1, i2, i3, i4, i5, i6, i8, i16, i30, i60, i100, i200, i201, i300, i1500, i8000, iM, i_m6, nIa, nIp, nIs, sI_1, sI_22, sL_1, sL_21, sS_21, sS_22, sI_ne, sL_ne, sS_ne, sS_eq, sI_eq, sI_at, sL_eq, sL_at, Nat.add_zero, if_true, if_false, hc] | rw [bV_e] | rw [pS_e] | rw [bI_s] | rw [bU_s] | rw [bL_s] | rw [gI_n (by omega) (by omega)] | rw [pI_n (by omega) (by omega)] | rw [gL_n (by omega) (by omega)] | rw [pL_n (by omega) (by omega)] | rw [l_X8_lift_115] | rw [j_X8_lift_148] | rw [j_X8_lift_150]))
      rfl
    · rw [sI_self]
      refine stk_push (st := d :: (d + 1) :: st) ?_
      rw [sI_self]
      refine stk_push (st := (d + 1) :: st) ?_
      rw [sI_self]
      exact stk_push hs
/-- a mark whose number is raised if it comes from outside -/
def rsd (by_ : Int32) (m m' : Mk) : Prop := m'.1 = m.1 ∧ m'.2.2.2 = m.2.2.2 ∧ (m.1 ≠ 1 → m'.2.1 = m.2.1) ∧ (m.1 = 1 → nI m'.2.1 = if m.2.1 < m.2.2.1 then nI m.2.1 else nI m.2.1 + by_)
theorem rsd_tks {by_ : Int32} {m m' : Mk} (h : rsd by_ m m') (h1 : m.1 ≠ 1) : tks m' = tks m := by
  obtain ⟨a, b, c, _⟩ := h
  unfold tks
  rw [a, c h1, b]
theorem s_lift_l {n f : Nat} {by_ : Int32} {g : Mk → Mk} (hf : 367 ≤ f ∧ f ≤ 371) (hne : f ≠ 369) (hn : 10000 ≤ n) : ∀ (x : List Mk) (mm o : Nat) (S : St) (st : List Nat) (c : List Nat), run st x = some [] → (∀ m ∈ x, mW m ∧ m.2.2.1 < 100000 ∧ rsd by_ m (g m)) → sg (S.2.1 f 0) o (flt x) → o + (flt x).length ≤ ln f → (flt x).length ≤ 8000 → x.length ≤ 500 → x.length < mm → stk (S.2.1 376 0) st → NXT S c → ∃ S', l_X8_lift_13 n mm S f by_ (nI o) (nI st.length) = some S' ∧ NXT S' (c ++ flt (x.map g)) ∧ FR (376 :: NR) S S' := by
  obtain ⟨hf1, hf2⟩ := ln8 hf
  intro x
  induction x with
  | nil =>
    intro mm o S st c hr hm hs ho h8 h5 hmm hst hN
    obtain ⟨mm, rfl⟩ : ∃ y, mm = y + 1 := ⟨mm - 1, by omega⟩
    rw [run_nil] at hr
    cases hr
    refine ⟨S, rfl, ?_, FR_rf⟩
    rw [List.map_nil, flt_n, List.append_nil]; exact hN
  | cons m r ih =>
    intro mm o S st c hr hm hs ho h8 h5 hmm hst hN
    obtain ⟨mm, rfl⟩ : ∃ y, mm = y + 1 := ⟨mm - 1, by omega⟩
    have hle := run_le hr
    have hge := flt_ge (m :: r)
    obtain ⟨s, rfl, hr2⟩ := run_cc hr
    rw [flt_c] at hs ho h8 hge
    have hk0 := sg_h hs
    obtain ⟨h1, h2⟩ := sg_app.mp hs
    rw [List.length_append] at ho h8 hge
    rw [List.length_cons] at hmm h5 hle
    rw [List.length_cons] at hle
    obtain ⟨hmw, hmd, hrs⟩ := hm m List.mem_cons_self
    have hmr : ∀ y ∈ r, mW y ∧ y.2.2.1 < 100000 ∧ rsd by_ y (g y) := fun y hy => hm y (List.mem_cons_of_mem _ hy)
    have m6 := hmw.1
    have mi := hmw.2.1
    have tp := tks_pos m
    have hst1 : S.2.1 376 0 s.length = nI m.2.2.1 := hst.1
    have hst2 := hst.2
    have e1 := s_behindToken (n := n) hf hmw h1 (by omega) (by omega)
    rw [List.map_cons, flt_c]
    have nN : rg f 0 ∉ NR := by rw [rg8 (by omega)]; simp [NR]; omega
    have n6 : rg 376 0 ∉ NR := by rw [rg8 (by omega)]; simp [NR]
    -- the turn's end
    have fin : ∀ S1 : St, NXT S1 (c ++ tks (g m)) → FR NR S S1 → ∃ S', j_X8_lift_102 n (fun S a1 l3 l4 l5 => l_X8_lift_13 n mm S a1 l3 l4 l5) S1 f by_ (nI o) (nI s.length) (nI m.2.2.1) (nI (o + (tks m).length)) = some S' ∧ NXT S' (c ++ (tks (g m) ++ flt (r.map g))) ∧ FR (376 :: NR) S S' := by
      intro S1 hN1 hF1
      have hk1 : S1.2.1 f 0 o = nI m.1 := by rw [(hF1 f 0 nN).2.1]; exact hk0
      obtain ⟨S2, a, b, d⟩ := s_lift_k (n := n) (K := fun S a1 l3 l4 l5 => l_X8_lift_13 n mm S a1 l3 l4 l5) (by_ := by_) (l7 := nI (o + (tks m).length)) (d := m.2.2.1) hf m6 (by omega) hk1 (stk_2 hst2 hF1 n6) (by omega) (by omega)
      have hF2 : FR (376 :: NR) S S2 := FR_tr (FR_mo hF1 (fun x hx => List.mem_cons_of_mem _ hx)) (FR_mo d (fun x hx => by rw [List.mem_singleton.mp hx]; exact List.mem_cons_self))
      obtain ⟨S3, a', b', d'⟩ := ih mm (o + (tks m).length) S2 (kids m.1 m.2.2.1 ++ s) (c ++ tks (g m)) hr2 hmr (sg_fr hF2 (by rw [rg8 (by omega)]; simp [NR]; omega) h2) (by omega) (by omega) (by omega) (by omega) b (NXT_fr hN1 d (by simp) (by simp) (by simp))
      refine ⟨S3, ?_, by rw [List.append_assoc] at b'; exact b', FR_tr hF2 d'⟩
      unfold j_X8_lift_102
      rw [gI_n (by omega) (by omega), hk1, s_partsOf8 m6, bI_s, a]
      exact a'
    unfold l_X8_lift_13
    rw [List.length_cons]
    by_cases hc : c.length ≤ 8000
    · obtain ⟨w1, w2, w3⟩ := NXT_ok hN hc
      by_cases q1 : m.1 = 1
      · have tk1 := tks_1 q1
        rw [tk1] at h1
        have hv : S.2.1 f 0 (o + 1) = nI m.2.1 := h1.2.1
        have tl : (tks m).length = 2 := by rw [tk1]; rfl
        have tkg : tks (g m) = [1, (g m).2.1] := tks_1 (by rw [hrs.1, q1])
        obtain ⟨S1, a, b, d⟩ := s_put (n := n) hN (x := 1) (v := nI 1) rfl
        have hv1 : S1.2.1 f 0 (o + 1) = nI m.2.1 := by rw [(d f 0 nN).2.1]; exact hv
        obtain ⟨S2, a', b', d'⟩ := s_put (n := n) b (x := (g m).2.1) (v := nI (g m).2.1) rfl
        rw [List.append_assoc] at b'
        obtain ⟨S3, a2, b2, d2⟩ := fin S2 (by rw [tkg]; exact b') (FR_tr d d')
        refine ⟨S3, ?_, b2, d2⟩
        have hg := hrs.2.2.2 q1
        by_cases z : m.2.1 < m.2.2.1
        · rw [if_pos z] at hg
          rw [hg] at a'
          ((try simp only [i0, i1, i2, i3, i4, i5, i6, i8, i16, i30, i60, i100, i200, i201, i300, i1500, i8000, iM, i_m6]); repeat (first | rw [zt_eq (by omega)] | rw [zt_ne (by omega) (by omega) (by omega)] | rw [zt_nle (by omega) (by omega)] | rw [zt_le (by omega) (by omega)] | rw [zt_nlt (by omega) (by omega)] | rw [zt_lt (by omega) (by omega)] | rw [zt_nm (by omega)] | rw [zt_mm] | rw [zt_ml] | rw [zt_0m] | rw [zt_m0] | rw [zt_n6 (by omega)] | rw [zt_66] | rw [zt_06] | simp (disch := omega) only [i0, i1, i2, i3, i4, i5, i6, i8, i16, i30, i60, i100, i200, i201, i300, i1500, i8000, iM, i_m6, nIa, nIp, nIs, sI_1, sI_22, sL_1, sL_21, sS_21, sS_22, sI_ne, sL_ne, sS_ne, sS_eq, sI_eq, sI_at, sL_eq, sL_at, Nat.add_zero, if_true, if_false, w1, hst1, Nat.add_sub_cancel, e1, hk0, q1, a, hv1, a'] | rw [bV_e] | rw [pS_e] | rw [bI_s] | rw [bU_s] | rw [bL_s] | rw [gI_n (by omega) (by omega)] | rw [pI_n (by omega) (by omega)] | rw [gL_n (by omega) (by omega)] | rw [pL_n (by omega) (by omega)] | rw [j_X8_lift_87]))
          exact a2
        · rw [if_neg z] at hg
          rw [hg] at a'
          ((try simp only [i0, i1, i2, i3, i4, i5, i6, i8, i16, i30, i60, i100, i200, i201, i300, i1500, i8000, iM, i_m6]); repeat (first | rw [zt_eq (by omega)] | rw [zt_ne (by omega) (by omega) (by omega)] | rw [zt_nle (by omega) (by omega)] | rw [zt_le (by omega) (by omega)] | rw [zt_nlt (by omega) (by omega)] | rw [zt_lt (by omega) (by omega)] | rw [zt_nm (by omega)] | rw [zt_mm] | rw [zt_ml] | rw [zt_0m] | rw [zt_m0] | rw [zt_n6 (by omega)] | rw [zt_66] | rw [zt_06] | simp (disch := omega) only [i0, i1, i2, i3, i4, i5, i6, i8, i16, i30, i60, i100, i200, i201, i300, i1500, i8000, iM, i_m6, nIa, nIp, nIs, sI_1, sI_22, sL_1, sL_21, sS_21, sS_22, sI_ne, sL_ne, sS_ne, sS_eq, sI_eq, sI_at, sL_eq, sL_at, Nat.add_zero, if_true, if_false, w1, hst1, Nat.add_sub_cancel, e1, hk0, q1, a, hv1, a'] | rw [bV_e] | rw [pS_e] | rw [bI_s] | rw [bU_s] | rw [bL_s] | rw [gI_n (by omega) (by omega)] | rw [pI_n (by omega) (by omega)] | rw [gL_n (by omega) (by omega)] | rw [pL_n (by omega) (by omega)] | rw [j_X8_lift_87]))
          exact a2
      · have tkg : tks (g m) = tks m := rsd_tks hrs q1
        obtain ⟨S1, a, b, d⟩ := s_copy (n := n) hf hne h1 hN rfl (by omega) (by omega)
        obtain ⟨S3, a2, b2, d2⟩ := fin S1 (by rw [tkg]; exact b) d
        refine ⟨S3, ?_, b2, d2⟩
        ((try simp only [i0, i1, i2, i3, i4, i5, i6, i8, i16, i30, i60, i100, i200, i201, i300, i1500, i8000, iM, i_m6]); repeat (first | rw [zt_eq (by omega)] | rw [zt_ne (by omega) (by omega) (by omega)] | rw [zt_nle (by omega) (by omega)] | rw [zt_le (by omega) (by omega)] | rw [zt_nlt (by omega) (by omega)] | rw [zt_lt (by omega) (by omega)] | rw [zt_nm (by omega)] | rw [zt_mm] | rw [zt_ml] | rw [zt_0m] | rw [zt_m0] | rw [zt_n6 (by omega)] | rw [zt_66] | rw [zt_06] | simp (disch := omega) only [i0, i1, i2, i3, i4, i5, i6, i8, i16, i30, i60, i100, i200, i201, i300, i1500, i8000, iM, i_m6, nIa, nIp, nIs, sI_1, sI_22, sL_1, sL_21, sS_21, sS_22, sI_ne, sL_ne, sS_ne, sS_eq, sI_eq, sI_at, sL_eq, sL_at, Nat.add_zero, if_true, if_false, w1, hst1, Nat.add_sub_cancel, e1, hk0, a] | rw [bV_e] | rw [pS_e] | rw [bI_s] | rw [bU_s] | rw [bL_s] | rw [gI_n (by omega) (by omega)] | rw [pI_n (by omega) (by omega)] | rw [gL_n (by omega) (by omega)] | rw [pL_n (by omega) (by omega)]))
        exact a2
    · obtain ⟨w1, w2⟩ := NXT_w hN hc
      refine ⟨S, ?_, NXT_mo hN hc, FR_rf⟩
      ((try simp only [i0, i1, i2, i3, i4, i5, i6, i8, i16, i30, i60, i100, i200, i201, i300, i1500, i8000, iM, i_m6]); repeat (first | rw [zt_eq (by omega)] | rw [zt_ne (by omega) (by omega) (by omega)] | rw [zt_nle (by omega) (by omega)] | rw [zt_le (by omega) (by omega)] | rw [zt_nlt (by omega) (by omega)] | rw [zt_lt (by omega) (by omega)] | rw [zt_nm (by omega)] | rw [zt_mm] | rw [zt_ml] | rw [zt_0m] | rw [zt_m0] | rw [zt_n6 (by omega)] | rw [zt_66] | rw [zt_06] | simp (disch := omega) only [i0, i1, i2, i3, i4, i5, i6, i8, i16, i30, i60, i100, i200, i201, i300, i1500, i8000, iM, i_m6, nIa, nIp, nIs, sI_1, sI_22, sL_1, sL_21, sS_21, sS_22, sI_ne, sL_ne, sS_ne, sS_eq, sI_eq, sI_at, sL_eq, sL_at, Nat.add_zero, if_true, if_false, w1] | rw [bV_e] | rw [pS_e] | rw [bI_s] | rw [bU_s] | rw [bL_s] | rw [gI_n (by omega) (by omega)] | rw [pI_n (by omega) (by omega)] | rw [gL_n (by omega) (by omega)] | rw [pL_n (by omega) (by omega)]))
theorem s_lift {n f o : Nat} {by_ : Int32} {g : Mk → Mk} {x : List Mk} {S : St} {c : List Nat} (hf : 367 ≤ f ∧ f ≤ 371) (hne : f ≠ 369) (hn : 10000 ≤ n) (hr : Tm x) (hm : ∀ m ∈ x, mW m ∧ m.2.2.1 < 100000 ∧ rsd by_ m (g m)) (hs : sg (S.2.1 f 0) o (flt x)) (ho : o + (flt x).length ≤ ln f) (h8 : (flt x).length ≤ 8000) (h5 : x.length ≤ 500) (hN : NXT S c) : ∃ S', f_X8_lift n S f (nI o) by_ = some S' ∧ NXT S' (c ++ flt (x.map g)) ∧ FR (376 :: NR) S S' := by
  have fr0 : FR [376] S (sI S 376 0 0 (nI 0)) := FR_sI FR_rf (by rw [rg8 (by omega)]; simp)
  obtain ⟨S', a, b, d⟩ := s_lift_l (n := n) hf hne hn x n o (sI S 376 0 0 (nI 0)) [0] c hr hm (sg_fr fr0 (by rw [rg8 (by omega)]; simp; omega) hs) ho h8 h5 (by omega) (by rw [sI_self]; exact stk_push (st := []) trivial) (NXT_fr hN fr0 (by simp) (by simp) (by simp))
  refine ⟨S', ?_, b, FR_tr (FR_mo fr0 (by simp)) d⟩
  unfold f_X8_lift
  ((try simp only [i0, i1, i2, i3, i4, i5, i6, i8, i16, i30, i60, i100, i200, i201, i300, i1500, i8000, iM, i_m6]); repeat (first | rw [zt_eq (by omega)] | rw [zt_ne (by omega) (by omega) (by omega)] | rw [zt_nle (by omega) (by omega)] | rw [zt_le (by omega) (by omega)] | rw [zt_nlt (by omega) (by omega)] | rw [zt_lt (by omega) (by omega)] | rw [zt_nm (by omega)] | rw [zt_mm] | rw [zt_ml] | rw [zt_0m] | rw [zt_m0] | rw [zt_n6 (by omega)] | rw [zt_66] | rw [zt_06] | simp (disch := omega) only [i0, i1, i2, i3, i4, i5, i6, i8, i16, i30, i60, i100, i200, i201, i300, i1500, i8000, iM, i_m6, nIa, nIp, nIs, sI_1, sI_22, sL_1, sL_21, sS_21, sS_22, sI_ne, sL_ne, sS_ne, sS_eq, sI_eq, sI_at, sL_eq, sL_at, Nat.add_zero, if_true, if_false] | rw [bV_e] | rw [pS_e] | rw [bI_s] | rw [bU_s] | rw [bL_s] | rw [gI_n (by omega) (by omega)] | rw [pI_n (by omega) (by omega)] | rw [gL_n (by omega) (by omega)] | rw [pL_n (by omega) (by omega)]))
  exact a
