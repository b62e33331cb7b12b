/-! the reference: a term in the place of a body's variable -/
theorem s_with_k {n f f3 k o d : Nat} {K : St → Nat → Nat → Int32 → Int32 → Int32 → Option St} {S : St} {st : List Nat} {l4 l8 : Int32} (hf : 367 ≤ f ∧ f ≤ 371) (hk : k ≤ 6) (ho : o < ln f) (hc : S.2.1 f 0 o = nI k) (hs : stk (S.2.1 377 0) st) (hl : st.length ≤ 900) (hn : 10 ≤ n) : ∃ S1, l_X8_with_146 n K n S f f3 l4 (nI o) (nI st.length) (nI d) l8 (nI (ar k)) (nI (ar k)) = K S1 f f3 l4 l8 (nI (kids k d ++ st).length) ∧ stk (S1.2.1 377 0) (kids k d ++ st) ∧ FR [377] S S1 := by
  obtain ⟨hf1, hf2⟩ := ln8 hf
  have r1 : rg 377 0 ∈ [377] := by rw [rg8 (by omega)]; simp
  obtain ⟨n, rfl⟩ : ∃ y, n = y + 4 := ⟨n - 4, by omega⟩
  have hcases : k ≤ 2 ∨ (k = 3 ∨ k = 4) ∨ k = 5 ∨ k = 6 := by omega
  rcases hcases with q | q | q | q
  · rw [ar_0 q, kids_0 (ar_0 q)]
    refine ⟨S, ?_, hs, FR_rf⟩
    unfold l_X8_with_146
    rfl
  · rw [ar_3 (by omega), kids_3 q]
    refine ⟨sI (sI S 377 0 st.length (nI (d + 1))) 377 0 (st.length + 1) (nI d), ?_, ?_, FR_sI (FR_sI FR_rf r1) r1⟩
    · ((try simp only [i0, i1, i2, i3, i4, i5, i6, i8, i16, i30, i60, i100, i200, i201, i300, i1500, i8000, iM, i_m6]); repeat (first | rw [zt_eq (by omega)] | rw [zt_ne (by omega) (by omega) (by omega)] | rw [zt_nle (by omega) (by omega)] | rw [zt_le (by omega) (by omega)] | rw [zt_nlt (by omega) (by omega)] | rw [zt_lt (by omega) (by omega)] | rw [zt_nm (by omega)] | rw [zt_mm] | rw [zt_ml] | rw [zt_0m] | rw [zt_m0] | rw [zt_n6 (by omega)] | rw [zt_66] | rw [zt_06] | simp (disch := omega) only [i0, i1, i2, i3, i4, i5, i6, i8, i16, i30, i60, i100, i200, i201, i300, i1500, i8000, iM, i_m6, nIa, nIp, nIs, sI_1, sI_22, sL_1, sL_21, sS_21, sS_22, sI_ne, sL_ne, sS_ne, sS_eq, sI_eq, sI_at, sL_eq, sL_at, Nat.add_zero, if_true, if_false, hc] | rw [bV_e] | rw [pS_e] | rw [bI_s] | rw [bU_s] | rw [bL_s] | rw [gI_n (by omega) (by omega)] | rw [pI_n (by omega) (by omega)] | rw [gL_n (by omega) (by omega)] | rw [pL_n (by omega) (by omega)] | rw [l_X8_with_146] | rw [j_X8_with_179] | rw [j_X8_with_181]))
      rfl
    · rw [sI_self]
      refine stk_push (st := (d + 1) :: st) ?_
      rw [sI_self]
      exact stk_push hs
  · subst q
    rw [ar_3 (by omega), kids_5]
    refine ⟨sI (sI S 377 0 st.length (nI d)) 377 0 (st.length + 1) (nI d), ?_, ?_, FR_sI (FR_sI FR_rf r1) r1⟩
    · ((try simp only [i0, i1, i2, i3, i4, i5, i6, i8, i16, i30, i60, i100, i200, i201, i300, i1500, i8000, iM, i_m6]); repeat (first | rw [zt_eq (by omega)] | rw [zt_ne (by omega) (by omega) (by omega)] | rw [zt_nle (by omega) (by omega)] | rw [zt_le (by omega) (by omega)] | rw [zt_nlt (by omega) (by omega)] | rw [zt_lt (by omega) (by omega)] | rw [zt_nm (by omega)] | rw [zt_mm] | rw [zt_ml] | rw [zt_0m] | rw [zt_m0] | rw [zt_n6 (by omega)] | rw [zt_66] | rw [zt_06] | simp (disch := omega) only [i0, i1, i2, i3, i4, i5, i6, i8, i16, i30, i60, i100, i200, i201, i300, i1500, i8000, iM, i_m6, nIa, nIp, nIs, sI_1, sI_22, sL_1, sL_21, sS_21, sS_22, sI_ne, sL_ne, sS_ne, sS_eq, sI_eq, sI_at, sL_eq, sL_at, Nat.add_zero, if_true, if_false, hc] | rw [bV_e] | rw [pS_e] | rw [bI_s] | rw [bU_s] | rw [bL_s] | rw [gI_n (by omega) (by omega)] | rw [pI_n (by omega) (by omega)] | rw [gL_n (by omega) (by omega)] | rw [pL_n (by omega) (by omega)] | rw [l_X8_with_146] | rw [j_X8_with_179] | rw [j_X8_with_181]))
      rfl
    · rw [sI_self]
      refine stk_push (st := d :: st) ?_
      rw [sI_self]
      exact stk_push hs
  · subst q
    rw [show ar 6 = 3 from rfl, kids_6]
    refine ⟨sI (sI (sI S 377 0 st.length (nI (d + 1))) 377 0 (st.length + 1) (nI d)) 377 0 (st.length + 1 + 1) (nI d), ?_, ?_, FR_sI (FR_sI (FR_sI FR_rf r1) r1) r1⟩
    · ((try simp only [i0, i1, i2, i3, i4, i5, i6, i8, i16, i30, i60, i100, i200, i201, i300, i1500, i8000, iM, i_m6]); repeat (first | rw [zt_eq (by omega)] | rw [zt_ne (by omega) (by omega) (by omega)] | rw [zt_nle (by omega) (by omega)] | rw [zt_le (by omega) (by omega)] | rw [zt_nlt (by omega) (by omega)] | rw [zt_lt (by omega) (by omega)] | rw [zt_nm (by omega)] | rw [zt_mm] | rw [zt_ml] | rw [zt_0m] | rw [zt_m0] | rw [zt_n6 (by omega)] | rw [zt_66] | rw [zt_06] | simp (disch := omega) only [i0, i1, i2, i3, i4, i5, i6, i8, i16, i30, i60, i100, i200, i201, i300, i1500, i8000, iM, i_m6, nIa, nIp, nIs, sI_1, sI_22, sL_1, sL_21, sS_21, sS_22, sI_ne, sL_ne, sS_ne, sS_eq, sI_eq, sI_at, sL_eq, sL_at, Nat.add_zero, if_true, if_false, hc] | rw [bV_e] | rw [pS_e] | rw [bI_s] | rw [bU_s] | rw [bL_s] | rw [gI_n (by omega) (by omega)] | rw [pI_n (by omega) (by omega)] | rw [gL_n (by omega) (by omega)] | rw [pL_n (by omega) (by omega)] | rw [l_X8_with_146] | rw [j_X8_with_179] | rw [j_X8_with_181]))
      rfl
    · rw [sI_self]
      refine stk_push (st := d :: (d + 1) :: st) ?_
      rw [sI_self]
      refine stk_push (st := (d + 1) :: st) ?_
      rw [sI_self]
      exact stk_push hs
def WR : List Nat := 377 :: 376 :: NR
theorem rsd_up {e : Nat} {m : Mk} : rsd (nI e) m (upM e m) := by
  refine ⟨rfl, rfl, fun z => ?_, fun z => ?_⟩
  · show (if m.1 = 1 ∧ m.2.2.1 ≤ m.2.1 then m.2.1 + e else m.2.1) = m.2.1
    rw [if_neg (fun w => z w.1)]
  · show nI (if m.1 = 1 ∧ m.2.2.1 ≤ m.2.1 then m.2.1 + e else m.2.1) = _
    by_cases w : m.2.1 < m.2.2.1
    · rw [if_neg (by omega), if_pos w]
    · rw [if_pos ⟨z, by omega⟩, if_neg w, nIa]
theorem s_with_l {n f f3 o4 : Nat} {val : List Mk} (hf : 367 ≤ f ∧ f ≤ 371) (hne : f ≠ 369) (hf3 : 367 ≤ f3 ∧ f3 ≤ 371) (hne3 : f3 ≠ 369) (hn : 10000 ≤ n) (hv : Tm val) (hvm : ∀ m ∈ val, mW m ∧ m.2.2.1 < 100000) (hvo : o4 + (flt val).length ≤ ln f3) (hv8 : (flt val).length ≤ 8000) (hv5 : val.length ≤ 500) : ∀ (x : List Mk) (mm o : Nat) (S : St) (st : List Nat) (c : List Nat), run st x = some [] → (∀ m ∈ x, mW m ∧ m.2.2.1 < 100000) → sg (S.2.1 f 0) o (flt x) → sg (S.2.1 f3 0) o4 (flt val) → o + (flt x).length ≤ ln f → (flt x).length ≤ 8000 → x.length ≤ 500 → x.length < mm → stk (S.2.1 377 0) st → NXT S c → ∃ S', l_X8_with_13 n mm S f f3 (nI o4) (nI o) (nI st.length) = some S' ∧ NXT S' (c ++ flt (fil x val)) ∧ FR WR S S' := by
  obtain ⟨hf1, hf2⟩ := ln8 hf
  obtain ⟨hg1, hg2⟩ := ln8 hf3
  intro x
  induction x with
  | nil =>
    intro mm o S st c hr hm hs hsv ho h8 h5 hmm hst hN
    obtain ⟨mm, rfl⟩ : ∃ y, mm = y + 1 := ⟨mm - 1, by omega⟩
    rw [run_nil] at hr
    cases hr
    refine ⟨S, rfl, ?_, FR_rf⟩
    rw [show fil [] val = [] from rfl, flt_n, List.append_nil]; exact hN
  | cons m r ih =>
    intro mm o S st c hr hm hs hsv ho h8 h5 hmm hst hN
    obtain ⟨mm, rfl⟩ : ∃ y, mm = y + 1 := ⟨mm - 1, by omega⟩
    have hle := run_le hr
    have hge := flt_ge (m :: r)
    obtain ⟨s, rfl, hr2⟩ := run_cc hr
    rw [flt_c] at hs ho h8 hge
    have hk0 := sg_h hs
    obtain ⟨h1, h2⟩ := sg_app.mp hs
    rw [List.length_append] at ho h8 hge
    rw [List.length_cons] at hmm h5 hle
    rw [List.length_cons] at hle
    obtain ⟨hmw, hmd⟩ := hm m List.mem_cons_self
    have hmr : ∀ y ∈ r, mW y ∧ y.2.2.1 < 100000 := fun y hy => hm y (List.mem_cons_of_mem _ hy)
    have m6 := hmw.1
    have mi := hmw.2.1
    have tp := tks_pos m
    have hst1 : S.2.1 377 0 s.length = nI m.2.2.1 := hst.1
    have hst2 := hst.2
    have e1 := s_behindToken (n := n) hf hmw h1 (by omega) (by omega)
    rw [fil_c, flt_app]
    have nN : ∀ g, 367 ≤ g ∧ g ≤ 371 → g ≠ 369 → rg g 0 ∉ WR := fun g h1 h2 => by rw [rg8 (by omega)]; simp [WR, NR]; omega
    have n6 : rg 377 0 ∉ (376 :: NR) := by rw [rg8 (by omega)]; simp [NR]
    have sub : ∀ y ∈ NR, y ∈ 376 :: NR := fun y hy => List.mem_cons_of_mem _ hy
    have sub2 : ∀ y ∈ 376 :: NR, y ∈ WR := fun y hy => List.mem_cons_of_mem _ hy
    -- the turn's end
    have fin : ∀ S1 : St, NXT S1 (c ++ flt (fil1 val m)) → FR (376 :: NR) S S1 → ∃ S', j_X8_with_133 n (fun S a1 a3 l4 l5 l6 => l_X8_with_13 n mm S a1 a3 l4 l5 l6) S1 f f3 (nI o4) (nI o) (nI s.length) (nI m.2.2.1) (nI (o + (tks m).length)) = some S' ∧ NXT S' (c ++ (flt (fil1 val m) ++ flt (fil r val))) ∧ FR WR S S' := by
      intro S1 hN1 hF1
      have hF1' := FR_mo hF1 sub2
      have hk1 : S1.2.1 f 0 o = nI m.1 := by rw [(hF1' f 0 (nN f hf hne)).2.1]; exact hk0
      obtain ⟨S2, a, b, d⟩ := s_with_k (n := n) (K := fun S a1 a3 l4 l5 l6 => l_X8_with_13 n mm S a1 a3 l4 l5 l6) (f3 := f3) (l4 := nI o4) (l8 := nI (o + (tks m).length)) (d := m.2.2.1) hf m6 (by omega) hk1 (stk_2 hst2 hF1 n6) (by omega) (by omega)
      have hF2 : FR WR S S2 := FR_tr hF1' (FR_mo d (fun x hx => by rw [List.mem_singleton.mp hx]; exact List.mem_cons_self))
      obtain ⟨S3, a', b', d'⟩ := ih mm (o + (tks m).length) S2 (kids m.1 m.2.2.1 ++ s) (c ++ flt (fil1 val m)) hr2 hmr (sg_fr hF2 (nN f hf hne) h2) (sg_fr hF2 (nN f3 hf3 hne3) hsv) (by omega) (by omega) (by omega) (by omega) b (NXT_fr hN1 d (by simp) (by simp) (by simp))
      refine ⟨S3, ?_, by rw [List.append_assoc] at b'; exact b', FR_tr hF2 d'⟩
      unfold j_X8_with_133
      rw [gI_n (by omega) (by omega), hk1, s_partsOf8 m6, bI_s, a]
      exact a'
    unfold l_X8_with_13
    rw [List.length_cons]
    by_cases hc : c.length ≤ 8000
    · obtain ⟨w1, w2, w3⟩ := NXT_ok hN hc
      by_cases q1 : m.1 = 1
      · have tk1 := tks_1 q1
        rw [tk1] at h1
        have hv0 : S.2.1 f 0 (o + 1) = nI m.2.1 := h1.2.1
        have tl : (tks m).length = 2 := by rw [tk1]; rfl
        by_cases z0 : m.2.1 = m.2.2.1
        · have hN1 : isN m = true := by unfold isN; simp [q1, z0]
          have ef : fil1 val m = val.map (upM m.2.2.1) := by unfold fil1; rw [if_pos hN1]
          obtain ⟨S1, a, b, d⟩ := s_lift (n := n) (g := upM m.2.2.1) (by_ := nI m.2.2.1) (c := c) hf3 hne3 hn hv (fun y hy => ⟨(hvm y hy).1, (hvm y hy).2, rsd_up⟩) hsv hvo hv8 hv5 hN
          obtain ⟨S3, a2, b2, d2⟩ := fin S1 (by rw [ef]; exact b) d
          refine ⟨S3, ?_, b2, d2⟩
          ((try simp only [i0, i1, i2, i3, i4, i5, i6, i8, i16, i30, i60, i100, i200, i201, i300, i1500, i8000, iM, i_m6]); repeat (first | rw [zt_eq (by omega)] | rw [zt_ne (by omega) (by omega) (by omega)] | rw [zt_nle (by omega) (by omega)] | rw [zt_le (by omega) (by omega)] | rw [zt_nlt (by omega) (by omega)] | rw [zt_lt (by omega) (by omega)] | rw [zt_nm (by omega)] | rw [zt_mm] | rw [zt_ml] | rw [zt_0m] | rw [zt_m0] | rw [zt_n6 (by omega)] | rw [zt_66] | rw [zt_06] | simp (disch := omega) only [i0, i1, i2, i3, i4, i5, i6, i8, i16, i30, i60, i100, i200, i201, i300, i1500, i8000, iM, i_m6, nIa, nIp, nIs, sI_1, sI_22, sL_1, sL_21, sS_21, sS_22, sI_ne, sL_ne, sS_ne, sS_eq, sI_eq, sI_at, sL_eq, sL_at, Nat.add_zero, if_true, if_false, w1, hst1, Nat.add_sub_cancel, e1, hk0, q1, hv0, a] | rw [bV_e] | rw [pS_e] | rw [bI_s] | rw [bU_s] | rw [bL_s] | rw [gI_n (by omega) (by omega)] | rw [pI_n (by omega) (by omega)] | rw [gL_n (by omega) (by omega)] | rw [pL_n (by omega) (by omega)]))
          exact a2
        · have hN1 : ¬ isN m = true := by unfold isN; simp [q1, z0]
          have ef : flt (fil1 val m) = [1, if m.2.2.1 ≤ m.2.1 then m.2.1 - 1 else m.2.1] := by
            unfold fil1; rw [if_neg hN1]
            show tks (pdM m) ++ [] = _
            rw [List.append_nil, tks_1 (show (pdM m).1 = 1 from q1)]
            show [1, if m.1 = 1 ∧ m.2.2.1 ≤ m.2.1 then m.2.1 - 1 else m.2.1] = _
            simp only [q1, true_and]
          obtain ⟨S1, a, b, d⟩ := s_put (n := n) hN (x := 1) (v := nI 1) rfl
          have hv1 : S1.2.1 f 0 (o + 1) = nI m.2.1 := by rw [(d f 0 (by rw [rg8 (by omega)]; simp [NR]; omega)).2.1]; exact hv0
          obtain ⟨S2, a', b', d'⟩ := s_put (n := n) b (x := if m.2.2.1 ≤ m.2.1 then m.2.1 - 1 else m.2.1) (v := nI (if m.2.2.1 ≤ m.2.1 then m.2.1 - 1 else m.2.1)) rfl
          rw [List.append_assoc] at b'
          obtain ⟨S3, a2, b2, d2⟩ := fin S2 (by rw [ef]; exact b') (FR_mo (FR_tr d d') sub)
          refine ⟨S3, ?_, b2, d2⟩
          by_cases z : m.2.1 < m.2.2.1
          · rw [if_neg (by omega)] at a'
            ((try simp only [i0, i1, i2, i3, i4, i5, i6, i8, i16, i30, i60, i100, i200, i201, i300, i1500, i8000, iM, i_m6]); repeat (first | rw [zt_eq (by omega)] | rw [zt_ne (by omega) (by omega) (by omega)] | rw [zt_nle (by omega) (by omega)] | rw [zt_le (by omega) (by omega)] | rw [zt_nlt (by omega) (by omega)] | rw [zt_lt (by omega) (by omega)] | rw [zt_nm (by omega)] | rw [zt_mm] | rw [zt_ml] | rw [zt_0m] | rw [zt_m0] | rw [zt_n6 (by omega)] | rw [zt_66] | rw [zt_06] | simp (disch := omega) only [i0, i1, i2, i3, i4, i5, i6, i8, i16, i30, i60, i100, i200, i201, i300, i1500, i8000, iM, i_m6, nIa, nIp, nIs, sI_1, sI_22, sL_1, sL_21, sS_21, sS_22, sI_ne, sL_ne, sS_ne, sS_eq, sI_eq, sI_at, sL_eq, sL_at, Nat.add_zero, if_true, if_false, w1, hst1, Nat.add_sub_cancel, e1, hk0, q1, a, hv0, hv1, a'] | rw [bV_e] | rw [pS_e] | rw [bI_s] | rw [bU_s] | rw [bL_s] | rw [gI_n (by omega) (by omega)] | rw [pI_n (by omega) (by omega)] | rw [gL_n (by omega) (by omega)] | rw [pL_n (by omega) (by omega)] | rw [j_X8_with_76] | rw [j_X8_with_118]))
            exact a2
          · rw [if_pos (by omega)] at a'
            ((try simp only [i0, i1, i2, i3, i4, i5, i6, i8, i16, i30, i60, i100, i200, i201, i300, i1500, i8000, iM, i_m6]); repeat (first | rw [zt_eq (by omega)] | rw [zt_ne (by omega) (by omega) (by omega)] | rw [zt_nle (by omega) (by omega)] | rw [zt_le (by omega) (by omega)] | rw [zt_nlt (by omega) (by omega)] | rw [zt_lt (by omega) (by omega)] | rw [zt_nm (by omega)] | rw [zt_mm] | rw [zt_ml] | rw [zt_0m] | rw [zt_m0] | rw [zt_n6 (by omega)] | rw [zt_66] | rw [zt_06] | simp (disch := omega) only [i0, i1, i2, i3, i4, i5, i6, i8, i16, i30, i60, i100, i200, i201, i300, i1500, i8000, iM, i_m6, nIa, nIp, nIs, sI_1, sI_22, sL_1, sL_21, sS_21, sS_22, sI_ne, sL_ne, sS_ne, sS_eq, sI_eq, sI_at, sL_eq, sL_at, Nat.add_zero, if_true, if_false, w1, hst1, Nat.add_sub_cancel, e1, hk0, q1, a, hv0, hv1, a'] | rw [bV_e] | rw [pS_e] | rw [bI_s] | rw [bU_s] | rw [bL_s] | rw [gI_n (by omega) (by omega)] | rw [pI_n (by omega) (by omega)] | rw [gL_n (by omega) (by omega)] | rw [pL_n (by omega) (by omega)] | rw [j_X8_with_76] | rw [j_X8_with_118]))
            exact a2
      · have hN1 : ¬ isN m = true := by unfold isN; simp [q1]
        have ef : flt (fil1 val m) = tks m := by
          unfold fil1; rw [if_neg hN1]
          show tks (pdM m) ++ [] = _
          rw [List.append_nil]
          have : pdM m = m := by unfold pdM; rw [if_neg (fun w => q1 w.1)]
          rw [this]
        obtain ⟨S1, a, b, d⟩ := s_copy (n := n) hf hne h1 hN rfl (by omega) (by omega)
        obtain ⟨S3, a2, b2, d2⟩ := fin S1 (by rw [ef]; exact b) (FR_mo d sub)
        refine ⟨S3, ?_, b2, d2⟩
        ((try simp only [i0, i1, i2, i3, i4, i5, i6, i8, i16, i30, i60, i100, i200, i201, i300, i1500, i8000, iM, i_m6]); repeat (first | rw [zt_eq (by omega)] | rw [zt_ne (by omega) (by omega) (by omega)] | rw [zt_nle (by omega) (by omega)] | rw [zt_le (by omega) (by omega)] | rw [zt_nlt (by omega) (by omega)] | rw [zt_lt (by omega) (by omega)] | rw [zt_nm (by omega)] | rw [zt_mm] | rw [zt_ml] | rw [zt_0m] | rw [zt_m0] | rw [zt_n6 (by omega)] | rw [zt_66] | rw [zt_06] | simp (disch := omega) only [i0, i1, i2, i3, i4, i5, i6, i8, i16, i30, i60, i100, i200, i201, i300, i1500, i8000, iM, i_m6, nIa, nIp, nIs, sI_1, sI_22, sL_1, sL_21, sS_21, sS_22, sI_ne, sL_ne, sS_ne, sS_eq, sI_eq, sI_at, sL_eq, sL_at, Nat.add_zero, if_true, if_false, w1, hst1, Nat.add_sub_cancel, e1, hk0, a] | rw [bV_e] | rw [pS_e] | rw [bI_s] | rw [bU_s] | rw [bL_s] | rw [gI_n (by omega) (by omega)] | rw [pI_n (by omega) (by omega)] | rw [gL_n (by omega) (by omega)] | rw [pL_n (by omega) (by omega)] | rw [j_X8_with_76]))
        exact a2
    · obtain ⟨w1, w2⟩ := NXT_w hN hc
      refine ⟨S, ?_, NXT_mo hN hc, FR_rf⟩
      ((try simp only [i0, i1, i2, i3, i4, i5, i6, i8, i16, i30, i60, i100, i200, i201, i300, i1500, i8000, iM, i_m6]); repeat (first | rw [zt_eq (by omega)] | rw [zt_ne (by omega) (by omega) (by omega)] | rw [zt_nle (by omega) (by omega)] | rw [zt_le (by omega) (by omega)] | rw [zt_nlt (by omega) (by omega)] | rw [zt_lt (by omega) (by omega)] | rw [zt_nm (by omega)] | rw [zt_mm] | rw [zt_ml] | rw [zt_0m] | rw [zt_m0] | rw [zt_n6 (by omega)] | rw [zt_66] | rw [zt_06] | simp (disch := omega) only [i0, i1, i2, i3, i4, i5, i6, i8, i16, i30, i60, i100, i200, i201, i300, i1500, i8000, iM, i_m6, nIa, nIp, nIs, sI_1, sI_22, sL_1, sL_21, sS_21, sS_22, sI_ne, sL_ne, sS_ne, sS_eq, sI_eq, sI_at, sL_eq, sL_at, Nat.add_zero, if_true, if_false, w1] | rw [bV_e] | rw [pS_e] | rw [bI_s] | rw [bU_s] | rw [bL_s] | rw [gI_n (by omega) (by omega)] | rw [pI_n (by omega) (by omega)] | rw [gL_n (by omega) (by omega)] | rw [pL_n (by omega) (by omega)]))
theorem s_with {n f f3 o o4 : Nat} {x val : List Mk} {S : St} {c : List Nat} (hf : 367 ≤ f ∧ f ≤ 371) (hne : f ≠ 369) (hf3 : 367 ≤ f3 ∧ f3 ≤ 371) (hne3 : f3 ≠ 369) (hn : 10000 ≤ n) (hv : Tm val) (hvm : ∀ m ∈ val, mW m ∧ m.2.2.1 < 100000) (hvo : o4 + (flt val).length ≤ ln f3) (hv8 : (flt val).length ≤ 8000) (hv5 : val.length ≤ 500) (hr : Tm x) (hm : ∀ m ∈ x, mW m ∧ m.2.2.1 < 100000) (hs : sg (S.2.1 f 0) o (flt x)) (hsv : sg (S.2.1 f3 0) o4 (flt val)) (ho : o + (flt x).length ≤ ln f) (h8 : (flt x).length ≤ 8000) (h5 : x.length ≤ 500) (hN : NXT S c) : ∃ S', f_X8_with n S f (nI o) f3 (nI o4) = some S' ∧ NXT S' (c ++ flt (fil x val)) ∧ FR WR S S' := by
  have fr0 : FR [377] S (sI S 377 0 0 (nI 0)) := FR_sI FR_rf (by rw [rg8 (by omega)]; simp)
  obtain ⟨S', a, b, d⟩ := s_with_l (n := n) hf hne hf3 hne3 hn hv hvm hvo hv8 hv5 x n o (sI S 377 0 0 (nI 0)) [0] c hr hm (sg_fr fr0 (by rw [rg8 (by omega)]; simp; omega) hs) (sg_fr fr0 (by rw [rg8 (by omega)]; simp; omega) hsv) ho h8 h5 (by omega) (by rw [sI_self]; exact stk_push (st := []) trivial) (NXT_fr hN fr0 (by simp) (by simp) (by simp))
  refine ⟨S', ?_, b, FR_tr (FR_mo fr0 (by simp [WR])) d⟩
  unfold f_X8_with
  ((try simp only [i0, i1, i2, i3, i4, i5, i6, i8, i16, i30, i60, i100, i200, i201, i300, i1500, i8000, iM, i_m6]); repeat (first | rw [zt_eq (by omega)] | rw [zt_ne (by omega) (by omega) (by omega)] | rw [zt_nle (by omega) (by omega)] | rw [zt_le (by omega) (by omega)] | rw [zt_nlt (by omega) (by omega)] | rw [zt_lt (by omega) (by omega)] | rw [zt_nm (by omega)] | rw [zt_mm] | rw [zt_ml] | rw [zt_0m] | rw [zt_m0] | rw [zt_n6 (by omega)] | rw [zt_66] | rw [zt_06] | simp (disch := omega) only [i0, i1, i2, i3, i4, i5, i6, i8, i16, i30, i60, i100, i200, i201, i300, i1500, i8000, iM, i_m6, nIa, nIp, nIs, sI_1, sI_22, sL_1, sL_21, sS_21, sS_22, sI_ne, sL_ne, sS_ne, sS_eq, sI_eq, sI_at, sL_eq, sL_at, Nat.add_zero, if_true, if_false] | rw [bV_e] | rw [pS_e] | rw [bI_s] | rw [bU_s] | rw [bL_s] | rw [gI_n (by omega) (by omega)] | rw [pI_n (by omega) (by omega)] | rw [gL_n (by omega) (by omega)] | rw [pL_n (by omega) (by omega)]))
  exact a
