/-! the reference: shortening -/
def SHR : List Nat := [368, 369, 372, 373, 376, 380]
theorem take_repl {ms made : List Mk} {i k : Nat} (h : i ≤ k) (hk : k ≤ ms.length) : (repl ms k made).take i = ms.take i := by
  unfold repl
  rw [List.append_assoc, List.take_append_of_le_length (by rw [List.length_take]; omega), List.take_take, Nat.min_eq_left h]
theorem shr_take {ms : List Mk} {i k : Nat} (h : i ≤ k) (hk : k ≤ ms.length) : (shr ms k).take i = ms.take i := by
  unfold shr
  split
  · exact take_repl h hk
  · rfl
theorem rsd_pd {m : Mk} (h : ¬ isN m = true) : rsd mI m (pdM m) := by
  refine ⟨rfl, rfl, fun z => ?_, fun z => ?_⟩
  · show (if m.1 = 1 ∧ m.2.2.1 ≤ m.2.1 then m.2.1 - 1 else m.2.1) = m.2.1
    rw [if_neg (fun w => z w.1)]
  · show nI (if m.1 = 1 ∧ m.2.2.1 ≤ m.2.1 then m.2.1 - 1 else m.2.1) = _
    by_cases w : m.2.1 < m.2.2.1
    · rw [if_neg (by omega), if_pos w]
    · have : m.2.1 ≠ m.2.2.1 := fun q => h (by unfold isN; simp [z, q])
      rw [if_pos ⟨z, by omega⟩, if_neg w, nIp (by omega)]
theorem flt_repl {ms made : List Mk} {i : Nat} : flt (repl ms i made) = flt (ms.take i) ++ flt made ++ flt (rst ms i) := by
  unfold repl; rw [flt_app, flt_app, flt_sh]
theorem s_short1 {n k B N : Nat} {S : St} {ms : List Mk} {m : Mk} (hn : 10000 ≤ n) (hN : N ≤ 40) (hB : B ≤ 1000000) (hg : gdT B N ms) (hC : CUR S ms) (hi : ms[k]? = some m) (h81 : S.2.1 381 0 k = nI (flt (ms.take k)).length) : ∃ S', (∀ mm, l_X8_shorten_38 n (mm + 1) S (nI k) = l_X8_shorten_38 n mm S' (nI k + mI)) ∧ CUR S' (shr ms k) ∧ FR SHR S S' := by
  have hlt := gt_lt hi
  have h200 := hg.2.1
  have hmv := hg.2.2 m (gt_mem hi)
  have m6 := hmv.1
  have hd := gdT_d hg m (gt_mem hi)
  have hfl := gd_flt hg (by omega) hN
  obtain ⟨r, hsub, lA, lB, lC⟩ := lay6 hg hi
  obtain ⟨g1, g2, g3⟩ := sub_gd hg hi
  have hkx : hk (subT ms k) = m.1 := by rw [hsub]; rfl
  have no : etaB (subT ms k) = false → shr ms k = ms := fun z => by unfold shr; rw [z]; rfl
  obtain ⟨hs0, h72⟩ := hC
  have hcut : flt ms = flt (ms.take k) ++ (flt (cutT ms k) ++ flt (rst ms k)) := by
    conv => lhs; rw [cut_all (ms := ms) (i := k)]
    rw [flt_app, flt_app]
  obtain ⟨r0, hr0⟩ := cut_h hi
  have hk0 : S.2.1 368 0 (flt (ms.take k)).length = nI m.1 := by
    have w := hs0
    rw [hcut, hr0, flt_c, List.append_assoc] at w
    have := sg_h (sg_app.mp w).2
    rw [Nat.zero_add] at this
    exact this
  have hol : (flt (ms.take k)).length < 8000 := by
    have := congrArg List.length hcut
    rw [hr0, flt_c] at this
    simp only [List.length_append] at this
    have := tks_pos m
    omega
  by_cases q4 : m.1 = 4
  · rw [hsub] at g1
    obtain ⟨gq1, gq2⟩ := (gd_parts g1).1 (show 3 ≤ m.1 by omega)
    rw [← hsub] at gq1 gq2
    rw [show dl (dnM m.2.2.1 m).1 = 1 by show dl m.1 = 1; rw [q4]; rfl] at gq2
    have e := congrArg flt (lB (by omega) (by omega))
    simp only [flt_app, flt_sh] at e
    rw [show flt [m] = [4] by rw [flt_c, tks_3 (by omega), q4]; rfl] at e
    generalize hA : flt (ms.take k) = A at *
    have hs1 := hs0
    rw [e] at hs1
    have lenE := congrArg List.length e
    simp only [List.length_append, List.length_cons, List.length_nil] at lenE
    have sTy : sg (S.2.1 368 0) (A.length + 1) (flt (p1 (subT ms k))) := by
      have := sg_mid hs1
      simp only [List.length_append, List.length_cons, List.length_nil, Nat.zero_add] at this
      exact this
    have E1 := s_behindTerm (n := n) (f := 368) (by omega) gq1.1 (gd_mW gq1 (by omega) hN) sTy (by rw [ln368]; omega) (by omega)
    have sBd : sg (S.2.1 368 0) (A.length + 1 + (flt (p1 (subT ms k))).length) (flt (p2 (subT ms k)) ++ flt (rst ms k)) := by
      have := (sg_app.mp (sg_app.mp hs1).2).2
      simp only [List.length_append, List.length_cons, List.length_nil, Nat.zero_add] at this
      exact this
    cases hp2 : p2 (subT ms k) with
    | nil => rw [hp2] at gq2; exact absurd (Tm_ne gq2.1) (by simp)
    | cons mb rb =>
      rw [hp2] at gq2 e lenE sBd
      rw [flt_c, List.append_assoc] at sBd
      have kB := sg_h sBd
      have mb6 := (gq2.2.2 mb List.mem_cons_self).1
      rw [flt_c, List.length_append] at lenE
      have tpb := tks_pos mb
      by_cases q5 : mb.1 = 5
      · obtain ⟨gf, ga⟩ := (gd_parts gq2).1 (show 3 ≤ mb.1 by omega)
        rw [show dl mb.1 = 0 by rw [q5]; rfl] at ga
        have er := (tm_parts gq2.1).2.2.2.1 (by rw [q5]; rfl)
        rw [show dl mb.1 = 0 by rw [q5]; rfl, sh_0] at er
        have tkb : tks mb = [5] := by rw [tks_3 (by omega), q5]
        have frb : flt rb = flt (p1 (mb :: rb)) ++ flt (p2 (mb :: rb)) := by
          conv => lhs; rw [er]
          exact flt_app _ _
        rw [tkb, frb, List.append_assoc] at sBd
        rw [tkb, frb] at lenE
        simp only [List.length_append, List.length_cons, List.length_nil] at lenE
        have sX : sg (S.2.1 368 0) (A.length + 1 + (flt (p1 (subT ms k))).length + 1) (flt (p1 (mb :: rb)) ++ (flt (p2 (mb :: rb)) ++ flt (rst ms k))) := (sg_app.mp sBd).2
        have sF : sg (S.2.1 368 0) (A.length + 1 + (flt (p1 (subT ms k))).length + 1) (flt (p1 (mb :: rb))) := (sg_app.mp sX).1
        have sA : sg (S.2.1 368 0) (A.length + 1 + (flt (p1 (subT ms k))).length + 1 + (flt (p1 (mb :: rb))).length) (flt (p2 (mb :: rb)) ++ flt (rst ms k)) := (sg_app.mp sX).2
        have E2 := s_behindTerm (n := n) (f := 368) (by omega) gf.1 (gd_mW gf (by omega) hN) sF (by rw [ln368]; omega) (by omega)
        cases hpa : p2 (mb :: rb) with
        | nil => rw [hpa] at ga; exact absurd (Tm_ne ga.1) (by simp)
        | cons ma ra =>
          rw [hpa] at ga sA lenE
          rw [flt_c, List.append_assoc] at sA
          rw [flt_c, List.length_append] at lenE
          have kC := sg_h sA
          have ma6 := (ga.2.2 ma List.mem_cons_self).1
          have tpa := tks_pos ma
          by_cases q1 : ma.1 = 1
          · have mai := (gdT_mB ga (by omega) (by omega) ma List.mem_cons_self).2.1
            have tka := tks_1 q1
            have ra0 : ra = [] := (tm_parts ga.1).2.1 (by rw [q1]; rfl)
            rw [tka, ra0] at sA lenE
            simp only [List.length_cons, List.length_nil, flt_n] at lenE
            have sI0 : S.2.1 368 0 (A.length + 1 + (flt (p1 (subT ms k))).length + 1 + (flt (p1 (mb :: rb))).length + 1) = nI ma.2.1 := sA.2.1
            have sR : sg (S.2.1 368 0) (A.length + 1 + (flt (p1 (subT ms k))).length + 1 + (flt (p1 (mb :: rb))).length + 2) (flt (rst ms k)) := sA.2.2
            by_cases q0 : ma.2.1 = 0
            · obtain ⟨S1, a1, f1⟩ := s_has8 (n := n) hn gf.1 (gd_mWd gf (by omega) hN) sF (by omega) (by have := gf.2.1; omega)
              rw [q0] at sI0
              rw [q1] at kC
              rw [q5] at kB
              rw [q4] at hk0
              by_cases q9 : cntN (p1 (mb :: rb)) = 0
              · have a1' : f_X8_has n S (nI (A.length + 1 + (flt (p1 (subT ms k))).length + 1)) = some (S1, nI 0) := by rw [a1]; simp [q9]; rfl
                have f2 : FR [373, 380] S1 (sS (sS S1 373 0 (nI 0)) 380 0 (nI 0)) := FR_sS (FR_sS FR_rf (by rw [rg8 (by omega)]; simp)) (by rw [rg8 (by omega)]; simp)
                have f12 : FR [373, 376, 380] S (sS (sS S1 373 0 (nI 0)) 380 0 (nI 0)) := FR_tr (FR_mo f1 (by simp)) (FR_mo f2 (by simp))
                have n8 : ∀ R : List Nat, 368 ∉ R → rg 368 0 ∉ R := fun R h => by rw [rg8 (by omega)]; exact h
                have sP : sg (S.2.1 368 0) 0 A := by have := hs0; rw [hcut] at this; exact (sg_app.mp this).1
                obtain ⟨S3, a3, b3, f3⟩ := s_copy (n := n) (f := 368) (o := 0) (e := A.length) (by omega) (by omega) (sg_fr f12 (n8 _ (by simp)) sP) NXT_0 (by omega) (by rw [ln368]; omega) (by omega)
                have f13 : FR [369, 373, 376, 380] S S3 := FR_tr (FR_mo f12 (by simp)) (FR_mo f3 (by simp [NR]))
                rw [List.nil_append] at b3
                obtain ⟨S4, a4, b4, f4⟩ := s_lift (n := n) (f := 368) (g := pdM) (by_ := mI) (by omega) (by omega) hn gf.1 (fun y hy => ⟨(gd_mWd gf (by omega) hN y hy).1, (gd_mWd gf (by omega) hN y hy).2, rsd_pd (cntN_0 q9 y hy)⟩) (sg_fr f13 (n8 _ (by simp)) sF) (by rw [ln368]; omega) (by omega) (by have := gf.2.1; omega) b3
                have f14 : FR [369, 373, 376, 380] S S4 := FR_tr f13 (FR_mo f4 (by simp [NR]))
                have h72' : S4.1 372 0 = nI (flt ms).length := by rw [(f14 372 0 (by rw [rg8 (by omega)]; simp)).1]; exact h72
                obtain ⟨S5, a5, b5, f5⟩ := s_copy (n := n) (f := 368) (e := (flt ms).length) (by omega) (by omega) (sg_fr f14 (n8 _ (by simp)) sR) b4 (by omega) (by rw [ln368]; omega) (by omega)
                have f15 : FR [369, 373, 376, 380] S S5 := FR_tr f14 (FR_mo f5 (by simp [NR]))
                have lpd : (flt ((p1 (mb :: rb)).map pdM)).length = (flt (p1 (mb :: rb))).length := by
                  have : ∀ y : List Mk, (flt (y.map pdM)).length = (flt y).length := by
                    intro y
                    induction y with
                    | nil => rfl
                    | cons a b ihy =>
                      rw [List.map_cons, flt_c, flt_c, List.length_append, List.length_append, ihy]
                      congr 1
                      unfold tks
                      show (if a.1 = 0 then _ else if a.1 = 1 then _ else if a.1 = 2 then _ else _ : List Nat).length = _
                      split
                      · rfl
                      · split
                        · rfl
                        · split
                          · rfl
                          · rfl
                  exact this _
                obtain ⟨S6, a6, b6, c6, f6⟩ := s_take (n := n) hn b5 (by simp only [List.length_append]; rw [lpd]; omega)
                have eB : etaB (subT ms k) = true := by unfold etaB; rw [decide_eq_true_eq, hkx, hp2, hpa]; exact ⟨q4, q5, q1, q0, q9⟩
                have es : flt (shr ms k) = A ++ flt ((p1 (mb :: rb)).map pdM) ++ flt (rst ms k) := by unfold shr; rw [if_pos eB, hp2, flt_repl, hA]
                refine ⟨S6, fun mm => ?_, ⟨by rw [es]; exact b6, by rw [c6, es]⟩, FR_tr (FR_mo f15 (by simp [SHR])) (FR_mo f6 (by simp [SHR]))⟩
                conv => lhs; unfold l_X8_shorten_38
                ((try simp only [i0, i1, i2, i3, i4, i5, i6, i8, i16, i30, i60, i100, i200, i201, i300, i1500, i8000, iM, i_m6]); repeat (first | rw [zt_eq (by omega)] | rw [zt_ne (by omega) (by omega) (by omega)] | rw [zt_nle (by omega) (by omega)] | rw [zt_le (by omega) (by omega)] | rw [zt_nlt (by omega) (by omega)] | rw [zt_lt (by omega) (by omega)] | rw [zt_nm (by omega)] | rw [zt_mm] | rw [zt_ml] | rw [zt_0m] | rw [zt_m0] | rw [zt_n6 (by omega)] | rw [zt_66] | rw [zt_06] | simp (disch := omega) only [i0, i1, i2, i3, i4, i5, i6, i8, i16, i30, i60, i100, i200, i201, i300, i1500, i8000, iM, i_m6, nIa, nIp, nIs, sI_1, sI_22, sL_1, sL_21, sS_21, sS_22, sI_ne, sL_ne, sS_ne, sS_eq, sI_eq, sI_at, sL_eq, sL_at, Nat.add_zero, if_true, if_false, h81, hk0, E1, kB, E2, kC, sI0, a1', a3, a4, h72', a5, a6] | rw [bV_e] | rw [pS_e] | rw [bI_s] | rw [bU_s] | rw [bL_s] | rw [gI_n (by omega) (by omega)] | rw [pI_n (by omega) (by omega)] | rw [gL_n (by omega) (by omega)] | rw [pL_n (by omega) (by omega)] | rw [j_X8_shorten_73] | rw [j_X8_shorten_191]))
              · have a1' : f_X8_has n S (nI (A.length + 1 + (flt (p1 (subT ms k))).length + 1)) = some (S1, nI 1) := by rw [a1]; simp [q9]; rfl
                rw [no (by unfold etaB; rw [decide_eq_false_iff_not, hp2]; exact fun w => q9 w.2.2.2.2)]
                refine ⟨S1, fun mm => ?_, CUR_fr ⟨hs0, h72⟩ f1 (by simp) (by simp), FR_mo f1 (by simp [SHR])⟩
                conv => lhs; unfold l_X8_shorten_38
                ((try simp only [i0, i1, i2, i3, i4, i5, i6, i8, i16, i30, i60, i100, i200, i201, i300, i1500, i8000, iM, i_m6]); repeat (first | rw [zt_eq (by omega)] | rw [zt_ne (by omega) (by omega) (by omega)] | rw [zt_nle (by omega) (by omega)] | rw [zt_le (by omega) (by omega)] | rw [zt_nlt (by omega) (by omega)] | rw [zt_lt (by omega) (by omega)] | rw [zt_nm (by omega)] | rw [zt_mm] | rw [zt_ml] | rw [zt_0m] | rw [zt_m0] | rw [zt_n6 (by omega)] | rw [zt_66] | rw [zt_06] | simp (disch := omega) only [i0, i1, i2, i3, i4, i5, i6, i8, i16, i30, i60, i100, i200, i201, i300, i1500, i8000, iM, i_m6, nIa, nIp, nIs, sI_1, sI_22, sL_1, sL_21, sS_21, sS_22, sI_ne, sL_ne, sS_ne, sS_eq, sI_eq, sI_at, sL_eq, sL_at, Nat.add_zero, if_true, if_false, h81, hk0, E1, kB, E2, kC, sI0, a1'] | rw [bV_e] | rw [pS_e] | rw [bI_s] | rw [bU_s] | rw [bL_s] | rw [gI_n (by omega) (by omega)] | rw [pI_n (by omega) (by omega)] | rw [gL_n (by omega) (by omega)] | rw [pL_n (by omega) (by omega)] | rw [j_X8_shorten_73] | rw [j_X8_shorten_191]))
            · rw [no (by unfold etaB; rw [decide_eq_false_iff_not, hp2, hpa]; exact fun w => q0 w.2.2.2.1)]
              refine ⟨S, fun mm => ?_, ⟨hs0, h72⟩, FR_rf⟩
              rw [q1] at kC
              rw [q5] at kB
              rw [q4] at hk0
              conv => lhs; unfold l_X8_shorten_38
              ((try simp only [i0, i1, i2, i3, i4, i5, i6, i8, i16, i30, i60, i100, i200, i201, i300, i1500, i8000, iM, i_m6]); repeat (first | rw [zt_eq (by omega)] | rw [zt_ne (by omega) (by omega) (by omega)] | rw [zt_nle (by omega) (by omega)] | rw [zt_le (by omega) (by omega)] | rw [zt_nlt (by omega) (by omega)] | rw [zt_lt (by omega) (by omega)] | rw [zt_nm (by omega)] | rw [zt_mm] | rw [zt_ml] | rw [zt_0m] | rw [zt_m0] | rw [zt_n6 (by omega)] | rw [zt_66] | rw [zt_06] | simp (disch := omega) only [i0, i1, i2, i3, i4, i5, i6, i8, i16, i30, i60, i100, i200, i201, i300, i1500, i8000, iM, i_m6, nIa, nIp, nIs, sI_1, sI_22, sL_1, sL_21, sS_21, sS_22, sI_ne, sL_ne, sS_ne, sS_eq, sI_eq, sI_at, sL_eq, sL_at, Nat.add_zero, if_true, if_false, h81, hk0, E1, kB, E2, kC, sI0] | rw [bV_e] | rw [pS_e] | rw [bI_s] | rw [bU_s] | rw [bL_s] | rw [gI_n (by omega) (by omega)] | rw [pI_n (by omega) (by omega)] | rw [gL_n (by omega) (by omega)] | rw [pL_n (by omega) (by omega)] | rw [j_X8_shorten_73] | rw [j_X8_shorten_191]))
          · rw [no (by unfold etaB; rw [decide_eq_false_iff_not, hp2, hpa]; exact fun w => q1 w.2.2.1)]
            refine ⟨S, fun mm => ?_, ⟨hs0, h72⟩, FR_rf⟩
            rw [q5] at kB
            rw [q4] at hk0
            conv => lhs; unfold l_X8_shorten_38
            ((try simp only [i0, i1, i2, i3, i4, i5, i6, i8, i16, i30, i60, i100, i200, i201, i300, i1500, i8000, iM, i_m6]); repeat (first | rw [zt_eq (by omega)] | rw [zt_ne (by omega) (by omega) (by omega)] | rw [zt_nle (by omega) (by omega)] | rw [zt_le (by omega) (by omega)] | rw [zt_nlt (by omega) (by omega)] | rw [zt_lt (by omega) (by omega)] | rw [zt_nm (by omega)] | rw [zt_mm] | rw [zt_ml] | rw [zt_0m] | rw [zt_m0] | rw [zt_n6 (by omega)] | rw [zt_66] | rw [zt_06] | simp (disch := omega) only [i0, i1, i2, i3, i4, i5, i6, i8, i16, i30, i60, i100, i200, i201, i300, i1500, i8000, iM, i_m6, nIa, nIp, nIs, sI_1, sI_22, sL_1, sL_21, sS_21, sS_22, sI_ne, sL_ne, sS_ne, sS_eq, sI_eq, sI_at, sL_eq, sL_at, Nat.add_zero, if_true, if_false, h81, hk0, E1, kB, E2, kC] | rw [bV_e] | rw [pS_e] | rw [bI_s] | rw [bU_s] | rw [bL_s] | rw [gI_n (by omega) (by omega)] | rw [pI_n (by omega) (by omega)] | rw [gL_n (by omega) (by omega)] | rw [pL_n (by omega) (by omega)] | rw [j_X8_shorten_73] | rw [j_X8_shorten_191]))
      · rw [no (by unfold etaB; rw [decide_eq_false_iff_not, hp2]; exact fun w => q5 w.2.1)]
        refine ⟨S, fun mm => ?_, ⟨hs0, h72⟩, FR_rf⟩
        rw [q4] at hk0
        conv => lhs; unfold l_X8_shorten_38
        ((try simp only [i0, i1, i2, i3, i4, i5, i6, i8, i16, i30, i60, i100, i200, i201, i300, i1500, i8000, iM, i_m6]); repeat (first | rw [zt_eq (by omega)] | rw [zt_ne (by omega) (by omega) (by omega)] | rw [zt_nle (by omega) (by omega)] | rw [zt_le (by omega) (by omega)] | rw [zt_nlt (by omega) (by omega)] | rw [zt_lt (by omega) (by omega)] | rw [zt_nm (by omega)] | rw [zt_mm] | rw [zt_ml] | rw [zt_0m] | rw [zt_m0] | rw [zt_n6 (by omega)] | rw [zt_66] | rw [zt_06] | simp (disch := omega) only [i0, i1, i2, i3, i4, i5, i6, i8, i16, i30, i60, i100, i200, i201, i300, i1500, i8000, iM, i_m6, nIa, nIp, nIs, sI_1, sI_22, sL_1, sL_21, sS_21, sS_22, sI_ne, sL_ne, sS_ne, sS_eq, sI_eq, sI_at, sL_eq, sL_at, Nat.add_zero, if_true, if_false, h81, hk0, E1, kB] | rw [bV_e] | rw [pS_e] | rw [bI_s] | rw [bU_s] | rw [bL_s] | rw [gI_n (by omega) (by omega)] | rw [pI_n (by omega) (by omega)] | rw [gL_n (by omega) (by omega)] | rw [pL_n (by omega) (by omega)] | rw [j_X8_shorten_73] | rw [j_X8_shorten_191]))
  · rw [no (by unfold etaB; rw [decide_eq_false_iff_not, hkx]; exact fun w => q4 w.1)]
    refine ⟨S, fun mm => ?_, ⟨hs0, h72⟩, FR_rf⟩
    conv => lhs; unfold l_X8_shorten_38
    ((try simp only [i0, i1, i2, i3, i4, i5, i6, i8, i16, i30, i60, i100, i200, i201, i300, i1500, i8000, iM, i_m6]); repeat (first | rw [zt_eq (by omega)] | rw [zt_ne (by omega) (by omega) (by omega)] | rw [zt_nle (by omega) (by omega)] | rw [zt_le (by omega) (by omega)] | rw [zt_nlt (by omega) (by omega)] | rw [zt_lt (by omega) (by omega)] | rw [zt_nm (by omega)] | rw [zt_mm] | rw [zt_ml] | rw [zt_0m] | rw [zt_m0] | rw [zt_n6 (by omega)] | rw [zt_66] | rw [zt_06] | simp (disch := omega) only [i0, i1, i2, i3, i4, i5, i6, i8, i16, i30, i60, i100, i200, i201, i300, i1500, i8000, iM, i_m6, nIa, nIp, nIs, sI_1, sI_22, sL_1, sL_21, sS_21, sS_22, sI_ne, sL_ne, sS_ne, sS_eq, sI_eq, sI_at, sL_eq, sL_at, Nat.add_zero, if_true, if_false, h81, hk0] | rw [bV_e] | rw [pS_e] | rw [bI_s] | rw [bU_s] | rw [bL_s] | rw [gI_n (by omega) (by omega)] | rw [pI_n (by omega) (by omega)] | rw [gL_n (by omega) (by omega)] | rw [pL_n (by omega) (by omega)] | rw [j_X8_shorten_191]))
    unfold j_X8_shorten_73
    rw [if_pos (show mI < 0 from c_ml)]
    rfl
