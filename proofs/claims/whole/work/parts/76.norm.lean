/-! the reference: the way to the normal form -/
def NZ : List Nat := [368, 369, 370, 372, 373, 374, 376, 377, 378, 380, 381]
def NZ0 : List Nat := [369, 370, 373, 374, 376, 377, 378, 380]
theorem n8o {R : List Nat} {f : Nat} (hf : 367 ≤ f) (h : f ∉ R) : rg f 0 ∉ R := by rw [rg8 hf]; exact h
theorem s_nz_l {n B : Nat} {L : List (List Nat)} {T : List (List Mk)} {Ns : List Nme} (hn : 10000 ≤ n) (hL : LOk L) (hT : TOk L T Ns.length) (hO : NOk T Ns) (hB : zB T ≤ B ∧ B ≤ 1000000) : ∀ (k c mm : Nat) (S : St) (ms : List Mk), k + c = 31 → 1 ≤ k → k < mm → CUR S ms → gdT B Ns.length ms → TM S L T → LM S L → NM S T Ns → ∃ S', l_X8_normalize_7 n mm S (nI c) (oF 0 ms (nxS Ns ms)) = some (S', oN (red Ns k c ms)) ∧ (∀ p, red Ns k c ms = some p → CUR S' (shrs p.2.length p.2) ∧ gdT B Ns.length (shrs p.2.length p.2)) ∧ FR NZ S S' := by
  have h40 := hO.1
  intro k
  induction k with
  | zero => intro c mm S ms hk h1; omega
  | succ k ih =>
    intro c mm S ms hk h1 hmm h hg hTM hLM hNM
    obtain ⟨mm, rfl⟩ : ∃ y, mm = y + 1 := ⟨mm - 1, by omega⟩
    have h200 := hg.2.1
    have hfl := gd_flt hg (by omega) h40
    have hr : red Ns (k + 1) c ms = match nxS Ns ms with
      | none => some (c, ms)
      | some i => if c = 30 then none else if fitB (stR Ns ms i) then red Ns k (c + 1) (stR Ns ms i) else none := rfl
    unfold l_X8_normalize_7
    cases h9 : nxS Ns ms with
    | none =>
      rw [h9] at hr
      replace hr : red Ns (k + 1) c ms = some (c, ms) := hr
      obtain ⟨S1, a1, b1, c1, f1⟩ := s_shorten (n := n) hn h40 hB.2 hg h
      rw [hr]
      refine ⟨S1, ?_, fun p hp => by cases hp; exact ⟨b1, c1⟩, FR_mo f1 (by simp [NZ, SHR])⟩
      show (if mI < 0 then _ else _) = _
      rw [if_pos (show mI < 0 from c_ml), a1]
      rfl
    | some i =>
      rw [h9] at hr
      replace hr : red Ns (k + 1) c ms = if c = 30 then none else if fitB (stR Ns ms i) then red Ns k (c + 1) (stR Ns ms i) else none := hr
      obtain ⟨m, hi, hs⟩ := nxS_at h9
      have hlt := gt_lt hi
      obtain ⟨hs0, h72⟩ := h
      have eo : oF 0 ms (some i) = nI (flt (ms.take i)).length := by show nI (0 + _) = _; rw [Nat.zero_add]
      rw [eo]
      have hcut : flt ms = flt (ms.take i) ++ (flt (cutT ms i) ++ flt (rst ms i)) := by
        conv => lhs; rw [cut_all (ms := ms) (i := i)]
        rw [flt_app, flt_app]
      have lenC := congrArg List.length hcut
      simp only [List.length_append] at lenC
      by_cases q30 : c = 30
      · rw [if_pos q30] at hr
        rw [hr]
        refine ⟨S, ?_, (fun p hp => nomatch hp), FR_rf⟩
        show _ = some (S, m6)
        ((try simp only [i0, i1, i2, i3, i4, i5, i6, i8, i16, i30, i60, i100, i200, i201, i300, i1500, i8000, iM, i_m6]); repeat (first | rw [zt_eq (by omega)] | rw [zt_ne (by omega) (by omega) (by omega)] | rw [zt_nle (by omega) (by omega)] | rw [zt_le (by omega) (by omega)] | rw [zt_nlt (by omega) (by omega)] | rw [zt_lt (by omega) (by omega)] | rw [zt_nm (by omega)] | rw [zt_mm] | rw [zt_ml] | rw [zt_0m] | rw [zt_m0] | rw [zt_n6 (by omega)] | rw [zt_66] | rw [zt_06] | simp (disch := omega) only [i0, i1, i2, i3, i4, i5, i6, i8, i16, i30, i60, i100, i200, i201, i300, i1500, i8000, iM, i_m6, nIa, nIp, nIs, sI_1, sI_22, sL_1, sL_21, sS_21, sS_22, sI_ne, sL_ne, sS_ne, sS_eq, sI_eq, sI_at, sL_eq, sL_at, Nat.add_zero, if_true, if_false] | rw [bV_e] | rw [pS_e] | rw [bI_s] | rw [bU_s] | rw [bL_s] | rw [gI_n (by omega) (by omega)] | rw [pI_n (by omega) (by omega)] | rw [gL_n (by omega) (by omega)] | rw [pL_n (by omega) (by omega)]))
      · rw [if_neg q30] at hr
        obtain ⟨stW, stG⟩ := stR_ok hT hO hB hg hi hs
        have hmv := hg.2.2 m (gt_mem hi)
        have m6' := hmv.1
        have hdm := gdT_d hg m (gt_mem hi)
        obtain ⟨r0, hr0⟩ := cut_h hi
        obtain ⟨r, hsub, lA, lB, lC⟩ := lay6 hg hi
        obtain ⟨g1, g2, g3⟩ := sub_gd hg hi
        have fcut : flt (cutT ms i) = flt (subT ms i) := by rw [← g2, flt_sh]
        have wms := gd_mW hg (by omega) h40
        have wcut : ∀ y ∈ cutT ms i, mW y := fun y hy => wms y (List.mem_of_mem_drop (List.mem_of_mem_take hy))
        obtain ⟨s9, rn1, rn2, rn3⟩ := cut_run hg.1 hi
        have sCut : sg (S.2.1 368 0) (flt (ms.take i)).length (flt (cutT ms i)) := by
          have w := hs0
          rw [hcut] at w
          have := sg_mid w
          rw [Nat.zero_add] at this
          exact this
        have sPre : sg (S.2.1 368 0) 0 (flt (ms.take i)) := by have w := hs0; rw [hcut] at w; exact (sg_app.mp w).1
        have sRst : sg (S.2.1 368 0) ((flt (ms.take i)).length + (flt (cutT ms i)).length) (flt (rst ms i)) := by
          have w := hs0
          rw [hcut] at w
          have := (sg_app.mp (sg_app.mp w).2).2
          rw [Nat.zero_add] at this
          exact this
        have hfit : f_X8_fits n S 368 (nI 0) (nI (flt ms).length) = some (S, nI 1) := by
          rw [s_fits (n := n) (f := 368) (by omega) wms hs0 (by omega) (by rw [ln368]; omega) (by omega)]
          have : fitB ms = true := by unfold fitB; rw [f16_gd hg]; simp; exact h200
          rw [if_pos this]; rfl
        have E0 := s_behindTerm (n := n) (f := 368) (by omega) rn2 wcut sCut (by rw [ln368]; omega) (by omega)
        have f0 : FR NZ0 S (sS (sS S 373 0 (nI 0)) 380 0 (nI 0)) := FR_sS (FR_sS FR_rf (by rw [rg8 (by omega)]; decide)) (by rw [rg8 (by omega)]; decide)
        obtain ⟨S1, a1, b1, f1⟩ := s_copy (n := n) (f := 368) (o := 0) (e := (flt (ms.take i)).length) (by omega) (by omega) (sg_fr f0 (n8o (by omega) (by decide)) sPre) NXT_0 (by omega) (by rw [ln368]; omega) (by omega)
        rw [List.nil_append] at b1
        have f01 : FR NZ0 S S1 := FR_tr f0 (FR_mo f1 (by simp [NR, NZ0]))
        have n8 : rg 368 0 ∉ NZ0 := n8o (by omega) (by decide)
        have hk0 : S1.2.1 368 0 (flt (ms.take i)).length = nI m.1 := by
          rw [(f01 368 0 n8).2.1]
          have w := sCut
          rw [hr0, flt_c] at w
          exact sg_h w
        -- what all three ways share
        have fin : ∀ S2 : St, NXT S2 (flt (ms.take i) ++ flt (rdx Ns (subT ms i))) → FR NZ0 S S2 → ∃ S', j_X8_normalize_185 n (fun S l1 l2 => l_X8_normalize_7 n mm S l1 l2) S2 (nI c) (nI ((flt (ms.take i)).length + (flt (cutT ms i)).length)) = some (S', oN (red Ns (k + 1) c ms)) ∧ (∀ p, red Ns (k + 1) c ms = some p → CUR S' (shrs p.2.length p.2) ∧ gdT B Ns.length (shrs p.2.length p.2)) ∧ FR NZ S S' := by
          intro S2 n2 f2
          have h72' : S2.1 372 0 = nI (flt ms).length := by rw [(f2 372 0 (n8o (by omega) (by decide))).1]; exact h72
          obtain ⟨S3, a3, b3, f3⟩ := s_copy (n := n) (f := 368) (e := (flt ms).length) (by omega) (by omega) (sg_fr f2 n8 sRst) n2 (by omega) (by rw [ln368]; omega) (by omega)
          have f03 : FR NZ0 S S3 := FR_tr f2 (FR_mo f3 (by simp [NR, NZ0]))
          have f03' : FR NZ S S3 := FR_mo f03 (by simp [NZ, NZ0])
          have eq1 : flt (ms.take i) ++ flt (rdx Ns (subT ms i)) ++ flt (rst ms i) = flt (stR Ns ms i) := by unfold stR; rw [flt_repl]
          rw [eq1] at b3
          unfold j_X8_normalize_185
          rw [h72', a3, bU_s, hr]
          by_cases h8 : (flt (stR Ns ms i)).length ≤ 8000
          · obtain ⟨w1, w2, w3⟩ := NXT_ok b3 h8
            have hf := s_fits (n := n) (f := 369) (S := S3) (by omega) stW w3 rfl (by rw [ln369]; omega) (by omega)
            rw [Nat.zero_add] at hf
            by_cases qf : fitB (stR Ns ms i) = true
            · rw [if_pos qf] at hf ⊢
              have hf' : f_X8_fits n S3 369 (nI 0) (nI (flt (stR Ns ms i)).length) = some (S3, nI 1) := hf
              obtain ⟨S4, a4, b4, c4, f4⟩ := s_take (n := n) hn b3 h8
              have f04 : FR NZ S S4 := FR_tr f03' (FR_mo f4 (by simp [NZ]))
              have gst := stG qf
              have cur4 : CUR S4 (stR Ns ms i) := ⟨b4, c4⟩
              have tm4 := TM_fr hTM f04 (by decide)
              have lm4 := LM_fr hLM f04 (by decide)
              have nm4 := NM_fr hNM f04 (by decide)
              have sA := s_stepAt (n := n) hn nm4 hO hT.1 hB.2 gst cur4
              have k1 : 1 ≤ k := by omega
              obtain ⟨S5, a5, b5, f5⟩ := ih (c + 1) mm S4 (stR Ns ms i) (by omega) k1 (by omega) cur4 gst tm4 lm4 nm4
              refine ⟨S5, ?_, b5, FR_tr f04 f5⟩
              rw [← a5]
              ((try simp only [i0, i1, i2, i3, i4, i5, i6, i8, i16, i30, i60, i100, i200, i201, i300, i1500, i8000, iM, i_m6]); repeat (first | rw [zt_eq (by omega)] | rw [zt_ne (by omega) (by omega) (by omega)] | rw [zt_nle (by omega) (by omega)] | rw [zt_le (by omega) (by omega)] | rw [zt_nlt (by omega) (by omega)] | rw [zt_lt (by omega) (by omega)] | rw [zt_nm (by omega)] | rw [zt_mm] | rw [zt_ml] | rw [zt_0m] | rw [zt_m0] | rw [zt_n6 (by omega)] | rw [zt_66] | rw [zt_06] | simp (disch := omega) only [i0, i1, i2, i3, i4, i5, i6, i8, i16, i30, i60, i100, i200, i201, i300, i1500, i8000, iM, i_m6, nIa, nIp, nIs, sI_1, sI_22, sL_1, sL_21, sS_21, sS_22, sI_ne, sL_ne, sS_ne, sS_eq, sI_eq, sI_at, sL_eq, sL_at, Nat.add_zero, if_true, if_false, w1, w2, hf', a4, sA] | rw [bV_e] | rw [pS_e] | rw [bI_s] | rw [bU_s] | rw [bL_s] | rw [gI_n (by omega) (by omega)] | rw [pI_n (by omega) (by omega)] | rw [gL_n (by omega) (by omega)] | rw [pL_n (by omega) (by omega)]))
            · rw [if_neg qf] at hf ⊢
              have hf' : f_X8_fits n S3 369 (nI 0) (nI (flt (stR Ns ms i)).length) = some (S3, nI 0) := hf
              refine ⟨S3, ?_, (fun p hp => nomatch hp), f03'⟩
              show _ = some (S3, m6)
              ((try simp only [i0, i1, i2, i3, i4, i5, i6, i8, i16, i30, i60, i100, i200, i201, i300, i1500, i8000, iM, i_m6]); repeat (first | rw [zt_eq (by omega)] | rw [zt_ne (by omega) (by omega) (by omega)] | rw [zt_nle (by omega) (by omega)] | rw [zt_le (by omega) (by omega)] | rw [zt_nlt (by omega) (by omega)] | rw [zt_lt (by omega) (by omega)] | rw [zt_nm (by omega)] | rw [zt_mm] | rw [zt_ml] | rw [zt_0m] | rw [zt_m0] | rw [zt_n6 (by omega)] | rw [zt_66] | rw [zt_06] | simp (disch := omega) only [i0, i1, i2, i3, i4, i5, i6, i8, i16, i30, i60, i100, i200, i201, i300, i1500, i8000, iM, i_m6, nIa, nIp, nIs, sI_1, sI_22, sL_1, sL_21, sS_21, sS_22, sI_ne, sL_ne, sS_ne, sS_eq, sI_eq, sI_at, sL_eq, sL_at, Nat.add_zero, if_true, if_false, w1, w2, hf'] | rw [bV_e] | rw [pS_e] | rw [bI_s] | rw [bU_s] | rw [bL_s] | rw [gI_n (by omega) (by omega)] | rw [pI_n (by omega) (by omega)] | rw [gL_n (by omega) (by omega)] | rw [pL_n (by omega) (by omega)]))
          · obtain ⟨w1, w2⟩ := NXT_w b3 h8
            have qf : ¬ fitB (stR Ns ms i) = true := fun z => by
              have := gd_flt (stG z) (by omega) h40
              omega
            rw [if_neg qf]
            refine ⟨S3, ?_, (fun p hp => nomatch hp), f03'⟩
            show _ = some (S3, m6)
            ((try simp only [i0, i1, i2, i3, i4, i5, i6, i8, i16, i30, i60, i100, i200, i201, i300, i1500, i8000, iM, i_m6]); repeat (first | rw [zt_eq (by omega)] | rw [zt_ne (by omega) (by omega) (by omega)] | rw [zt_nle (by omega) (by omega)] | rw [zt_le (by omega) (by omega)] | rw [zt_nlt (by omega) (by omega)] | rw [zt_lt (by omega) (by omega)] | rw [zt_nm (by omega)] | rw [zt_mm] | rw [zt_ml] | rw [zt_0m] | rw [zt_m0] | rw [zt_n6 (by omega)] | rw [zt_66] | rw [zt_06] | simp (disch := omega) only [i0, i1, i2, i3, i4, i5, i6, i8, i16, i30, i60, i100, i200, i201, i300, i1500, i8000, iM, i_m6, nIa, nIp, nIs, sI_1, sI_22, sL_1, sL_21, sS_21, sS_22, sI_ne, sL_ne, sS_ne, sS_eq, sI_eq, sI_at, sL_eq, sL_at, Nat.add_zero, if_true, if_false, w1] | rw [bV_e] | rw [pS_e] | rw [bI_s] | rw [bU_s] | rw [bL_s] | rw [gI_n (by omega) (by omega)] | rw [pI_n (by omega) (by omega)] | rw [gL_n (by omega) (by omega)] | rw [pL_n (by omega) (by omega)]))
        rcases rdx_gd (L := L) hO hg hi hs with ⟨q2, v, hv, hvT, er, l1, l2⟩ | ⟨q6, gq1, gq2, gq3, er⟩ | ⟨q5, m', r', hp1, k4, g4, gb1, gb2, ga, er⟩
        · -- a name
          have hidx := hmv.2.2.1 q2
          have e9 := List.getElem?_eq_getElem hidx
          have nm1 := NM_fr hNM f01 (by decide)
          have c3 := (nm1.2 m.2.1 _ e9).2.2
          have nv : nval Ns m.2.1 = (Ns[m.2.1]).2.2 := by unfold nval; rw [e9]
          rw [← nv, hv, nvI_s] at c3
          have hix := ixT_lt hvT
          have hT15 := hT.1
          have w := sCut
          rw [hr0, flt_c, tks_2 q2] at w
          have r00 : r0 = [] := by
            have := lA (by omega)
            have h1 : subT ms i = [dnM m.2.2.1 m] := by rw [hsub, this.1]
            have h2 : (cutT ms i).length = 1 := by rw [← g2, List.length_map, h1]; rfl
            rw [hr0] at h2
            exact List.length_eq_zero_iff.mp (by simpa using h2)
          rw [r00, flt_n, List.append_nil] at w
          have lenT : (flt (cutT ms i)).length = m.2.2.2.1.length + m.2.2.2.2.length + 2 := by rw [hr0, r00, flt_c, tks_2 q2]; simp [flt]
          have hx : S1.2.1 368 0 ((flt (ms.take i)).length + 1) = nI m.2.1 := by rw [(f01 368 0 n8).2.1]; exact w.2.1
          have w3 := sg_app.mp w.2.2
          obtain ⟨S2, a2, b2, f2⟩ := s_named (n := n) (f := 368) (o := (flt (ms.take i)).length + 2) (by omega) hn l1 l2 (by rw [ln368]; omega) hL hT (LM_fr hLM f01 (by decide)) (TM_fr hTM f01 (by decide)) (ixT_get hvT) (sg_fr f01 n8 w3.1) (sg_fr f01 n8 w3.2) b1
          obtain ⟨S3, a3, b3, c3'⟩ := fin S2 (by rw [er]; exact b2) (FR_tr f01 (FR_mo f2 (by simp [NR, NZ0, DR])))
          refine ⟨S3, ?_, b3, c3'⟩
          rw [q2] at hk0
          have hni : m.2.1 < 40 := by omega
          ((try simp only [i0, i1, i2, i3, i4, i5, i6, i8, i16, i30, i60, i100, i200, i201, i300, i1500, i8000, iM, i_m6]); repeat (first | rw [zt_eq (by omega)] | rw [zt_ne (by omega) (by omega) (by omega)] | rw [zt_nle (by omega) (by omega)] | rw [zt_le (by omega) (by omega)] | rw [zt_nlt (by omega) (by omega)] | rw [zt_lt (by omega) (by omega)] | rw [zt_nm (by omega)] | rw [zt_mm] | rw [zt_ml] | rw [zt_0m] | rw [zt_m0] | rw [zt_n6 (by omega)] | rw [zt_66] | rw [zt_06] | simp (disch := omega) only [i0, i1, i2, i3, i4, i5, i6, i8, i16, i30, i60, i100, i200, i201, i300, i1500, i8000, iM, i_m6, nIa, nIp, nIs, sI_1, sI_22, sL_1, sL_21, sS_21, sS_22, sI_ne, sL_ne, sS_ne, sS_eq, sI_eq, sI_at, sL_eq, sL_at, Nat.add_zero, if_true, if_false, h72, hfit, E0, a1, hk0, hx, c3, a2] | rw [bV_e] | rw [pS_e] | rw [bI_s] | rw [bU_s] | rw [bL_s] | rw [gI_n (by omega) (by omega)] | rw [pI_n (by omega) (by omega)] | rw [gL_n (by omega) (by omega)] | rw [pL_n (by omega) (by omega)]))
          exact a3
        · -- a definition
          have hne6 : 3 ≤ m.1 := by omega
          have e := congrArg flt (lC q6)
          simp only [flt_app, flt_sh] at e
          rw [show flt [m] = [6] by rw [flt_c, tks_3 (by omega), q6]; rfl] at e
          have lenE := congrArg List.length e
          simp only [List.length_append, List.length_cons, List.length_nil] at lenE
          have hs1 := hs0
          rw [e] at hs1
          have s1 : sg (S.2.1 368 0) ((flt (ms.take i)).length + 1) (flt (p1 (subT ms i)) ++ (flt (p2 (subT ms i)) ++ (flt (p3 (subT ms i)) ++ flt (rst ms i)))) := by
            have := (sg_app.mp hs1).2
            simp only [List.length_append, List.length_cons, List.length_nil, Nat.zero_add] at this
            exact this
          have t1 := (sg_app.mp s1).1
          have s2 := (sg_app.mp s1).2
          have t2 := (sg_app.mp s2).1
          have s3 := (sg_app.mp s2).2
          have t3 := (sg_app.mp s3).1
          have E1 := s_behindTerm (n := n) (f := 368) (S := S1) (by omega) gq1.1 (gd_mW gq1 (by omega) h40) (sg_fr f01 n8 t1) (by rw [ln368]; omega) (by omega)
          have E2 := s_behindTerm (n := n) (f := 368) (S := S1) (o := (flt (ms.take i)).length + 1 + (flt (p1 (subT ms i))).length) (by omega) gq2.1 (gd_mW gq2 (by omega) h40) (sg_fr f01 n8 t2) (by rw [ln368]; omega) (by omega)
          obtain ⟨S2, a2, b2, f2⟩ := s_with (n := n) (f := 368) (f3 := 368) (o := (flt (ms.take i)).length + 1 + (flt (p1 (subT ms i))).length + (flt (p2 (subT ms i))).length) (o4 := (flt (ms.take i)).length + 1 + (flt (p1 (subT ms i))).length) (by omega) (by omega) (by omega) (by omega) hn gq2.1 (gd_mWd gq2 (by omega) h40) (by rw [ln368]; omega) (by omega) (by have := gq2.2.1; omega) gq3.1 (gd_mWd gq3 (by omega) h40) (sg_fr f01 n8 t3) (sg_fr f01 n8 t2) (by rw [ln368]; omega) (by omega) (by have := gq3.2.1; omega) b1
          obtain ⟨S3, a3, b3, c3⟩ := fin S2 (by rw [er]; exact b2) (FR_tr f01 (FR_mo f2 (by simp [NR, NZ0, WR])))
          refine ⟨S3, ?_, b3, c3⟩
          rw [q6] at hk0
          ((try simp only [i0, i1, i2, i3, i4, i5, i6, i8, i16, i30, i60, i100, i200, i201, i300, i1500, i8000, iM, i_m6]); repeat (first | rw [zt_eq (by omega)] | rw [zt_ne (by omega) (by omega) (by omega)] | rw [zt_nle (by omega) (by omega)] | rw [zt_le (by omega) (by omega)] | rw [zt_nlt (by omega) (by omega)] | rw [zt_lt (by omega) (by omega)] | rw [zt_nm (by omega)] | rw [zt_mm] | rw [zt_ml] | rw [zt_0m] | rw [zt_m0] | rw [zt_n6 (by omega)] | rw [zt_66] | rw [zt_06] | simp (disch := omega) only [i0, i1, i2, i3, i4, i5, i6, i8, i16, i30, i60, i100, i200, i201, i300, i1500, i8000, iM, i_m6, nIa, nIp, nIs, sI_1, sI_22, sL_1, sL_21, sS_21, sS_22, sI_ne, sL_ne, sS_ne, sS_eq, sI_eq, sI_at, sL_eq, sL_at, Nat.add_zero, if_true, if_false, h72, hfit, E0, a1, hk0, E1, E2, a2] | rw [bV_e] | rw [pS_e] | rw [bI_s] | rw [bU_s] | rw [bL_s] | rw [gI_n (by omega) (by omega)] | rw [pI_n (by omega) (by omega)] | rw [gL_n (by omega) (by omega)] | rw [pL_n (by omega) (by omega)]))
          exact a3
        · -- a function that is applied
          have e := congrArg flt (lB (by omega) (by omega))
          rw [hp1] at e
          have er' := (tm_parts g4.1).2.2.2.1 (by rw [k4]; rfl)
          simp only [flt_app, flt_sh] at e
          have frr : flt r' = flt (p1 (m' :: r')) ++ flt (p2 (m' :: r')) := by
            conv => lhs; rw [er']
            rw [flt_app, flt_sh]
          rw [show flt [m] = [5] by rw [flt_c, tks_3 (by omega), q5]; rfl, flt_c, tks_3 (by omega), k4, frr] at e
          have lenE := congrArg List.length e
          simp only [List.length_append, List.length_cons, List.length_nil] at lenE
          have hs1 := hs0
          rw [e] at hs1
          have s1 : sg (S.2.1 368 0) ((flt (ms.take i)).length + 2) (flt (p1 (m' :: r')) ++ (flt (p2 (m' :: r')) ++ (flt (p2 (subT ms i)) ++ flt (rst ms i)))) := by
            have := (sg_app.mp hs1).2
            simp only [List.length_append, List.length_cons, List.length_nil, Nat.zero_add, List.append_assoc, List.cons_append, List.nil_append] at this
            exact this.2
          have t1 := (sg_app.mp s1).1
          have s2 := (sg_app.mp s1).2
          have t2 := (sg_app.mp s2).1
          have s3 := (sg_app.mp s2).2
          have t3 := (sg_app.mp s3).1
          have E1 := s_behindTerm (n := n) (f := 368) (S := S1) (by omega) gb1.1 (gd_mW gb1 (by omega) h40) (sg_fr f01 n8 t1) (by rw [ln368]; omega) (by omega)
          have E2 := s_behindTerm (n := n) (f := 368) (S := S1) (o := (flt (ms.take i)).length + 2 + (flt (p1 (m' :: r'))).length) (by omega) gb2.1 (gd_mW gb2 (by omega) h40) (sg_fr f01 n8 t2) (by rw [ln368]; omega) (by omega)
          obtain ⟨S2, a2, b2, f2⟩ := s_with (n := n) (f := 368) (f3 := 368) (o := (flt (ms.take i)).length + 2 + (flt (p1 (m' :: r'))).length) (o4 := (flt (ms.take i)).length + 2 + (flt (p1 (m' :: r'))).length + (flt (p2 (m' :: r'))).length) (by omega) (by omega) (by omega) (by omega) hn ga.1 (gd_mWd ga (by omega) h40) (by rw [ln368]; omega) (by omega) (by have := ga.2.1; omega) gb2.1 (gd_mWd gb2 (by omega) h40) (sg_fr f01 n8 t2) (sg_fr f01 n8 t3) (by rw [ln368]; omega) (by omega) (by have := gb2.2.1; omega) b1
          obtain ⟨S3, a3, b3, c3⟩ := fin S2 (by rw [er]; exact b2) (FR_tr f01 (FR_mo f2 (by simp [NR, NZ0, WR])))
          refine ⟨S3, ?_, b3, c3⟩
          rw [q5] at hk0
          ((try simp only [i0, i1, i2, i3, i4, i5, i6, i8, i16, i30, i60, i100, i200, i201, i300, i1500, i8000, iM, i_m6]); repeat (first | rw [zt_eq (by omega)] | rw [zt_ne (by omega) (by omega) (by omega)] | rw [zt_nle (by omega) (by omega)] | rw [zt_le (by omega) (by omega)] | rw [zt_nlt (by omega) (by omega)] | rw [zt_lt (by omega) (by omega)] | rw [zt_nm (by omega)] | rw [zt_mm] | rw [zt_ml] | rw [zt_0m] | rw [zt_m0] | rw [zt_n6 (by omega)] | rw [zt_66] | rw [zt_06] | simp (disch := omega) only [i0, i1, i2, i3, i4, i5, i6, i8, i16, i30, i60, i100, i200, i201, i300, i1500, i8000, iM, i_m6, nIa, nIp, nIs, sI_1, sI_22, sL_1, sL_21, sS_21, sS_22, sI_ne, sL_ne, sS_ne, sS_eq, sI_eq, sI_at, sL_eq, sL_at, Nat.add_zero, if_true, if_false, h72, hfit, E0, a1, hk0, E1, E2, a2] | rw [bV_e] | rw [pS_e] | rw [bI_s] | rw [bU_s] | rw [bL_s] | rw [gI_n (by omega) (by omega)] | rw [pI_n (by omega) (by omega)] | rw [gL_n (by omega) (by omega)] | rw [pL_n (by omega) (by omega)]))
          exact a3
theorem s_normalize {n B : Nat} {L : List (List Nat)} {T : List (List Mk)} {Ns : List Nme} {S : St} {ms : List Mk} (hn : 10000 ≤ n) (hL : LOk L) (hT : TOk L T Ns.length) (hO : NOk T Ns) (hB : zB T ≤ B ∧ B ≤ 1000000) (h : CUR S ms) (hg : gdT B Ns.length ms) (hTM : TM S L T) (hLM : LM S L) (hNM : NM S T Ns) : ∃ S', f_X8_normalize n S = some (S', oN (nrm Ns ms)) ∧ (∀ p, nrm Ns ms = some p → CUR S' p.2 ∧ gdT B Ns.length p.2) ∧ FR NZ S S' := by
  have sA := s_stepAt (n := n) hn hNM hO hT.1 hB.2 hg h
  obtain ⟨S', a, b, c⟩ := s_nz_l (n := n) hn hL hT hO hB 31 0 n S ms (by omega) (by omega) (by omega) h hg hTM hLM hNM
  unfold nrm
  refine ⟨S', ?_, fun p hp => ?_, c⟩
  · unfold f_X8_normalize
    rw [sA, bI_s, i0, a]
    cases red Ns 31 0 ms <;> rfl
  · cases h9 : red Ns 31 0 ms with
    | none => rw [h9] at hp; cases hp
    | some q =>
      rw [h9] at hp
      cases hp
      exact b q h9
