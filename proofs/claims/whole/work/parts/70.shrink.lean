/-! the class: shrinking, reducing -/
theorem s_shrink {n j i B N : Nat} {S : St} {ms : List Mk} {m : Mk} (hn : 10000 ≤ n) (hj : j ≠ 4) (hN : N ≤ 40) (hB : B ≤ 1000000) (h : RW S j ms) (hg : gdT B N ms) (hi : ms[i]? = some m) : ∃ S', f_X3_shrink n S j (nI i) = some S' ∧ RW S' j (shr ms i) ∧ gdT B N (shr ms i) ∧ i < (shr ms i).length ∧ FR [1004, 1000 + j] S S' := by
  have hmb := gd_mBs hg (by omega) hN
  have hlt := gt_lt hi
  have h200 := hg.2.1
  have hmv := hg.2.2 m (gt_mem hi)
  have m6 := hmv.1
  have hd := gdT_d hg m (gt_mem hi)
  obtain ⟨r, hsub, lA, lB, lC⟩ := lay6 hg hi
  obtain ⟨g1, g2, g3⟩ := sub_gd hg hi
  have hkx : hk (subT ms i) = m.1 := by rw [hsub]; rfl
  have kA := s_kindAt (n := n) h (p := i) (by omega)
  rw [hi] at kA
  have kA' : f_X4_kindAt n S j (nI i) = some (S, nI m.1) := kA
  have tl := take_len hi
  have cl : (cutT ms i).length = (subT ms i).length := by rw [← g2, List.length_map]
  have no : etaB (subT ms i) = false → shr ms i = ms := fun z => by unfold shr; rw [z]; rfl
  unfold f_X3_shrink
  by_cases q4 : m.1 = 4
  · rw [hsub] at g1
    obtain ⟨gq1, gq2⟩ := (gd_parts g1).1 (show 3 ≤ m.1 by omega)
    rw [← hsub] at gq1 gq2
    rw [show dl (dnM m.2.2.1 m).1 = 1 by show dl m.1 = 1; rw [q4]; rfl] at gq2
    have e := lB (by omega) (by omega)
    rw [show dl m.1 = 1 by rw [q4]; rfl] at e
    have pl : (ms.take i ++ [m]).length = i + 1 := by rw [List.length_append, tl]; rfl
    have hl1 : (subT ms i).length = 1 + (p1 (subT ms i)).length + (p2 (subT ms i)).length := (tlen (hsub ▸ g1)).2.1 (by rw [hkx]; omega) (by rw [hkx]; omega)
    have E1 := s_endX (n := n) h hmb e (Tm_sh gq1.1 _) (by omega)
    rw [pl, List.length_map] at E1
    cases hp2 : p2 (subT ms i) with
    | nil => rw [hp2] at gq2; exact absurd (Tm_ne gq2.1) (by simp)
    | cons mb rb =>
      rw [hp2] at gq2 e hl1
      have e2 : ms = (ms.take i ++ [m] ++ (p1 (subT ms i)).map (shM m.2.2.1)) ++ ((mb :: rb).map (shM (m.2.2.1 + 1)) ++ rst ms i) := by
        conv => lhs; rw [e]
        simp only [List.append_assoc]
      have pl2 : (ms.take i ++ [m] ++ (p1 (subT ms i)).map (shM m.2.2.1)).length = i + 1 + (p1 (subT ms i)).length := by rw [List.length_append, pl, List.length_map]
      have hb1 : ms[i + 1 + (p1 (subT ms i)).length]? = some (shM (m.2.2.1 + 1) mb) := by
        have w := head_at (P := ms.take i ++ [m] ++ (p1 (subT ms i)).map (shM m.2.2.1)) (X := (mb :: rb).map (shM (m.2.2.1 + 1))) (Q := rst ms i) rfl
        rw [← e2, pl2] at w
        exact w
      have lt1 := gt_lt hb1
      have mb6 := (gq2.2.2 mb List.mem_cons_self).1
      have kB := s_kindAt (n := n) h (p := i + 1 + (p1 (subT ms i)).length) (by omega)
      rw [hb1] at kB
      have kB' : f_X4_kindAt n S j (nI (i + 1 + (p1 (subT ms i)).length)) = some (S, nI mb.1) := kB
      by_cases q5 : mb.1 = 5
      · obtain ⟨gf, ga⟩ := (gd_parts gq2).1 (show 3 ≤ mb.1 by omega)
        rw [show dl mb.1 = 0 by rw [q5]; rfl] at ga
        have er := (tm_parts gq2.1).2.2.2.1 (by rw [q5]; rfl)
        rw [show dl mb.1 = 0 by rw [q5]; rfl, sh_0] at er
        have hl2 : (mb :: rb).length = 1 + (p1 (mb :: rb)).length + (p2 (mb :: rb)).length := (tlen gq2).2.1 (show 3 ≤ mb.1 by omega) (show mb.1 ≠ 6 by omega)
        have e3 : ms = (ms.take i ++ [m] ++ (p1 (subT ms i)).map (shM m.2.2.1) ++ [shM (m.2.2.1 + 1) mb]) ++ ((p1 (mb :: rb)).map (shM (m.2.2.1 + 1)) ++ ((p2 (mb :: rb)).map (shM (m.2.2.1 + 1)) ++ rst ms i)) := by
          conv => lhs; rw [e2, List.map_cons, er, List.map_append]
          simp only [List.append_assoc, List.cons_append, List.nil_append]
        have pl3 : (ms.take i ++ [m] ++ (p1 (subT ms i)).map (shM m.2.2.1) ++ [shM (m.2.2.1 + 1) mb]).length = i + 1 + (p1 (subT ms i)).length + 1 := by rw [List.length_append, pl2]; rfl
        have E2 := s_endX (n := n) h hmb e3 (Tm_sh gf.1 _) (by omega)
        rw [pl3, List.length_map] at E2
        cases hpa : p2 (mb :: rb) with
        | nil => rw [hpa] at ga; exact absurd (Tm_ne ga.1) (by simp)
        | cons ma ra =>
          rw [hpa] at ga e3 hl2
          have ma6 := (ga.2.2 ma List.mem_cons_self).1
          have e4 : ms = (ms.take i ++ [m] ++ (p1 (subT ms i)).map (shM m.2.2.1) ++ [shM (m.2.2.1 + 1) mb] ++ (p1 (mb :: rb)).map (shM (m.2.2.1 + 1))) ++ ((ma :: ra).map (shM (m.2.2.1 + 1)) ++ rst ms i) := by
            conv => lhs; rw [e3]
            simp only [List.append_assoc]
          have pl4 : (ms.take i ++ [m] ++ (p1 (subT ms i)).map (shM m.2.2.1) ++ [shM (m.2.2.1 + 1) mb] ++ (p1 (mb :: rb)).map (shM (m.2.2.1 + 1))).length = i + 1 + (p1 (subT ms i)).length + 1 + (p1 (mb :: rb)).length := by rw [List.length_append, pl3, List.length_map]
          have hb2 : ms[i + 1 + (p1 (subT ms i)).length + 1 + (p1 (mb :: rb)).length]? = some (shM (m.2.2.1 + 1) ma) := by
            have w := head_at (P := ms.take i ++ [m] ++ (p1 (subT ms i)).map (shM m.2.2.1) ++ [shM (m.2.2.1 + 1) mb] ++ (p1 (mb :: rb)).map (shM (m.2.2.1 + 1))) (X := (ma :: ra).map (shM (m.2.2.1 + 1))) (Q := rst ms i) rfl
            rw [← e4, pl4] at w
            exact w
          have lt2 := gt_lt hb2
          have kC := s_kindAt (n := n) h (p := i + 1 + (p1 (subT ms i)).length + 1 + (p1 (mb :: rb)).length) (by omega)
          rw [hb2] at kC
          have kC' : f_X4_kindAt n S j (nI (i + 1 + (p1 (subT ms i)).length + 1 + (p1 (mb :: rb)).length)) = some (S, nI ma.1) := kC
          have cI := (h.2.2 _ _ hb2).2.1
          replace cI : S.2.1 152 j (i + 1 + (p1 (subT ms i)).length + 1 + (p1 (mb :: rb)).length) = nI ma.2.1 := cI
          by_cases q1 : ma.1 = 1
          · have mai := (gdT_mB ga (by omega) (by omega) ma List.mem_cons_self).2.1
            by_cases q0 : ma.2.1 = 0
            · obtain ⟨S1, a1, b1, f1⟩ := s_takeX (n := n) (j := 4) (by omega) h hmb e3 gf.1 (by omega)
              rw [pl3] at a1
              have hR1 : RW S1 j ms := RW_fr h f1 (by simp; omega)
              have mbf := gd_mBs gf (by omega) hN
              have cn := s_cntN (n := n) b1 mbf (by omega)
              have cle : cntN (p1 (mb :: rb)) ≤ 200 := Nat.le_trans List.countP_le_length gf.2.1
              by_cases q9 : cntN (p1 (mb :: rb)) = 0
              · have gpd := gd_pd gf q9
                obtain ⟨S2, a2, b2, f2⟩ := s_raiseN (n := n) mbf (fun y hy z w => by
                  have := cntN_0 q9 y hy
                  rcases Nat.eq_zero_or_pos y.2.1 with u | u
                  · exact absurd (by unfold isN; simp; exact ⟨z, by omega⟩) this
                  · exact u) b1 (by omega)
                have ra0 : ra = [] := (tm_parts ga.1).2.1 (by rw [q1]; rfl)
                have hR2 : RW S2 j ms := RW_fr hR1 f2 (by simp; omega)
                obtain ⟨S3, a3, b3, f3⟩ := s_putIn (n := n) (k := i + 1 + (p1 (subT ms i)).length + 1 + (p1 (mb :: rb)).length + 1) (j := j) hj hR2 b2 hg hi (by rw [cl, hl1, hl2, ra0]; simp only [List.length_cons, List.length_nil]; omega) (by omega)
                have hll : (repl ms i ((p1 (mb :: rb)).map pdM)).length + (subT ms i).length = ms.length + (p1 (mb :: rb)).length := by
                  have := congrArg List.length (cut_all (ms := ms) (i := i))
                  unfold repl
                  simp only [List.length_append, List.length_map] at this ⊢
                  omega
                have hle : (repl ms i ((p1 (mb :: rb)).map pdM)).length ≤ 200 := by omega
                have hgt : i < (repl ms i ((p1 (mb :: rb)).map pdM)).length := by
                  have := Tm_ne gf.1
                  unfold repl
                  simp only [List.length_append, List.length_map, tl]
                  omega
                have eB : etaB (subT ms i) = true := by unfold etaB; rw [decide_eq_true_eq, hkx, hp2, hpa]; exact ⟨q4, q5, q1, q0, q9⟩
                have es : shr ms i = repl ms i ((p1 (mb :: rb)).map pdM) := by unfold shr; rw [if_pos eB, hp2]
                rw [es]
                refine ⟨S3, ?_, b3 hle, repl_gd hg hi gpd hle, hgt, FR_tr (FR_tr (FR_mo f1 (by simp)) (FR_mo f2 (by simp))) (FR_mo f3 (by simp))⟩
                rw [q9] at cn
                ((try simp only [i0, i1, i2, i3, i4, i5, i6, i8, i16, i30, i60, i100, i200, i201, i300, i1500, i8000, iM, i_m6]); repeat (first | rw [zt_eq (by omega)] | rw [zt_ne (by omega) (by omega) (by omega)] | rw [zt_nle (by omega) (by omega)] | rw [zt_le (by omega) (by omega)] | rw [zt_nlt (by omega) (by omega)] | rw [zt_lt (by omega) (by omega)] | rw [zt_nm (by omega)] | rw [zt_mm] | rw [zt_ml] | rw [zt_0m] | rw [zt_m0] | rw [zt_n6 (by omega)] | rw [zt_66] | rw [zt_06] | simp (disch := omega) only [i0, i1, i2, i3, i4, i5, i6, i8, i16, i30, i60, i100, i200, i201, i300, i1500, i8000, iM, i_m6, nIa, nIp, nIs, sI_1, sI_22, sL_1, sL_21, sS_21, sS_22, sI_ne, sL_ne, sS_ne, sS_eq, sI_eq, sI_at, sL_eq, sL_at, Nat.add_zero, if_true, if_false, kA', q4, E1, kB', q5, E2, kC', q1, cI, q0, a1, cn, a2, a3] | rw [bV_e] | rw [pS_e] | rw [bI_s] | rw [bU_s] | rw [bL_s] | rw [gI_n (by omega) (by omega)] | rw [pI_n (by omega) (by omega)] | rw [gL_n (by omega) (by omega)] | rw [pL_n (by omega) (by omega)]))
              · rw [no (by unfold etaB; rw [decide_eq_false_iff_not, hp2]; exact fun w => q9 w.2.2.2.2)]
                refine ⟨S1, ?_, hR1, hg, hlt, FR_mo f1 (by simp)⟩
                ((try simp only [i0, i1, i2, i3, i4, i5, i6, i8, i16, i30, i60, i100, i200, i201, i300, i1500, i8000, iM, i_m6]); repeat (first | rw [zt_eq (by omega)] | rw [zt_ne (by omega) (by omega) (by omega)] | rw [zt_nle (by omega) (by omega)] | rw [zt_le (by omega) (by omega)] | rw [zt_nlt (by omega) (by omega)] | rw [zt_lt (by omega) (by omega)] | rw [zt_nm (by omega)] | rw [zt_mm] | rw [zt_ml] | rw [zt_0m] | rw [zt_m0] | rw [zt_n6 (by omega)] | rw [zt_66] | rw [zt_06] | simp (disch := omega) only [i0, i1, i2, i3, i4, i5, i6, i8, i16, i30, i60, i100, i200, i201, i300, i1500, i8000, iM, i_m6, nIa, nIp, nIs, sI_1, sI_22, sL_1, sL_21, sS_21, sS_22, sI_ne, sL_ne, sS_ne, sS_eq, sI_eq, sI_at, sL_eq, sL_at, Nat.add_zero, if_true, if_false, kA', q4, E1, kB', q5, E2, kC', q1, cI, q0, a1, cn] | rw [bV_e] | rw [pS_e] | rw [bI_s] | rw [bU_s] | rw [bL_s] | rw [gI_n (by omega) (by omega)] | rw [pI_n (by omega) (by omega)] | rw [gL_n (by omega) (by omega)] | rw [pL_n (by omega) (by omega)]))
            · rw [no (by unfold etaB; rw [decide_eq_false_iff_not, hp2, hpa]; exact fun w => q0 w.2.2.2.1)]
              refine ⟨S, ?_, h, hg, hlt, FR_rf⟩
              ((try simp only [i0, i1, i2, i3, i4, i5, i6, i8, i16, i30, i60, i100, i200, i201, i300, i1500, i8000, iM, i_m6]); repeat (first | rw [zt_eq (by omega)] | rw [zt_ne (by omega) (by omega) (by omega)] | rw [zt_nle (by omega) (by omega)] | rw [zt_le (by omega) (by omega)] | rw [zt_nlt (by omega) (by omega)] | rw [zt_lt (by omega) (by omega)] | rw [zt_nm (by omega)] | rw [zt_mm] | rw [zt_ml] | rw [zt_0m] | rw [zt_m0] | rw [zt_n6 (by omega)] | rw [zt_66] | rw [zt_06] | simp (disch := omega) only [i0, i1, i2, i3, i4, i5, i6, i8, i16, i30, i60, i100, i200, i201, i300, i1500, i8000, iM, i_m6, nIa, nIp, nIs, sI_1, sI_22, sL_1, sL_21, sS_21, sS_22, sI_ne, sL_ne, sS_ne, sS_eq, sI_eq, sI_at, sL_eq, sL_at, Nat.add_zero, if_true, if_false, kA', q4, E1, kB', q5, E2, kC', q1, cI] | rw [bV_e] | rw [pS_e] | rw [bI_s] | rw [bU_s] | rw [bL_s] | rw [gI_n (by omega) (by omega)] | rw [pI_n (by omega) (by omega)] | rw [gL_n (by omega) (by omega)] | rw [pL_n (by omega) (by omega)]))
          · rw [no (by unfold etaB; rw [decide_eq_false_iff_not, hp2, hpa]; exact fun w => q1 w.2.2.1)]
            refine ⟨S, ?_, h, hg, hlt, FR_rf⟩
            ((try simp only [i0, i1, i2, i3, i4, i5, i6, i8, i16, i30, i60, i100, i200, i201, i300, i1500, i8000, iM, i_m6]); repeat (first | rw [zt_eq (by omega)] | rw [zt_ne (by omega) (by omega) (by omega)] | rw [zt_nle (by omega) (by omega)] | rw [zt_le (by omega) (by omega)] | rw [zt_nlt (by omega) (by omega)] | rw [zt_lt (by omega) (by omega)] | rw [zt_nm (by omega)] | rw [zt_mm] | rw [zt_ml] | rw [zt_0m] | rw [zt_m0] | rw [zt_n6 (by omega)] | rw [zt_66] | rw [zt_06] | simp (disch := omega) only [i0, i1, i2, i3, i4, i5, i6, i8, i16, i30, i60, i100, i200, i201, i300, i1500, i8000, iM, i_m6, nIa, nIp, nIs, sI_1, sI_22, sL_1, sL_21, sS_21, sS_22, sI_ne, sL_ne, sS_ne, sS_eq, sI_eq, sI_at, sL_eq, sL_at, Nat.add_zero, if_true, if_false, kA', q4, E1, kB', q5, E2, kC'] | rw [bV_e] | rw [pS_e] | rw [bI_s] | rw [bU_s] | rw [bL_s] | rw [gI_n (by omega) (by omega)] | rw [pI_n (by omega) (by omega)] | rw [gL_n (by omega) (by omega)] | rw [pL_n (by omega) (by omega)]))
      · rw [no (by unfold etaB; rw [decide_eq_false_iff_not, hp2]; exact fun w => q5 w.2.1)]
        refine ⟨S, ?_, h, hg, hlt, FR_rf⟩
        ((try simp only [i0, i1, i2, i3, i4, i5, i6, i8, i16, i30, i60, i100, i200, i201, i300, i1500, i8000, iM, i_m6]); repeat (first | rw [zt_eq (by omega)] | rw [zt_ne (by omega) (by omega) (by omega)] | rw [zt_nle (by omega) (by omega)] | rw [zt_le (by omega) (by omega)] | rw [zt_nlt (by omega) (by omega)] | rw [zt_lt (by omega) (by omega)] | rw [zt_nm (by omega)] | rw [zt_mm] | rw [zt_ml] | rw [zt_0m] | rw [zt_m0] | rw [zt_n6 (by omega)] | rw [zt_66] | rw [zt_06] | simp (disch := omega) only [i0, i1, i2, i3, i4, i5, i6, i8, i16, i30, i60, i100, i200, i201, i300, i1500, i8000, iM, i_m6, nIa, nIp, nIs, sI_1, sI_22, sL_1, sL_21, sS_21, sS_22, sI_ne, sL_ne, sS_ne, sS_eq, sI_eq, sI_at, sL_eq, sL_at, Nat.add_zero, if_true, if_false, kA', q4, E1, kB'] | rw [bV_e] | rw [pS_e] | rw [bI_s] | rw [bU_s] | rw [bL_s] | rw [gI_n (by omega) (by omega)] | rw [pI_n (by omega) (by omega)] | rw [gL_n (by omega) (by omega)] | rw [pL_n (by omega) (by omega)]))
  · rw [no (by unfold etaB; rw [decide_eq_false_iff_not, hkx]; exact fun w => q4 w.1)]
    refine ⟨S, ?_, h, hg, hlt, FR_rf⟩
    ((try simp only [i0, i1, i2, i3, i4, i5, i6, i8, i16, i30, i60, i100, i200, i201, i300, i1500, i8000, iM, i_m6]); repeat (first | rw [zt_eq (by omega)] | rw [zt_ne (by omega) (by omega) (by omega)] | rw [zt_nle (by omega) (by omega)] | rw [zt_le (by omega) (by omega)] | rw [zt_nlt (by omega) (by omega)] | rw [zt_lt (by omega) (by omega)] | rw [zt_nm (by omega)] | rw [zt_mm] | rw [zt_ml] | rw [zt_0m] | rw [zt_m0] | rw [zt_n6 (by omega)] | rw [zt_66] | rw [zt_06] | simp (disch := omega) only [i0, i1, i2, i3, i4, i5, i6, i8, i16, i30, i60, i100, i200, i201, i300, i1500, i8000, iM, i_m6, nIa, nIp, nIs, sI_1, sI_22, sL_1, sL_21, sS_21, sS_22, sI_ne, sL_ne, sS_ne, sS_eq, sI_eq, sI_at, sL_eq, sL_at, Nat.add_zero, if_true, if_false, kA'] | rw [bV_e] | rw [pS_e] | rw [bI_s] | rw [bU_s] | rw [bL_s] | rw [gI_n (by omega) (by omega)] | rw [pI_n (by omega) (by omega)] | rw [gL_n (by omega) (by omega)] | rw [pL_n (by omega) (by omega)]))
theorem s_shrs {n j B N : Nat} {by_ : Int32} (hn : 10000 ≤ n) (hj : j ≠ 4) (hN : N ≤ 40) (hB : B ≤ 1000000) : ∀ (k mm : Nat) (S : St) (ms : List Mk), k ≤ ms.length → k < mm → RW S j ms → gdT B N ms → ∃ S', l_X3_reduce_27 n mm S j by_ (nI k - nI 1) = some (S', by_) ∧ RW S' j (shrs k ms) ∧ gdT B N (shrs k ms) ∧ FR [1004, 1000 + j] S S' := by
  intro k
  induction k with
  | zero =>
    intro mm S ms hk hmm h hg
    obtain ⟨mm, rfl⟩ : ∃ y, mm = y + 1 := ⟨mm - 1, by omega⟩
    refine ⟨S, ?_, h, hg, FR_rf⟩
    unfold l_X3_reduce_27
    rw [if_pos (by decide)]
  | succ k ih =>
    intro mm S ms hk hmm h hg
    obtain ⟨mm, rfl⟩ : ∃ y, mm = y + 1 := ⟨mm - 1, by omega⟩
    have h200 := hg.2.1
    have hi := List.getElem?_eq_getElem (show k < ms.length by omega)
    obtain ⟨S1, a1, b1, c1, d1, f1⟩ := s_shrink (n := n) hn hj hN hB h hg hi
    obtain ⟨S2, a2, b2, c2, f2⟩ := ih mm S1 (shr ms k) (by omega) (by omega) b1 c1
    refine ⟨S2, ?_, b2, c2, FR_tr f1 f2⟩
    have ek : nI (k + 1) - nI 1 = nI k := by rw [nIs (by omega)]; rfl
    unfold l_X3_reduce_27
    rw [ek, if_neg (nI_pos (by omega)), a1, bU_s, bV_e]
    have : nI k + (-1) = nI k - nI 1 := by rw [add_m1]; rfl
    rw [this]
    exact a2
def RDX (j : Nat) : List Nat := [208, 1002, 1003, 1004, 1000 + j]
def oN (o : Option (Nat × List Mk)) : Int32 := match o with
  | none => m6
  | some p => nI p.1
theorem s_red_l {n j B N : Nat} {L : List (List Nat)} {T : List (List Mk)} {Ns : List Nme} (hn : 10000 ≤ n) (hj : j ≠ 2 ∧ j ≠ 3 ∧ j ≠ 4) (hL : LOk L) (hT : TOk L T N) (hN : N = Ns.length) (hO : NOk T Ns) (hB : zB T ≤ B ∧ B ≤ 1000000) : ∀ (k c mm : Nat) (S : St) (ms : List Mk), k + c = 31 → 1 ≤ k → k < mm → RW S j ms → gdT B N ms → TC S L T → LC S L → NC S T Ns → ∃ S', l_X3_reduce_2 n mm S j (nI c) = some (S', oN (red Ns k c ms)) ∧ (∀ p, red Ns k c ms = some p → RW S' j (shrs p.2.length p.2) ∧ gdT B N (shrs p.2.length p.2)) ∧ FR (RDX j) S S' := by
  have h40 := hT.2.2.1
  intro k
  induction k with
  | zero => intro c mm S ms hk h1; omega
  | succ k ih =>
    intro c mm S ms hk h1 hmm h hg hC hLC hNC
    obtain ⟨mm, rfl⟩ : ∃ y, mm = y + 1 := ⟨mm - 1, by omega⟩
    have ns := s_nextStep (n := n) h (fun m hm => ⟨(hg.2.2 m hm).1, fun z => hN ▸ (hg.2.2 m hm).2.2.1 z⟩) hNC hO hT.1 hn
    have h200 := hg.2.1
    have hr : red Ns (k + 1) c ms = match nxS Ns ms with
      | none => some (c, ms)
      | some i => if c = 30 then none else if fitB (stR Ns ms i) then red Ns k (c + 1) (stR Ns ms i) else none := rfl
    unfold l_X3_reduce_2
    cases h9 : nxS Ns ms with
    | none =>
      rw [h9] at hr ns
      replace hr : red Ns (k + 1) c ms = some (c, ms) := hr
      replace ns : f_X3_nextStep n S j = some (S, mI) := ns
      obtain ⟨S1, a1, b1, c1, f1⟩ := s_shrs (n := n) (by_ := nI c) hn hj.2.2 h40 hB.2 ms.length n S ms (Nat.le_refl _) (by omega) h hg
      rw [hr]
      refine ⟨S1, ?_, fun p hp => by cases hp; exact ⟨b1, c1⟩, FR_mo f1 (by simp [RDX])⟩
      have h0 := h.1
      rw [if_neg (show ¬ (30 : Int32) < nI c by rw [i30, nIlt (by omega) (by omega)]; omega), ns, bI_s, if_pos (show mI = -1 from rfl), bV_e, h0, i1, a1]
      rfl
    | some i =>
      rw [h9] at hr ns
      replace hr : red Ns (k + 1) c ms = if c = 30 then none else if fitB (stR Ns ms i) then red Ns k (c + 1) (stR Ns ms i) else none := hr
      obtain ⟨m, hi, hs⟩ := nxS_at h9
      have hlt := gt_lt hi
      replace ns : f_X3_nextStep n S j = some (S, nI i) := by rw [ns]; show some (S, nI (0 + i)) = _; rw [Nat.zero_add]
      by_cases q30 : c = 30
      · rw [if_pos q30] at hr
        rw [hr]
        refine ⟨S, ?_, (fun p hp => nomatch hp), FR_rf⟩
        show _ = some (S, m6)
        ((try simp only [i0, i1, i2, i3, i4, i5, i6, i8, i16, i30, i60, i100, i200, i201, i300, i1500, i8000, iM, i_m6]); repeat (first | rw [zt_eq (by omega)] | rw [zt_ne (by omega) (by omega) (by omega)] | rw [zt_nle (by omega) (by omega)] | rw [zt_le (by omega) (by omega)] | rw [zt_nlt (by omega) (by omega)] | rw [zt_lt (by omega) (by omega)] | rw [zt_nm (by omega)] | rw [zt_mm] | rw [zt_ml] | rw [zt_0m] | rw [zt_m0] | rw [zt_n6 (by omega)] | rw [zt_66] | rw [zt_06] | simp (disch := omega) only [i0, i1, i2, i3, i4, i5, i6, i8, i16, i30, i60, i100, i200, i201, i300, i1500, i8000, iM, i_m6, nIa, nIp, nIs, sI_1, sI_22, sL_1, sL_21, sS_21, sS_22, sI_ne, sL_ne, sS_ne, sS_eq, sI_eq, sI_at, sL_eq, sL_at, Nat.add_zero, if_true, if_false, ns] | rw [bV_e] | rw [pS_e] | rw [bI_s] | rw [bU_s] | rw [bL_s] | rw [gI_n (by omega) (by omega)] | rw [pI_n (by omega) (by omega)] | rw [gL_n (by omega) (by omega)] | rw [pL_n (by omega) (by omega)]))
      · rw [if_neg q30] at hr
        obtain ⟨S1, a1, b1, f1⟩ := s_takeStep (n := n) hn hj hL hT hN hO hC hLC hNC hB h hg hi hs
        by_cases qf : fitB (stR Ns ms i) = true
        · rw [if_pos qf] at hr a1
          obtain ⟨b2, b3⟩ := b1 qf
          obtain ⟨S2, a2, c2, f2⟩ := ih (c + 1) mm S1 (stR Ns ms i) (by omega) (by omega) (by omega) b2 b3 (TC_fr hC f1 (by simp; omega)) (LC_fr hLC f1 (by simp; omega)) (NC_fr hNC f1 (by simp; omega))
          rw [hr]
          refine ⟨S2, ?_, c2, FR_tr f1 f2⟩
          rw [← a2]
          ((try simp only [i0, i1, i2, i3, i4, i5, i6, i8, i16, i30, i60, i100, i200, i201, i300, i1500, i8000, iM, i_m6]); repeat (first | rw [zt_eq (by omega)] | rw [zt_ne (by omega) (by omega) (by omega)] | rw [zt_nle (by omega) (by omega)] | rw [zt_le (by omega) (by omega)] | rw [zt_nlt (by omega) (by omega)] | rw [zt_lt (by omega) (by omega)] | rw [zt_nm (by omega)] | rw [zt_mm] | rw [zt_ml] | rw [zt_0m] | rw [zt_m0] | rw [zt_n6 (by omega)] | rw [zt_66] | rw [zt_06] | simp (disch := omega) only [i0, i1, i2, i3, i4, i5, i6, i8, i16, i30, i60, i100, i200, i201, i300, i1500, i8000, iM, i_m6, nIa, nIp, nIs, sI_1, sI_22, sL_1, sL_21, sS_21, sS_22, sI_ne, sL_ne, sS_ne, sS_eq, sI_eq, sI_at, sL_eq, sL_at, Nat.add_zero, if_true, if_false, ns, a1] | rw [bV_e] | rw [pS_e] | rw [bI_s] | rw [bU_s] | rw [bL_s] | rw [gI_n (by omega) (by omega)] | rw [pI_n (by omega) (by omega)] | rw [gL_n (by omega) (by omega)] | rw [pL_n (by omega) (by omega)]))
        · rw [if_neg qf] at hr a1
          rw [hr]
          refine ⟨S1, ?_, (fun p hp => nomatch hp), f1⟩
          show _ = some (S1, m6)
          ((try simp only [i0, i1, i2, i3, i4, i5, i6, i8, i16, i30, i60, i100, i200, i201, i300, i1500, i8000, iM, i_m6]); repeat (first | rw [zt_eq (by omega)] | rw [zt_ne (by omega) (by omega) (by omega)] | rw [zt_nle (by omega) (by omega)] | rw [zt_le (by omega) (by omega)] | rw [zt_nlt (by omega) (by omega)] | rw [zt_lt (by omega) (by omega)] | rw [zt_nm (by omega)] | rw [zt_mm] | rw [zt_ml] | rw [zt_0m] | rw [zt_m0] | rw [zt_n6 (by omega)] | rw [zt_66] | rw [zt_06] | simp (disch := omega) only [i0, i1, i2, i3, i4, i5, i6, i8, i16, i30, i60, i100, i200, i201, i300, i1500, i8000, iM, i_m6, nIa, nIp, nIs, sI_1, sI_22, sL_1, sL_21, sS_21, sS_22, sI_ne, sL_ne, sS_ne, sS_eq, sI_eq, sI_at, sL_eq, sL_at, Nat.add_zero, if_true, if_false, ns, a1] | rw [bV_e] | rw [pS_e] | rw [bI_s] | rw [bU_s] | rw [bL_s] | rw [gI_n (by omega) (by omega)] | rw [pI_n (by omega) (by omega)] | rw [gL_n (by omega) (by omega)] | rw [pL_n (by omega) (by omega)]))
theorem s_reduce {n j B N : Nat} {L : List (List Nat)} {T : List (List Mk)} {Ns : List Nme} {S : St} {ms : List Mk} (hn : 10000 ≤ n) (hj : j ≠ 2 ∧ j ≠ 3 ∧ j ≠ 4) (hL : LOk L) (hT : TOk L T N) (hN : N = Ns.length) (hO : NOk T Ns) (hB : zB T ≤ B ∧ B ≤ 1000000) (h : RW S j ms) (hg : gdT B N ms) (hC : TC S L T) (hLC : LC S L) (hNC : NC S T Ns) : ∃ S', f_X3_reduce n S j = some (S', oN (nrm Ns ms)) ∧ (∀ p, nrm Ns ms = some p → RW S' j p.2 ∧ gdT B N p.2) ∧ FR (RDX j) S S' := by
  obtain ⟨S', a, b, c⟩ := s_red_l (n := n) hn hj hL hT hN hO hB 31 0 n S ms (by omega) (by omega) (by omega) h hg hC hLC hNC
  unfold nrm
  refine ⟨S', ?_, fun p hp => ?_, c⟩
  · unfold f_X3_reduce
    rw [i0, a]
    cases red Ns 31 0 ms <;> rfl
  · cases h9 : red Ns 31 0 ms with
    | none => rw [h9] at hp; cases hp
    | some q =>
      rw [h9] at hp
      cases hp
      exact b q h9
