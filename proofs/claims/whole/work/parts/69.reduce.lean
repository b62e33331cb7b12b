/-! the class: a step is taken -/
theorem gd_mBs {B N : Nat} {ms : List Mk} (h : gdT B N ms) (hB : B ≤ 1500000) (hN : N ≤ 40) : ∀ m ∈ ms, mB m := gdT_mB h hB (by omega)
theorem rsk {x : List Mk} {m : Mk} {r : List Mk} (h : x = m :: r) : hk x = m.1 := by rw [h]; rfl
theorem f16_gd {B N : Nat} {ms : List Mk} (h : gdT B N ms) : ms.all f16 = true := by
  rw [List.all_eq_true]
  intro m hm
  obtain ⟨a, b, c, d1, d2, d3, d4, d5⟩ := h.2.2 m hm
  unfold f16
  rw [decide_eq_true_eq]
  by_cases q0 : m.1 = 0
  · rw [d4 (by omega)]; exact ⟨(d1 q0).2.1, by simp⟩
  · by_cases q2 : m.1 = 2
    · exact ⟨(d2 q2).1.2.1, (d2 q2).2.2.1⟩
    · rw [d4 q2, d3 q0 q2]; simp
theorem all_sh {d : Nat} {x : List Mk} : (x.map (shM d)).all f16 = x.all f16 := by rw [List.all_map]; rfl
theorem fit_repl {B N : Nat} {ms made : List Mk} {i : Nat} (h : gdT B N ms) : fitB (repl ms i made) = (decide ((repl ms i made).length ≤ 200) && made.all f16) := by
  have f1 := f16_gd h
  have e1 : (ms.take i).all f16 = true := List.all_eq_true.mpr (fun m hm => List.all_eq_true.mp f1 m (List.mem_of_mem_take hm))
  have e2 : (rst ms i).all f16 = true := List.all_eq_true.mpr (fun m hm => List.all_eq_true.mp f1 m (List.mem_of_mem_drop (List.mem_of_mem_drop hm)))
  unfold fitB
  congr 1
  unfold repl
  rw [List.all_append, List.all_append, e1, e2, all_sh, Bool.true_and, Bool.and_true]
theorem dpt_m {ms : List Mk} {i : Nat} {m : Mk} (hi : ms[i]? = some m) {made : List Mk} : repl ms i made = ms.take i ++ made.map (shM m.2.2.1) ++ rst ms i := by unfold repl; rw [dpt_e hi]
theorem take_len {ms : List Mk} {i : Nat} {m : Mk} (hi : ms[i]? = some m) : (ms.take i).length = i := by rw [List.length_take]; have := gt_lt hi; omega
/-- the end of a step: the made row takes the place -/
theorem s_putIn {n j i k B N : Nat} {S : St} {ms made : List Mk} {m : Mk} (hj : j ≠ 4) (h : RW S j ms) (ha : RW S 4 made) (hg : gdT B N ms) (hi : ms[i]? = some m) (hk : k = i + (cutT ms i).length) (hn : 201 ≤ n) : ∃ S', f_X4_replace n S j (nI i) (nI k) 4 = some (S', if (repl ms i made).length ≤ 200 then nI 1 else nI 0) ∧ ((repl ms i made).length ≤ 200 → RW S' j (repl ms i made)) ∧ FR [1000 + j] S S' := by
  have hl := congrArg List.length (cut_all (ms := ms) (i := i))
  simp only [List.length_append] at hl
  rw [take_len hi] at hl
  obtain ⟨r0, hr0⟩ := cut_h hi
  have hcl : 1 ≤ (cutT ms i).length := by rw [hr0]; simp
  obtain ⟨S', q1, q2, q3⟩ := s_replace (n := n) (k := k) hj h ha hi (by omega) (by omega) hn
  have e : ms.drop k = rst ms i := by
    unfold rst
    rw [List.drop_drop]
    congr 1
    have : (cutT ms i).length = fpT 1 (ms.drop i) := by
      unfold cutT
      rw [List.length_take]
      exact Nat.min_eq_left fpT_le
    omega
  rw [e, ← dpt_m hi] at q1 q2
  refine ⟨S', ?_, q2, q3⟩
  rw [q1]; split <;> rfl
theorem s_takeStep {n j i B N : Nat} {S : St} {L : List (List Nat)} {T : List (List Mk)} {Ns : List Nme} {ms : List Mk} {m : Mk} (hn : 10000 ≤ n) (hj : j ≠ 2 ∧ j ≠ 3 ∧ j ≠ 4) (hL : LOk L) (hT : TOk L T N) (hN : N = Ns.length) (hO : NOk T Ns) (hC : TC S L T) (hLC : LC S L) (hNC : NC S T Ns) (hB : zB T ≤ B ∧ B ≤ 1000000) (h : RW S j ms) (hg : gdT B N ms) (hi : ms[i]? = some m) (hs : isStp Ns m (ms.drop (i + 1)) = true) : ∃ S', f_X3_takeStep n S j (nI i) = some (S', if fitB (stR Ns ms i) then nI 1 else nI 0) ∧ (fitB (stR Ns ms i) = true → RW S' j (stR Ns ms i) ∧ gdT B N (stR Ns ms i)) ∧ FR [208, 1002, 1003, 1004, 1000 + j] S S' := by
  obtain ⟨j2, j3, j4⟩ := hj
  have h40 := hT.2.2.1
  have hmb := gd_mBs hg (by omega) h40
  have hlt := gt_lt hi
  have h200 := hg.2.1
  have hmv := hg.2.2 m (gt_mem hi)
  have m6 := hmv.1
  have hd := gdT_d hg m (gt_mem hi)
  obtain ⟨c1, c2, c3, c4, c5⟩ := h.2.2 i m hi
  obtain ⟨r, hsub, lA, lB, lC⟩ := lay6 hg hi
  obtain ⟨g1, g2, g3⟩ := sub_gd hg hi
  have hkx : hk (subT ms i) = m.1 := by rw [hsub]; rfl
  have kA := s_kindAt (n := n) h (p := i) (by omega)
  rw [hi] at kA
  have kA' : f_X4_kindAt n S j (nI i) = some (S, nI m.1) := kA
  have tl := take_len hi
  have cl : (cutT ms i).length = (subT ms i).length := by rw [← g2, List.length_map]
  have fit0 := fit_repl (made := rdx Ns (subT ms i)) (i := i) hg
  have two : ∀ {a b : Int32} {A : St}, (if a = nI 0 then some (A, nI 0) else some (A, nI 1)) = some (A, if a = nI 0 then nI 0 else nI 1) := by intro a b A; split <;> rfl
  by_cases q2 : m.1 = 2
  · -- a name
    obtain ⟨lv1, lv2⟩ := hmv.2.2.2.2.1 q2
    have hidx := hmv.2.2.1 q2
    have vO := s_valueOf2 (n := n) hNC hO.1 (hN ▸ hidx)
    have hsome : ∃ v, nval Ns m.2.1 = some v := by
      have : (nval Ns m.2.1).isSome = true := by
        unfold isStp at hs
        simpa [q2] using hs
      exact Option.isSome_iff_exists.mp this
    obtain ⟨v, hv⟩ := hsome
    have hvT := nval_mem hO hv
    rw [hv, nvI_s] at vO
    have hvg := hT.2.2.2.1 v hvT
    obtain ⟨S1, a1, b1, f1⟩ := s_spread (n := n) (j := 4) hL hT hC hLC (ixT_get hvT) (by omega)
    have hR1 : RW S1 j ms := RW_fr h f1 (by simp; omega)
    obtain ⟨c1', c2', c3', c4', c5'⟩ := hR1.2.2 i m hi
    obtain ⟨S2, a2, b2, f2⟩ := s_giveLevels (n := n) (a := m.2.2.2.1) (b := m.2.2.2.2) lv1 lv2 (gdT_mV hvg (by omega) (by omega)) (by omega) b1
    have er : rdx Ns (subT ms i) = v.map (gvM m.2.2.2.1 m.2.2.2.2) := by
      unfold rdx
      rw [if_pos (by rw [hkx]; exact q2), hsub]
      show ((nval Ns m.2.1).getD []).map _ = _
      rw [hv]; rfl
    rw [er] at fit0
    have est : stR Ns ms i = repl ms i (v.map (gvM m.2.2.2.1 m.2.2.2.2)) := by unfold stR; rw [er]
    rw [est, fit0]
    have fr12 : FR [208, 1002, 1003, 1004, 1000 + j] S S2 := FR_tr (FR_mo f1 (by simp)) (FR_mo f2 (by simp))
    by_cases z : (v.map (gvM m.2.2.2.1 m.2.2.2.2)).all f16 = true
    · have hR2 : RW S2 j ms := RW_fr hR1 f2 (by simp; omega)
      obtain ⟨S3, a3, b3, f3⟩ := s_putIn (n := n) (k := i + 1) (j := j) (made := v.map (gvM m.2.2.2.1 m.2.2.2.2)) (by omega) hR2 (b2 z) hg hi (by rw [cl, hsub, (lA (by omega)).1]; rfl) (by omega)
      rw [z, Bool.and_true]
      rw [z, if_pos rfl] at a2
      have gm : gdT (B + m.2.2.1) N (v.map (gvM m.2.2.2.1 m.2.2.2.2)) := gd_gv lv1 lv2 (gdT_mo hvg (by omega)) z
      refine ⟨S3, ?_, fun w => ⟨b3 (of_decide_eq_true w), repl_gd hg hi gm (of_decide_eq_true w)⟩, FR_tr fr12 (FR_mo f3 (by simp))⟩
      have a2' : f_X4_giveLevels n S1 4 (en m.2.2.2.1) (en m.2.2.2.2) = some (S2, nI 1) := a2
      unfold f_X3_takeStep g_X3_takeStep
      by_cases w : (repl ms i (v.map (gvM m.2.2.2.1 m.2.2.2.2))).length ≤ 200
      · rw [if_pos w] at a3
        rw [if_pos (by simpa using w)]
        ((try simp only [i0, i1, i2, i3, i4, i5, i6, i8, i16, i30, i60, i100, i200, i201, i300, i1500, i8000, iM, i_m6]); repeat (first | rw [zt_eq (by omega)] | rw [zt_ne (by omega) (by omega) (by omega)] | rw [zt_nle (by omega) (by omega)] | rw [zt_le (by omega) (by omega)] | rw [zt_nlt (by omega) (by omega)] | rw [zt_lt (by omega) (by omega)] | rw [zt_nm (by omega)] | rw [zt_mm] | rw [zt_ml] | rw [zt_0m] | rw [zt_m0] | rw [zt_n6 (by omega)] | rw [zt_66] | rw [zt_06] | simp (disch := omega) only [i0, i1, i2, i3, i4, i5, i6, i8, i16, i30, i60, i100, i200, i201, i300, i1500, i8000, iM, i_m6, nIa, nIp, nIs, sI_1, sI_22, sL_1, sL_21, sS_21, sS_22, sI_ne, sL_ne, sS_ne, sS_eq, sI_eq, sI_at, sL_eq, sL_at, Nat.add_zero, if_true, if_false, kA', q2, c2, vO, a1, c4', c5', a2', a3] | rw [bV_e] | rw [pS_e] | rw [bI_s] | rw [bU_s] | rw [bL_s] | rw [gI_n (by omega) (by omega)] | rw [pI_n (by omega) (by omega)] | rw [gL_n (by omega) (by omega)] | rw [pL_n (by omega) (by omega)]))
        rfl
      · rw [if_neg w] at a3
        rw [if_neg (by simpa using w)]
        ((try simp only [i0, i1, i2, i3, i4, i5, i6, i8, i16, i30, i60, i100, i200, i201, i300, i1500, i8000, iM, i_m6]); repeat (first | rw [zt_eq (by omega)] | rw [zt_ne (by omega) (by omega) (by omega)] | rw [zt_nle (by omega) (by omega)] | rw [zt_le (by omega) (by omega)] | rw [zt_nlt (by omega) (by omega)] | rw [zt_lt (by omega) (by omega)] | rw [zt_nm (by omega)] | rw [zt_mm] | rw [zt_ml] | rw [zt_0m] | rw [zt_m0] | rw [zt_n6 (by omega)] | rw [zt_66] | rw [zt_06] | simp (disch := omega) only [i0, i1, i2, i3, i4, i5, i6, i8, i16, i30, i60, i100, i200, i201, i300, i1500, i8000, iM, i_m6, nIa, nIp, nIs, sI_1, sI_22, sL_1, sL_21, sS_21, sS_22, sI_ne, sL_ne, sS_ne, sS_eq, sI_eq, sI_at, sL_eq, sL_at, Nat.add_zero, if_true, if_false, kA', q2, c2, vO, a1, c4', c5', a2', a3] | rw [bV_e] | rw [pS_e] | rw [bI_s] | rw [bU_s] | rw [bL_s] | rw [gI_n (by omega) (by omega)] | rw [pI_n (by omega) (by omega)] | rw [gL_n (by omega) (by omega)] | rw [pL_n (by omega) (by omega)]))
        rfl
    · have z' : (v.map (gvM m.2.2.2.1 m.2.2.2.2)).all f16 = false := by simpa using z
      rw [z', Bool.and_false]
      rw [z', if_neg (by simp)] at a2
      refine ⟨S2, ?_, (fun w => nomatch w), fr12⟩
      have a2' : f_X4_giveLevels n S1 4 (en m.2.2.2.1) (en m.2.2.2.2) = some (S2, nI 0) := a2
      rw [if_neg (by simp)]
      unfold f_X3_takeStep g_X3_takeStep
      ((try simp only [i0, i1, i2, i3, i4, i5, i6, i8, i16, i30, i60, i100, i200, i201, i300, i1500, i8000, iM, i_m6]); repeat (first | rw [zt_eq (by omega)] | rw [zt_ne (by omega) (by omega) (by omega)] | rw [zt_nle (by omega) (by omega)] | rw [zt_le (by omega) (by omega)] | rw [zt_nlt (by omega) (by omega)] | rw [zt_lt (by omega) (by omega)] | rw [zt_nm (by omega)] | rw [zt_mm] | rw [zt_ml] | rw [zt_0m] | rw [zt_m0] | rw [zt_n6 (by omega)] | rw [zt_66] | rw [zt_06] | simp (disch := omega) only [i0, i1, i2, i3, i4, i5, i6, i8, i16, i30, i60, i100, i200, i201, i300, i1500, i8000, iM, i_m6, nIa, nIp, nIs, sI_1, sI_22, sL_1, sL_21, sS_21, sS_22, sI_ne, sL_ne, sS_ne, sS_eq, sI_eq, sI_at, sL_eq, sL_at, Nat.add_zero, if_true, if_false, kA', q2, c2, vO, a1, c4', c5', a2'] | rw [bV_e] | rw [pS_e] | rw [bI_s] | rw [bU_s] | rw [bL_s] | rw [gI_n (by omega) (by omega)] | rw [pI_n (by omega) (by omega)] | rw [gL_n (by omega) (by omega)] | rw [pL_n (by omega) (by omega)]))
      rfl
  · -- what both others share: body in row 2, value in row 3
    have fin : ∀ (S1 S2 : St) (bd vl : List Mk) (k : Nat), rdx Ns (subT ms i) = fil bd vl → gdT (B + m.2.2.1 + 1) N bd → gdT (B + m.2.2.1) N vl → RW S1 2 bd → RW S1 3 vl → RW S1 j ms → k = i + (cutT ms i).length → FR [208, 1002, 1003, 1004, 1000 + j] S S1 → ∃ S', zW (j_X3_takeStep_176 n S1 j (nI i) (nI k)) = some (S', if fitB (stR Ns ms i) then nI 1 else nI 0) ∧ (fitB (stR Ns ms i) = true → RW S' j (stR Ns ms i) ∧ gdT B N (stR Ns ms i)) ∧ FR [208, 1002, 1003, 1004, 1000 + j] S S' := by
      intro S1 _ bd vl k er gb gv r2 r3 rj hk fr1
      have est : stR Ns ms i = repl ms i (fil bd vl) := by unfold stR; rw [er]
      rw [er] at fit0
      obtain ⟨S2, a2, b2, f2⟩ := s_fillWith (n := n) (j := 4) (by decide) (by decide) (gd_mBs gb (by omega) h40) (gd_mBs gv (by omega) h40) (Tm_ne gv.1) (by omega) r2 r3
      have fr2 : FR [208, 1002, 1003, 1004, 1000 + j] S S2 := FR_tr fr1 (FR_mo f2 (by simp))
      have lle : (fil bd vl).length ≤ (repl ms i (fil bd vl)).length := by unfold repl; simp only [List.length_append, List.length_map]; omega
      rw [est, fit0]
      unfold j_X3_takeStep_176
      by_cases w0 : (fil bd vl).length ≤ 200
      · have gf := gd_fil gb gv w0
        rw [f16_gd gf, Bool.and_true]
        rw [if_pos w0] at a2
        have a2' : f_X4_fillWith n S1 4 2 3 = some (S2, nI 1) := a2
        obtain ⟨S3, a3, b3, f3⟩ := s_putIn (n := n) (j := j) (by omega) (RW_fr rj f2 (by simp; omega)) (b2 w0) hg hi hk (by omega)
        refine ⟨S3, ?_, fun w => ⟨b3 (of_decide_eq_true w), repl_gd hg hi gf (of_decide_eq_true w)⟩, FR_tr fr2 (FR_mo f3 (by simp))⟩
        by_cases w : (repl ms i (fil bd vl)).length ≤ 200
        · rw [if_pos w] at a3
          rw [if_pos (by simpa using w)]
          ((try simp only [i0, i1, i2, i3, i4, i5, i6, i8, i16, i30, i60, i100, i200, i201, i300, i1500, i8000, iM, i_m6]); repeat (first | rw [zt_eq (by omega)] | rw [zt_ne (by omega) (by omega) (by omega)] | rw [zt_nle (by omega) (by omega)] | rw [zt_le (by omega) (by omega)] | rw [zt_nlt (by omega) (by omega)] | rw [zt_lt (by omega) (by omega)] | rw [zt_nm (by omega)] | rw [zt_mm] | rw [zt_ml] | rw [zt_0m] | rw [zt_m0] | rw [zt_n6 (by omega)] | rw [zt_66] | rw [zt_06] | simp (disch := omega) only [i0, i1, i2, i3, i4, i5, i6, i8, i16, i30, i60, i100, i200, i201, i300, i1500, i8000, iM, i_m6, nIa, nIp, nIs, sI_1, sI_22, sL_1, sL_21, sS_21, sS_22, sI_ne, sL_ne, sS_ne, sS_eq, sI_eq, sI_at, sL_eq, sL_at, Nat.add_zero, if_true, if_false, a2', a3] | rw [bV_e] | rw [pS_e] | rw [bI_s] | rw [bU_s] | rw [bL_s] | rw [gI_n (by omega) (by omega)] | rw [pI_n (by omega) (by omega)] | rw [gL_n (by omega) (by omega)] | rw [pL_n (by omega) (by omega)]))
          rfl
        · rw [if_neg w] at a3
          rw [if_neg (by simpa using w)]
          ((try simp only [i0, i1, i2, i3, i4, i5, i6, i8, i16, i30, i60, i100, i200, i201, i300, i1500, i8000, iM, i_m6]); repeat (first | rw [zt_eq (by omega)] | rw [zt_ne (by omega) (by omega) (by omega)] | rw [zt_nle (by omega) (by omega)] | rw [zt_le (by omega) (by omega)] | rw [zt_nlt (by omega) (by omega)] | rw [zt_lt (by omega) (by omega)] | rw [zt_nm (by omega)] | rw [zt_mm] | rw [zt_ml] | rw [zt_0m] | rw [zt_m0] | rw [zt_n6 (by omega)] | rw [zt_66] | rw [zt_06] | simp (disch := omega) only [i0, i1, i2, i3, i4, i5, i6, i8, i16, i30, i60, i100, i200, i201, i300, i1500, i8000, iM, i_m6, nIa, nIp, nIs, sI_1, sI_22, sL_1, sL_21, sS_21, sS_22, sI_ne, sL_ne, sS_ne, sS_eq, sI_eq, sI_at, sL_eq, sL_at, Nat.add_zero, if_true, if_false, a2', a3] | rw [bV_e] | rw [pS_e] | rw [bI_s] | rw [bU_s] | rw [bL_s] | rw [gI_n (by omega) (by omega)] | rw [pI_n (by omega) (by omega)] | rw [gL_n (by omega) (by omega)] | rw [pL_n (by omega) (by omega)]))
          rfl
      · rw [if_neg w0] at a2
        have a2' : f_X4_fillWith n S1 4 2 3 = some (S2, nI 0) := a2
        have wn : decide ((repl ms i (fil bd vl)).length ≤ 200) = false := by simp; omega
        rw [wn, Bool.false_and]
        refine ⟨S2, ?_, (fun w => nomatch w), fr2⟩
        rw [if_neg (by simp)]
        ((try simp only [i0, i1, i2, i3, i4, i5, i6, i8, i16, i30, i60, i100, i200, i201, i300, i1500, i8000, iM, i_m6]); repeat (first | rw [zt_eq (by omega)] | rw [zt_ne (by omega) (by omega) (by omega)] | rw [zt_nle (by omega) (by omega)] | rw [zt_le (by omega) (by omega)] | rw [zt_nlt (by omega) (by omega)] | rw [zt_lt (by omega) (by omega)] | rw [zt_nm (by omega)] | rw [zt_mm] | rw [zt_ml] | rw [zt_0m] | rw [zt_m0] | rw [zt_n6 (by omega)] | rw [zt_66] | rw [zt_06] | simp (disch := omega) only [i0, i1, i2, i3, i4, i5, i6, i8, i16, i30, i60, i100, i200, i201, i300, i1500, i8000, iM, i_m6, nIa, nIp, nIs, sI_1, sI_22, sL_1, sL_21, sS_21, sS_22, sI_ne, sL_ne, sS_ne, sS_eq, sI_eq, sI_at, sL_eq, sL_at, Nat.add_zero, if_true, if_false, a2'] | rw [bV_e] | rw [pS_e] | rw [bI_s] | rw [bU_s] | rw [bL_s] | rw [gI_n (by omega) (by omega)] | rw [pI_n (by omega) (by omega)] | rw [gL_n (by omega) (by omega)] | rw [pL_n (by omega) (by omega)]))
        rfl
    rw [hsub] at g1
    obtain ⟨gp, gp3⟩ := gd_parts g1
    rw [← hsub] at gp gp3
    by_cases q6 : m.1 = 6
    · obtain ⟨gq1, gq2⟩ := gp (show 3 ≤ m.1 by omega)
      have gq3 := gp3 q6
      have e := lC q6
      have pl : (ms.take i ++ [m]).length = i + 1 := by rw [List.length_append, tl]; rfl
      have t1 := Tm_sh gq1.1 m.2.2.1
      have t2 := Tm_sh gq2.1 m.2.2.1
      have t3 := Tm_sh gq3.1 (m.2.2.1 + 1)
      have E1 := s_endX (n := n) h hmb e t1 (by omega)
      rw [pl, List.length_map] at E1
      have e2 : ms = (ms.take i ++ [m] ++ (p1 (subT ms i)).map (shM m.2.2.1)) ++ ((p2 (subT ms i)).map (shM m.2.2.1) ++ ((p3 (subT ms i)).map (shM (m.2.2.1 + 1)) ++ rst ms i)) := by
        conv => lhs; rw [e]
        simp only [List.append_assoc]
      have pl2 : (ms.take i ++ [m] ++ (p1 (subT ms i)).map (shM m.2.2.1)).length = i + 1 + (p1 (subT ms i)).length := by rw [List.length_append, pl, List.length_map]
      have E2 := s_endX (n := n) h hmb e2 t2 (by omega)
      rw [pl2, List.length_map] at E2
      have e3 : ms = (ms.take i ++ [m] ++ (p1 (subT ms i)).map (shM m.2.2.1) ++ (p2 (subT ms i)).map (shM m.2.2.1)) ++ ((p3 (subT ms i)).map (shM (m.2.2.1 + 1)) ++ rst ms i) := by
        conv => lhs; rw [e]
        simp only [List.append_assoc]
      have pl3 : (ms.take i ++ [m] ++ (p1 (subT ms i)).map (shM m.2.2.1) ++ (p2 (subT ms i)).map (shM m.2.2.1)).length = i + 1 + (p1 (subT ms i)).length + (p2 (subT ms i)).length := by rw [List.length_append, pl2, List.length_map]
      have E3 := s_endX (n := n) h hmb e3 t3 (by omega)
      rw [pl3, List.length_map] at E3
      obtain ⟨S1, a1, b1, f1⟩ := s_takeX (n := n) (j := 3) (by omega) h hmb e2 gq2.1 (by omega)
      rw [pl2] at a1
      obtain ⟨S2, a2, b2, f2⟩ := s_takeX (n := n) (j := 2) (by omega) (RW_fr h f1 (by simp; omega)) hmb e3 gq3.1 (by omega)
      rw [pl3] at a2
      have fr1 : FR [208, 1002, 1003, 1004, 1000 + j] S S2 := FR_tr (FR_mo f1 (by simp)) (FR_mo f2 (by simp))
      have hlen : (subT ms i).length = 1 + (p1 (subT ms i)).length + (p2 (subT ms i)).length + (p3 (subT ms i)).length := by
        have := (tlen (hsub ▸ g1)).2.2 (by rw [hkx]; exact q6)
        exact this
      obtain ⟨S', q1, q3, q4⟩ := fin S2 S2 (p3 (subT ms i)) (p2 (subT ms i)) (i + 1 + (p1 (subT ms i)).length + (p2 (subT ms i)).length + (p3 (subT ms i)).length) (by unfold rdx; rw [if_neg (by rw [hkx]; exact q2), if_pos (by rw [hkx]; exact q6)]) gq3 (by
          have := gq2
          rw [show dl (dnM m.2.2.1 m).1 = 0 by show dl m.1 = 0; rw [q6]; rfl] at this
          exact this) b2 (RW_fr b1 f2 (by simp)) (RW_fr (RW_fr h f1 (by simp; omega)) f2 (by simp; omega)) (by rw [cl, hlen]; omega) fr1
      refine ⟨S', ?_, q3, q4⟩
      rw [← q1]
      unfold f_X3_takeStep g_X3_takeStep
      ((try simp only [i0, i1, i2, i3, i4, i5, i6, i8, i16, i30, i60, i100, i200, i201, i300, i1500, i8000, iM, i_m6]); repeat (first | rw [zt_eq (by omega)] | rw [zt_ne (by omega) (by omega) (by omega)] | rw [zt_nle (by omega) (by omega)] | rw [zt_le (by omega) (by omega)] | rw [zt_nlt (by omega) (by omega)] | rw [zt_lt (by omega) (by omega)] | rw [zt_nm (by omega)] | rw [zt_mm] | rw [zt_ml] | rw [zt_0m] | rw [zt_m0] | rw [zt_n6 (by omega)] | rw [zt_66] | rw [zt_06] | simp (disch := omega) only [i0, i1, i2, i3, i4, i5, i6, i8, i16, i30, i60, i100, i200, i201, i300, i1500, i8000, iM, i_m6, nIa, nIp, nIs, sI_1, sI_22, sL_1, sL_21, sS_21, sS_22, sI_ne, sL_ne, sS_ne, sS_eq, sI_eq, sI_at, sL_eq, sL_at, Nat.add_zero, if_true, if_false, kA', q6, E1, E2, E3, a1, a2] | rw [bV_e] | rw [pS_e] | rw [bI_s] | rw [bU_s] | rw [bL_s] | rw [gI_n (by omega) (by omega)] | rw [pI_n (by omega) (by omega)] | rw [gL_n (by omega) (by omega)] | rw [pL_n (by omega) (by omega)] | rw [j_X3_takeStep_91]))
    · have q5 : m.1 = 5 ∧ hk (ms.drop (i + 1)) = 4 := by
        unfold isStp at hs
        simp [q2, q6] at hs
        exact ⟨hs.1, hs.2.1⟩
      obtain ⟨q5, h4⟩ := q5
      obtain ⟨gq1, gq2⟩ := gp (show 3 ≤ m.1 by omega)
      rw [show dl (dnM m.2.2.1 m).1 = 0 by show dl m.1 = 0; rw [q5]; rfl] at gq2
      have e := lB (by omega) q6
      have pl : (ms.take i ++ [m]).length = i + 1 := by rw [List.length_append, tl]; rfl
      have hd1 : ms.drop (i + 1) = (p1 (subT ms i)).map (shM m.2.2.1) ++ ((p2 (subT ms i)).map (shM (m.2.2.1 + dl m.1)) ++ rst ms i) := by
        conv => lhs; rw [e, ← pl, List.drop_left]
      cases hp1 : p1 (subT ms i) with
      | nil => rw [hp1] at gq1; exact absurd (Tm_ne gq1.1) (by simp)
      | cons m' r' =>
        have k4 : m'.1 = 4 := by rw [hd1, hp1] at h4; exact h4
        rw [hp1] at gq1
        have d0' : m'.2.2.1 = 0 := (tm_parts gq1.1).1
        obtain ⟨gb1, gb2⟩ := (gd_parts gq1).1 (by omega)
        have er' := (tm_parts gq1.1).2.2.2.1 (by rw [k4]; rfl)
        rw [show dl m'.1 = 1 by rw [k4]; rfl] at gb2 er'
        have e4 : ms = (ms.take i ++ [m] ++ [shM m.2.2.1 m']) ++ ((p1 (m' :: r')).map (shM m.2.2.1) ++ ((p2 (m' :: r')).map (shM (1 + m.2.2.1)) ++ ((p2 (subT ms i)).map (shM m.2.2.1) ++ rst ms i))) := by
          conv => lhs; rw [e, hp1, List.map_cons, er', List.map_append, sh_sh, q5]
          rw [show m.2.2.1 + dl 5 = m.2.2.1 from rfl]
          simp only [List.append_assoc, List.cons_append, List.nil_append]
        have pl4 : (ms.take i ++ [m] ++ [shM m.2.2.1 m']).length = i + 1 + 1 := by rw [List.length_append, pl]; rfl
        have t1 := Tm_sh gb1.1 m.2.2.1
        have t2 := Tm_sh gb2.1 (1 + m.2.2.1)
        have t3 := Tm_sh gq2.1 m.2.2.1
        have E1 := s_endX (n := n) h hmb e4 t1 (by omega)
        rw [pl4, List.length_map] at E1
        have e5 : ms = (ms.take i ++ [m] ++ [shM m.2.2.1 m'] ++ (p1 (m' :: r')).map (shM m.2.2.1)) ++ ((p2 (m' :: r')).map (shM (1 + m.2.2.1)) ++ ((p2 (subT ms i)).map (shM m.2.2.1) ++ rst ms i)) := by
          conv => lhs; rw [e4]
          simp only [List.append_assoc]
        have pl5 : (ms.take i ++ [m] ++ [shM m.2.2.1 m'] ++ (p1 (m' :: r')).map (shM m.2.2.1)).length = i + 1 + 1 + (p1 (m' :: r')).length := by rw [List.length_append, pl4, List.length_map]
        have E2 := s_endX (n := n) h hmb e5 t2 (by omega)
        rw [pl5, List.length_map] at E2
        have e6 : ms = (ms.take i ++ [m] ++ [shM m.2.2.1 m'] ++ (p1 (m' :: r')).map (shM m.2.2.1) ++ (p2 (m' :: r')).map (shM (1 + m.2.2.1))) ++ ((p2 (subT ms i)).map (shM m.2.2.1) ++ rst ms i) := by
          conv => lhs; rw [e4]
          simp only [List.append_assoc]
        have pl6 : (ms.take i ++ [m] ++ [shM m.2.2.1 m'] ++ (p1 (m' :: r')).map (shM m.2.2.1) ++ (p2 (m' :: r')).map (shM (1 + m.2.2.1))).length = i + 1 + 1 + (p1 (m' :: r')).length + (p2 (m' :: r')).length := by rw [List.length_append, pl5, List.length_map]
        have E3 := s_endX (n := n) h hmb e6 t3 (by omega)
        rw [pl6, List.length_map] at E3
        obtain ⟨S1, a1, b1, f1⟩ := s_takeX (n := n) (j := 2) (by omega) h hmb e5 gb2.1 (by omega)
        rw [pl5] at a1
        obtain ⟨S2, a2, b2, f2⟩ := s_takeX (n := n) (j := 3) (by omega) (RW_fr h f1 (by simp; omega)) hmb e6 gq2.1 (by omega)
        rw [pl6] at a2
        have fr1 : FR [208, 1002, 1003, 1004, 1000 + j] S S2 := FR_tr (FR_mo f1 (by simp)) (FR_mo f2 (by simp))
        have hl1 : (subT ms i).length = 1 + (p1 (subT ms i)).length + (p2 (subT ms i)).length := (tlen (hsub ▸ g1)).2.1 (by rw [hkx]; omega) (by rw [hkx]; exact q6)
        have hl2 : (m' :: r').length = 1 + (p1 (m' :: r')).length + (p2 (m' :: r')).length := (tlen gq1).2.1 (show 3 ≤ m'.1 by omega) (show m'.1 ≠ 6 by omega)
        obtain ⟨S', q1, q3, q4⟩ := fin S2 S2 (p2 (m' :: r')) (p2 (subT ms i)) (i + 1 + 1 + (p1 (m' :: r')).length + (p2 (m' :: r')).length + (p2 (subT ms i)).length) (by unfold rdx; rw [if_neg (by rw [hkx]; exact q2), if_neg (by rw [hkx]; exact q6), hp1]) gb2 gq2 (RW_fr b1 f2 (by simp)) b2 (RW_fr (RW_fr h f1 (by simp; omega)) f2 (by simp; omega)) (by rw [cl, hl1, hp1, hl2]; omega) fr1
        refine ⟨S', ?_, q3, q4⟩
        rw [← q1]
        unfold f_X3_takeStep g_X3_takeStep
        ((try simp only [i0, i1, i2, i3, i4, i5, i6, i8, i16, i30, i60, i100, i200, i201, i300, i1500, i8000, iM, i_m6]); repeat (first | rw [zt_eq (by omega)] | rw [zt_ne (by omega) (by omega) (by omega)] | rw [zt_nle (by omega) (by omega)] | rw [zt_le (by omega) (by omega)] | rw [zt_nlt (by omega) (by omega)] | rw [zt_lt (by omega) (by omega)] | rw [zt_nm (by omega)] | rw [zt_mm] | rw [zt_ml] | rw [zt_0m] | rw [zt_m0] | rw [zt_n6 (by omega)] | rw [zt_66] | rw [zt_06] | simp (disch := omega) only [i0, i1, i2, i3, i4, i5, i6, i8, i16, i30, i60, i100, i200, i201, i300, i1500, i8000, iM, i_m6, nIa, nIp, nIs, sI_1, sI_22, sL_1, sL_21, sS_21, sS_22, sI_ne, sL_ne, sS_ne, sS_eq, sI_eq, sI_at, sL_eq, sL_at, Nat.add_zero, if_true, if_false, kA', q5, E1, E2, E3, a1, a2] | rw [bV_e] | rw [pS_e] | rw [bI_s] | rw [bU_s] | rw [bL_s] | rw [gI_n (by omega) (by omega)] | rw [pI_n (by omega) (by omega)] | rw [gL_n (by omega) (by omega)] | rw [pL_n (by omega) (by omega)] | rw [j_X3_takeStep_91]))
