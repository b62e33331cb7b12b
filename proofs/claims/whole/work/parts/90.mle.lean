/-! the reference: types of definitions; typing as a whole -/
theorem m_le {n d a o q : Nat} {L : List (List Nat)} {T : List (List Mk)} {Ns : List Nme} {F : St → Int32 → Option (St × Int32)} {S : St} {ctx : List (List Mk)} {x : List Mk} (hn : 10000 ≤ n) (he : ENV L T Ns) (hF : FM n d (a + 1) L T Ns F) (hd : d + a ≤ 101) (h6 : hk x = 6) (hg : gdT (zB T + ctx.length) Ns.length x) (hl : x.length + 2 * a ≤ 200) (hc : ctx.length ≤ a) (hM : MS S L T Ns) (hX : RX S ctx) (hko : cOk (zB T) Ns.length ctx) (hs : sg (S.2.1 367 0) o (flt x)) (ho : o + (flt x).length ≤ 8000) (h5 : S.1 375 0 = nI q) (hq : q ≤ 7000 * a) : ∃ S', f_X8_typeOfLet n F S (nI o) = some (S', nI (tyLe Ns (tyS Ns d) ctx x).1) ∧ ((tyLe Ns (tyS Ns d) ctx x).1 = 0 → RS S' q (tyLe Ns (tyS Ns d) ctx x).2 ∧ S'.1 383 0 = nI ctx.length) ∧ (tyLe Ns (tyS Ns d) ctx x).1 ≤ 8 ∧ KP 371 q S S' ∧ KP 382 ctx.length S S' ∧ FR TZ S S' := by
  have h40 := he.2.2.1
  have hz := zB_le he.2.1
  obtain ⟨fx, lx⟩ := (flt_pt hg).2 h6
  obtain ⟨g1, g2⟩ := (gd_pt hg).1 (by omega)
  have g3 := (gd_pt hg).2 h6
  rw [h6, show dl 6 = 0 from rfl, Nat.add_zero] at g2
  have l1 := Tm_ne g1.1
  have l2 := Tm_ne g2.1
  have l3 := Tm_ne g3.1
  rw [fx] at hs ho
  rw [List.length_cons, List.length_append, List.length_append] at ho
  have hs1 := (sg_app.mp hs.2).1
  have hs2 := (sg_app.mp (sg_app.mp hs.2).2).1
  have hs3 := (sg_app.mp (sg_app.mp hs.2).2).2
  have n7 : ∀ R : List Nat, 367 ∉ R → rg 367 0 ∉ R := fun R h => n8o (by omega) h
  have n1 : ∀ R : List Nat, 371 ∉ R → rg 371 0 ∉ R := fun R h => n8o (by omega) h
  obtain ⟨S1, A1, R1, B1, K1, K1', F1⟩ := m_sort (n := n) (o := o + 1) hn he hF (by omega) (by omega) g1 (by omega) (by omega) hM hX hko hs1 (by omega) h5 (by omega)
  unfold tyLe
  generalize srt Ns (tyS Ns d ctx (p1 x)) = s1 at *
  unfold f_X8_typeOfLet
  by_cases z1 : s1.1 = 0
  · obtain ⟨R1a, R1b, lv1⟩ := R1 z1
    rw [z1] at A1
    rw [thn_0 z1]
    have F2 : FR TZ S (sS S1 375 0 (nI q)) := FR_tr F1 S75
    have K2 : KP 371 q S (sS S1 375 0 (nI q)) := KP_tr K1 (fun i _ => rfl)
    have K2' : KP 382 ctx.length S (sS S1 375 0 (nI q)) := KP_tr K1' (fun i _ => rfl)
    have R2b : (sS S1 375 0 (nI q)).1 383 0 = nI ctx.length := by rw [sS_ne (by omega)]; exact R1b
    have X2 := RX_k hX K2' F2 (by decide) R2b
    have bT := s_behindTerm (n := n) (f := 367) (S := sS S1 375 0 (nI q)) (o := o + 1) (by omega) g1.1 (gd_mW g1 (by omega) h40) (sg_fr F2 (n7 _ (by decide)) hs1) (by rw [ln367]; omega) (by omega)
    have bT2 := s_behindTerm (n := n) (f := 367) (S := sS S1 375 0 (nI q)) (o := o + 1 + (flt (p1 x)).length) (by omega) g2.1 (gd_mW g2 (by omega) h40) (sg_fr F2 (n7 _ (by decide)) hs2) (by rw [ln367]; omega) (by omega)
    obtain ⟨S4, A4, R4, B4, K4, K4', F4⟩ := hF (sS S1 375 0 (nI q)) ctx (p2 x) (o + 1 + (flt (p1 x)).length) q g2 (by omega) (by omega) (MS_TZ hM F2) X2 hko (sg_fr F2 (n7 _ (by decide)) hs2) (by omega) sS_eq (by omega)
    have gd4 := tyS_gd he d ctx (p2 x) g2 hko (by omega)
    have F4' : FR TZ S S4 := FR_tr F2 F4
    have K4a : KP 371 q S S4 := KP_tr K2 K4
    have K4b : KP 382 ctx.length S S4 := KP_tr K2' K4'
    generalize tyS Ns d ctx (p2 x) = r4 at *
    by_cases z4 : r4.1 = 0
    · obtain ⟨R4a, R4b⟩ := R4 z4
      rw [z4] at A4
      rw [thn_0 z4]
      obtain ⟨S5, A5, D5, R5, K5, F5⟩ := s_normalAt (n := n) (q := q) hn he (by omega) (MS_TZ hM F4') (gd4 z4) R4a (by omega)
      have gn5 := nr_gd he (B := zB T + ctx.length) (by omega) (gd4 z4)
      have F5' : FR TZ S S5 := FR_tr F4' (nzTZ F5)
      have K5a : KP 371 q S S5 := KP_tr K4a K5
      have K5b : KP 382 ctx.length S S5 := KP_tr K4b (n382 F5 (by decide))
      have h83 : S5.1 383 0 = nI ctx.length := by rw [(F5 383 0 (n8o (by omega) (by decide))).1]; exact R4b
      generalize nr Ns r4.2 = w at *
      rcases D5 with v | v
      · obtain ⟨R5a, R5b⟩ := R5 v
        rw [v] at A5
        rw [thn_0 v]
        have gw := gn5 v
        have flw := gd_flt gw (by omega) h40
        obtain ⟨S6, a6, b6, c6, f6⟩ := s_load (n := n) (f := 367) (o := o + 1) (e := o + 1 + (flt (p1 x)).length) (S := S5) (by omega) (by omega) hn rfl (by rw [ln367]; omega) (by omega) (sg_fr F5' (n7 _ (by decide)) hs1)
        have F6' : FR TZ S S6 := FR_tr F5' (FR_mo f6 (by simp [TZ, NZ]))
        have M6 := MS_TZ hM F6'
        obtain ⟨S7, A7, R7, F7⟩ := s_normalize (n := n) (B := zB T + ctx.length) hn he.1 he.2.1 he.2.2 (by omega) ⟨b6, c6⟩ g1 M6.1 M6.2.1 M6.2.2
        have F7' : FR TZ S S7 := FR_tr F6' (nzTZ (FR_mo F7 (fun z hz => List.mem_cons_of_mem _ (List.mem_cons_of_mem _ hz))))
        have K7a : KP 371 q S S7 := KP_tr K5a (KP_tr (KP_fr f6 (n1 _ (by decide))) (KP_fr F7 (n1 _ (by decide))))
        have K7b : KP 382 ctx.length S S7 := KP_tr K5b (KP_tr (n382 f6 (by decide)) (n382 F7 (by decide)))
        have h83' : S7.1 383 0 = nI ctx.length := by rw [(F7 383 0 (n8o (by omega) (by decide))).1, (f6 383 0 (n8o (by omega) (by decide))).1]; exact h83
        have sw7 : sg (S7.2.1 371 0) q (flt w.2) := sg_fr F7 (n1 _ (by decide)) (sg_fr f6 (n1 _ (by decide)) R5a)
        cases h9 : nrm Ns (p1 x) with
        | none =>
          rw [nr_n h9, thn_m (by decide)]
          rw [h9] at A7
          have A7' : f_X8_normalize n S6 = some (S7, m6) := A7
          refine ⟨S7, ?_, (fun w => nomatch w), (by decide), K7a, K7b, F7'⟩
          ((try simp only [k0, k1, k2, k3, k4, k5, k6, k8, k16, k30, k60, k100, k200, k201, k300, k1500, k8000, kM, k_m6]); repeat (first | rw [zt_eq (by omega)] | rw [zt_ne (by omega) (by omega) (by omega)] | rw [zt_nle (by omega) (by omega)] | rw [zt_le (by omega) (by omega)] | rw [zt_nlt (by omega) (by omega)] | rw [zt_lt (by omega) (by omega)] | rw [zt_nm (by omega)] | rw [zt_mm] | rw [zt_ml] | rw [zt_0m] | rw [zt_m0] | rw [zt_n6 (by omega)] | rw [zt_66] | rw [zt_06] | simp (disch := omega) only [k0, k1, k2, k3, k4, k5, k6, k8, k16, k30, k60, k100, k200, k201, k300, k1500, k8000, kM, k_m6, nIa, nIp, nIs, sI_1, sI_22, sL_1, sL_21, sS_21, sS_22, sI_ne, sL_ne, sS_ne, sS_eq, sI_eq, sI_at, sL_eq, sL_at, Nat.add_zero, if_true, if_false, h5, A1, bT, bT2, A4, A5, a6, A7'] | rw [bV_e] | rw [pS_e] | rw [bI_s] | rw [bU_s] | rw [bL_s] | rw [gI_n (by omega) (by omega)] | rw [gR_n (by omega)] | rw [pI_n (by omega) (by omega)] | rw [gL_n (by omega) (by omega)] | rw [pL_n (by omega) (by omega)] | rw [j_X8_typeOfLet_67]))
        | some p =>
          rw [nr_s h9, thn_0 rfl]
          obtain ⟨⟨d1, d2⟩, gp⟩ := R7 p h9
          have hpc := nrm_c h9
          rw [h9] at A7
          have A7' : f_X8_normalize n S6 = some (S7, nI p.1) := A7
          have flp := gd_flt gp (by omega) h40
          obtain ⟨S8, A8, F8⟩ := s_isSame (n := n) (f := 371) (g := 368) (o := q) (u := 0) (S := S7) hn (by omega) (by omega) gw.1 gp.1 (gdT_mV gw (by omega) (by omega)) (gdT_mV gp (by omega) (by omega)) sw7 d1 (by rw [ln371]; omega) (by rw [ln368]; omega) (by have := gw.2.1; omega)
          rw [mtc_c] at A8
          have F8' : FR TZ S S8 := FR_tr F7' (FR_mo F8 (by simp [TZ, NZ]))
          have K8a : KP 371 q S S8 := KP_tr K7a (KP_fr F8 (n1 _ (by decide)))
          have K8b : KP 382 ctx.length S S8 := KP_tr K7b (n382 F8 (by decide))
          have h83e : S8.1 383 0 = nI ctx.length := by rw [(F8 383 0 (n8o (by omega) (by decide))).1]; exact h83'
          cases h8 : mtc p.2 w.2 with
          | false =>
            rw [h8, zb_f] at A8
            rw [if_neg (by simp)]
            refine ⟨S8, ?_, (fun w => nomatch w), (by decide), K8a, K8b, F8'⟩
            ((try simp only [k0, k1, k2, k3, k4, k5, k6, k8, k16, k30, k60, k100, k200, k201, k300, k1500, k8000, kM, k_m6]); repeat (first | rw [zt_eq (by omega)] | rw [zt_ne (by omega) (by omega) (by omega)] | rw [zt_nle (by omega) (by omega)] | rw [zt_le (by omega) (by omega)] | rw [zt_nlt (by omega) (by omega)] | rw [zt_lt (by omega) (by omega)] | rw [zt_nm (by omega)] | rw [zt_mm] | rw [zt_ml] | rw [zt_0m] | rw [zt_m0] | rw [zt_n6 (by omega)] | rw [zt_66] | rw [zt_06] | simp (disch := omega) only [k0, k1, k2, k3, k4, k5, k6, k8, k16, k30, k60, k100, k200, k201, k300, k1500, k8000, kM, k_m6, nIa, nIp, nIs, sI_1, sI_22, sL_1, sL_21, sS_21, sS_22, sI_ne, sL_ne, sS_ne, sS_eq, sI_eq, sI_at, sL_eq, sL_at, Nat.add_zero, if_true, if_false, h5, A1, bT, bT2, A4, A5, a6, A7', A8] | rw [bV_e] | rw [pS_e] | rw [bI_s] | rw [bU_s] | rw [bL_s] | rw [gI_n (by omega) (by omega)] | rw [gR_n (by omega)] | rw [pI_n (by omega) (by omega)] | rw [gL_n (by omega) (by omega)] | rw [pL_n (by omega) (by omega)] | rw [j_X8_typeOfLet_67]))
          | true =>
            rw [h8, zb_t] at A8
            rw [if_pos rfl]
            have F9 : FR TZ S (sS S8 375 0 (nI q)) := FR_tr F8' S75
            have K9 : KP 371 q S (sS S8 375 0 (nI q)) := KP_tr K8a (fun i _ => rfl)
            have K9' : KP 382 ctx.length S (sS S8 375 0 (nI q)) := KP_tr K8b (fun i _ => rfl)
            have R9b : (sS S8 375 0 (nI q)).1 383 0 = nI ctx.length := by rw [sS_ne (by omega)]; exact h83e
            have X9 := RX_k hX K9' F9 (by decide) R9b
            have X10 := RX_c X9 (sg_fr F9 (n7 _ (by decide)) hs1) (by omega)
            have F10 : FR TZ S (sS (sI (sS S8 375 0 (nI q)) 382 0 ctx.length (nI (o + 1))) 383 0 (nI (ctx.length + 1))) := FR_sS (FR_sI F9 (by rw [rg8 (by omega)]; decide)) (by rw [rg8 (by omega)]; decide)
            have K10 : KP 371 q S (sS (sI (sS S8 375 0 (nI q)) 382 0 ctx.length (nI (o + 1))) 383 0 (nI (ctx.length + 1))) := KP_tr K9 (fun i _ => by rw [sS_21, sI_ne (by omega)])
            have K10' : KP 382 ctx.length S (sS (sI (sS S8 375 0 (nI q)) 382 0 ctx.length (nI (o + 1))) 383 0 (nI (ctx.length + 1))) := KP_tr K9' (fun i hi => by rw [sS_21, sI_at (by omega)])
            obtain ⟨S11, A11, R11, B11, K11, K11', F11⟩ := hF (sS (sI (sS S8 375 0 (nI q)) 382 0 ctx.length (nI (o + 1))) 383 0 (nI (ctx.length + 1))) (p1 x :: ctx) (p3 x) (o + 1 + (flt (p1 x)).length + (flt (p2 x)).length) q g3 (by omega) (by rw [List.length_cons]; omega) (MS_TZ hM F10) X10 ⟨g1, hko⟩ (sg_fr F10 (n7 _ (by decide)) hs3) (by omega) (by rw [sS_ne (by omega), sI_1, sS_eq]) (by omega)
            have gd11 := tyS_gd he d (p1 x :: ctx) (p3 x) g3 ⟨g1, hko⟩ (by rw [List.length_cons]; omega)
            rw [List.length_cons] at R11 K11' gd11
            have F11' : FR TZ S S11 := FR_tr F10 F11
            have K11a : KP 371 q S S11 := KP_tr K10 K11
            have K11b : KP 382 ctx.length S S11 := KP_tr K10' (KP_mo K11' (by omega))
            generalize tyS Ns d (p1 x :: ctx) (p3 x) = r11 at *
            by_cases z11 : r11.1 = 0
            · obtain ⟨⟨w1, w2⟩, R11b⟩ := R11 z11
              have g11 := gd11 z11
              have fl11 := gd_flt g11 (by omega) h40
              rw [z11] at A11
              rw [thn_0 z11]
              have e83 : nI (ctx.length + 1) - nI 1 = nI ctx.length := by rw [nIs (by omega)]; rfl
              have F12 : FR TZ S (sS S11 383 0 (nI ctx.length)) := FR_tr F11' S83
              have f13 := S00_fr (S := sS S11 383 0 (nI ctx.length))
              have w1' : sg ((sS S11 383 0 (nI ctx.length)).2.1 371 0) q (flt r11.2) := w1
              have F13 : FR TZ S (S00 (sS S11 383 0 (nI ctx.length))) := FR_tr F12 (NRTZ f13)
              obtain ⟨S14, a14, b14, f14⟩ := s_with (n := n) (f := 371) (f3 := 367) (o := q) (o4 := o + 1 + (flt (p1 x)).length) (S := S00 (sS S11 383 0 (nI ctx.length))) (by omega) (by omega) (by omega) (by omega) hn g2.1 (gd_mWd g2 (by omega) h40) (by rw [ln367]; omega) (by omega) (by have := g2.2.1; omega) g11.1 (gd_mWd g11 (by omega) h40) (sg_fr f13 (n1 _ (by decide)) w1') (sg_fr F13 (n7 _ (by decide)) hs2) (by rw [ln371]; omega) (by omega) (by have := g11.2.1; omega) NXT_0
              rw [List.nil_append] at b14
              obtain ⟨S15, a15, b15, k15, f15⟩ := s_settle (n := n) (q := q) (t := fil r11.2 (p2 x)) hn b14 rfl (fil_mW (B := zB T + ctx.length) g11 g2 (by omega) h40) (by omega)
              have F15 : FR TZ S S15 := FR_tr F13 (FR_tr (WRTZ f14) (nzTZ (FR_mo f15 (by simp))))
              have K12a : KP 371 q S (sS S11 383 0 (nI ctx.length)) := KP_tr K11a (fun i _ => rfl)
              have K12b : KP 382 ctx.length S (sS S11 383 0 (nI ctx.length)) := KP_tr K11b (fun i _ => rfl)
              have K15 : KP 371 q S S15 := KP_tr K12a (KP_tr (KP_fr f13 (n1 NR (by decide))) (KP_tr (KP_fr f14 (n1 WR (by decide))) k15))
              have K15' : KP 382 ctx.length S S15 := KP_tr K12b (KP_tr (n382 f13 (by decide)) (KP_tr (n382 f14 (by decide)) (n382 f15 (by decide))))
              have h83f : S15.1 383 0 = nI ctx.length := by rw [(f15 383 0 (n8o (by omega) (by decide))).1, (f14 383 0 (n8o (by omega) (by decide))).1, (f13 383 0 (n8o (by omega) (by decide))).1]; exact sS_eq
              rw [fit_szd (fil_f16 (f16_gd g11) (f16_gd g2))] at a15 b15
              unfold S00 at a14
              unfold szd
              by_cases z9 : (fil r11.2 (p2 x)).length ≤ 200
              · rw [decide_eq_true z9] at a15 b15
                rw [if_pos z9]
                have a15' : f_X8_settle n S14 (nI q) = some (S15, nI 0) := a15
                refine ⟨S15, ?_, fun _ => ⟨b15 rfl, h83f⟩, Nat.zero_le _, K15, K15', F15⟩
                ((try simp only [k0, k1, k2, k3, k4, k5, k6, k8, k16, k30, k60, k100, k200, k201, k300, k1500, k8000, kM, k_m6]); repeat (first | rw [zt_eq (by omega)] | rw [zt_ne (by omega) (by omega) (by omega)] | rw [zt_nle (by omega) (by omega)] | rw [zt_le (by omega) (by omega)] | rw [zt_nlt (by omega) (by omega)] | rw [zt_lt (by omega) (by omega)] | rw [zt_nm (by omega)] | rw [zt_mm] | rw [zt_ml] | rw [zt_0m] | rw [zt_m0] | rw [zt_n6 (by omega)] | rw [zt_66] | rw [zt_06] | simp (disch := omega) only [k0, k1, k2, k3, k4, k5, k6, k8, k16, k30, k60, k100, k200, k201, k300, k1500, k8000, kM, k_m6, nIa, nIp, nIs, sI_1, sI_22, sL_1, sL_21, sS_21, sS_22, sI_ne, sL_ne, sS_ne, sS_eq, sI_eq, sI_at, sL_eq, sL_at, Nat.add_zero, if_true, if_false, h5, A1, bT, bT2, A4, A5, a6, A7', A8, h83e, A11, R11b, e83, Nat.add_sub_cancel, a14, a15'] | rw [bV_e] | rw [pS_e] | rw [bI_s] | rw [bU_s] | rw [bL_s] | rw [gI_n (by omega) (by omega)] | rw [gR_n (by omega)] | rw [pI_n (by omega) (by omega)] | rw [gL_n (by omega) (by omega)] | rw [pL_n (by omega) (by omega)] | rw [j_X8_typeOfLet_67]))
              · rw [decide_eq_false z9] at a15
                rw [if_neg z9]
                have a15' : f_X8_settle n S14 (nI q) = some (S15, nI 5) := a15
                refine ⟨S15, ?_, (fun w => nomatch w), (by decide), K15, K15', F15⟩
                ((try simp only [k0, k1, k2, k3, k4, k5, k6, k8, k16, k30, k60, k100, k200, k201, k300, k1500, k8000, kM, k_m6]); repeat (first | rw [zt_eq (by omega)] | rw [zt_ne (by omega) (by omega) (by omega)] | rw [zt_nle (by omega) (by omega)] | rw [zt_le (by omega) (by omega)] | rw [zt_nlt (by omega) (by omega)] | rw [zt_lt (by omega) (by omega)] | rw [zt_nm (by omega)] | rw [zt_mm] | rw [zt_ml] | rw [zt_0m] | rw [zt_m0] | rw [zt_n6 (by omega)] | rw [zt_66] | rw [zt_06] | simp (disch := omega) only [k0, k1, k2, k3, k4, k5, k6, k8, k16, k30, k60, k100, k200, k201, k300, k1500, k8000, kM, k_m6, nIa, nIp, nIs, sI_1, sI_22, sL_1, sL_21, sS_21, sS_22, sI_ne, sL_ne, sS_ne, sS_eq, sI_eq, sI_at, sL_eq, sL_at, Nat.add_zero, if_true, if_false, h5, A1, bT, bT2, A4, A5, a6, A7', A8, h83e, A11, R11b, e83, Nat.add_sub_cancel, a14, a15'] | rw [bV_e] | rw [pS_e] | rw [bI_s] | rw [bU_s] | rw [bL_s] | rw [gI_n (by omega) (by omega)] | rw [gR_n (by omega)] | rw [pI_n (by omega) (by omega)] | rw [gL_n (by omega) (by omega)] | rw [pL_n (by omega) (by omega)] | rw [j_X8_typeOfLet_67]))
            · rw [thn_n z11]
              refine ⟨sS S11 383 0 (S11.1 383 0 - nI 1), ?_, fun w => absurd w z11, B11, KP_tr K11a (fun i _ => rfl), KP_tr K11b (fun i _ => rfl), FR_tr F11' S83⟩
              ((try simp only [k0, k1, k2, k3, k4, k5, k6, k8, k16, k30, k60, k100, k200, k201, k300, k1500, k8000, kM, k_m6]); repeat (first | rw [zt_eq (by omega)] | rw [zt_ne (by omega) (by omega) (by omega)] | rw [zt_nle (by omega) (by omega)] | rw [zt_le (by omega) (by omega)] | rw [zt_nlt (by omega) (by omega)] | rw [zt_lt (by omega) (by omega)] | rw [zt_nm (by omega)] | rw [zt_mm] | rw [zt_ml] | rw [zt_0m] | rw [zt_m0] | rw [zt_n6 (by omega)] | rw [zt_66] | rw [zt_06] | simp (disch := omega) only [k0, k1, k2, k3, k4, k5, k6, k8, k16, k30, k60, k100, k200, k201, k300, k1500, k8000, kM, k_m6, nIa, nIp, nIs, sI_1, sI_22, sL_1, sL_21, sS_21, sS_22, sI_ne, sL_ne, sS_ne, sS_eq, sI_eq, sI_at, sL_eq, sL_at, Nat.add_zero, if_true, if_false, h5, A1, bT, bT2, A4, A5, a6, A7', A8, h83e, A11] | rw [bV_e] | rw [pS_e] | rw [bI_s] | rw [bU_s] | rw [bL_s] | rw [gI_n (by omega) (by omega)] | rw [gR_n (by omega)] | rw [pI_n (by omega) (by omega)] | rw [gL_n (by omega) (by omega)] | rw [pL_n (by omega) (by omega)] | rw [j_X8_typeOfLet_67]))
      · rw [v, thn_m (by decide)]
        rw [v] at A5
        have A5' : f_X8_normalAt n S4 (nI q) = some (S5, nI 5) := A5
        refine ⟨S5, ?_, (fun w => nomatch w), (by decide), K5a, K5b, F5'⟩
        ((try simp only [k0, k1, k2, k3, k4, k5, k6, k8, k16, k30, k60, k100, k200, k201, k300, k1500, k8000, kM, k_m6]); repeat (first | rw [zt_eq (by omega)] | rw [zt_ne (by omega) (by omega) (by omega)] | rw [zt_nle (by omega) (by omega)] | rw [zt_le (by omega) (by omega)] | rw [zt_nlt (by omega) (by omega)] | rw [zt_lt (by omega) (by omega)] | rw [zt_nm (by omega)] | rw [zt_mm] | rw [zt_ml] | rw [zt_0m] | rw [zt_m0] | rw [zt_n6 (by omega)] | rw [zt_66] | rw [zt_06] | simp (disch := omega) only [k0, k1, k2, k3, k4, k5, k6, k8, k16, k30, k60, k100, k200, k201, k300, k1500, k8000, kM, k_m6, nIa, nIp, nIs, sI_1, sI_22, sL_1, sL_21, sS_21, sS_22, sI_ne, sL_ne, sS_ne, sS_eq, sI_eq, sI_at, sL_eq, sL_at, Nat.add_zero, if_true, if_false, h5, A1, bT, bT2, A4, A5'] | rw [bV_e] | rw [pS_e] | rw [bI_s] | rw [bU_s] | rw [bL_s] | rw [gI_n (by omega) (by omega)] | rw [gR_n (by omega)] | rw [pI_n (by omega) (by omega)] | rw [gL_n (by omega) (by omega)] | rw [pL_n (by omega) (by omega)] | rw [j_X8_typeOfLet_67]))
    · rw [thn_n z4]
      refine ⟨S4, ?_, fun w => absurd w z4, B4, K4a, K4b, F4'⟩
      ((try simp only [k0, k1, k2, k3, k4, k5, k6, k8, k16, k30, k60, k100, k200, k201, k300, k1500, k8000, kM, k_m6]); repeat (first | rw [zt_eq (by omega)] | rw [zt_ne (by omega) (by omega) (by omega)] | rw [zt_nle (by omega) (by omega)] | rw [zt_le (by omega) (by omega)] | rw [zt_nlt (by omega) (by omega)] | rw [zt_lt (by omega) (by omega)] | rw [zt_nm (by omega)] | rw [zt_mm] | rw [zt_ml] | rw [zt_0m] | rw [zt_m0] | rw [zt_n6 (by omega)] | rw [zt_66] | rw [zt_06] | simp (disch := omega) only [k0, k1, k2, k3, k4, k5, k6, k8, k16, k30, k60, k100, k200, k201, k300, k1500, k8000, kM, k_m6, nIa, nIp, nIs, sI_1, sI_22, sL_1, sL_21, sS_21, sS_22, sI_ne, sL_ne, sS_ne, sS_eq, sI_eq, sI_at, sL_eq, sL_at, Nat.add_zero, if_true, if_false, h5, A1, bT, bT2, A4] | rw [bV_e] | rw [pS_e] | rw [bI_s] | rw [bU_s] | rw [bL_s] | rw [gI_n (by omega) (by omega)] | rw [gR_n (by omega)] | rw [pI_n (by omega) (by omega)] | rw [gL_n (by omega) (by omega)] | rw [pL_n (by omega) (by omega)] | rw [j_X8_typeOfLet_67]))
  · rw [thn_n z1]
    refine ⟨S1, ?_, fun w => absurd w z1, B1, K1, K1', F1⟩
    ((try simp only [k0, k1, k2, k3, k4, k5, k6, k8, k16, k30, k60, k100, k200, k201, k300, k1500, k8000, kM, k_m6]); repeat (first | rw [zt_eq (by omega)] | rw [zt_ne (by omega) (by omega) (by omega)] | rw [zt_nle (by omega) (by omega)] | rw [zt_le (by omega) (by omega)] | rw [zt_nlt (by omega) (by omega)] | rw [zt_lt (by omega) (by omega)] | rw [zt_nm (by omega)] | rw [zt_mm] | rw [zt_ml] | rw [zt_0m] | rw [zt_m0] | rw [zt_n6 (by omega)] | rw [zt_66] | rw [zt_06] | simp (disch := omega) only [k0, k1, k2, k3, k4, k5, k6, k8, k16, k30, k60, k100, k200, k201, k300, k1500, k8000, kM, k_m6, nIa, nIp, nIs, sI_1, sI_22, sL_1, sL_21, sS_21, sS_22, sI_ne, sL_ne, sS_ne, sS_eq, sI_eq, sI_at, sL_eq, sL_at, Nat.add_zero, if_true, if_false, h5, A1] | rw [bV_e] | rw [pS_e] | rw [bI_s] | rw [bU_s] | rw [bL_s] | rw [gI_n (by omega) (by omega)] | rw [gR_n (by omega)] | rw [pI_n (by omega) (by omega)] | rw [gL_n (by omega) (by omega)] | rw [pL_n (by omega) (by omega)]))
theorem m_typeOf {n : Nat} {L : List (List Nat)} {T : List (List Mk)} {Ns : List Nme} (hn : 10000 ≤ n) (he : ENV L T Ns) : ∀ (d a : Nat), d + a = 101 → FM n d a L T Ns (k_X8_typeOf n d) := by
  intro d
  induction d with
  | zero =>
    intro a ha S ctx x o q hg hl
    omega
  | succ d ih =>
    intro a ha S ctx x o q hg hl hc hM hX hko hs ho h5 hq
    have hF := ih (a + 1) (by omega)
    have h6 := hk_le hg
    have kk : S.2.1 367 0 o = nI (hk x) := by
      cases x with
      | nil => exact absurd (Tm_ne hg.1) (by simp)
      | cons m r => rw [flt_c] at hs; exact sg_h hs
    have hol : o < 8000 := by
      have := flt_ge x
      have := Tm_ne hg.1
      omega
    have ne : ∀ k j : Nat, k ≤ 6 → j ≤ 6 → k ≠ j → ¬ nI k = nI j := fun k j h1 h2 h3 => by rw [nIeq (by omega) (by omega)]; exact h3
    show ∃ S', f_X8_typeOf n (k_X8_typeOf n d) S _ = _ ∧ _
    unfold f_X8_typeOf
    rw [gI_n hol (by omega), kk]
    by_cases q2 : hk x ≤ 2
    · obtain ⟨S1, A1, W⟩ := m_single (n := n) (d := d) (a := a) hn he (by omega) q2 hg hc hM hX hko hs ho h5 hq
      refine ⟨S1, ?_, W⟩
      rcases (show hk x = 0 ∨ hk x = 1 ∨ hk x = 2 by omega) with z | z | z
      · rw [if_pos (show nI (hk x) = 0 by rw [z]; rfl), A1, bI_s]
      · rw [if_neg (show ¬ nI (hk x) = 0 from ne _ 0 h6 (by omega) (by omega)), if_pos (show nI (hk x) = 1 by rw [z]; rfl), A1, bI_s]
      · rw [if_neg (show ¬ nI (hk x) = 0 from ne _ 0 h6 (by omega) (by omega)), if_neg (show ¬ nI (hk x) = 1 from ne _ 1 h6 (by omega) (by omega)), if_pos (show nI (hk x) = 2 by rw [z]; rfl), A1, bI_s]
    · rw [if_neg (show ¬ nI (hk x) = 0 from ne _ 0 h6 (by omega) (by omega)), if_neg (show ¬ nI (hk x) = 1 from ne _ 1 h6 (by omega) (by omega)), if_neg (show ¬ nI (hk x) = 2 from ne _ 2 h6 (by omega) (by omega))]
      rw [tyS_s, if_neg (show ¬ hk x = 0 by omega), if_neg (show ¬ hk x = 1 by omega), if_neg (show ¬ hk x = 2 by omega)]
      by_cases q3 : hk x = 3
      · rw [if_pos q3, if_pos (show nI (hk x) = 3 by rw [q3]; rfl)]
        obtain ⟨S1, A1, W⟩ := m_pi (n := n) hn he hF (by omega) q3 hg hl hc hM hX hko hs ho h5 hq
        refine ⟨S1, ?_, W⟩
        rw [A1, bI_s]
      · rw [if_neg q3, if_neg (show ¬ nI (hk x) = 3 from ne _ 3 h6 (by omega) q3)]
        by_cases q4 : hk x = 4
        · rw [if_pos q4, if_pos (show nI (hk x) = 4 by rw [q4]; rfl)]
          obtain ⟨S1, A1, W⟩ := m_la (n := n) hn he hF (by omega) q4 hg hl hc hM hX hko hs ho h5 hq
          refine ⟨S1, ?_, W⟩
          rw [A1, bI_s]
        · rw [if_neg q4, if_neg (show ¬ nI (hk x) = 4 from ne _ 4 h6 (by omega) q4)]
          by_cases q5 : hk x = 5
          · rw [if_pos q5, if_pos (show nI (hk x) = 5 by rw [q5]; rfl)]
            obtain ⟨S1, A1, W⟩ := m_ap (n := n) hn he hF (by omega) q5 hg hl hc hM hX hko hs ho h5 hq
            refine ⟨S1, ?_, W⟩
            rw [A1, bI_s]
          · rw [if_neg q5, if_neg (show ¬ nI (hk x) = 5 from ne _ 5 h6 (by omega) q5)]
            obtain ⟨S1, A1, W⟩ := m_le (n := n) hn he hF (by omega) (by omega) hg hl hc hM hX hko hs ho h5 hq
            refine ⟨S1, ?_, W⟩
            rw [A1, bI_s]
