/-! the reference: types of applications -/
theorem fil_f16 {bd vl : List Mk} (hb : bd.all f16 = true) (hv : vl.all f16 = true) : (fil bd vl).all f16 = true := by
  rw [List.all_eq_true] at hb hv ⊢
  intro y hy
  obtain ⟨x, hx, hy⟩ := List.mem_flatMap.mp hy
  unfold fil1 at hy
  split at hy
  · obtain ⟨w, hw, rfl⟩ := List.mem_map.mp hy
    exact hv w hw
  · rw [List.mem_singleton.mp hy]
    exact hb x hx
theorem WRTZ {S S' : St} (h : FR WR S S') : FR TZ S S' := FR_mo h (by simp [TZ, WR, NR, NZ])
theorem m_ap {n d a o q : Nat} {L : List (List Nat)} {T : List (List Mk)} {Ns : List Nme} {F : St → Int32 → Option (St × Int32)} {S : St} {ctx : List (List Mk)} {x : List Mk} (hn : 10000 ≤ n) (he : ENV L T Ns) (hF : FM n d (a + 1) L T Ns F) (hd : d + a ≤ 101) (h3 : hk x = 5) (hg : gdT (zB T + ctx.length) Ns.length x) (hl : x.length + 2 * a ≤ 200) (hc : ctx.length ≤ a) (hM : MS S L T Ns) (hX : RX S ctx) (hko : cOk (zB T) Ns.length ctx) (hs : sg (S.2.1 367 0) o (flt x)) (ho : o + (flt x).length ≤ 8000) (h5 : S.1 375 0 = nI q) (hq : q ≤ 7000 * a) : ∃ S', f_X8_typeOfApply n F S (nI o) = some (S', nI (tyAp Ns (tyS Ns d) ctx x).1) ∧ ((tyAp Ns (tyS Ns d) ctx x).1 = 0 → RS S' q (tyAp Ns (tyS Ns d) ctx x).2 ∧ S'.1 383 0 = nI ctx.length) ∧ (tyAp Ns (tyS Ns d) ctx x).1 ≤ 8 ∧ KP 371 q S S' ∧ KP 382 ctx.length S S' ∧ FR TZ S S' := by
  have h40 := he.2.2.1
  have hz := zB_le he.2.1
  obtain ⟨fx, lx⟩ := (flt_pt hg).1 (by omega) (by omega)
  obtain ⟨g1, g2⟩ := (gd_pt hg).1 (by omega)
  rw [h3, show dl 5 = 0 from rfl, Nat.add_zero] at g2
  have l1 := Tm_ne g1.1
  have l2 := Tm_ne g2.1
  rw [fx] at hs ho
  rw [List.length_cons, List.length_append] at ho
  have hs1 := (sg_app.mp hs.2).1
  have hs2 := (sg_app.mp hs.2).2
  have n7 : ∀ R : List Nat, 367 ∉ R → rg 367 0 ∉ R := fun R h => n8o (by omega) h
  have n1 : ∀ R : List Nat, 371 ∉ R → rg 371 0 ∉ R := fun R h => n8o (by omega) h
  obtain ⟨S1, A1, R1, B1, K1, K1', F1⟩ := hF S ctx (p1 x) (o + 1) q g1 (by omega) (by omega) hM hX hko hs1 (by omega) h5 (by omega)
  have gd1 := tyS_gd he d ctx (p1 x) g1 hko (by omega)
  unfold tyAp
  generalize tyS Ns d ctx (p1 x) = r1 at *
  unfold f_X8_typeOfApply
  by_cases z1 : r1.1 = 0
  · obtain ⟨R1a, R1b⟩ := R1 z1
    rw [z1] at A1
    rw [thn_0 z1]
    obtain ⟨S2, A2, D2, R2, K2, F2⟩ := s_normalAt (n := n) (q := q) hn he (by omega) (MS_TZ hM F1) (gd1 z1) R1a (by omega)
    have gn := nr_gd he (B := zB T + ctx.length) (by omega) (gd1 z1)
    have F2' : FR TZ S S2 := FR_tr F1 (nzTZ F2)
    have K2a : KP 371 q S S2 := KP_tr K1 K2
    have K2b : KP 382 ctx.length S S2 := KP_tr K1' (n382 F2 (by decide))
    have h83 : S2.1 383 0 = nI ctx.length := by rw [(F2 383 0 (n8o (by omega) (by decide))).1]; exact R1b
    generalize nr Ns r1.2 = y at *
    rcases D2 with u | u
    · obtain ⟨R2a, R2b⟩ := R2 u
      rw [u] at A2
      rw [thn_0 u]
      have gy := gn u
      have y6 := hk_le gy
      have fly := gd_flt gy (by omega) h40
      have kk0 : S2.2.1 371 0 q = nI (hk y.2) := by
        cases h9 : y.2 with
        | nil => rw [h9] at gy; exact absurd (Tm_ne gy.1) (by simp)
        | cons m r9 =>
          rw [h9, flt_c] at R2a
          exact sg_h R2a
      by_cases z : hk y.2 = 3
      · rw [if_pos z]
        rw [z] at kk0
        obtain ⟨fy, ly⟩ := (flt_pt gy).1 (by omega) (by omega)
        obtain ⟨gy1, gy2⟩ := (gd_pt gy).1 (by omega)
        rw [z, show dl 3 = 1 from rfl] at gy2
        have bT := s_behindTerm (n := n) (f := 367) (S := S2) (o := o + 1) (by omega) g1.1 (gd_mW g1 (by omega) h40) (sg_fr F2' (n7 _ (by decide)) hs1) (by rw [ln367]; omega) (by omega)
        have M2 := MS_TZ hM F2'
        have X2 := RX_k hX K2b F2' (by decide) h83
        obtain ⟨S4, A4, R4, B4, K4, K4', F4⟩ := hF S2 ctx (p2 x) (o + 1 + (flt (p1 x)).length) (q + (flt y.2).length) g2 (by omega) (by omega) M2 X2 hko (sg_fr F2' (n7 _ (by decide)) hs2) (by omega) R2b (by omega)
        have gd4 := tyS_gd he d ctx (p2 x) g2 hko (by omega)
        have F4' : FR TZ S S4 := FR_tr F2' F4
        have K4a : KP 371 q S S4 := KP_tr K2a (KP_mo K4 (by omega))
        have K4b : KP 382 ctx.length S S4 := KP_tr K2b K4'
        generalize tyS Ns d ctx (p2 x) = r4 at *
        by_cases z4 : r4.1 = 0
        · obtain ⟨R4a, R4b⟩ := R4 z4
          rw [z4] at A4
          rw [thn_0 z4]
          obtain ⟨S5, A5, D5, R5, K5, F5⟩ := s_normalAt (n := n) (q := q + (flt y.2).length) hn he (by omega) (MS_TZ hM F4') (gd4 z4) R4a (by omega)
          have gn5 := nr_gd he (B := zB T + ctx.length) (by omega) (gd4 z4)
          have F5' : FR TZ S S5 := FR_tr F4' (nzTZ F5)
          have K5a : KP 371 q S S5 := KP_tr K4a (KP_mo K5 (by omega))
          have K5b : KP 382 ctx.length S S5 := KP_tr K4b (n382 F5 (by decide))
          have h83' : S5.1 383 0 = nI ctx.length := by rw [(F5 383 0 (n8o (by omega) (by decide))).1]; exact R4b
          have sy5 : sg (S5.2.1 371 0) q (flt y.2) := KP_sg K5 (KP_sg K4 R2a (Nat.le_refl _)) (Nat.le_refl _)
          rw [fy] at sy5
          have sy1 : sg (S5.2.1 371 0) (q + 1) (flt (p1 y.2)) := (sg_app.mp sy5.2).1
          have sy2 : sg (S5.2.1 371 0) (q + 1 + (flt (p1 y.2)).length) (flt (p2 y.2)) := (sg_app.mp sy5.2).2
          have lfy := congrArg List.length fy
          simp only [List.length_cons, List.length_append] at lfy
          generalize nr Ns r4.2 = w at *
          rcases D5 with v | v
          · obtain ⟨R5a, R5b⟩ := R5 v
            rw [v] at A5
            rw [thn_0 v]
            have gw := gn5 v
            have flw := gd_flt gw (by omega) h40
            obtain ⟨S6, A6, F6⟩ := s_isSame (n := n) (f := 371) (g := 371) (o := q + (flt y.2).length) (u := q + 1) (S := S5) hn (by omega) (by omega) gw.1 gy1.1 (gdT_mV gw (by omega) (by omega)) (gdT_mV gy1 (by omega) (by omega)) R5a sy1 (by rw [ln371]; omega) (by rw [ln371]; omega) (by have := gw.2.1; omega)
            rw [mtc_c] at A6
            have F6' : FR TZ S S6 := FR_tr F5' (FR_mo F6 (by simp [TZ, NZ]))
            have K6a : KP 371 q S S6 := KP_tr K5a (KP_fr F6 (n1 _ (by decide)))
            have K6b : KP 382 ctx.length S S6 := KP_tr K5b (n382 F6 (by decide))
            cases h9 : mtc (p1 y.2) w.2 with
            | true =>
              rw [h9, zb_t] at A6
              rw [if_pos rfl]
              have f7 := S00_fr (S := S6)
              have F7 : FR TZ S (S00 S6) := FR_tr F6' (NRTZ f7)
              have sy1' : sg ((S00 S6).2.1 371 0) (q + 1) (flt (p1 y.2)) := sg_fr f7 (n1 _ (by decide)) (sg_fr F6 (n1 _ (by decide)) sy1)
              have sy2' : sg ((S00 S6).2.1 371 0) (q + 1 + (flt (p1 y.2)).length) (flt (p2 y.2)) := sg_fr f7 (n1 _ (by decide)) (sg_fr F6 (n1 _ (by decide)) sy2)
              have bT7 := s_behindTerm (n := n) (f := 371) (S := S00 S6) (o := q + 1) (by omega) gy1.1 (gd_mW gy1 (by omega) h40) sy1' (by rw [ln371]; omega) (by omega)
              obtain ⟨S8, a8, b8, f8⟩ := s_with (n := n) (f := 371) (f3 := 367) (o := q + 1 + (flt (p1 y.2)).length) (o4 := o + 1 + (flt (p1 x)).length) (S := S00 S6) (by omega) (by omega) (by omega) (by omega) hn g2.1 (gd_mWd g2 (by omega) h40) (by rw [ln367]; omega) (by omega) (by have := g2.2.1; omega) gy2.1 (gd_mWd gy2 (by omega) h40) sy2' (sg_fr F7 (n7 _ (by decide)) hs2) (by rw [ln371]; omega) (by omega) (by have := gy2.2.1; omega) NXT_0
              rw [List.nil_append] at b8
              obtain ⟨S11, a11, b11, k11, f11⟩ := s_settle (n := n) (q := q) (t := fil (p2 y.2) (p2 x)) hn b8 rfl (fil_mW gy2 g2 (by omega) h40) (by omega)
              have F11 : FR TZ S S11 := FR_tr F7 (FR_tr (WRTZ f8) (nzTZ (FR_mo f11 (by simp))))
              have K7a : KP 371 q S (S00 S6) := KP_tr K6a (KP_fr f7 (n1 NR (by decide)))
              have K7b : KP 382 ctx.length S (S00 S6) := KP_tr K6b (n382 f7 (by decide))
              have K11 : KP 371 q S S11 := KP_tr K7a (KP_tr (KP_fr f8 (n1 WR (by decide))) k11)
              have K11' : KP 382 ctx.length S S11 := KP_tr K7b (KP_tr (n382 f8 (by decide)) (n382 f11 (by decide)))
              have h83e : S11.1 383 0 = nI ctx.length := by rw [(f11 383 0 (n8o (by omega) (by decide))).1, (f8 383 0 (n8o (by omega) (by decide))).1, (f7 383 0 (n8o (by omega) (by decide))).1, (F6 383 0 (n8o (by omega) (by decide))).1]; exact h83'
              rw [fit_szd (fil_f16 (f16_gd gy2) (f16_gd g2))] at a11 b11
              unfold S00 at bT7 a8
              unfold szd
              by_cases z9 : (fil (p2 y.2) (p2 x)).length ≤ 200
              · rw [decide_eq_true z9] at a11 b11
                rw [if_pos z9]
                have a11' : f_X8_settle n S8 (nI q) = some (S11, nI 0) := a11
                refine ⟨S11, ?_, fun _ => ⟨b11 rfl, h83e⟩, Nat.zero_le _, K11, K11', F11⟩
                ((try simp only [k0, k1, k2, k3, k4, k5, k6, k8, k16, k30, k60, k100, k200, k201, k300, k1500, k8000, kM, k_m6]); repeat (first | rw [zt_eq (by omega)] | rw [zt_ne (by omega) (by omega) (by omega)] | rw [zt_nle (by omega) (by omega)] | rw [zt_le (by omega) (by omega)] | rw [zt_nlt (by omega) (by omega)] | rw [zt_lt (by omega) (by omega)] | rw [zt_nm (by omega)] | rw [zt_mm] | rw [zt_ml] | rw [zt_0m] | rw [zt_m0] | rw [zt_n6 (by omega)] | rw [zt_66] | rw [zt_06] | simp (disch := omega) only [k0, k1, k2, k3, k4, k5, k6, k8, k16, k30, k60, k100, k200, k201, k300, k1500, k8000, kM, k_m6, nIa, nIp, nIs, sI_1, sI_22, sL_1, sL_21, sS_21, sS_22, sI_ne, sL_ne, sS_ne, sS_eq, sI_eq, sI_at, sL_eq, sL_at, Nat.add_zero, if_true, if_false, h5, A1, A2, kk0, bT, R2b, A4, A5, A6, bT7, a8, a11'] | rw [bV_e] | rw [pS_e] | rw [bI_s] | rw [bU_s] | rw [bL_s] | rw [gI_n (by omega) (by omega)] | rw [gR_n (by omega)] | rw [pI_n (by omega) (by omega)] | rw [gL_n (by omega) (by omega)] | rw [pL_n (by omega) (by omega)] | rw [j_X8_typeOfApply_26] | rw [j_X8_typeOfApply_84]))
              · rw [decide_eq_false z9] at a11
                rw [if_neg z9]
                have a11' : f_X8_settle n S8 (nI q) = some (S11, nI 5) := a11
                refine ⟨S11, ?_, (fun w => nomatch w), (by decide), K11, K11', F11⟩
                ((try simp only [k0, k1, k2, k3, k4, k5, k6, k8, k16, k30, k60, k100, k200, k201, k300, k1500, k8000, kM, k_m6]); repeat (first | rw [zt_eq (by omega)] | rw [zt_ne (by omega) (by omega) (by omega)] | rw [zt_nle (by omega) (by omega)] | rw [zt_le (by omega) (by omega)] | rw [zt_nlt (by omega) (by omega)] | rw [zt_lt (by omega) (by omega)] | rw [zt_nm (by omega)] | rw [zt_mm] | rw [zt_ml] | rw [zt_0m] | rw [zt_m0] | rw [zt_n6 (by omega)] | rw [zt_66] | rw [zt_06] | simp (disch := omega) only [k0, k1, k2, k3, k4, k5, k6, k8, k16, k30, k60, k100, k200, k201, k300, k1500, k8000, kM, k_m6, nIa, nIp, nIs, sI_1, sI_22, sL_1, sL_21, sS_21, sS_22, sI_ne, sL_ne, sS_ne, sS_eq, sI_eq, sI_at, sL_eq, sL_at, Nat.add_zero, if_true, if_false, h5, A1, A2, kk0, bT, R2b, A4, A5, A6, bT7, a8, a11'] | rw [bV_e] | rw [pS_e] | rw [bI_s] | rw [bU_s] | rw [bL_s] | rw [gI_n (by omega) (by omega)] | rw [gR_n (by omega)] | rw [pI_n (by omega) (by omega)] | rw [gL_n (by omega) (by omega)] | rw [pL_n (by omega) (by omega)] | rw [j_X8_typeOfApply_26] | rw [j_X8_typeOfApply_84]))
            | false =>
              rw [h9, zb_f] at A6
              rw [if_neg (by simp)]
              refine ⟨S6, ?_, (fun w => nomatch w), (by decide), K6a, K6b, F6'⟩
              ((try simp only [k0, k1, k2, k3, k4, k5, k6, k8, k16, k30, k60, k100, k200, k201, k300, k1500, k8000, kM, k_m6]); repeat (first | rw [zt_eq (by omega)] | rw [zt_ne (by omega) (by omega) (by omega)] | rw [zt_nle (by omega) (by omega)] | rw [zt_le (by omega) (by omega)] | rw [zt_nlt (by omega) (by omega)] | rw [zt_lt (by omega) (by omega)] | rw [zt_nm (by omega)] | rw [zt_mm] | rw [zt_ml] | rw [zt_0m] | rw [zt_m0] | rw [zt_n6 (by omega)] | rw [zt_66] | rw [zt_06] | simp (disch := omega) only [k0, k1, k2, k3, k4, k5, k6, k8, k16, k30, k60, k100, k200, k201, k300, k1500, k8000, kM, k_m6, nIa, nIp, nIs, sI_1, sI_22, sL_1, sL_21, sS_21, sS_22, sI_ne, sL_ne, sS_ne, sS_eq, sI_eq, sI_at, sL_eq, sL_at, Nat.add_zero, if_true, if_false, h5, A1, A2, kk0, bT, R2b, A4, A5, A6] | rw [bV_e] | rw [pS_e] | rw [bI_s] | rw [bU_s] | rw [bL_s] | rw [gI_n (by omega) (by omega)] | rw [gR_n (by omega)] | rw [pI_n (by omega) (by omega)] | rw [gL_n (by omega) (by omega)] | rw [pL_n (by omega) (by omega)] | rw [j_X8_typeOfApply_26] | rw [j_X8_typeOfApply_84]))
          · rw [v, thn_m (by decide)]
            rw [v] at A5
            have A5' : f_X8_normalAt n S4 (nI (q + (flt y.2).length)) = some (S5, nI 5) := A5
            refine ⟨S5, ?_, (fun w => nomatch w), (by decide), K5a, K5b, F5'⟩
            ((try simp only [k0, k1, k2, k3, k4, k5, k6, k8, k16, k30, k60, k100, k200, k201, k300, k1500, k8000, kM, k_m6]); repeat (first | rw [zt_eq (by omega)] | rw [zt_ne (by omega) (by omega) (by omega)] | rw [zt_nle (by omega) (by omega)] | rw [zt_le (by omega) (by omega)] | rw [zt_nlt (by omega) (by omega)] | rw [zt_lt (by omega) (by omega)] | rw [zt_nm (by omega)] | rw [zt_mm] | rw [zt_ml] | rw [zt_0m] | rw [zt_m0] | rw [zt_n6 (by omega)] | rw [zt_66] | rw [zt_06] | simp (disch := omega) only [k0, k1, k2, k3, k4, k5, k6, k8, k16, k30, k60, k100, k200, k201, k300, k1500, k8000, kM, k_m6, nIa, nIp, nIs, sI_1, sI_22, sL_1, sL_21, sS_21, sS_22, sI_ne, sL_ne, sS_ne, sS_eq, sI_eq, sI_at, sL_eq, sL_at, Nat.add_zero, if_true, if_false, h5, A1, A2, kk0, bT, R2b, A4, A5'] | rw [bV_e] | rw [pS_e] | rw [bI_s] | rw [bU_s] | rw [bL_s] | rw [gI_n (by omega) (by omega)] | rw [gR_n (by omega)] | rw [pI_n (by omega) (by omega)] | rw [gL_n (by omega) (by omega)] | rw [pL_n (by omega) (by omega)] | rw [j_X8_typeOfApply_26] | rw [j_X8_typeOfApply_84]))
        · rw [thn_n z4]
          refine ⟨S4, ?_, fun w => absurd w z4, B4, K4a, K4b, F4'⟩
          ((try simp only [k0, k1, k2, k3, k4, k5, k6, k8, k16, k30, k60, k100, k200, k201, k300, k1500, k8000, kM, k_m6]); repeat (first | rw [zt_eq (by omega)] | rw [zt_ne (by omega) (by omega) (by omega)] | rw [zt_nle (by omega) (by omega)] | rw [zt_le (by omega) (by omega)] | rw [zt_nlt (by omega) (by omega)] | rw [zt_lt (by omega) (by omega)] | rw [zt_nm (by omega)] | rw [zt_mm] | rw [zt_ml] | rw [zt_0m] | rw [zt_m0] | rw [zt_n6 (by omega)] | rw [zt_66] | rw [zt_06] | simp (disch := omega) only [k0, k1, k2, k3, k4, k5, k6, k8, k16, k30, k60, k100, k200, k201, k300, k1500, k8000, kM, k_m6, nIa, nIp, nIs, sI_1, sI_22, sL_1, sL_21, sS_21, sS_22, sI_ne, sL_ne, sS_ne, sS_eq, sI_eq, sI_at, sL_eq, sL_at, Nat.add_zero, if_true, if_false, h5, A1, A2, kk0, bT, R2b, A4] | rw [bV_e] | rw [pS_e] | rw [bI_s] | rw [bU_s] | rw [bL_s] | rw [gI_n (by omega) (by omega)] | rw [gR_n (by omega)] | rw [pI_n (by omega) (by omega)] | rw [gL_n (by omega) (by omega)] | rw [pL_n (by omega) (by omega)] | rw [j_X8_typeOfApply_26] | rw [j_X8_typeOfApply_84]))
      · rw [if_neg z]
        refine ⟨S2, ?_, (fun w => nomatch w), (by decide), K2a, K2b, F2'⟩
        ((try simp only [k0, k1, k2, k3, k4, k5, k6, k8, k16, k30, k60, k100, k200, k201, k300, k1500, k8000, kM, k_m6]); repeat (first | rw [zt_eq (by omega)] | rw [zt_ne (by omega) (by omega) (by omega)] | rw [zt_nle (by omega) (by omega)] | rw [zt_le (by omega) (by omega)] | rw [zt_nlt (by omega) (by omega)] | rw [zt_lt (by omega) (by omega)] | rw [zt_nm (by omega)] | rw [zt_mm] | rw [zt_ml] | rw [zt_0m] | rw [zt_m0] | rw [zt_n6 (by omega)] | rw [zt_66] | rw [zt_06] | simp (disch := omega) only [k0, k1, k2, k3, k4, k5, k6, k8, k16, k30, k60, k100, k200, k201, k300, k1500, k8000, kM, k_m6, nIa, nIp, nIs, sI_1, sI_22, sL_1, sL_21, sS_21, sS_22, sI_ne, sL_ne, sS_ne, sS_eq, sI_eq, sI_at, sL_eq, sL_at, Nat.add_zero, if_true, if_false, h5, A1, A2, kk0] | rw [bV_e] | rw [pS_e] | rw [bI_s] | rw [bU_s] | rw [bL_s] | rw [gI_n (by omega) (by omega)] | rw [gR_n (by omega)] | rw [pI_n (by omega) (by omega)] | rw [gL_n (by omega) (by omega)] | rw [pL_n (by omega) (by omega)] | rw [j_X8_typeOfApply_26]))
    · rw [u, thn_m (by decide)]
      rw [u] at A2
      have A2' : f_X8_normalAt n S1 (nI q) = some (S2, nI 5) := A2
      refine ⟨S2, ?_, (fun w => nomatch w), (by decide), K2a, K2b, F2'⟩
      ((try simp only [k0, k1, k2, k3, k4, k5, k6, k8, k16, k30, k60, k100, k200, k201, k300, k1500, k8000, kM, k_m6]); repeat (first | rw [zt_eq (by omega)] | rw [zt_ne (by omega) (by omega) (by omega)] | rw [zt_nle (by omega) (by omega)] | rw [zt_le (by omega) (by omega)] | rw [zt_nlt (by omega) (by omega)] | rw [zt_lt (by omega) (by omega)] | rw [zt_nm (by omega)] | rw [zt_mm] | rw [zt_ml] | rw [zt_0m] | rw [zt_m0] | rw [zt_n6 (by omega)] | rw [zt_66] | rw [zt_06] | simp (disch := omega) only [k0, k1, k2, k3, k4, k5, k6, k8, k16, k30, k60, k100, k200, k201, k300, k1500, k8000, kM, k_m6, nIa, nIp, nIs, sI_1, sI_22, sL_1, sL_21, sS_21, sS_22, sI_ne, sL_ne, sS_ne, sS_eq, sI_eq, sI_at, sL_eq, sL_at, Nat.add_zero, if_true, if_false, h5, A1, A2'] | rw [bV_e] | rw [pS_e] | rw [bI_s] | rw [bU_s] | rw [bL_s] | rw [gI_n (by omega) (by omega)] | rw [gR_n (by omega)] | rw [pI_n (by omega) (by omega)] | rw [gL_n (by omega) (by omega)] | rw [pL_n (by omega) (by omega)] | rw [j_X8_typeOfApply_26]))
  · rw [thn_n z1]
    refine ⟨S1, ?_, fun w => absurd w z1, B1, K1, K1', F1⟩
    ((try simp only [k0, k1, k2, k3, k4, k5, k6, k8, k16, k30, k60, k100, k200, k201, k300, k1500, k8000, kM, k_m6]); repeat (first | rw [zt_eq (by omega)] | rw [zt_ne (by omega) (by omega) (by omega)] | rw [zt_nle (by omega) (by omega)] | rw [zt_le (by omega) (by omega)] | rw [zt_nlt (by omega) (by omega)] | rw [zt_lt (by omega) (by omega)] | rw [zt_nm (by omega)] | rw [zt_mm] | rw [zt_ml] | rw [zt_0m] | rw [zt_m0] | rw [zt_n6 (by omega)] | rw [zt_66] | rw [zt_06] | simp (disch := omega) only [k0, k1, k2, k3, k4, k5, k6, k8, k16, k30, k60, k100, k200, k201, k300, k1500, k8000, kM, k_m6, nIa, nIp, nIs, sI_1, sI_22, sL_1, sL_21, sS_21, sS_22, sI_ne, sL_ne, sS_ne, sS_eq, sI_eq, sI_at, sL_eq, sL_at, Nat.add_zero, if_true, if_false, h5, A1] | rw [bV_e] | rw [pS_e] | rw [bI_s] | rw [bU_s] | rw [bL_s] | rw [gI_n (by omega) (by omega)] | rw [gR_n (by omega)] | rw [pI_n (by omega) (by omega)] | rw [gL_n (by omega) (by omega)] | rw [pL_n (by omega) (by omega)] | rw [j_X8_typeOfApply_26]))
