/-! the class: the type of a definition -/
theorem c_le {n d a : Nat} {L : List (List Nat)} {T : List (List Mk)} {Ns : List Nme} {F : St → Int32 → Int32 → Int32 → Option (St × Int32)} {S : St} {ctx : List (List Mk)} {x : List Mk} (hn : 10000 ≤ n) (he : ENV L T Ns) (hF : FH n d (a + 1) L T Ns F) (hd : d + a ≤ 101) (hx : x ∈ T) (h6 : hk x = 6) (hl : x.length + 2 * a ≤ 200) (hc : ctx.length ≤ a) (hC : CS S L T Ns) (hX : CXT S T ctx) : ∃ S', f_X6_findOfLet n F S (nI (ixT T x)) (nI ctx.length) (nI a) = some (S', nI (tyLe Ns (tyS Ns d) ctx x).1) ∧ (tyLe Ns (tyS Ns d) ctx x).1 ≤ 8 ∧ ((tyLe Ns (tyS Ns d) ctx x).1 = 0 → RW S' (6 + a) (tyLe Ns (tyS Ns d) ctx x).2) ∧ KP 256 ctx.length S S' ∧ FR (FD a) S S' := by
  obtain ⟨m1, m2, ml, ml1, ml2⟩ := pt_in he.2.1 hx (by omega)
  have hg0 := he.2.1.2.2.2.1
  have hz := zB_le he.2.1
  have hT15 := he.2.1.1
  have h40 := he.2.2.1
  have m3 : p3 x ∈ T := (he.2.1.2.2.2.2 x hx).2.2.2 h6
  have ml3 : (p3 x).length + 3 ≤ x.length := by have := (tlen (hg0 x hx)).2.2 h6; omega
  have ixx := ixT_lt hx
  have ix1 := ixT_lt m1
  have ix2 := ixT_lt m2
  have ix3 := ixT_lt m3
  have t1 := tb_1 hC.1 hx (by omega)
  have cok := CXT_cOk (S := S) he.2.1 (CXT_mem hX)
  obtain ⟨S1, A1, B1, R1, K1, F1⟩ := hF S ctx (p1 x) m1 (by omega) (by omega) hC hX
  have gd1 := tyS_gd he d ctx (p1 x) (gdT_mo (hg0 _ m1) (by omega)) cok (by omega)
  have F1' := FD_le F1 (show a ≤ a + 1 by omega)
  have C1 := CS_FD hC F1
  unfold tyLe
  generalize tyS Ns d ctx (p1 x) = r1 at *
  unfold f_X6_findOfLet
  by_cases z1 : r1.1 = 0
  · rw [z1] at A1
    obtain ⟨S2, v2, A2, N2, L2, B2, F2⟩ := s_srt (n := n) (j := 6 + (a + 1)) hn (by omega) he (by omega) z1 (R1 z1) (gd1 z1) C1
    have F2' : FR (FD a) S S2 := FR_tr F1' (rdx_FD F2 (by omega) (by omega))
    have K2 : KP 256 ctx.length S S2 := KP_tr K1 (KP_rdx F2)
    have C2 := CS_FD hC F2'
    generalize srt Ns r1 = s1 at *
    by_cases z2 : s1.1 = 0
    · rw [z2] at N2
      rw [thn_0 z2]
      have t2 := tb_2 C2.1 hx (by omega)
      obtain ⟨S4, A4, B4, R4, K4, F4⟩ := hF S2 ctx (p2 x) m2 (by omega) (by omega) C2 (CXT_k hX K2)
      have gd4 := tyS_gd he d ctx (p2 x) (gdT_mo (hg0 _ m2) (by omega)) cok (by omega)
      have F4' : FR (FD a) S S4 := FR_tr F2' (FD_le F4 (by omega))
      have K4' : KP 256 ctx.length S S4 := KP_tr K2 K4
      have C4 := CS_FD hC F4'
      have t4 := tb_1 C4.1 hx (by omega)
      generalize tyS Ns d ctx (p2 x) = r4 at *
      by_cases z4 : r4.1 = 0
      · rw [z4] at A4
        rw [thn_0 z4]
        obtain ⟨S5, A5, R5, F5⟩ := s_spread (n := n) (j := 6 + a) he.1 he.2.1 C4.1 C4.2.1 (ixT_get m1) (by omega)
        have F5' : FR (FD a) S S5 := FR_tr F4' (FD_in F5 (fun x hx => by simp at hx; omega))
        have K5 : KP 256 ctx.length S S5 := KP_tr K4' (KP_fr F5 (by rw [rg256]; simp; omega))
        have C5 := CS_FD hC F5'
        obtain ⟨S6, v6, A6, F6, N6⟩ := s_nr (n := n) (j := 6 + (a + 1)) (B := zB T + ctx.length) hn (by omega) he (by omega) (RW_fr (R4 z4) F5 (by simp; omega)) (gd4 z4) C5
        have F6' : FR (FD a) S S6 := FR_tr F5' (rdx_FD F6 (by omega) (by omega))
        have K6 : KP 256 ctx.length S S6 := KP_tr K5 (KP_rdx F6)
        have C6 := CS_FD hC F6'
        have R5' : RW S6 (6 + a) (p1 x) := RW_fr R5 F6 (by simp [RDX]; omega)
        generalize nr Ns r4.2 = s4 at *
        rcases N6 with ⟨u1, u2⟩ | ⟨c6, hc6, hv6, u1, u2, u3⟩
        · rw [u1, thn_m (by decide)]
          refine ⟨S6, ?_, (by decide), (fun z => nomatch z), K6, F6'⟩
          rw [u2] at A6
          ((try simp only [k0, k1, k2, k3, k4, k5, k6, k8, k16, k30, k60, k100, k200, k201, k300, k1500, k8000, kM, k_m6]); repeat (first | rw [zt_eq (by omega)] | rw [zt_ne (by omega) (by omega) (by omega)] | rw [zt_nle (by omega) (by omega)] | rw [zt_le (by omega) (by omega)] | rw [zt_nlt (by omega) (by omega)] | rw [zt_lt (by omega) (by omega)] | rw [zt_nm (by omega)] | rw [zt_mm] | rw [zt_ml] | rw [zt_0m] | rw [zt_m0] | rw [zt_n6 (by omega)] | rw [zt_66] | rw [zt_06] | simp (disch := omega) only [k0, k1, k2, k3, k4, k5, k6, k8, k16, k30, k60, k100, k200, k201, k300, k1500, k8000, kM, k_m6, nIa, nIp, nIs, sI_1, sI_22, sL_1, sL_21, sS_21, sS_22, sI_ne, sL_ne, sS_ne, sS_eq, sI_eq, sI_at, sL_eq, sL_at, Nat.add_zero, if_true, if_false, t1, A1, A2, N2, t2, A4, t4, A5, A6] | rw [bV_e] | rw [pS_e] | rw [bI_s] | rw [bU_s] | rw [bL_s] | rw [gI_n (by omega) (by omega)] | rw [gR_n (by omega)] | rw [pI_n (by omega) (by omega)] | rw [gL_n (by omega) (by omega)] | rw [pL_n (by omega) (by omega)] | rw [j_X6_findOfLet_59] | rw [j_X6_findOfLet_83]))
        · rw [thn_0 u1]
          rw [hv6] at A6
          obtain ⟨S7, v7, A7, F7, N7⟩ := s_nr (n := n) (j := 6 + a) (B := zB T + ctx.length) hn (by omega) he (by omega) R5' (gdT_mo (hg0 _ m1) (by omega)) C6
          have F7' : FR (FD a) S S7 := FR_tr F6' (rdx_FD F7 (by omega) (by omega))
          have K7 : KP 256 ctx.length S S7 := KP_tr K6 (KP_rdx F7)
          have C7 := CS_FD hC F7'
          have R7' : RW S7 (6 + (a + 1)) s4.2 := RW_fr u2 F7 (by simp [RDX]; omega)
          generalize nr Ns (p1 x) = s7 at *
          rcases N7 with ⟨w1, w2⟩ | ⟨c7, hc7, hv7, w1, w2, w3⟩
          · rw [w1, thn_m (by decide)]
            refine ⟨S7, ?_, (by decide), (fun z => nomatch z), K7, F7'⟩
            rw [w2] at A7
            ((try simp only [k0, k1, k2, k3, k4, k5, k6, k8, k16, k30, k60, k100, k200, k201, k300, k1500, k8000, kM, k_m6]); repeat (first | rw [zt_eq (by omega)] | rw [zt_ne (by omega) (by omega) (by omega)] | rw [zt_nle (by omega) (by omega)] | rw [zt_le (by omega) (by omega)] | rw [zt_nlt (by omega) (by omega)] | rw [zt_lt (by omega) (by omega)] | rw [zt_nm (by omega)] | rw [zt_mm] | rw [zt_ml] | rw [zt_0m] | rw [zt_m0] | rw [zt_n6 (by omega)] | rw [zt_66] | rw [zt_06] | simp (disch := omega) only [k0, k1, k2, k3, k4, k5, k6, k8, k16, k30, k60, k100, k200, k201, k300, k1500, k8000, kM, k_m6, nIa, nIp, nIs, sI_1, sI_22, sL_1, sL_21, sS_21, sS_22, sI_ne, sL_ne, sS_ne, sS_eq, sI_eq, sI_at, sL_eq, sL_at, Nat.add_zero, if_true, if_false, t1, A1, A2, N2, t2, A4, t4, A5, A6, A7] | rw [bV_e] | rw [pS_e] | rw [bI_s] | rw [bU_s] | rw [bL_s] | rw [gI_n (by omega) (by omega)] | rw [gR_n (by omega)] | rw [pI_n (by omega) (by omega)] | rw [gL_n (by omega) (by omega)] | rw [pL_n (by omega) (by omega)] | rw [j_X6_findOfLet_59] | rw [j_X6_findOfLet_83]))
          · rw [thn_0 w1]
            rw [hv7] at A7
            have len7 := w2.1
            have l7 := w2.2.1
            obtain ⟨S8, A8, F8⟩ := s_matches (n := n) (gdT_mV w3 (by omega) (by omega)) (gdT_mV u3 (by omega) (by omega)) w2 R7' (i := 0) (k := s7.2.length) (by omega) (by omega) (by omega)
            have sge : seg s7.2 0 s7.2.length = s7.2 := by unfold seg; rw [List.take_length, List.drop_zero]
            rw [sge] at A8
            have F8' : FR (FD a) S S8 := FR_tr F7' (FD_in F8 (fun x hx => by simp at hx; omega))
            have K8 : KP 256 ctx.length S S8 := KP_tr K7 (KP_fr F8 (by rw [rg256]; simp))
            have C8 := CS_FD hC F8'
            by_cases z8 : mtc s7.2 s4.2 = true
            · rw [if_pos z8]
              rw [if_pos z8] at A8
              have A8' : f_X4_matches n S7 (6 + a) (nI 0) (nI s7.2.length) (6 + (a + 1)) = some (S8, nI 1) := A8
              have t8 := tb_1 C8.1 hx (by omega)
              have F9 : FR (FD a) S (sI S8 256 0 ctx.length (nI (ixT T (p1 x)))) := FR_sI F8' (by rw [rg256, mem_FD]; omega)
              have C9 := CS_FD hC F9
              have K9 : KP 256 ctx.length S (sI S8 256 0 ctx.length (nI (ixT T (p1 x)))) := KP_tr K8 (KPs (Nat.le_refl _))
              have t9 := tb_3 C9.1 hx h6
              have X9 := CXT_c (CXT_k hX K8) m1
              obtain ⟨S10, A10, B10, R10, K10, F10⟩ := hF (sI S8 256 0 ctx.length (nI (ixT T (p1 x)))) (p1 x :: ctx) (p3 x) m3 (by omega) (by rw [List.length_cons]; omega) C9 X9
              rw [List.length_cons] at A10 K10
              have gd10 := tyS_gd he d (p1 x :: ctx) (p3 x) (gdT_mo (hg0 _ m3) (by omega)) (CXT_cOk (S := S) he.2.1 (CXT_mem X9)) (by rw [List.length_cons]; omega)
              rw [List.length_cons] at gd10
              have F10' : FR (FD a) S S10 := FR_tr F9 (FD_le F10 (by omega))
              have K10' : KP 256 ctx.length S S10 := KP_tr K9 (KP_mo K10 (by omega))
              have C10 := CS_FD hC F10'
              have t10 := tb_2 C10.1 hx (by omega)
              generalize tyS Ns d (p1 x :: ctx) (p3 x) = r10 at *
              by_cases z10 : r10.1 = 0
              · rw [z10] at A10
                rw [thn_0 z10]
                have g10 := gd10 z10
                obtain ⟨S11, A11, R11, F11⟩ := s_spread (n := n) (j := 5) he.1 he.2.1 C10.1 C10.2.1 (ixT_get m2) (by omega)
                have F11' : FR (FD a) S S11 := FR_tr F10' (FD_in F11 (fun x hx => by simp at hx; omega))
                have K11 : KP 256 ctx.length S S11 := KP_tr K10' (KP_fr F11 (by rw [rg256]; simp))
                obtain ⟨S12, A12, R12, F12⟩ := s_fillWith (n := n) (j := 6 + a) (b := 6 + (a + 1)) (a := 5) (by omega) (by omega) (gd_mBs g10 (by omega) h40) (gd_mBs (hg0 _ m2) (by omega) h40) ml2 (by omega) (RW_fr (R10 z10) F11 (by simp; omega)) R11
                have F12' : FR (FD a) S S12 := FR_tr F11' (FD_in F12 (fun x hx => by simp at hx; omega))
                have K12 : KP 256 ctx.length S S12 := KP_tr K11 (KP_fr F12 (by rw [rg256]; simp; omega))
                by_cases z12 : (fil r10.2 (p2 x)).length ≤ 200
                · have e12 : szd (fil r10.2 (p2 x)) = (0, fil r10.2 (p2 x)) := by unfold szd; rw [if_pos z12]
                  rw [e12]
                  rw [if_pos z12] at A12
                  have A12' : f_X4_fillWith n S11 (6 + a) (6 + (a + 1)) 5 = some (S12, nI 1) := A12
                  refine ⟨S12, ?_, Nat.zero_le _, fun _ => R12 z12, K12, F12'⟩
                  ((try simp only [k0, k1, k2, k3, k4, k5, k6, k8, k16, k30, k60, k100, k200, k201, k300, k1500, k8000, kM, k_m6]); repeat (first | rw [zt_eq (by omega)] | rw [zt_ne (by omega) (by omega) (by omega)] | rw [zt_nle (by omega) (by omega)] | rw [zt_le (by omega) (by omega)] | rw [zt_nlt (by omega) (by omega)] | rw [zt_lt (by omega) (by omega)] | rw [zt_nm (by omega)] | rw [zt_mm] | rw [zt_ml] | rw [zt_0m] | rw [zt_m0] | rw [zt_n6 (by omega)] | rw [zt_66] | rw [zt_06] | simp (disch := omega) only [k0, k1, k2, k3, k4, k5, k6, k8, k16, k30, k60, k100, k200, k201, k300, k1500, k8000, kM, k_m6, nIa, nIp, nIs, sI_1, sI_22, sL_1, sL_21, sS_21, sS_22, sI_ne, sL_ne, sS_ne, sS_eq, sI_eq, sI_at, sL_eq, sL_at, Nat.add_zero, if_true, if_false, t1, A1, A2, N2, t2, A4, t4, A5, A6, A7, len7, A8', t8, t9, A10, t10, A11, A12'] | rw [bV_e] | rw [pS_e] | rw [bI_s] | rw [bU_s] | rw [bL_s] | rw [gI_n (by omega) (by omega)] | rw [gR_n (by omega)] | rw [pI_n (by omega) (by omega)] | rw [gL_n (by omega) (by omega)] | rw [pL_n (by omega) (by omega)] | rw [j_X6_findOfLet_59] | rw [j_X6_findOfLet_83]))
                · have e12 : szd (fil r10.2 (p2 x)) = (5, []) := by unfold szd; rw [if_neg z12]
                  rw [e12]
                  rw [if_neg z12] at A12
                  have A12' : f_X4_fillWith n S11 (6 + a) (6 + (a + 1)) 5 = some (S12, nI 0) := A12
                  refine ⟨S12, ?_, (by decide), (fun z => nomatch z), K12, F12'⟩
                  ((try simp only [k0, k1, k2, k3, k4, k5, k6, k8, k16, k30, k60, k100, k200, k201, k300, k1500, k8000, kM, k_m6]); repeat (first | rw [zt_eq (by omega)] | rw [zt_ne (by omega) (by omega) (by omega)] | rw [zt_nle (by omega) (by omega)] | rw [zt_le (by omega) (by omega)] | rw [zt_nlt (by omega) (by omega)] | rw [zt_lt (by omega) (by omega)] | rw [zt_nm (by omega)] | rw [zt_mm] | rw [zt_ml] | rw [zt_0m] | rw [zt_m0] | rw [zt_n6 (by omega)] | rw [zt_66] | rw [zt_06] | simp (disch := omega) only [k0, k1, k2, k3, k4, k5, k6, k8, k16, k30, k60, k100, k200, k201, k300, k1500, k8000, kM, k_m6, nIa, nIp, nIs, sI_1, sI_22, sL_1, sL_21, sS_21, sS_22, sI_ne, sL_ne, sS_ne, sS_eq, sI_eq, sI_at, sL_eq, sL_at, Nat.add_zero, if_true, if_false, t1, A1, A2, N2, t2, A4, t4, A5, A6, A7, len7, A8', t8, t9, A10, t10, A11, A12'] | rw [bV_e] | rw [pS_e] | rw [bI_s] | rw [bU_s] | rw [bL_s] | rw [gI_n (by omega) (by omega)] | rw [gR_n (by omega)] | rw [pI_n (by omega) (by omega)] | rw [gL_n (by omega) (by omega)] | rw [pL_n (by omega) (by omega)] | rw [j_X6_findOfLet_59] | rw [j_X6_findOfLet_83]))
              · rw [thn_n z10]
                refine ⟨S10, ?_, B10, fun z => absurd z z10, K10', F10'⟩
                ((try simp only [k0, k1, k2, k3, k4, k5, k6, k8, k16, k30, k60, k100, k200, k201, k300, k1500, k8000, kM, k_m6]); repeat (first | rw [zt_eq (by omega)] | rw [zt_ne (by omega) (by omega) (by omega)] | rw [zt_nle (by omega) (by omega)] | rw [zt_le (by omega) (by omega)] | rw [zt_nlt (by omega) (by omega)] | rw [zt_lt (by omega) (by omega)] | rw [zt_nm (by omega)] | rw [zt_mm] | rw [zt_ml] | rw [zt_0m] | rw [zt_m0] | rw [zt_n6 (by omega)] | rw [zt_66] | rw [zt_06] | simp (disch := omega) only [k0, k1, k2, k3, k4, k5, k6, k8, k16, k30, k60, k100, k200, k201, k300, k1500, k8000, kM, k_m6, nIa, nIp, nIs, sI_1, sI_22, sL_1, sL_21, sS_21, sS_22, sI_ne, sL_ne, sS_ne, sS_eq, sI_eq, sI_at, sL_eq, sL_at, Nat.add_zero, if_true, if_false, t1, A1, A2, N2, t2, A4, t4, A5, A6, A7, len7, A8', t8, t9, A10] | rw [bV_e] | rw [pS_e] | rw [bI_s] | rw [bU_s] | rw [bL_s] | rw [gI_n (by omega) (by omega)] | rw [gR_n (by omega)] | rw [pI_n (by omega) (by omega)] | rw [gL_n (by omega) (by omega)] | rw [pL_n (by omega) (by omega)] | rw [j_X6_findOfLet_59] | rw [j_X6_findOfLet_83]))
            · rw [if_neg z8]
              rw [if_neg z8] at A8
              have A8' : f_X4_matches n S7 (6 + a) (nI 0) (nI s7.2.length) (6 + (a + 1)) = some (S8, nI 0) := A8
              refine ⟨S8, ?_, (by decide), (fun z => nomatch z), K8, F8'⟩
              ((try simp only [k0, k1, k2, k3, k4, k5, k6, k8, k16, k30, k60, k100, k200, k201, k300, k1500, k8000, kM, k_m6]); repeat (first | rw [zt_eq (by omega)] | rw [zt_ne (by omega) (by omega) (by omega)] | rw [zt_nle (by omega) (by omega)] | rw [zt_le (by omega) (by omega)] | rw [zt_nlt (by omega) (by omega)] | rw [zt_lt (by omega) (by omega)] | rw [zt_nm (by omega)] | rw [zt_mm] | rw [zt_ml] | rw [zt_0m] | rw [zt_m0] | rw [zt_n6 (by omega)] | rw [zt_66] | rw [zt_06] | simp (disch := omega) only [k0, k1, k2, k3, k4, k5, k6, k8, k16, k30, k60, k100, k200, k201, k300, k1500, k8000, kM, k_m6, nIa, nIp, nIs, sI_1, sI_22, sL_1, sL_21, sS_21, sS_22, sI_ne, sL_ne, sS_ne, sS_eq, sI_eq, sI_at, sL_eq, sL_at, Nat.add_zero, if_true, if_false, t1, A1, A2, N2, t2, A4, t4, A5, A6, A7, len7, A8'] | rw [bV_e] | rw [pS_e] | rw [bI_s] | rw [bU_s] | rw [bL_s] | rw [gI_n (by omega) (by omega)] | rw [gR_n (by omega)] | rw [pI_n (by omega) (by omega)] | rw [gL_n (by omega) (by omega)] | rw [pL_n (by omega) (by omega)] | rw [j_X6_findOfLet_59] | rw [j_X6_findOfLet_83]))
      · rw [thn_n z4]
        refine ⟨S4, ?_, B4, fun z => absurd z z4, K4', F4'⟩
        ((try simp only [k0, k1, k2, k3, k4, k5, k6, k8, k16, k30, k60, k100, k200, k201, k300, k1500, k8000, kM, k_m6]); repeat (first | rw [zt_eq (by omega)] | rw [zt_ne (by omega) (by omega) (by omega)] | rw [zt_nle (by omega) (by omega)] | rw [zt_le (by omega) (by omega)] | rw [zt_nlt (by omega) (by omega)] | rw [zt_lt (by omega) (by omega)] | rw [zt_nm (by omega)] | rw [zt_mm] | rw [zt_ml] | rw [zt_0m] | rw [zt_m0] | rw [zt_n6 (by omega)] | rw [zt_66] | rw [zt_06] | simp (disch := omega) only [k0, k1, k2, k3, k4, k5, k6, k8, k16, k30, k60, k100, k200, k201, k300, k1500, k8000, kM, k_m6, nIa, nIp, nIs, sI_1, sI_22, sL_1, sL_21, sS_21, sS_22, sI_ne, sL_ne, sS_ne, sS_eq, sI_eq, sI_at, sL_eq, sL_at, Nat.add_zero, if_true, if_false, t1, A1, A2, N2, t2, A4] | rw [bV_e] | rw [pS_e] | rw [bI_s] | rw [bU_s] | rw [bL_s] | rw [gI_n (by omega) (by omega)] | rw [gR_n (by omega)] | rw [pI_n (by omega) (by omega)] | rw [gL_n (by omega) (by omega)] | rw [pL_n (by omega) (by omega)] | rw [j_X6_findOfLet_59] | rw [j_X6_findOfLet_83]))
    · rw [thn_n z2]
      refine ⟨S2, ?_, B2, fun z => absurd z z2, K2, F2'⟩
      ((try simp only [k0, k1, k2, k3, k4, k5, k6, k8, k16, k30, k60, k100, k200, k201, k300, k1500, k8000, kM, k_m6]); repeat (first | rw [zt_eq (by omega)] | rw [zt_ne (by omega) (by omega) (by omega)] | rw [zt_nle (by omega) (by omega)] | rw [zt_le (by omega) (by omega)] | rw [zt_nlt (by omega) (by omega)] | rw [zt_lt (by omega) (by omega)] | rw [zt_nm (by omega)] | rw [zt_mm] | rw [zt_ml] | rw [zt_0m] | rw [zt_m0] | rw [zt_n6 (by omega)] | rw [zt_66] | rw [zt_06] | simp (disch := omega) only [k0, k1, k2, k3, k4, k5, k6, k8, k16, k30, k60, k100, k200, k201, k300, k1500, k8000, kM, k_m6, nIa, nIp, nIs, sI_1, sI_22, sL_1, sL_21, sS_21, sS_22, sI_ne, sL_ne, sS_ne, sS_eq, sI_eq, sI_at, sL_eq, sL_at, Nat.add_zero, if_true, if_false, t1, A1, A2, N2] | rw [bV_e] | rw [pS_e] | rw [bI_s] | rw [bU_s] | rw [bL_s] | rw [gI_n (by omega) (by omega)] | rw [gR_n (by omega)] | rw [pI_n (by omega) (by omega)] | rw [gL_n (by omega) (by omega)] | rw [pL_n (by omega) (by omega)] | rw [j_X6_findOfLet_59] | rw [j_X6_findOfLet_83]))
  · rw [srt_n z1, thn_m z1]
    refine ⟨S1, ?_, B1, fun z => absurd z z1, K1, F1'⟩
    ((try simp only [k0, k1, k2, k3, k4, k5, k6, k8, k16, k30, k60, k100, k200, k201, k300, k1500, k8000, kM, k_m6]); repeat (first | rw [zt_eq (by omega)] | rw [zt_ne (by omega) (by omega) (by omega)] | rw [zt_nle (by omega) (by omega)] | rw [zt_le (by omega) (by omega)] | rw [zt_nlt (by omega) (by omega)] | rw [zt_lt (by omega) (by omega)] | rw [zt_nm (by omega)] | rw [zt_mm] | rw [zt_ml] | rw [zt_0m] | rw [zt_m0] | rw [zt_n6 (by omega)] | rw [zt_66] | rw [zt_06] | simp (disch := omega) only [k0, k1, k2, k3, k4, k5, k6, k8, k16, k30, k60, k100, k200, k201, k300, k1500, k8000, kM, k_m6, nIa, nIp, nIs, sI_1, sI_22, sL_1, sL_21, sS_21, sS_22, sI_ne, sL_ne, sS_ne, sS_eq, sI_eq, sI_at, sL_eq, sL_at, Nat.add_zero, if_true, if_false, t1, A1] | rw [bV_e] | rw [pS_e] | rw [bI_s] | rw [bU_s] | rw [bL_s] | rw [gI_n (by omega) (by omega)] | rw [gR_n (by omega)] | rw [pI_n (by omega) (by omega)] | rw [gL_n (by omega) (by omega)] | rw [pL_n (by omega) (by omega)] | rw [j_X6_findOfLet_59] | rw [j_X6_findOfLet_83]))
