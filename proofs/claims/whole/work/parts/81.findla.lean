/-! the class: the type of a function -/
theorem c_la {n d a : Nat} {L : List (List Nat)} {T : List (List Mk)} {Ns : List Nme} {F : St → Int32 → Int32 → Int32 → Option (St × Int32)} {S : St} {ctx : List (List Mk)} {x : List Mk} (hn : 10000 ≤ n) (he : ENV L T Ns) (hF : FH n d (a + 1) L T Ns F) (hd : d + a ≤ 101) (hx : x ∈ T) (h3 : hk x = 4) (hl : x.length + 2 * a ≤ 200) (hc : ctx.length ≤ a) (hC : CS S L T Ns) (hX : CXT S T ctx) : ∃ S', f_X6_findOfLambda n F S (nI (ixT T x)) (nI ctx.length) (nI a) = some (S', nI (tyLa Ns (tyS Ns d) ctx x).1) ∧ (tyLa Ns (tyS Ns d) ctx x).1 ≤ 8 ∧ ((tyLa Ns (tyS Ns d) ctx x).1 = 0 → RW S' (6 + a) (tyLa Ns (tyS Ns d) ctx x).2) ∧ KP 256 ctx.length S S' ∧ FR (FD a) S S' := by
  obtain ⟨m1, m2, ml, ml1, ml2⟩ := pt_in he.2.1 hx (by omega)
  have hg0 := he.2.1.2.2.2.1
  have hz := zB_le he.2.1
  have hT15 := he.2.1.1
  have h40 := he.2.2.1
  have ixx := ixT_lt hx
  have ix1 := ixT_lt m1
  have ix2 := ixT_lt m2
  have t1 := tb_1 hC.1 hx (by omega)
  have cok := CXT_cOk (S := S) he.2.1 (CXT_mem hX)
  obtain ⟨S1, A1, B1, R1, K1, F1⟩ := hF S ctx (p1 x) m1 (by omega) (by omega) hC hX
  have gd1 := tyS_gd he d ctx (p1 x) (gdT_mo (hg0 _ m1) (by omega)) cok (by omega)
  have F1' := FD_le F1 (show a ≤ a + 1 by omega)
  have C1 := CS_FD hC F1
  unfold tyLa
  generalize tyS Ns d ctx (p1 x) = r1 at *
  unfold f_X6_findOfLambda
  by_cases z1 : r1.1 = 0
  · rw [z1] at A1
    obtain ⟨S2, v2, A2, N2, L2, B2, F2⟩ := s_srt (n := n) (j := 6 + (a + 1)) hn (by omega) he (by omega) z1 (R1 z1) (gd1 z1) C1
    have F2' : FR (FD a) S S2 := FR_tr F1' (rdx_FD F2 (by omega) (by omega))
    have K2 : KP 256 ctx.length S S2 := KP_tr K1 (KP_rdx F2)
    have C2 := CS_FD hC F2'
    generalize srt Ns r1 = s1 at *
    by_cases z2 : s1.1 = 0
    · rw [z2] at N2
      have t1' := tb_1 C2.1 hx (by omega)
      have F3 : FR (FD a) S (sI S2 256 0 ctx.length (nI (ixT T (p1 x)))) := FR_sI F2' (by rw [rg256, mem_FD]; omega)
      have C3 := CS_FD hC F3
      have K3 : KP 256 ctx.length S (sI S2 256 0 ctx.length (nI (ixT T (p1 x)))) := KP_tr K2 (KPs (Nat.le_refl _))
      have t2 := tb_2 C3.1 hx (by omega)
      have X3 := CXT_c (CXT_k hX K2) m1
      obtain ⟨S4, A4, B4, R4, K4, F4⟩ := hF (sI S2 256 0 ctx.length (nI (ixT T (p1 x)))) (p1 x :: ctx) (p2 x) m2 (by omega) (by rw [List.length_cons]; omega) C3 X3
      rw [List.length_cons] at A4 K4
      have gd4 := tyS_gd he d (p1 x :: ctx) (p2 x) (gdT_mo (hg0 _ m2) (by omega)) (CXT_cOk (S := S) he.2.1 (CXT_mem X3)) (by rw [List.length_cons]; omega)
      rw [List.length_cons] at gd4
      have F4' : FR (FD a) S S4 := FR_tr F3 (FD_le F4 (by omega))
      have K4' : KP 256 ctx.length S S4 := KP_tr K3 (KP_mo K4 (by omega))
      have C4 := CS_FD hC F4'
      have t4 := tb_1 C4.1 hx (by omega)
      rw [thn_0 z2]
      generalize tyS Ns d (p1 x :: ctx) (p2 x) = r4 at *
      by_cases z4 : r4.1 = 0
      · rw [z4] at A4
        rw [thn_0 z4]
        have gr := gd4 z4
        obtain ⟨S5, A5, R5, F5⟩ := s_spread (n := n) (j := 5) he.1 he.2.1 C4.1 C4.2.1 (ixT_get m1) (by omega)
        have F5' : FR (FD a) S S5 := FR_tr F4' (FD_in F5 (fun x hx => by simp at hx; omega))
        have K5 : KP 256 ctx.length S S5 := KP_tr K4' (KP_fr F5 (by rw [rg256]; simp))
        have R4' : RW S5 (6 + (a + 1)) r4.2 := RW_fr (R4 z4) F5 (by simp; omega)
        have len5 := R5.1
        have len4 := R4'.1
        have pl : (piT (p1 x) r4.2).length = 1 + (p1 x).length + r4.2.length := by unfold piT; rw [List.length_cons, List.length_append, List.length_map]; omega
        have l2 := gr.2.1
        have l1 := R5.2.1
        by_cases z6 : 1 + (p1 x).length + r4.2.length ≤ 200
        · have e6 : szd (piT (p1 x) r4.2) = (0, piT (p1 x) r4.2) := by unfold szd; rw [pl, if_pos z6]
          rw [e6]
          have w0 : RW (sS S5 150 (6 + a) (nI 0)) (6 + a) [] := RW_0
          have fw : FR [1000 + (6 + a)] S5 (sS S5 150 (6 + a) (nI 0)) := FR_sS FR_rf (by rw [rgR (by omega)]; simp)
          have ad := s_add (n := n) (m := (3, 0, 0, [], [])) w0 (by simp)
          have w1 := RW_add (m := (3, 0, 0, [], [])) w0 (by simp)
          have fa : FR [1000 + (6 + a)] S5 (addm (sS S5 150 (6 + a) (nI 0)) (6 + a) [] (3, 0, 0, [], [])) := addm_fr fw (by simp)
          obtain ⟨S7, A7, R7, F7⟩ := s_append (n := n) (j := 6 + a) (a := 5) (bl := 0) (g := fun m => m) (by omega) (fun m _ => ⟨rfl, by split <;> exact (Int32.add_zero _).symm, (Int32.add_zero _).symm, rfl⟩) (gdT_mB (hg0 _ m1) (by omega) (by omega)) w1 (RW_fr R5 fa (by simp; omega)) (by simp; omega) (by omega)
          have f57 : FR [1000 + (6 + a)] S5 S7 := FR_tr fa F7
          obtain ⟨S8, A8, R8, F8⟩ := s_append (n := n) (j := 6 + a) (a := 6 + (a + 1)) (bl := nI 1) (g := shM 1) (by omega) (fun m _ => ⟨rfl, by show nI m.2.1 = _; split <;> exact (Int32.add_zero _).symm, by show nI (m.2.2.1 + 1) = _; rw [nIa], rfl⟩) (gdT_mB gr (by omega) (by omega)) R7 (RW_fr R4' f57 (by rw [List.mem_singleton]; omega)) (by simp; omega) (by omega)
          have F8' : FR (FD a) S S8 := FR_tr F5' (FD_in (FR_tr f57 F8) (fun x hx => by simp at hx; omega))
          have K8 : KP 256 ctx.length S S8 := KP_tr K5 (KP_fr (FR_tr f57 F8) (by rw [rg256]; simp; omega))
          have ad' : f_X4_add n (sS S5 150 (6 + a) (nI 0)) (6 + a) (nI 3) (nI 0) (nI 0) 0 0 = some (addm (sS S5 150 (6 + a) (nI 0)) (6 + a) [] (3, 0, 0, [], [])) := ad
          have A7' : f_X4_append n (addm (sS S5 150 (6 + a) (nI 0)) (6 + a) [] (3, 0, 0, [], [])) (6 + a) 5 (nI 0) = some S7 := A7
          refine ⟨S8, ?_, Nat.zero_le _, fun _ => ?_, K8, F8'⟩
          · ((try simp only [k0, k1, k2, k3, k4, k5, k6, k8, k16, k30, k60, k100, k200, k201, k300, k1500, k8000, kM, k_m6]); repeat (first | rw [zt_eq (by omega)] | rw [zt_ne (by omega) (by omega) (by omega)] | rw [zt_nle (by omega) (by omega)] | rw [zt_le (by omega) (by omega)] | rw [zt_nlt (by omega) (by omega)] | rw [zt_lt (by omega) (by omega)] | rw [zt_nm (by omega)] | rw [zt_mm] | rw [zt_ml] | rw [zt_0m] | rw [zt_m0] | rw [zt_n6 (by omega)] | rw [zt_66] | rw [zt_06] | simp (disch := omega) only [k0, k1, k2, k3, k4, k5, k6, k8, k16, k30, k60, k100, k200, k201, k300, k1500, k8000, kM, k_m6, nIa, nIp, nIs, sI_1, sI_22, sL_1, sL_21, sS_21, sS_22, sI_ne, sL_ne, sS_ne, sS_eq, sI_eq, sI_at, sL_eq, sL_at, Nat.add_zero, if_true, if_false, t1, A1, A2, N2, t1', t2, A4, t4, A5, len5, len4, ad', A7', A8] | rw [bV_e] | rw [pS_e] | rw [bI_s] | rw [bU_s] | rw [bL_s] | rw [gI_n (by omega) (by omega)] | rw [gR_n (by omega)] | rw [pI_n (by omega) (by omega)] | rw [gL_n (by omega) (by omega)] | rw [pL_n (by omega) (by omega)] | rw [j_X6_findOfLambda_59]))
          · have R8' := R8
            rw [List.map_id'] at R8'
            unfold piT
            rw [List.nil_append, List.append_assoc] at R8'
            exact R8'
        · have e6 : szd (piT (p1 x) r4.2) = (5, []) := by unfold szd; rw [pl, if_neg z6]
          rw [e6]
          refine ⟨S5, ?_, (by decide), (fun z => nomatch z), K5, F5'⟩
          ((try simp only [k0, k1, k2, k3, k4, k5, k6, k8, k16, k30, k60, k100, k200, k201, k300, k1500, k8000, kM, k_m6]); repeat (first | rw [zt_eq (by omega)] | rw [zt_ne (by omega) (by omega) (by omega)] | rw [zt_nle (by omega) (by omega)] | rw [zt_le (by omega) (by omega)] | rw [zt_nlt (by omega) (by omega)] | rw [zt_lt (by omega) (by omega)] | rw [zt_nm (by omega)] | rw [zt_mm] | rw [zt_ml] | rw [zt_0m] | rw [zt_m0] | rw [zt_n6 (by omega)] | rw [zt_66] | rw [zt_06] | simp (disch := omega) only [k0, k1, k2, k3, k4, k5, k6, k8, k16, k30, k60, k100, k200, k201, k300, k1500, k8000, kM, k_m6, nIa, nIp, nIs, sI_1, sI_22, sL_1, sL_21, sS_21, sS_22, sI_ne, sL_ne, sS_ne, sS_eq, sI_eq, sI_at, sL_eq, sL_at, Nat.add_zero, if_true, if_false, t1, A1, A2, N2, t1', t2, A4, t4, A5, len5, len4] | rw [bV_e] | rw [pS_e] | rw [bI_s] | rw [bU_s] | rw [bL_s] | rw [gI_n (by omega) (by omega)] | rw [gR_n (by omega)] | rw [pI_n (by omega) (by omega)] | rw [gL_n (by omega) (by omega)] | rw [pL_n (by omega) (by omega)] | rw [j_X6_findOfLambda_59]))
      · rw [thn_n z4]
        refine ⟨S4, ?_, B4, fun z => absurd z z4, K4', F4'⟩
        ((try simp only [k0, k1, k2, k3, k4, k5, k6, k8, k16, k30, k60, k100, k200, k201, k300, k1500, k8000, kM, k_m6]); repeat (first | rw [zt_eq (by omega)] | rw [zt_ne (by omega) (by omega) (by omega)] | rw [zt_nle (by omega) (by omega)] | rw [zt_le (by omega) (by omega)] | rw [zt_nlt (by omega) (by omega)] | rw [zt_lt (by omega) (by omega)] | rw [zt_nm (by omega)] | rw [zt_mm] | rw [zt_ml] | rw [zt_0m] | rw [zt_m0] | rw [zt_n6 (by omega)] | rw [zt_66] | rw [zt_06] | simp (disch := omega) only [k0, k1, k2, k3, k4, k5, k6, k8, k16, k30, k60, k100, k200, k201, k300, k1500, k8000, kM, k_m6, nIa, nIp, nIs, sI_1, sI_22, sL_1, sL_21, sS_21, sS_22, sI_ne, sL_ne, sS_ne, sS_eq, sI_eq, sI_at, sL_eq, sL_at, Nat.add_zero, if_true, if_false, t1, A1, A2, N2, t1', t2, A4] | rw [bV_e] | rw [pS_e] | rw [bI_s] | rw [bU_s] | rw [bL_s] | rw [gI_n (by omega) (by omega)] | rw [gR_n (by omega)] | rw [pI_n (by omega) (by omega)] | rw [gL_n (by omega) (by omega)] | rw [pL_n (by omega) (by omega)] | rw [j_X6_findOfLambda_59]))
    · rw [thn_n z2]
      refine ⟨S2, ?_, B2, fun z => absurd z z2, K2, F2'⟩
      ((try simp only [k0, k1, k2, k3, k4, k5, k6, k8, k16, k30, k60, k100, k200, k201, k300, k1500, k8000, kM, k_m6]); repeat (first | rw [zt_eq (by omega)] | rw [zt_ne (by omega) (by omega) (by omega)] | rw [zt_nle (by omega) (by omega)] | rw [zt_le (by omega) (by omega)] | rw [zt_nlt (by omega) (by omega)] | rw [zt_lt (by omega) (by omega)] | rw [zt_nm (by omega)] | rw [zt_mm] | rw [zt_ml] | rw [zt_0m] | rw [zt_m0] | rw [zt_n6 (by omega)] | rw [zt_66] | rw [zt_06] | simp (disch := omega) only [k0, k1, k2, k3, k4, k5, k6, k8, k16, k30, k60, k100, k200, k201, k300, k1500, k8000, kM, k_m6, nIa, nIp, nIs, sI_1, sI_22, sL_1, sL_21, sS_21, sS_22, sI_ne, sL_ne, sS_ne, sS_eq, sI_eq, sI_at, sL_eq, sL_at, Nat.add_zero, if_true, if_false, t1, A1, A2, N2] | rw [bV_e] | rw [pS_e] | rw [bI_s] | rw [bU_s] | rw [bL_s] | rw [gI_n (by omega) (by omega)] | rw [gR_n (by omega)] | rw [pI_n (by omega) (by omega)] | rw [gL_n (by omega) (by omega)] | rw [pL_n (by omega) (by omega)] | rw [j_X6_findOfLambda_59]))
  · rw [srt_n z1, thn_m z1]
    refine ⟨S1, ?_, B1, fun z => absurd z z1, K1, F1'⟩
    ((try simp only [k0, k1, k2, k3, k4, k5, k6, k8, k16, k30, k60, k100, k200, k201, k300, k1500, k8000, kM, k_m6]); repeat (first | rw [zt_eq (by omega)] | rw [zt_ne (by omega) (by omega) (by omega)] | rw [zt_nle (by omega) (by omega)] | rw [zt_le (by omega) (by omega)] | rw [zt_nlt (by omega) (by omega)] | rw [zt_lt (by omega) (by omega)] | rw [zt_nm (by omega)] | rw [zt_mm] | rw [zt_ml] | rw [zt_0m] | rw [zt_m0] | rw [zt_n6 (by omega)] | rw [zt_66] | rw [zt_06] | simp (disch := omega) only [k0, k1, k2, k3, k4, k5, k6, k8, k16, k30, k60, k100, k200, k201, k300, k1500, k8000, kM, k_m6, nIa, nIp, nIs, sI_1, sI_22, sL_1, sL_21, sS_21, sS_22, sI_ne, sL_ne, sS_ne, sS_eq, sI_eq, sI_at, sL_eq, sL_at, Nat.add_zero, if_true, if_false, t1, A1] | rw [bV_e] | rw [pS_e] | rw [bI_s] | rw [bU_s] | rw [bL_s] | rw [gI_n (by omega) (by omega)] | rw [gR_n (by omega)] | rw [pI_n (by omega) (by omega)] | rw [gL_n (by omega) (by omega)] | rw [pL_n (by omega) (by omega)] | rw [j_X6_findOfLambda_59]))
