/-! the class: the type of an application -/
theorem c_ap {n d a : Nat} {L : List (List Nat)} {T : List (List Mk)} {Ns : List Nme} {F : St → Int32 → Int32 → Int32 → Option (St × Int32)} {S : St} {ctx : List (List Mk)} {x : List Mk} (hn : 10000 ≤ n) (he : ENV L T Ns) (hF : FH n d (a + 1) L T Ns F) (hd : d + a ≤ 101) (hx : x ∈ T) (h3 : hk x = 5) (hl : x.length + 2 * a ≤ 200) (hc : ctx.length ≤ a) (hC : CS S L T Ns) (hX : CXT S T ctx) : ∃ S', f_X6_findOfApply n F S (nI (ixT T x)) (nI ctx.length) (nI a) = some (S', nI (tyAp Ns (tyS Ns d) ctx x).1) ∧ (tyAp Ns (tyS Ns d) ctx x).1 ≤ 8 ∧ ((tyAp Ns (tyS Ns d) ctx x).1 = 0 → RW S' (6 + a) (tyAp Ns (tyS Ns d) ctx x).2) ∧ KP 256 ctx.length S S' ∧ FR (FD a) S S' := by
  obtain ⟨m1, m2, ml, ml1, ml2⟩ := pt_in he.2.1 hx (by omega)
  have hg0 := he.2.1.2.2.2.1
  have hz := zB_le he.2.1
  have hT15 := he.2.1.1
  have h40 := he.2.2.1
  have ixx := ixT_lt hx
  have ix1 := ixT_lt m1
  have ix2 := ixT_lt m2
  have t1 := tb_1 hC.1 hx (by omega)
  have cok := CXT_cOk (S := S) he.2.1 (CXT_mem hX)
  obtain ⟨S1, A1, B1, R1, K1, F1⟩ := hF S ctx (p1 x) m1 (by omega) (by omega) hC hX
  have gd1 := tyS_gd he d ctx (p1 x) (gdT_mo (hg0 _ m1) (by omega)) cok (by omega)
  have F1' := FD_le F1 (show a ≤ a + 1 by omega)
  have C1 := CS_FD hC F1
  unfold tyAp
  generalize tyS Ns d ctx (p1 x) = r1 at *
  unfold f_X6_findOfApply
  by_cases z1 : r1.1 = 0
  · rw [z1] at A1
    rw [thn_0 z1]
    obtain ⟨S2, v2, A2, F2, N2⟩ := s_nr (n := n) (j := 6 + (a + 1)) (B := zB T + ctx.length) hn (by omega) he (by omega) (R1 z1) (gd1 z1) C1
    have F2' : FR (FD a) S S2 := FR_tr F1' (rdx_FD F2 (by omega) (by omega))
    have K2 : KP 256 ctx.length S S2 := KP_tr K1 (KP_rdx F2)
    have C2 := CS_FD hC F2'
    generalize nr Ns r1.2 = s1 at *
    rcases N2 with ⟨n1, n2⟩ | ⟨c, hc30, hv, n1, n2, n3⟩
    · rw [n1, thn_m (by decide)]
      refine ⟨S2, ?_, (by decide), (fun z => nomatch z), K2, F2'⟩
      rw [n2] at A2
      ((try simp only [k0, k1, k2, k3, k4, k5, k6, k8, k16, k30, k60, k100, k200, k201, k300, k1500, k8000, kM, k_m6]); repeat (first | rw [zt_eq (by omega)] | rw [zt_ne (by omega) (by omega) (by omega)] | rw [zt_nle (by omega) (by omega)] | rw [zt_le (by omega) (by omega)] | rw [zt_nlt (by omega) (by omega)] | rw [zt_lt (by omega) (by omega)] | rw [zt_nm (by omega)] | rw [zt_mm] | rw [zt_ml] | rw [zt_0m] | rw [zt_m0] | rw [zt_n6 (by omega)] | rw [zt_66] | rw [zt_06] | simp (disch := omega) only [k0, k1, k2, k3, k4, k5, k6, k8, k16, k30, k60, k100, k200, k201, k300, k1500, k8000, kM, k_m6, nIa, nIp, nIs, sI_1, sI_22, sL_1, sL_21, sS_21, sS_22, sI_ne, sL_ne, sS_ne, sS_eq, sI_eq, sI_at, sL_eq, sL_at, Nat.add_zero, if_true, if_false, t1, A1, A2] | rw [bV_e] | rw [pS_e] | rw [bI_s] | rw [bU_s] | rw [bL_s] | rw [gI_n (by omega) (by omega)] | rw [gR_n (by omega)] | rw [pI_n (by omega) (by omega)] | rw [gL_n (by omega) (by omega)] | rw [pL_n (by omega) (by omega)]))
    · rw [thn_0 n1]
      rw [hv] at A2
      have kA := s_kindAt (n := n) n2 (p := 0) (by omega)
      cases h9 : s1.2 with
      | nil => rw [h9] at n3; exact absurd (Tm_ne n3.1) (by simp)
      | cons my ry =>
        rw [h9] at kA n2 n3
        have kA' : f_X4_kindAt n S2 (6 + (a + 1)) (nI 0) = some (S2, nI my.1) := kA
        have my6 := (n3.2.2 my List.mem_cons_self).1
        have yl := n2.2.1
        have ylen := n2.1
        by_cases kq3 : my.1 = 3
        · rw [if_pos (show hk (my :: ry) = 3 from kq3)]
          rw [kq3] at kA'
          have my0 : my.2.2.1 = 0 := (tm_parts n3.1).1
          obtain ⟨S3, A3, R3, F3⟩ := s_takeX (n := n) (j := 6 + a) (a := 6 + (a + 1)) (P := []) (Q := []) (e := 0) (X := my :: ry) (by omega) n2 (gd_mBs n3 (by omega) h40) (by rw [sh_0]; simp) n3.1 (by omega)
          have A3' : f_X4_takePart n S2 (6 + a) (6 + (a + 1)) (nI 0) (nI (my :: ry).length) = some S3 := by rw [List.length_nil, Nat.zero_add] at A3; exact A3
          have F3' : FR (FD a) S S3 := FR_tr F2' (FD_in F3 (fun x hx => by simp at hx; omega))
          have K3 : KP 256 ctx.length S S3 := KP_tr K2 (KP_fr F3 (by rw [rg256]; simp; omega))
          have C3 := CS_FD hC F3'
          have t2 := tb_2 C3.1 hx (by omega)
          obtain ⟨S4, A4, B4, R4, K4, F4⟩ := hF S3 ctx (p2 x) m2 (by omega) (by omega) C3 (CXT_k hX K3)
          have gd4 := tyS_gd he d ctx (p2 x) (gdT_mo (hg0 _ m2) (by omega)) cok (by omega)
          have F4' : FR (FD a) S S4 := FR_tr F3' (FD_le F4 (by omega))
          have K4' : KP 256 ctx.length S S4 := KP_tr K3 K4
          have C4 := CS_FD hC F4'
          have R3' : RW S4 (6 + a) (my :: ry) := RW_fr R3 F4 (by rw [mem_FD]; omega)
          generalize tyS Ns d ctx (p2 x) = r4 at *
          by_cases z4 : r4.1 = 0
          · rw [z4] at A4
            rw [thn_0 z4]
            obtain ⟨S5, v5, A5, F5, N5⟩ := s_nr (n := n) (j := 6 + (a + 1)) (B := zB T + ctx.length) hn (by omega) he (by omega) (R4 z4) (gd4 z4) C4
            have F5' : FR (FD a) S S5 := FR_tr F4' (rdx_FD F5 (by omega) (by omega))
            have K5 : KP 256 ctx.length S S5 := KP_tr K4' (KP_rdx F5)
            have R5 : RW S5 (6 + a) (my :: ry) := RW_fr R3' F5 (by simp [RDX]; omega)
            generalize nr Ns r4.2 = s4 at *
            rcases N5 with ⟨u1, u2⟩ | ⟨c5, hc5, hv5, u1, u2, u3⟩
            · rw [u1, thn_m (by decide)]
              refine ⟨S5, ?_, (by decide), (fun z => nomatch z), K5, F5'⟩
              rw [u2] at A5
              ((try simp only [k0, k1, k2, k3, k4, k5, k6, k8, k16, k30, k60, k100, k200, k201, k300, k1500, k8000, kM, k_m6]); repeat (first | rw [zt_eq (by omega)] | rw [zt_ne (by omega) (by omega) (by omega)] | rw [zt_nle (by omega) (by omega)] | rw [zt_le (by omega) (by omega)] | rw [zt_nlt (by omega) (by omega)] | rw [zt_lt (by omega) (by omega)] | rw [zt_nm (by omega)] | rw [zt_mm] | rw [zt_ml] | rw [zt_0m] | rw [zt_m0] | rw [zt_n6 (by omega)] | rw [zt_66] | rw [zt_06] | simp (disch := omega) only [k0, k1, k2, k3, k4, k5, k6, k8, k16, k30, k60, k100, k200, k201, k300, k1500, k8000, kM, k_m6, nIa, nIp, nIs, sI_1, sI_22, sL_1, sL_21, sS_21, sS_22, sI_ne, sL_ne, sS_ne, sS_eq, sI_eq, sI_at, sL_eq, sL_at, Nat.add_zero, if_true, if_false, t1, A1, A2, kA', ylen, A3', t2, A4, A5] | rw [bV_e] | rw [pS_e] | rw [bI_s] | rw [bU_s] | rw [bL_s] | rw [gI_n (by omega) (by omega)] | rw [gR_n (by omega)] | rw [pI_n (by omega) (by omega)] | rw [gL_n (by omega) (by omega)] | rw [pL_n (by omega) (by omega)]))
            · rw [thn_0 u1]
              rw [hv5] at A5
              obtain ⟨gy1, gy2⟩ := (gd_parts n3).1 (by omega)
              rw [show dl my.1 = 1 by rw [kq3]; rfl] at gy2
              have er := (tm_parts n3.1).2.2.2.1 (by rw [kq3]; rfl)
              rw [show dl my.1 = 1 by rw [kq3]; rfl] at er
              have yll : (my :: ry).length = 1 + (p1 (my :: ry)).length + (p2 (my :: ry)).length := (tlen n3).2.1 (show 3 ≤ my.1 by omega) (show my.1 ≠ 6 by omega)
              have ey : my :: ry = [my] ++ ((p1 (my :: ry)) ++ ((p2 (my :: ry)).map (shM 1) ++ [])) := by
                rw [List.append_nil]
                conv => lhs; rw [er]
                rfl
              have mby := gd_mBs n3 (by omega) h40
              have E5 := s_endX (n := n) R5 mby ey gy1.1 (by omega)
              have E5' : f_X4_endOf n S5 (6 + a) (nI 1) = some (S5, nI (1 + (p1 (my :: ry)).length)) := E5
              have sge : seg (my :: ry) 1 (1 + (p1 (my :: ry)).length) = p1 (my :: ry) := by
                unfold seg
                rw [Nat.add_comm 1, List.take_succ_cons, List.drop_succ_cons, List.drop_zero]
                have w := List.take_left (l₁ := p1 (my :: ry)) (l₂ := (p2 (my :: ry)).map (shM 1))
                rw [← er] at w
                exact w
              obtain ⟨S6, A6, F6⟩ := s_matches (n := n) (gdT_mV n3 (by omega) (by omega)) (gdT_mV u3 (by omega) (by omega)) R5 u2 (i := 1) (k := 1 + (p1 (my :: ry)).length) (by omega) (by omega) (by omega)
              rw [sge] at A6
              have F6' : FR (FD a) S S6 := FR_tr F5' (FD_in F6 (fun x hx => by simp at hx; omega))
              have K6 : KP 256 ctx.length S S6 := KP_tr K5 (KP_fr F6 (by rw [rg256]; simp))
              have C6 := CS_FD hC F6'
              have R6 : RW S6 (6 + a) (my :: ry) := RW_fr R5 F6 (by simp; omega)
              by_cases z7 : mtc (p1 (my :: ry)) s4.2 = true
              · rw [if_pos z7]
                rw [if_pos z7] at A6
                have A6' : f_X4_matches n S5 (6 + a) (nI 1) (nI (1 + (p1 (my :: ry)).length)) (6 + (a + 1)) = some (S6, nI 1) := A6
                have ey2 : my :: ry = ([my] ++ (p1 (my :: ry))) ++ ((p2 (my :: ry)).map (shM 1) ++ []) := by
                  conv => lhs; rw [ey]
                  simp only [List.append_assoc]
                obtain ⟨S7, A7, R7, F7⟩ := s_takeX (n := n) (j := 6 + (a + 1)) (a := 6 + a) (by omega) R6 mby ey2 gy2.1 (by omega)
                have pl7 : ([my] ++ p1 (my :: ry)).length = 1 + (p1 (my :: ry)).length := by rw [List.length_append]; rfl
                rw [pl7] at A7
                have len6 := R6.1
                have F7' : FR (FD a) S S7 := FR_tr F6' (FD_in F7 (fun x hx => by simp at hx; omega))
                have K7 : KP 256 ctx.length S S7 := KP_tr K6 (KP_fr F7 (by rw [rg256]; simp; omega))
                have C7 := CS_FD hC F7'
                have t7 := tb_2 C7.1 hx (by omega)
                obtain ⟨S8, A8, R8, F8⟩ := s_spread (n := n) (j := 5) he.1 he.2.1 C7.1 C7.2.1 (ixT_get m2) (by omega)
                have F8' : FR (FD a) S S8 := FR_tr F7' (FD_in F8 (fun x hx => by simp at hx; omega))
                have K8 : KP 256 ctx.length S S8 := KP_tr K7 (KP_fr F8 (by rw [rg256]; simp))
                obtain ⟨S9, A9, R9, F9⟩ := s_fillWith (n := n) (j := 6 + a) (b := 6 + (a + 1)) (a := 5) (by omega) (by omega) (gd_mBs gy2 (by omega) h40) (gd_mBs (hg0 _ m2) (by omega) h40) ml2 (by omega) (RW_fr R7 F8 (by simp; omega)) R8
                have F9' : FR (FD a) S S9 := FR_tr F8' (FD_in F9 (fun x hx => by simp at hx; omega))
                have K9 : KP 256 ctx.length S S9 := KP_tr K8 (KP_fr F9 (by rw [rg256]; simp; omega))
                rw [← yll] at A7
                by_cases z9 : (fil (p2 (my :: ry)) (p2 x)).length ≤ 200
                · have e9 : szd (fil (p2 (my :: ry)) (p2 x)) = (0, fil (p2 (my :: ry)) (p2 x)) := by unfold szd; rw [if_pos z9]
                  rw [e9]
                  rw [if_pos z9] at A9
                  have A9' : f_X4_fillWith n S8 (6 + a) (6 + (a + 1)) 5 = some (S9, nI 1) := A9
                  refine ⟨S9, ?_, Nat.zero_le _, fun _ => R9 z9, K9, F9'⟩
                  ((try simp only [k0, k1, k2, k3, k4, k5, k6, k8, k16, k30, k60, k100, k200, k201, k300, k1500, k8000, kM, k_m6]); repeat (first | rw [zt_eq (by omega)] | rw [zt_ne (by omega) (by omega) (by omega)] | rw [zt_nle (by omega) (by omega)] | rw [zt_le (by omega) (by omega)] | rw [zt_nlt (by omega) (by omega)] | rw [zt_lt (by omega) (by omega)] | rw [zt_nm (by omega)] | rw [zt_mm] | rw [zt_ml] | rw [zt_0m] | rw [zt_m0] | rw [zt_n6 (by omega)] | rw [zt_66] | rw [zt_06] | simp (disch := omega) only [k0, k1, k2, k3, k4, k5, k6, k8, k16, k30, k60, k100, k200, k201, k300, k1500, k8000, kM, k_m6, nIa, nIp, nIs, sI_1, sI_22, sL_1, sL_21, sS_21, sS_22, sI_ne, sL_ne, sS_ne, sS_eq, sI_eq, sI_at, sL_eq, sL_at, Nat.add_zero, if_true, if_false, t1, A1, A2, kA', ylen, A3', t2, A4, A5, E5', A6', len6, A7, t7, A8, A9'] | rw [bV_e] | rw [pS_e] | rw [bI_s] | rw [bU_s] | rw [bL_s] | rw [gI_n (by omega) (by omega)] | rw [gR_n (by omega)] | rw [pI_n (by omega) (by omega)] | rw [gL_n (by omega) (by omega)] | rw [pL_n (by omega) (by omega)]))
                · have e9 : szd (fil (p2 (my :: ry)) (p2 x)) = (5, []) := by unfold szd; rw [if_neg z9]
                  rw [e9]
                  rw [if_neg z9] at A9
                  have A9' : f_X4_fillWith n S8 (6 + a) (6 + (a + 1)) 5 = some (S9, nI 0) := A9
                  refine ⟨S9, ?_, (by decide), (fun z => nomatch z), K9, F9'⟩
                  ((try simp only [k0, k1, k2, k3, k4, k5, k6, k8, k16, k30, k60, k100, k200, k201, k300, k1500, k8000, kM, k_m6]); repeat (first | rw [zt_eq (by omega)] | rw [zt_ne (by omega) (by omega) (by omega)] | rw [zt_nle (by omega) (by omega)] | rw [zt_le (by omega) (by omega)] | rw [zt_nlt (by omega) (by omega)] | rw [zt_lt (by omega) (by omega)] | rw [zt_nm (by omega)] | rw [zt_mm] | rw [zt_ml] | rw [zt_0m] | rw [zt_m0] | rw [zt_n6 (by omega)] | rw [zt_66] | rw [zt_06] | simp (disch := omega) only [k0, k1, k2, k3, k4, k5, k6, k8, k16, k30, k60, k100, k200, k201, k300, k1500, k8000, kM, k_m6, nIa, nIp, nIs, sI_1, sI_22, sL_1, sL_21, sS_21, sS_22, sI_ne, sL_ne, sS_ne, sS_eq, sI_eq, sI_at, sL_eq, sL_at, Nat.add_zero, if_true, if_false, t1, A1, A2, kA', ylen, A3', t2, A4, A5, E5', A6', len6, A7, t7, A8, A9'] | rw [bV_e] | rw [pS_e] | rw [bI_s] | rw [bU_s] | rw [bL_s] | rw [gI_n (by omega) (by omega)] | rw [gR_n (by omega)] | rw [pI_n (by omega) (by omega)] | rw [gL_n (by omega) (by omega)] | rw [pL_n (by omega) (by omega)]))
              · rw [if_neg z7]
                rw [if_neg z7] at A6
                have A6' : f_X4_matches n S5 (6 + a) (nI 1) (nI (1 + (p1 (my :: ry)).length)) (6 + (a + 1)) = some (S6, nI 0) := A6
                refine ⟨S6, ?_, (by decide), (fun z => nomatch z), K6, F6'⟩
                ((try simp only [k0, k1, k2, k3, k4, k5, k6, k8, k16, k30, k60, k100, k200, k201, k300, k1500, k8000, kM, k_m6]); repeat (first | rw [zt_eq (by omega)] | rw [zt_ne (by omega) (by omega) (by omega)] | rw [zt_nle (by omega) (by omega)] | rw [zt_le (by omega) (by omega)] | rw [zt_nlt (by omega) (by omega)] | rw [zt_lt (by omega) (by omega)] | rw [zt_nm (by omega)] | rw [zt_mm] | rw [zt_ml] | rw [zt_0m] | rw [zt_m0] | rw [zt_n6 (by omega)] | rw [zt_66] | rw [zt_06] | simp (disch := omega) only [k0, k1, k2, k3, k4, k5, k6, k8, k16, k30, k60, k100, k200, k201, k300, k1500, k8000, kM, k_m6, nIa, nIp, nIs, sI_1, sI_22, sL_1, sL_21, sS_21, sS_22, sI_ne, sL_ne, sS_ne, sS_eq, sI_eq, sI_at, sL_eq, sL_at, Nat.add_zero, if_true, if_false, t1, A1, A2, kA', ylen, A3', t2, A4, A5, E5', A6'] | rw [bV_e] | rw [pS_e] | rw [bI_s] | rw [bU_s] | rw [bL_s] | rw [gI_n (by omega) (by omega)] | rw [gR_n (by omega)] | rw [pI_n (by omega) (by omega)] | rw [gL_n (by omega) (by omega)] | rw [pL_n (by omega) (by omega)]))
          · rw [thn_n z4]
            refine ⟨S4, ?_, B4, fun z => absurd z z4, K4', F4'⟩
            ((try simp only [k0, k1, k2, k3, k4, k5, k6, k8, k16, k30, k60, k100, k200, k201, k300, k1500, k8000, kM, k_m6]); repeat (first | rw [zt_eq (by omega)] | rw [zt_ne (by omega) (by omega) (by omega)] | rw [zt_nle (by omega) (by omega)] | rw [zt_le (by omega) (by omega)] | rw [zt_nlt (by omega) (by omega)] | rw [zt_lt (by omega) (by omega)] | rw [zt_nm (by omega)] | rw [zt_mm] | rw [zt_ml] | rw [zt_0m] | rw [zt_m0] | rw [zt_n6 (by omega)] | rw [zt_66] | rw [zt_06] | simp (disch := omega) only [k0, k1, k2, k3, k4, k5, k6, k8, k16, k30, k60, k100, k200, k201, k300, k1500, k8000, kM, k_m6, nIa, nIp, nIs, sI_1, sI_22, sL_1, sL_21, sS_21, sS_22, sI_ne, sL_ne, sS_ne, sS_eq, sI_eq, sI_at, sL_eq, sL_at, Nat.add_zero, if_true, if_false, t1, A1, A2, kA', ylen, A3', t2, A4] | rw [bV_e] | rw [pS_e] | rw [bI_s] | rw [bU_s] | rw [bL_s] | rw [gI_n (by omega) (by omega)] | rw [gR_n (by omega)] | rw [pI_n (by omega) (by omega)] | rw [gL_n (by omega) (by omega)] | rw [pL_n (by omega) (by omega)]))
        · rw [if_neg (show ¬ hk (my :: ry) = 3 from kq3)]
          refine ⟨S2, ?_, (by decide), (fun z => nomatch z), K2, F2'⟩
          ((try simp only [k0, k1, k2, k3, k4, k5, k6, k8, k16, k30, k60, k100, k200, k201, k300, k1500, k8000, kM, k_m6]); repeat (first | rw [zt_eq (by omega)] | rw [zt_ne (by omega) (by omega) (by omega)] | rw [zt_nle (by omega) (by omega)] | rw [zt_le (by omega) (by omega)] | rw [zt_nlt (by omega) (by omega)] | rw [zt_lt (by omega) (by omega)] | rw [zt_nm (by omega)] | rw [zt_mm] | rw [zt_ml] | rw [zt_0m] | rw [zt_m0] | rw [zt_n6 (by omega)] | rw [zt_66] | rw [zt_06] | simp (disch := omega) only [k0, k1, k2, k3, k4, k5, k6, k8, k16, k30, k60, k100, k200, k201, k300, k1500, k8000, kM, k_m6, nIa, nIp, nIs, sI_1, sI_22, sL_1, sL_21, sS_21, sS_22, sI_ne, sL_ne, sS_ne, sS_eq, sI_eq, sI_at, sL_eq, sL_at, Nat.add_zero, if_true, if_false, t1, A1, A2, kA'] | rw [bV_e] | rw [pS_e] | rw [bI_s] | rw [bU_s] | rw [bL_s] | rw [gI_n (by omega) (by omega)] | rw [gR_n (by omega)] | rw [pI_n (by omega) (by omega)] | rw [gL_n (by omega) (by omega)] | rw [pL_n (by omega) (by omega)]))
  · rw [thn_n z1]
    refine ⟨S1, ?_, B1, fun z => absurd z z1, K1, F1'⟩
    ((try simp only [k0, k1, k2, k3, k4, k5, k6, k8, k16, k30, k60, k100, k200, k201, k300, k1500, k8000, kM, k_m6]); repeat (first | rw [zt_eq (by omega)] | rw [zt_ne (by omega) (by omega) (by omega)] | rw [zt_nle (by omega) (by omega)] | rw [zt_le (by omega) (by omega)] | rw [zt_nlt (by omega) (by omega)] | rw [zt_lt (by omega) (by omega)] | rw [zt_nm (by omega)] | rw [zt_mm] | rw [zt_ml] | rw [zt_0m] | rw [zt_m0] | rw [zt_n6 (by omega)] | rw [zt_66] | rw [zt_06] | simp (disch := omega) only [k0, k1, k2, k3, k4, k5, k6, k8, k16, k30, k60, k100, k200, k201, k300, k1500, k8000, kM, k_m6, nIa, nIp, nIs, sI_1, sI_22, sL_1, sL_21, sS_21, sS_22, sI_ne, sL_ne, sS_ne, sS_eq, sI_eq, sI_at, sL_eq, sL_at, Nat.add_zero, if_true, if_false, t1, A1] | rw [bV_e] | rw [pS_e] | rw [bI_s] | rw [bU_s] | rw [bL_s] | rw [gI_n (by omega) (by omega)] | rw [gR_n (by omega)] | rw [pI_n (by omega) (by omega)] | rw [gL_n (by omega) (by omega)] | rw [pL_n (by omega) (by omega)]))
