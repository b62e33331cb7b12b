/-! the class: the type of a function's type -/
theorem thn_m {α β : Type} [Inhabited β] {v : Nat} {e : α} {k : α → Nat × β} (h : ¬ v = 0) : thn (v, e) k = (v, default) := if_neg h
theorem KPs {f j i o : Nat} {S : St} {v : Int32} (h : o ≤ i) : KP f o S (sI S f j i v) := fun k hk => by
  by_cases z : j = 0
  · subst z; rw [sI_at (by omega)]
  · rw [sI_ne (by omega)]
theorem rdx_FD {a b : Nat} {S S' : St} (h : FR (RDX (6 + b)) S S') (hb : a ≤ b) (hb2 : b ≤ 100) : FR (FD a) S S' := FD_in h (fun x hx => by
  simp [RDX] at hx; omega)
theorem KP_rdx {o b : Nat} {S S' : St} (h : FR (RDX (6 + b)) S S') : KP 256 o S S' := KP_fr h (by rw [rg256]; simp [RDX]; omega)
theorem pt_in {L : List (List Nat)} {T : List (List Mk)} {N : Nat} {x : List Mk} (hT : TOk L T N) (hx : x ∈ T) (h3 : 3 ≤ hk x) : p1 x ∈ T ∧ p2 x ∈ T ∧ (p1 x).length + (p2 x).length + 1 ≤ x.length ∧ 1 ≤ (p1 x).length ∧ 1 ≤ (p2 x).length := by
  have hg := hT.2.2.2.1 x hx
  obtain ⟨pa, pb, pc, pd⟩ := hT.2.2.2.2 x hx
  obtain ⟨t1, t2, t3⟩ := tlen hg
  obtain ⟨g1, g2⟩ := (gd_pt hg).1 h3
  refine ⟨(pc h3).1, (pc h3).2, ?_, Tm_ne g1.1, Tm_ne g2.1⟩
  by_cases q : hk x = 6
  · have := t3 q; omega
  · have := t2 h3 q; omega
theorem c_pi {n d a : Nat} {L : List (List Nat)} {T : List (List Mk)} {Ns : List Nme} {F : St → Int32 → Int32 → Int32 → Option (St × Int32)} {S : St} {ctx : List (List Mk)} {x : List Mk} (hn : 10000 ≤ n) (he : ENV L T Ns) (hF : FH n d (a + 1) L T Ns F) (hd : d + a ≤ 101) (hx : x ∈ T) (h3 : hk x = 3) (hl : x.length + 2 * a ≤ 200) (hc : ctx.length ≤ a) (hC : CS S L T Ns) (hX : CXT S T ctx) : ∃ S', f_X6_findOfPi n F S (nI (ixT T x)) (nI ctx.length) (nI a) = some (S', nI (tyPi Ns (tyS Ns d) ctx x).1) ∧ (tyPi Ns (tyS Ns d) ctx x).1 ≤ 8 ∧ ((tyPi Ns (tyS Ns d) ctx x).1 = 0 → RW S' (6 + a) (tyPi Ns (tyS Ns d) ctx x).2) ∧ KP 256 ctx.length S S' ∧ FR (FD a) S S' := by
  obtain ⟨m1, m2, ml, ml1, ml2⟩ := pt_in he.2.1 hx (by omega)
  have hg0 := he.2.1.2.2.2.1
  have hz := zB_le he.2.1
  have hT15 := he.2.1.1
  have ixx := ixT_lt hx
  have ix1 := ixT_lt m1
  have ix2 := ixT_lt m2
  have t1 := tb_1 hC.1 hx (by omega)
  have cok := CXT_cOk (S := S) he.2.1 (CXT_mem hX)
  obtain ⟨S1, A1, B1, R1, K1, F1⟩ := hF S ctx (p1 x) m1 (by omega) (by omega) hC hX
  have gd1 := tyS_gd he d ctx (p1 x) (gdT_mo (hg0 _ m1) (by omega)) cok (by omega)
  have F1' := FD_le F1 (show a ≤ a + 1 by omega)
  have C1 := CS_FD hC F1
  unfold tyPi
  generalize tyS Ns d ctx (p1 x) = r1 at *
  unfold f_X6_findOfPi
  by_cases z1 : r1.1 = 0
  · rw [z1] at A1
    obtain ⟨S2, v2, A2, N2, L2, B2, F2⟩ := s_srt (n := n) (j := 6 + (a + 1)) hn (by omega) he (by omega) z1 (R1 z1) (gd1 z1) C1
    have F2' : FR (FD a) S S2 := FR_tr F1' (rdx_FD F2 (by omega) (by omega))
    have K2 : KP 256 ctx.length S S2 := KP_tr K1 (KP_rdx F2)
    have C2 := CS_FD hC F2'
    generalize srt Ns r1 = s1 at *
    by_cases z2 : s1.1 = 0
    · obtain ⟨l1, lv1⟩ := L2 z2
      rw [z2] at N2
      have t1' := tb_1 C2.1 hx (by omega)
      have F3 : FR (FD a) S (sI S2 256 0 ctx.length (nI (ixT T (p1 x)))) := FR_sI F2' (by rw [rg256, mem_FD]; omega)
      have C3 := CS_FD hC F3
      have K3 : KP 256 ctx.length S (sI S2 256 0 ctx.length (nI (ixT T (p1 x)))) := KP_tr K2 (KPs (Nat.le_refl _))
      have t2 := tb_2 C3.1 hx (by omega)
      have X3 := CXT_c (CXT_k hX K2) m1
      obtain ⟨S4, A4, B4, R4, K4, F4⟩ := hF (sI S2 256 0 ctx.length (nI (ixT T (p1 x)))) (p1 x :: ctx) (p2 x) m2 (by omega) (by rw [List.length_cons]; omega) C3 X3
      rw [List.length_cons] at A4 K4
      have gd4 := tyS_gd he d (p1 x :: ctx) (p2 x) (gdT_mo (hg0 _ m2) (by omega)) (CXT_cOk (S := S) he.2.1 (CXT_mem X3)) (by rw [List.length_cons]; omega)
      rw [List.length_cons] at gd4
      have F4' : FR (FD a) S S4 := FR_tr F3 (FD_le F4 (by omega))
      have K4' : KP 256 ctx.length S S4 := KP_tr K3 (KP_mo K4 (by omega))
      rw [thn_0 z2]
      generalize tyS Ns d (p1 x :: ctx) (p2 x) = r4 at *
      by_cases z4 : r4.1 = 0
      · rw [z4] at A4
        obtain ⟨S5, v5, A5, N5, L5, B5, F5⟩ := s_srt (n := n) (j := 6 + (a + 1)) hn (by omega) he (by omega) z4 (R4 z4) (gd4 z4) (CS_FD hC F4')
        have F5' : FR (FD a) S S5 := FR_tr F4' (rdx_FD F5 (by omega) (by omega))
        have K5 : KP 256 ctx.length S S5 := KP_tr K4' (KP_rdx F5)
        generalize srt Ns r4 = s4 at *
        by_cases z5 : s4.1 = 0
        · obtain ⟨l5, lv5⟩ := L5 z5
          rw [z5] at N5
          rw [thn_0 z5]
          have o2 := s_ofTwo (n := n) (S := S5) (k := 3) (Or.inr rfl) lv1.1 lv5.1 lv1.2.1 lv5.2.1 (by omega)
          obtain ⟨S6, A6, R6, F6⟩ := s_putSort (n := n) (j := 6 + a) (S := S5) (l := 3 :: (s1.2 ++ s4.2)) (b := 1 + s1.2.length + s4.2.length ≤ 16) rfl (fun z => lvO_3 lv1 lv5 z)
          have F6' : FR (FD a) S S6 := FR_tr F5' (FD_in F6 (fun x hx => by simp at hx; omega))
          have K6 : KP 256 ctx.length S S6 := KP_tr K5 (KP_fr F6 (by rw [rg256]; simp; omega))
          by_cases z6 : 1 + s1.2.length + s4.2.length ≤ 16
          · rw [if_pos z6]
            rw [if_pos z6] at o2 A6
            rw [if_pos z6] at A6
            refine ⟨S6, ?_, Nat.zero_le _, fun _ => R6 z6, K6, F6'⟩
            ((try simp only [k0, k1, k2, k3, k4, k5, k6, k8, k16, k30, k60, k100, k200, k201, k300, k1500, k8000, kM, k_m6]); repeat (first | rw [zt_eq (by omega)] | rw [zt_ne (by omega) (by omega) (by omega)] | rw [zt_nle (by omega) (by omega)] | rw [zt_le (by omega) (by omega)] | rw [zt_nlt (by omega) (by omega)] | rw [zt_lt (by omega) (by omega)] | rw [zt_nm (by omega)] | rw [zt_mm] | rw [zt_ml] | rw [zt_0m] | rw [zt_m0] | rw [zt_n6 (by omega)] | rw [zt_66] | rw [zt_06] | simp (disch := omega) only [k0, k1, k2, k3, k4, k5, k6, k8, k16, k30, k60, k100, k200, k201, k300, k1500, k8000, kM, k_m6, nIa, nIp, nIs, sI_1, sI_22, sL_1, sL_21, sS_21, sS_22, sI_ne, sL_ne, sS_ne, sS_eq, sI_eq, sI_at, sL_eq, sL_at, Nat.add_zero, if_true, if_false, t1, A1, A2, N2, l1, t1', t2, A4, A5, N5, l5, o2, A6] | rw [bV_e] | rw [pS_e] | rw [bI_s] | rw [bU_s] | rw [bL_s] | rw [gI_n (by omega) (by omega)] | rw [gR_n (by omega)] | rw [pI_n (by omega) (by omega)] | rw [gL_n (by omega) (by omega)] | rw [pL_n (by omega) (by omega)] | rw [j_X6_findOfPi_51] | rw [j_X6_findOfPi_126]))
          · rw [if_neg z6]
            rw [if_neg z6] at o2 A6
            rw [if_neg z6] at A6
            refine ⟨S6, ?_, (by decide), (fun z => nomatch z), K6, F6'⟩
            ((try simp only [k0, k1, k2, k3, k4, k5, k6, k8, k16, k30, k60, k100, k200, k201, k300, k1500, k8000, kM, k_m6]); repeat (first | rw [zt_eq (by omega)] | rw [zt_ne (by omega) (by omega) (by omega)] | rw [zt_nle (by omega) (by omega)] | rw [zt_le (by omega) (by omega)] | rw [zt_nlt (by omega) (by omega)] | rw [zt_lt (by omega) (by omega)] | rw [zt_nm (by omega)] | rw [zt_mm] | rw [zt_ml] | rw [zt_0m] | rw [zt_m0] | rw [zt_n6 (by omega)] | rw [zt_66] | rw [zt_06] | simp (disch := omega) only [k0, k1, k2, k3, k4, k5, k6, k8, k16, k30, k60, k100, k200, k201, k300, k1500, k8000, kM, k_m6, nIa, nIp, nIs, sI_1, sI_22, sL_1, sL_21, sS_21, sS_22, sI_ne, sL_ne, sS_ne, sS_eq, sI_eq, sI_at, sL_eq, sL_at, Nat.add_zero, if_true, if_false, t1, A1, A2, N2, l1, t1', t2, A4, A5, N5, l5] | rw [bV_e] | rw [pS_e] | rw [bI_s] | rw [bU_s] | rw [bL_s] | rw [gI_n (by omega) (by omega)] | rw [gR_n (by omega)] | rw [pI_n (by omega) (by omega)] | rw [gL_n (by omega) (by omega)] | rw [pL_n (by omega) (by omega)] | rw [j_X6_findOfPi_51] | rw [j_X6_findOfPi_126]))
            rw [o2, bL_s]
            ((try simp only [k0, k1, k2, k3, k4, k5, k6, k8, k16, k30, k60, k100, k200, k201, k300, k1500, k8000, kM, k_m6]); repeat (first | rw [zt_eq (by omega)] | rw [zt_ne (by omega) (by omega) (by omega)] | rw [zt_nle (by omega) (by omega)] | rw [zt_le (by omega) (by omega)] | rw [zt_nlt (by omega) (by omega)] | rw [zt_lt (by omega) (by omega)] | rw [zt_nm (by omega)] | rw [zt_mm] | rw [zt_ml] | rw [zt_0m] | rw [zt_m0] | rw [zt_n6 (by omega)] | rw [zt_66] | rw [zt_06] | simp (disch := omega) only [k0, k1, k2, k3, k4, k5, k6, k8, k16, k30, k60, k100, k200, k201, k300, k1500, k8000, kM, k_m6, nIa, nIp, nIs, sI_1, sI_22, sL_1, sL_21, sS_21, sS_22, sI_ne, sL_ne, sS_ne, sS_eq, sI_eq, sI_at, sL_eq, sL_at, Nat.add_zero, if_true, if_false, A6] | rw [bV_e] | rw [pS_e] | rw [bI_s] | rw [bU_s] | rw [bL_s] | rw [gI_n (by omega) (by omega)] | rw [gR_n (by omega)] | rw [pI_n (by omega) (by omega)] | rw [gL_n (by omega) (by omega)] | rw [pL_n (by omega) (by omega)]))
        · rw [thn_n z5]
          refine ⟨S5, ?_, B5, fun z => absurd z z5, K5, F5'⟩
          ((try simp only [k0, k1, k2, k3, k4, k5, k6, k8, k16, k30, k60, k100, k200, k201, k300, k1500, k8000, kM, k_m6]); repeat (first | rw [zt_eq (by omega)] | rw [zt_ne (by omega) (by omega) (by omega)] | rw [zt_nle (by omega) (by omega)] | rw [zt_le (by omega) (by omega)] | rw [zt_nlt (by omega) (by omega)] | rw [zt_lt (by omega) (by omega)] | rw [zt_nm (by omega)] | rw [zt_mm] | rw [zt_ml] | rw [zt_0m] | rw [zt_m0] | rw [zt_n6 (by omega)] | rw [zt_66] | rw [zt_06] | simp (disch := omega) only [k0, k1, k2, k3, k4, k5, k6, k8, k16, k30, k60, k100, k200, k201, k300, k1500, k8000, kM, k_m6, nIa, nIp, nIs, sI_1, sI_22, sL_1, sL_21, sS_21, sS_22, sI_ne, sL_ne, sS_ne, sS_eq, sI_eq, sI_at, sL_eq, sL_at, Nat.add_zero, if_true, if_false, t1, A1, A2, N2, l1, t1', t2, A4, A5, N5] | rw [bV_e] | rw [pS_e] | rw [bI_s] | rw [bU_s] | rw [bL_s] | rw [gI_n (by omega) (by omega)] | rw [gR_n (by omega)] | rw [pI_n (by omega) (by omega)] | rw [gL_n (by omega) (by omega)] | rw [pL_n (by omega) (by omega)] | rw [j_X6_findOfPi_51] | rw [j_X6_findOfPi_126]))
      · rw [srt_n z4, thn_m z4]
        refine ⟨S4, ?_, B4, fun z => absurd z z4, K4', F4'⟩
        ((try simp only [k0, k1, k2, k3, k4, k5, k6, k8, k16, k30, k60, k100, k200, k201, k300, k1500, k8000, kM, k_m6]); repeat (first | rw [zt_eq (by omega)] | rw [zt_ne (by omega) (by omega) (by omega)] | rw [zt_nle (by omega) (by omega)] | rw [zt_le (by omega) (by omega)] | rw [zt_nlt (by omega) (by omega)] | rw [zt_lt (by omega) (by omega)] | rw [zt_nm (by omega)] | rw [zt_mm] | rw [zt_ml] | rw [zt_0m] | rw [zt_m0] | rw [zt_n6 (by omega)] | rw [zt_66] | rw [zt_06] | simp (disch := omega) only [k0, k1, k2, k3, k4, k5, k6, k8, k16, k30, k60, k100, k200, k201, k300, k1500, k8000, kM, k_m6, nIa, nIp, nIs, sI_1, sI_22, sL_1, sL_21, sS_21, sS_22, sI_ne, sL_ne, sS_ne, sS_eq, sI_eq, sI_at, sL_eq, sL_at, Nat.add_zero, if_true, if_false, t1, A1, A2, N2, l1, t1', t2, A4] | rw [bV_e] | rw [pS_e] | rw [bI_s] | rw [bU_s] | rw [bL_s] | rw [gI_n (by omega) (by omega)] | rw [gR_n (by omega)] | rw [pI_n (by omega) (by omega)] | rw [gL_n (by omega) (by omega)] | rw [pL_n (by omega) (by omega)] | rw [j_X6_findOfPi_51] | rw [j_X6_findOfPi_126]))
    · rw [thn_n z2]
      refine ⟨S2, ?_, B2, fun z => absurd z z2, K2, F2'⟩
      ((try simp only [k0, k1, k2, k3, k4, k5, k6, k8, k16, k30, k60, k100, k200, k201, k300, k1500, k8000, kM, k_m6]); repeat (first | rw [zt_eq (by omega)] | rw [zt_ne (by omega) (by omega) (by omega)] | rw [zt_nle (by omega) (by omega)] | rw [zt_le (by omega) (by omega)] | rw [zt_nlt (by omega) (by omega)] | rw [zt_lt (by omega) (by omega)] | rw [zt_nm (by omega)] | rw [zt_mm] | rw [zt_ml] | rw [zt_0m] | rw [zt_m0] | rw [zt_n6 (by omega)] | rw [zt_66] | rw [zt_06] | simp (disch := omega) only [k0, k1, k2, k3, k4, k5, k6, k8, k16, k30, k60, k100, k200, k201, k300, k1500, k8000, kM, k_m6, nIa, nIp, nIs, sI_1, sI_22, sL_1, sL_21, sS_21, sS_22, sI_ne, sL_ne, sS_ne, sS_eq, sI_eq, sI_at, sL_eq, sL_at, Nat.add_zero, if_true, if_false, t1, A1, A2, N2] | rw [bV_e] | rw [pS_e] | rw [bI_s] | rw [bU_s] | rw [bL_s] | rw [gI_n (by omega) (by omega)] | rw [gR_n (by omega)] | rw [pI_n (by omega) (by omega)] | rw [gL_n (by omega) (by omega)] | rw [pL_n (by omega) (by omega)] | rw [j_X6_findOfPi_51] | rw [j_X6_findOfPi_126]))
  · rw [srt_n z1, thn_m z1]
    refine ⟨S1, ?_, B1, fun z => absurd z z1, K1, F1'⟩
    ((try simp only [k0, k1, k2, k3, k4, k5, k6, k8, k16, k30, k60, k100, k200, k201, k300, k1500, k8000, kM, k_m6]); repeat (first | rw [zt_eq (by omega)] | rw [zt_ne (by omega) (by omega) (by omega)] | rw [zt_nle (by omega) (by omega)] | rw [zt_le (by omega) (by omega)] | rw [zt_nlt (by omega) (by omega)] | rw [zt_lt (by omega) (by omega)] | rw [zt_nm (by omega)] | rw [zt_mm] | rw [zt_ml] | rw [zt_0m] | rw [zt_m0] | rw [zt_n6 (by omega)] | rw [zt_66] | rw [zt_06] | simp (disch := omega) only [k0, k1, k2, k3, k4, k5, k6, k8, k16, k30, k60, k100, k200, k201, k300, k1500, k8000, kM, k_m6, nIa, nIp, nIs, sI_1, sI_22, sL_1, sL_21, sS_21, sS_22, sI_ne, sL_ne, sS_ne, sS_eq, sI_eq, sI_at, sL_eq, sL_at, Nat.add_zero, if_true, if_false, t1, A1] | rw [bV_e] | rw [pS_e] | rw [bI_s] | rw [bU_s] | rw [bL_s] | rw [gI_n (by omega) (by omega)] | rw [gR_n (by omega)] | rw [pI_n (by omega) (by omega)] | rw [gL_n (by omega) (by omega)] | rw [pL_n (by omega) (by omega)] | rw [j_X6_findOfPi_51] | rw [j_X6_findOfPi_126]))
