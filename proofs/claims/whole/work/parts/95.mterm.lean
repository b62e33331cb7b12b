/-! the reference: a term in a row gets its number -/
def MP (S : St) (P : PT) : Prop := LM S P.1 ∧ TM S P.1 P.2 ∧ S.1 379 0 = 0
theorem MP_fr {S S' : St} {R : List Nat} {P : PT} (h : MP S P) (g : FR R S S') (h0 : 351 ∉ R) (h2 : 356 ∉ R) (h3 : 379 ∉ R) : MP S' P := ⟨LM_fr h.1 g h0, TM_fr h.2.1 g h2, by rw [(g 379 0 (n8o (by omega) h3)).1]; exact h.2.2⟩
theorem m_cl {n f o N : Nat} {S : St} {P : PT} {l : List Nat} (hn : 10000 ≤ n) (hf : 367 ≤ f ∧ f ≤ 371) (h : EOk P N) (hM : MP S P) (hl : lvO l) (hs : sg (S.2.1 f 0) o l) (ho : o + l.length ≤ ln f) : ∃ S', f_X8_countLevel n S f (nI o) = some (S', if (adL P l).2 then nI (ix (adL P l).1.1 l) else mI) ∧ MP S' (adL P l).1 ∧ ((adL P l).2 = true → S'.1 387 0 = nI (o + l.length)) ∧ FR VR S S' := by
  have h16 := hl.2.1
  obtain ⟨hM1, hM2, hM3⟩ := hM
  obtain ⟨S1, M1, k1, k1', F1, V1, V2⟩ := m_lev (n := n) hn hf 17 l (n - l.length) S P.1 o 0 mI (by omega) hl h.1 hM1 hM3 hs ho (by omega) (by omega)
  obtain ⟨_, ⟨⟨e, he⟩, _⟩, _⟩ := adL_ok h hl
  have he' : (addL 17 P.1 l).1 = P.1 ++ e := he
  have nn : n - l.length + l.length = n := by omega
  rw [nn] at V1 V2
  have tm : ∀ S2 : St, FR VR S S2 → TM S2 (addL 17 P.1 l).1 P.2 := fun S2 g => by
    rw [he']
    exact TM_L (TM_fr hM2 g (by decide)) h.2
  have un : f_X8_countLevel n S f (nI o) = l_X8_countLevel_11 n n S f (nI o) (nI 0) mI (nI 1) := rfl
  rw [un]
  show ∃ S', _ = some (S', if (addL 17 P.1 l).2 then nI (ix (addL 17 P.1 l).1 l) else mI) ∧ MP S' ((addL 17 P.1 l).1, P.2) ∧ ((addL 17 P.1 l).2 = true → _) ∧ _
  cases h9 : (addL 17 P.1 l).2 with
  | true =>
    have F2 : FR VR S (sS S1 387 0 (nI (o + l.length))) := FR_sS F1 (by rw [rg8 (by omega)]; decide)
    refine ⟨sS S1 387 0 (nI (o + l.length)), ?_, ⟨LM_fr M1 (R := [387]) (FR_sS FR_rf (by rw [rg8 (by omega)]; simp)) (by simp), tm _ F2, by rw [(F2 379 0 (n8o (by omega) (by decide))).1]; exact hM3⟩, fun _ => sS_eq, F2⟩
    refine V1 h9 _ (fun k hk => ?_)
    obtain ⟨k, rfl⟩ : ∃ y, k = y + 1 := ⟨k - 1, by omega⟩
    obtain ⟨q, hq⟩ : ∃ y, n - l.length = y + 1 := ⟨n - l.length - 1, by omega⟩
    have hm := (addL_ok 17 P.1 l h.1 hl (by omega)).2.2 h9
    have hb := ix_lt hm
    have hb2 := (addL_ok 17 P.1 l h.1 hl (by omega)).1.2.1
    unfold l_X8_countLevel_89
    rw [if_neg (show ¬ nI 1 = 0 by decide), if_pos (show nI 0 ≤ 0 by decide)]
    unfold j_X8_countLevel_192
    rw [if_neg (nI_pos (by omega)), if_neg (show ¬ nI 1 = 0 by decide)]
    unfold j_X8_countLevel_206 j_X8_countLevel_207 KL
    rw [hq]
    show l_X8_countLevel_11 n (q + 1) S1 f _ _ _ 0 = _
    unfold l_X8_countLevel_11
    rw [if_pos rfl]
    rfl
  | false =>
    exact ⟨S1, V2 h9, ⟨M1, tm _ F1, by rw [(F1 379 0 (n8o (by omega) (by decide))).1]; exact hM3⟩, (fun z => nomatch z), F1⟩
theorem m_trm {n N : Nat} {S : St} {P : PT} {x : List Mk} (hn : 10000 ≤ n) (h : EOk P N) (hM : MP S P) (hg : gdT (zB P.2 + 200) N x) (hp : pT P.1 P.2 x) : ∃ S', f_X8_numberOfTerm n S (nI (hk x)) (a1 P.1 P.2 x) (a2 P.1 P.2 x) (a3 P.1 P.2 x) = some (S', nmT (adT P x) x) ∧ MP S' (adT P x).1 ∧ FR [356] S S' := by
  have hz := zB_le h.2
  obtain ⟨S', a, b, c, d⟩ := s_not (n := n) hM.2.1 h.1.2.1 h.2 (gdT_mo hg (by omega)) hp (by omega) (asked := false) (by rw [hM.2.2]; rfl)
  refine ⟨S', a, ⟨LM_fr hM.1 d (by simp), c rfl, ?_⟩, d⟩
  rw [(d 379 0 (n8o (by omega) (by simp))).1]; exact hM.2.2
def TR : List Nat := 356 :: 384 :: 385 :: 386 :: VR
theorem m_leaf {n d b f o N : Nat} {S : St} {P : PT} {x : List Mk} (hn : 10000 ≤ n) (hf : 367 ≤ f ∧ f ≤ 371) (h : EOk P N) (hM : MP S P) (h2 : hk x ≤ 2) (hg : gdT b N x) (hb : b + x.length ≤ zB P.2 + 200) (hs : sg (S.2.1 f 0) o (flt x)) (ho : o + (flt x).length ≤ ln f) : ∃ S', f_X8_countSingle n S f (nI o) = some (S', nmT (addT (d + 1) P x) x) ∧ MP S' (addT (d + 1) P x).1 ∧ FR (356 :: VR) S S' := by
  obtain ⟨hf1, hf2⟩ := ln8 hf
  obtain ⟨m, ex, em, el1, el2, ei, d0⟩ := leaf1 hg h2
  have fx : flt x = tks m := by rw [ex]; exact List.append_nil _
  rw [fx] at hs ho
  obtain ⟨l0, l2⟩ := gd_lv hg
  have wk : ∀ Q : PT, Ext P Q → gdT (zB Q.2 + 200) N x := fun Q e => gdT_mo hg (by have := Ext_z e; omega)
  have nf : ∀ R : List Nat, (∀ z ∈ R, z = 356 ∨ z ∈ VR) → rg f 0 ∉ R := fun R hR => by
    rw [rg8 (by omega)]
    intro z
    rcases hR f z with w | w
    · omega
    · simp [VR] at w; omega
  have nV : rg f 0 ∉ VR := nf VR (fun z hz => Or.inr hz)
  rw [addT_s]
  unfold f_X8_countSingle
  by_cases q0 : hk x = 0
  · rw [if_pos q0]
    have lv := l0 q0
    have qm : m.1 = 0 := by omega
    rw [tks_0 qm, ← el1] at hs ho
    rw [List.length_cons] at ho
    have hs0 : S.2.1 f 0 o = nI 0 := hs.1
    obtain ⟨S1, A1, M1, N1, F1⟩ := m_cl (n := n) (o := o + 1) hn hf h hM lv hs.2 (by omega)
    obtain ⟨o1, o2, o3⟩ := adL_ok h lv
    have hs1 : S1.2.1 f 0 o = nI 0 := by rw [(F1 f 0 nV).2.1]; exact hs0
    cases h9 : (adL P (hl1 x)).2 with
    | false =>
      rw [thP_f h9]
      rw [h9, if_neg (by simp)] at A1
      refine ⟨S1, ?_, M1, FR_mo F1 (fun z hz => List.mem_cons_of_mem _ hz)⟩
      show _ = some (S1, mI)
      ((try simp only [k0, k1, k2, k3, k4, k5, k6, k8, k16, k30, k60, k100, k200, k201, k300, k1500, k8000, kM, k_m6]); repeat (first | rw [zt_eq (by omega)] | rw [zt_ne (by omega) (by omega) (by omega)] | rw [zt_nle (by omega) (by omega)] | rw [zt_le (by omega) (by omega)] | rw [zt_nlt (by omega) (by omega)] | rw [zt_lt (by omega) (by omega)] | rw [zt_nm (by omega)] | rw [zt_mm] | rw [zt_ml] | rw [zt_0m] | rw [zt_m0] | rw [zt_n6 (by omega)] | rw [zt_66] | rw [zt_06] | simp (disch := omega) only [k0, k1, k2, k3, k4, k5, k6, k8, k16, k30, k60, k100, k200, k201, k300, k1500, k8000, kM, k_m6, nIa, nIp, nIs, sI_1, sI_22, sL_1, sL_21, sS_21, sS_22, sI_ne, sL_ne, sS_ne, sS_eq, sI_eq, sI_at, sL_eq, sL_at, Nat.add_zero, if_true, if_false, hs0, A1] | rw [bV_e] | rw [pS_e] | rw [bI_s] | rw [bU_s] | rw [bL_s] | rw [gI_n (by omega) (by omega)] | rw [gR_n (by omega)] | rw [pI_n (by omega) (by omega)] | rw [gL_n (by omega) (by omega)] | rw [pL_n (by omega) (by omega)] | rw [j_X8_countSingle_37] | rw [j_X8_countSingle_51]))
    | true =>
      rw [thP_t h9]
      have mL := o3 h9
      have ixl := ix300 o1 mL
      rw [h9, if_pos rfl] at A1
      obtain ⟨S2, A2, M2, F2⟩ := m_trm (n := n) hn o1 M1 (wk _ o2) (pT_lf (x := x) (by omega) (fun _ => mL) (fun z => by omega))
      obtain ⟨w1, w2, w3⟩ := (a_lf (L := (adL P (hl1 x)).1.1) (T := (adL P (hl1 x)).1.2) (x := x)).1 q0
      rw [w1, w2, w3, q0] at A2
      refine ⟨S2, ?_, M2, FR_tr (FR_mo F1 (fun z hz => List.mem_cons_of_mem _ hz)) (FR_mo F2 (by simp))⟩
      ((try simp only [k0, k1, k2, k3, k4, k5, k6, k8, k16, k30, k60, k100, k200, k201, k300, k1500, k8000, kM, k_m6]); repeat (first | rw [zt_eq (by omega)] | rw [zt_ne (by omega) (by omega) (by omega)] | rw [zt_nle (by omega) (by omega)] | rw [zt_le (by omega) (by omega)] | rw [zt_nlt (by omega) (by omega)] | rw [zt_lt (by omega) (by omega)] | rw [zt_nm (by omega)] | rw [zt_mm] | rw [zt_ml] | rw [zt_0m] | rw [zt_m0] | rw [zt_n6 (by omega)] | rw [zt_66] | rw [zt_06] | simp (disch := omega) only [k0, k1, k2, k3, k4, k5, k6, k8, k16, k30, k60, k100, k200, k201, k300, k1500, k8000, kM, k_m6, nIa, nIp, nIs, sI_1, sI_22, sL_1, sL_21, sS_21, sS_22, sI_ne, sL_ne, sS_ne, sS_eq, sI_eq, sI_at, sL_eq, sL_at, Nat.add_zero, if_true, if_false, hs0, A1, hs1, A2] | rw [bV_e] | rw [pS_e] | rw [bI_s] | rw [bU_s] | rw [bL_s] | rw [gI_n (by omega) (by omega)] | rw [gR_n (by omega)] | rw [pI_n (by omega) (by omega)] | rw [gL_n (by omega) (by omega)] | rw [pL_n (by omega) (by omega)] | rw [j_X8_countSingle_37] | rw [j_X8_countSingle_51]))
  · rw [if_neg q0]
    by_cases q1 : hk x = 1
    · rw [if_pos q1]
      have qm : m.1 = 1 := by omega
      rw [tks_1 qm, ← ei] at hs ho
      simp only [List.length_cons, List.length_nil] at ho
      have hs0 : S.2.1 f 0 o = nI 1 := hs.1
      have hs1 : S.2.1 f 0 (o + 1) = nI (hid x) := hs.2.1
      obtain ⟨S2, A2, M2, F2⟩ := m_trm (n := n) hn h hM (wk _ Ext_rf) (pT_lf (by omega) (fun z => by omega) (fun z => by omega))
      obtain ⟨w1, w2, w3⟩ := (a_lf (L := P.1) (T := P.2) (x := x)).2.1 q1
      rw [w1, w2, w3, q1] at A2
      refine ⟨S2, ?_, M2, FR_mo F2 (by simp)⟩
      ((try simp only [k0, k1, k2, k3, k4, k5, k6, k8, k16, k30, k60, k100, k200, k201, k300, k1500, k8000, kM, k_m6]); repeat (first | rw [zt_eq (by omega)] | rw [zt_ne (by omega) (by omega) (by omega)] | rw [zt_nle (by omega) (by omega)] | rw [zt_le (by omega) (by omega)] | rw [zt_nlt (by omega) (by omega)] | rw [zt_lt (by omega) (by omega)] | rw [zt_nm (by omega)] | rw [zt_mm] | rw [zt_ml] | rw [zt_0m] | rw [zt_m0] | rw [zt_n6 (by omega)] | rw [zt_66] | rw [zt_06] | simp (disch := omega) only [k0, k1, k2, k3, k4, k5, k6, k8, k16, k30, k60, k100, k200, k201, k300, k1500, k8000, kM, k_m6, nIa, nIp, nIs, sI_1, sI_22, sL_1, sL_21, sS_21, sS_22, sI_ne, sL_ne, sS_ne, sS_eq, sI_eq, sI_at, sL_eq, sL_at, Nat.add_zero, if_true, if_false, hs0, hs1, A2] | rw [bV_e] | rw [pS_e] | rw [bI_s] | rw [bU_s] | rw [bL_s] | rw [gI_n (by omega) (by omega)] | rw [gR_n (by omega)] | rw [pI_n (by omega) (by omega)] | rw [gL_n (by omega) (by omega)] | rw [pL_n (by omega) (by omega)]))
    · have q2 : hk x = 2 := by omega
      rw [if_neg q1, if_pos q2]
      obtain ⟨lv1, lv2⟩ := l2 q2
      have qm : m.1 = 2 := by omega
      rw [tks_2 qm, ← el1, ← el2, ← ei] at hs ho
      simp only [List.length_cons, List.length_append] at ho
      have hs0 : S.2.1 f 0 o = nI 2 := hs.1
      have hsi : S.2.1 f 0 (o + 1) = nI (hid x) := hs.2.1
      have hsl := sg_app.mp hs.2.2
      obtain ⟨S1, A1, M1, N1, F1⟩ := m_cl (n := n) (o := o + 2) hn hf h hM lv1 hsl.1 (by omega)
      obtain ⟨o1, o2, o3⟩ := adL_ok h lv1
      have hs1 : S1.2.1 f 0 o = nI 2 := by rw [(F1 f 0 nV).2.1]; exact hs0
      cases h9 : (adL P (hl1 x)).2 with
      | false =>
        rw [thP_f h9]
        rw [h9, if_neg (by simp)] at A1
        refine ⟨S1, ?_, M1, FR_mo F1 (fun z hz => List.mem_cons_of_mem _ hz)⟩
        show _ = some (S1, mI)
        ((try simp only [k0, k1, k2, k3, k4, k5, k6, k8, k16, k30, k60, k100, k200, k201, k300, k1500, k8000, kM, k_m6]); repeat (first | rw [zt_eq (by omega)] | rw [zt_ne (by omega) (by omega) (by omega)] | rw [zt_nle (by omega) (by omega)] | rw [zt_le (by omega) (by omega)] | rw [zt_nlt (by omega) (by omega)] | rw [zt_lt (by omega) (by omega)] | rw [zt_nm (by omega)] | rw [zt_mm] | rw [zt_ml] | rw [zt_0m] | rw [zt_m0] | rw [zt_n6 (by omega)] | rw [zt_66] | rw [zt_06] | simp (disch := omega) only [k0, k1, k2, k3, k4, k5, k6, k8, k16, k30, k60, k100, k200, k201, k300, k1500, k8000, kM, k_m6, nIa, nIp, nIs, sI_1, sI_22, sL_1, sL_21, sS_21, sS_22, sI_ne, sL_ne, sS_ne, sS_eq, sI_eq, sI_at, sL_eq, sL_at, Nat.add_zero, if_true, if_false, hs0, A1] | rw [bV_e] | rw [pS_e] | rw [bI_s] | rw [bU_s] | rw [bL_s] | rw [gI_n (by omega) (by omega)] | rw [gR_n (by omega)] | rw [pI_n (by omega) (by omega)] | rw [gL_n (by omega) (by omega)] | rw [pL_n (by omega) (by omega)] | rw [j_X8_countSingle_37] | rw [j_X8_countSingle_51]))
      | true =>
        rw [thP_t h9]
        have mL1 := o3 h9
        have ixl := ix300 o1 mL1
        have n387 := N1 h9
        rw [h9, if_pos rfl] at A1
        generalize hP1 : (adL P (hl1 x)).1 = P1 at *
        obtain ⟨S2, A2, M2, N2, F2⟩ := m_cl (n := n) (o := o + 2 + (hl1 x).length) hn hf o1 M1 lv2 (sg_fr F1 nV hsl.2) (by omega)
        obtain ⟨u1, u2, u3⟩ := adL_ok o1 lv2
        have F12 : FR (356 :: VR) S S2 := FR_mo (FR_tr F1 F2) (fun z hz => List.mem_cons_of_mem _ hz)
        cases h8 : (adL P1 (hl2 x)).2 with
        | false =>
          rw [thP_f h8]
          rw [h8, if_neg (by simp)] at A2
          refine ⟨S2, ?_, M2, F12⟩
          show _ = some (S2, mI)
          ((try simp only [k0, k1, k2, k3, k4, k5, k6, k8, k16, k30, k60, k100, k200, k201, k300, k1500, k8000, kM, k_m6]); repeat (first | rw [zt_eq (by omega)] | rw [zt_ne (by omega) (by omega) (by omega)] | rw [zt_nle (by omega) (by omega)] | rw [zt_le (by omega) (by omega)] | rw [zt_nlt (by omega) (by omega)] | rw [zt_lt (by omega) (by omega)] | rw [zt_nm (by omega)] | rw [zt_mm] | rw [zt_ml] | rw [zt_0m] | rw [zt_m0] | rw [zt_n6 (by omega)] | rw [zt_66] | rw [zt_06] | simp (disch := omega) only [k0, k1, k2, k3, k4, k5, k6, k8, k16, k30, k60, k100, k200, k201, k300, k1500, k8000, kM, k_m6, nIa, nIp, nIs, sI_1, sI_22, sL_1, sL_21, sS_21, sS_22, sI_ne, sL_ne, sS_ne, sS_eq, sI_eq, sI_at, sL_eq, sL_at, Nat.add_zero, if_true, if_false, hs0, A1, hs1, n387, A2] | rw [bV_e] | rw [pS_e] | rw [bI_s] | rw [bU_s] | rw [bL_s] | rw [gI_n (by omega) (by omega)] | rw [gR_n (by omega)] | rw [pI_n (by omega) (by omega)] | rw [gL_n (by omega) (by omega)] | rw [pL_n (by omega) (by omega)] | rw [j_X8_countSingle_37] | rw [j_X8_countSingle_51]))
        | true =>
          rw [thP_t h8]
          have mL2 := u3 h8
          have ixl2 := ix300 u1 mL2
          rw [h8, if_pos rfl] at A2
          have iE := ix_E u2 mL1
          have mL1' := Ext_L u2 mL1
          generalize hP2 : (adL P1 (hl2 x)).1 = P2 at *
          have hs2 : S2.2.1 f 0 (o + 1) = nI (hid x) := by rw [(F2 f 0 nV).2.1, (F1 f 0 nV).2.1]; exact hsi
          obtain ⟨S3, A3, M3, F3⟩ := m_trm (n := n) hn u1 M2 (wk _ (Ext_tr o2 u2)) (pT_lf (x := x) (by omega) (fun z => by omega) (fun _ => ⟨mL1', mL2⟩))
          obtain ⟨w1, w2, w3⟩ := (a_lf (L := P2.1) (T := P2.2) (x := x)).2.2.1 q2
          rw [w1, w2, w3, q2, iE] at A3
          refine ⟨S3, ?_, M3, FR_tr F12 (FR_mo F3 (by simp))⟩
          ((try simp only [k0, k1, k2, k3, k4, k5, k6, k8, k16, k30, k60, k100, k200, k201, k300, k1500, k8000, kM, k_m6]); repeat (first | rw [zt_eq (by omega)] | rw [zt_ne (by omega) (by omega) (by omega)] | rw [zt_nle (by omega) (by omega)] | rw [zt_le (by omega) (by omega)] | rw [zt_nlt (by omega) (by omega)] | rw [zt_lt (by omega) (by omega)] | rw [zt_nm (by omega)] | rw [zt_mm] | rw [zt_ml] | rw [zt_0m] | rw [zt_m0] | rw [zt_n6 (by omega)] | rw [zt_66] | rw [zt_06] | simp (disch := omega) only [k0, k1, k2, k3, k4, k5, k6, k8, k16, k30, k60, k100, k200, k201, k300, k1500, k8000, kM, k_m6, nIa, nIp, nIs, sI_1, sI_22, sL_1, sL_21, sS_21, sS_22, sI_ne, sL_ne, sS_ne, sS_eq, sI_eq, sI_at, sL_eq, sL_at, Nat.add_zero, if_true, if_false, hs0, A1, hs1, n387, A2, hs2, A3] | rw [bV_e] | rw [pS_e] | rw [bI_s] | rw [bU_s] | rw [bL_s] | rw [gI_n (by omega) (by omega)] | rw [gR_n (by omega)] | rw [pI_n (by omega) (by omega)] | rw [gL_n (by omega) (by omega)] | rw [pL_n (by omega) (by omega)] | rw [j_X8_countSingle_37] | rw [j_X8_countSingle_51]))
