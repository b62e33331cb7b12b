/-! the class: a whole row gets its number -/
theorem nmT_t {r : PT × Bool} {x : List Mk} (h : r.2 = true) : nmT r x = nI (ixT r.1.2 x) := if_pos h
theorem nmT_f {r : PT × Bool} {x : List Mk} (h : r.2 = false) : nmT r x = mI := by unfold nmT; rw [h]; rfl
theorem rg211 : rg 211 0 = 211 := rfl
theorem CP_fr {S S' : St} {R : List Nat} {P : PT} (h : CP S P) (g : FR R S S') (h0 : 0 ∉ R) (h2 : 200 ∉ R) : CP S' P := ⟨LC_fr h.1 g h0, TC_fr h.2 g h2⟩
theorem c_next {n j N : Nat} {ms : List Mk} (hn : 10000 ≤ n) (hj : j ≤ 106) : ∀ (d a b : Nat) (S : St) (P : PT) (x Pre Post : List Mk) (e : Nat), d + a = 101 → x.length + 2 * a ≤ 200 → EOk P N → CP S P → RW S j ms → ms = Pre ++ (x.map (shM e) ++ Post) → gdT b N x → b + x.length ≤ zB P.2 + 200 → S.1 211 0 = nI Pre.length → ∃ S', k_X5_keepNext n d S j (nI a) = some (S', nmT (addT d P x) x) ∧ CP S' (addT d P x).1 ∧ ((addT d P x).2 = true → S'.1 211 0 = nI (Pre.length + x.length)) ∧ FR [0, 200, 211] S S' := by
  intro d
  induction d with
  | zero =>
    intro a b S P x Pre Post e hd hl h hC hR hms hg hb h211
    omega
  | succ d ih =>
    intro a b S P x Pre Post e hd hl h hC hR hms hg hb h211
    have h6 := hk_le hg
    have hx1 := Tm_ne hg.1
    have h200 := hR.2.1
    have lms := congrArg List.length hms
    simp only [List.length_append, List.length_map] at lms
    cases hx : x with
    | nil => rw [hx] at hx1; simp at hx1
    | cons m r =>
    have hkm : hk x = m.1 := by rw [hx]; rfl
    have hi : ms[Pre.length]? = some (shM e m) := by rw [hms, hx]; exact head_at rfl
    have c1 : S.2.1 151 j Pre.length = nI (hk x) := by rw [hkm]; exact (hR.2.2 _ _ hi).1
    have len := hR.1
    have F0 : FR [0, 200, 211] S (sS S 211 0 (nI (Pre.length + 1))) := FR_sS FR_rf (by rw [rg211]; simp)
    have f0 : FR [211] S (sS S 211 0 (nI (Pre.length + 1))) := FR_sS FR_rf (by rw [rg211]; simp)
    have rr : ∀ f, 150 ≤ f ∧ f ≤ 155 → rg f j ∉ [0, 200, 211] := fun f hf => by rw [rgR hf]; simp; omega
    have hR0 : RW (sS S 211 0 (nI (Pre.length + 1))) j ms := RW_fr hR F0 (by simp; omega)
    have hC0 : CP (sS S 211 0 (nI (Pre.length + 1))) P := CP_fr hC f0 (by simp) (by simp)
    have ln1 : Pre.length < ms.length := by omega
    rw [← hx]
    show ∃ S', f_X5_keepNext n (k_X5_keepNext n d) S j (nI a) = _ ∧ _
    unfold f_X5_keepNext
    by_cases q2 : hk x ≤ 2
    · have r0 : r = [] := by rw [hx] at hg; exact (tm_parts hg.1).2.1 (ar_0 (by omega))
      obtain ⟨S1, A1, C1, F1⟩ := c_leaf (n := n) (d := d) (p := Pre.length) hn h hC0 hR0 hi (by rw [hx, r0]) q2 hg hb
      refine ⟨S1, ?_, C1, fun _ => ?_, FR_tr F0 (FR_mo F1 (by simp))⟩
      · have pO := s_partsOf4 (n := n) (S := sS S 211 0 (nI (Pre.length + 1))) h6
        rw [ar_0 q2] at pO
        ((try simp only [k0, k1, k2, k3, k4, k5, k6, k8, k16, k30, k60, k100, k200, k201, k300, k1500, k8000, kM, k_m6]); repeat (first | rw [zt_eq (by omega)] | rw [zt_ne (by omega) (by omega) (by omega)] | rw [zt_nle (by omega) (by omega)] | rw [zt_le (by omega) (by omega)] | rw [zt_nlt (by omega) (by omega)] | rw [zt_lt (by omega) (by omega)] | rw [zt_nm (by omega)] | rw [zt_mm] | rw [zt_ml] | rw [zt_0m] | rw [zt_m0] | rw [zt_n6 (by omega)] | rw [zt_66] | rw [zt_06] | simp (disch := omega) only [k0, k1, k2, k3, k4, k5, k6, k8, k16, k30, k60, k100, k200, k201, k300, k1500, k8000, kM, k_m6, nIa, nIp, nIs, sI_1, sI_22, sL_1, sL_21, sS_21, sS_22, sI_ne, sL_ne, sS_ne, sS_eq, sI_eq, sI_at, sL_eq, sL_at, Nat.add_zero, if_true, if_false, h211, len, c1, pO, A1] | rw [bV_e] | rw [pS_e] | rw [bI_s] | rw [bU_s] | rw [bL_s] | rw [gI_n (by omega) (by omega)] | rw [gR_n (by omega)] | rw [pI_n (by omega) (by omega)] | rw [gL_n (by omega) (by omega)] | rw [pL_n (by omega) (by omega)]))
      · rw [(F1 211 0 (by rw [rg211]; simp)).1, sS_eq, hx, r0]; rfl
    · obtain ⟨g1, g2⟩ := (gd_pt hg).1 (by omega)
      have g2' : gdT (b + 1) N (p2 x) := gdT_mo g2 (by unfold dl; split <;> omega)
      have l1 := Tm_ne g1.1
      have l2 := Tm_ne g2.1
      obtain ⟨t1, t2, t3⟩ := tlen hg
      have tp := tm_parts (hx ▸ hg.1)
      rw [← hx] at tp
      have ar2 := ar_2 (k := hk x) (by omega) h6
      have pO := s_partsOf4 (n := n) (S := sS S 211 0 (nI (Pre.length + 1))) h6
      have hlen : (p1 x).length + (p2 x).length + 1 ≤ x.length ∧ (hk x = 6 → x.length = 1 + (p1 x).length + (p2 x).length + (p3 x).length) ∧ (hk x ≠ 6 → x.length = 1 + (p1 x).length + (p2 x).length) := by
        by_cases q : hk x = 6
        · have := t3 q; exact ⟨by omega, fun _ => this, fun z => absurd q z⟩
        · have := t2 (by omega) q; exact ⟨by omega, fun z => absurd z q, fun _ => this⟩
      have pl : (Pre ++ [shM e m]).length = Pre.length + 1 := by rw [List.length_append]; rfl
      -- the row behind the mark
      have rows : ∃ Q, ms = (Pre ++ [shM e m]) ++ ((p1 x).map (shM e) ++ ((p2 x).map (shM (dl m.1 + e)) ++ Q)) ∧ (hk x = 6 → dl m.1 = 0 ∧ Q = (p3 x).map (shM (1 + e)) ++ Post) := by
        by_cases q : hk x = 6
        · have er := (tp.2.2.2.2 (hkm ▸ ar2.2.1.mp q)).1
          have d6 : dl m.1 = 0 := by rw [← hkm, q]; rfl
          refine ⟨(p3 x).map (shM (1 + e)) ++ Post, ?_, fun _ => ⟨d6, rfl⟩⟩
          conv => lhs; rw [hms, hx, List.map_cons, er, List.map_append, List.map_append, sh_sh]
          rw [d6, Nat.zero_add]
          simp only [List.append_assoc, List.cons_append, List.nil_append]
        · have er := tp.2.2.2.1 (hkm ▸ ar2.2.2.mp q)
          refine ⟨Post, ?_, fun z => absurd z q⟩
          conv => lhs; rw [hms, hx, List.map_cons, er, List.map_append, sh_sh]
          simp only [List.append_assoc, List.cons_append, List.nil_append]
      obtain ⟨Q, er1, erQ⟩ := rows
      obtain ⟨S1, A1, C1, N1, F1⟩ := ih (a + 1) b (sS S 211 0 (nI (Pre.length + 1))) P (p1 x) (Pre ++ [shM e m]) _ e (by omega) (by omega) h hC0 hR0 er1 g1 (by omega) (by rw [sS_eq, pl])
      obtain ⟨o1, o2, o3⟩ := addT_ok d b P (p1 x) h g1 (by omega)
      have F1' := FR_tr F0 F1
      rw [addT_s, if_neg (show ¬ hk x = 0 by omega), if_neg (show ¬ hk x = 1 by omega), if_neg (show ¬ hk x = 2 by omega)]
      cases h9 : (addT d P (p1 x)).2 with
      | false =>
        rw [thP_f h9]
        rw [nmT_f h9] at A1
        refine ⟨S1, ?_, C1, (fun z => nomatch z), F1'⟩
        rw [nmT_f rfl]
        have arx : ar (hk x) = 2 ∨ ar (hk x) = 3 := by
          by_cases q : hk x = 6
          · right; exact ar2.2.1.mp q
          · left; exact ar2.2.2.mp q
        ((try simp only [k0, k1, k2, k3, k4, k5, k6, k8, k16, k30, k60, k100, k200, k201, k300, k1500, k8000, kM, k_m6]); repeat (first | rw [zt_eq (by omega)] | rw [zt_ne (by omega) (by omega) (by omega)] | rw [zt_nle (by omega) (by omega)] | rw [zt_le (by omega) (by omega)] | rw [zt_nlt (by omega) (by omega)] | rw [zt_lt (by omega) (by omega)] | rw [zt_nm (by omega)] | rw [zt_mm] | rw [zt_ml] | rw [zt_0m] | rw [zt_m0] | rw [zt_n6 (by omega)] | rw [zt_66] | rw [zt_06] | simp (disch := omega) only [k0, k1, k2, k3, k4, k5, k6, k8, k16, k30, k60, k100, k200, k201, k300, k1500, k8000, kM, k_m6, nIa, nIp, nIs, sI_1, sI_22, sL_1, sL_21, sS_21, sS_22, sI_ne, sL_ne, sS_ne, sS_eq, sI_eq, sI_at, sL_eq, sL_at, Nat.add_zero, if_true, if_false, h211, len, c1, pO, A1] | rw [bV_e] | rw [pS_e] | rw [bI_s] | rw [bU_s] | rw [bL_s] | rw [gI_n (by omega) (by omega)] | rw [gR_n (by omega)] | rw [pI_n (by omega) (by omega)] | rw [gL_n (by omega) (by omega)] | rw [pL_n (by omega) (by omega)] | rw [j_X5_keepNext_85] | rw [j_X5_keepNext_99] | rw [j_X5_keepNext_111]))
      | true =>
        rw [thP_t h9]
        rw [nmT_t h9] at A1
        have m1 := o3 h9
        have i1 := ix1500 o1 m1
        have n1 := N1 h9
        generalize (addT d P (p1 x)).1 = P1 at *
        have er2 : ms = ((Pre ++ [shM e m]) ++ (p1 x).map (shM e)) ++ ((p2 x).map (shM (dl m.1 + e)) ++ Q) := by
          conv => lhs; rw [er1]
          simp only [List.append_assoc]
        have pl2 : ((Pre ++ [shM e m]) ++ (p1 x).map (shM e)).length = Pre.length + 1 + (p1 x).length := by rw [List.length_append, pl, List.length_map]
        have hR1 : RW S1 j ms := RW_fr hR F1' (by simp; omega)
        have z1 := Ext_z o2
        obtain ⟨S2, A2, C2, N2, F2⟩ := ih (a + 1) (b + 1) S1 P1 (p2 x) _ Q (dl m.1 + e) (by omega) (by omega) o1 C1 hR1 er2 g2' (by omega) (by rw [n1, pl, pl2])
        rw [pl2] at N2
        obtain ⟨u1, u2, u3⟩ := addT_ok d (b + 1) P1 (p2 x) o1 g2' (by omega)
        have F2' := FR_tr F1' F2
        cases h8 : (addT d P1 (p2 x)).2 with
        | false =>
          rw [thP_f h8]
          rw [nmT_f h8] at A2
          refine ⟨S2, ?_, C2, (fun z => nomatch z), F2'⟩
          rw [nmT_f rfl]
          have arx : ar (hk x) = 2 ∨ ar (hk x) = 3 := by
            by_cases q : hk x = 6
            · right; exact ar2.2.1.mp q
            · left; exact ar2.2.2.mp q
          ((try simp only [k0, k1, k2, k3, k4, k5, k6, k8, k16, k30, k60, k100, k200, k201, k300, k1500, k8000, kM, k_m6]); repeat (first | rw [zt_eq (by omega)] | rw [zt_ne (by omega) (by omega) (by omega)] | rw [zt_nle (by omega) (by omega)] | rw [zt_le (by omega) (by omega)] | rw [zt_nlt (by omega) (by omega)] | rw [zt_lt (by omega) (by omega)] | rw [zt_nm (by omega)] | rw [zt_mm] | rw [zt_ml] | rw [zt_0m] | rw [zt_m0] | rw [zt_n6 (by omega)] | rw [zt_66] | rw [zt_06] | simp (disch := omega) only [k0, k1, k2, k3, k4, k5, k6, k8, k16, k30, k60, k100, k200, k201, k300, k1500, k8000, kM, k_m6, nIa, nIp, nIs, sI_1, sI_22, sL_1, sL_21, sS_21, sS_22, sI_ne, sL_ne, sS_ne, sS_eq, sI_eq, sI_at, sL_eq, sL_at, Nat.add_zero, if_true, if_false, h211, len, c1, pO, A1, A2] | rw [bV_e] | rw [pS_e] | rw [bI_s] | rw [bU_s] | rw [bL_s] | rw [gI_n (by omega) (by omega)] | rw [gR_n (by omega)] | rw [pI_n (by omega) (by omega)] | rw [gL_n (by omega) (by omega)] | rw [pL_n (by omega) (by omega)] | rw [j_X5_keepNext_85] | rw [j_X5_keepNext_99] | rw [j_X5_keepNext_111]))
        | true =>
          rw [thP_t h8]
          rw [nmT_t h8] at A2
          have m2 := u3 h8
          have i2 := ix1500 u1 m2
          have n2 := N2 h8
          have m1' := Ext_T u2 m1
          have iE := ixT_E u2 m1
          generalize (addT d P1 (p2 x)).1 = P2 at *
          have e12 := Ext_tr o2 u2
          have z2 := Ext_z u2
          have hR2 : RW S2 j ms := RW_fr hR F2' (by simp; omega)
          by_cases q6 : hk x = 6
          · rw [if_pos q6]
            obtain ⟨d6, eQ⟩ := erQ q6
            have er3 : ms = ((Pre ++ [shM e m]) ++ (p1 x).map (shM e) ++ (p2 x).map (shM (dl m.1 + e))) ++ ((p3 x).map (shM (1 + e)) ++ Post) := by
              conv => lhs; rw [er2, eQ]
              simp only [List.append_assoc]
            have pl3 : ((Pre ++ [shM e m]) ++ (p1 x).map (shM e) ++ (p2 x).map (shM (dl m.1 + e))).length = Pre.length + 1 + (p1 x).length + (p2 x).length := by rw [List.length_append, pl2, List.length_map]
            have g3 := (gd_pt hg).2 q6
            have l3 := Tm_ne g3.1
            have hl6 := hlen.2.1 q6
            obtain ⟨S3, A3, C3, N3, F3⟩ := ih (a + 1) (b + 1) S2 P2 (p3 x) _ Post (1 + e) (by omega) (by omega) u1 C2 hR2 er3 g3 (by omega) (by rw [n2, pl3])
            rw [pl3] at N3
            obtain ⟨v1, v2, v3⟩ := addT_ok d (b + 1) P2 (p3 x) u1 g3 (by omega)
            have F3' := FR_tr F2' F3
            rw [q6, show ar 6 = 3 from rfl] at pO
            rw [q6] at c1
            cases h7 : (addT d P2 (p3 x)).2 with
            | false =>
              rw [thP_f h7]
              rw [nmT_f h7] at A3
              refine ⟨S3, ?_, C3, (fun z => nomatch z), F3'⟩
              rw [nmT_f rfl]
              ((try simp only [k0, k1, k2, k3, k4, k5, k6, k8, k16, k30, k60, k100, k200, k201, k300, k1500, k8000, kM, k_m6]); repeat (first | rw [zt_eq (by omega)] | rw [zt_ne (by omega) (by omega) (by omega)] | rw [zt_nle (by omega) (by omega)] | rw [zt_le (by omega) (by omega)] | rw [zt_nlt (by omega) (by omega)] | rw [zt_lt (by omega) (by omega)] | rw [zt_nm (by omega)] | rw [zt_mm] | rw [zt_ml] | rw [zt_0m] | rw [zt_m0] | rw [zt_n6 (by omega)] | rw [zt_66] | rw [zt_06] | simp (disch := omega) only [k0, k1, k2, k3, k4, k5, k6, k8, k16, k30, k60, k100, k200, k201, k300, k1500, k8000, kM, k_m6, nIa, nIp, nIs, sI_1, sI_22, sL_1, sL_21, sS_21, sS_22, sI_ne, sL_ne, sS_ne, sS_eq, sI_eq, sI_at, sL_eq, sL_at, Nat.add_zero, if_true, if_false, h211, len, c1, pO, A1, A2, A3] | rw [bV_e] | rw [pS_e] | rw [bI_s] | rw [bU_s] | rw [bL_s] | rw [gI_n (by omega) (by omega)] | rw [gR_n (by omega)] | rw [pI_n (by omega) (by omega)] | rw [gL_n (by omega) (by omega)] | rw [pL_n (by omega) (by omega)] | rw [j_X5_keepNext_85] | rw [j_X5_keepNext_99] | rw [j_X5_keepNext_111]))
            | true =>
              rw [thP_t h7]
              rw [nmT_t h7] at A3
              have m3 := v3 h7
              have i3 := ix1500 v1 m3
              have n3 := N3 h7
              have iE1 := ixT_E v2 m1'
              have iE2 := ixT_E v2 m2
              have mm1 := Ext_T v2 m1'
              have mm2 := Ext_T v2 m2
              generalize (addT d P2 (p3 x)).1 = P3 at *
              obtain ⟨S4, A4, C4, F4⟩ := c_trm (n := n) (x := x) hn v1 C3 (gdT_mo hg (by have := Ext_z v2; omega)) (pT_br (by omega) mm1 mm2 (fun _ => m3))
              obtain ⟨w1, w2, w3⟩ := (a_lf (L := P3.1) (T := P3.2) (x := x)).2.2.2 (by omega)
              rw [w1, w2, w3, if_pos q6, iE1, iE, iE2, q6] at A4
              have c1' : S3.2.1 151 j Pre.length = nI 6 := by rw [(F3' 151 j (rr 151 (by omega))).2.1]; exact c1
              refine ⟨S4, ?_, C4, fun _ => ?_, FR_tr F3' (FR_mo F4 (by simp))⟩
              · unfold nmT
                ((try simp only [k0, k1, k2, k3, k4, k5, k6, k8, k16, k30, k60, k100, k200, k201, k300, k1500, k8000, kM, k_m6]); repeat (first | rw [zt_eq (by omega)] | rw [zt_ne (by omega) (by omega) (by omega)] | rw [zt_nle (by omega) (by omega)] | rw [zt_le (by omega) (by omega)] | rw [zt_nlt (by omega) (by omega)] | rw [zt_lt (by omega) (by omega)] | rw [zt_nm (by omega)] | rw [zt_mm] | rw [zt_ml] | rw [zt_0m] | rw [zt_m0] | rw [zt_n6 (by omega)] | rw [zt_66] | rw [zt_06] | simp (disch := omega) only [k0, k1, k2, k3, k4, k5, k6, k8, k16, k30, k60, k100, k200, k201, k300, k1500, k8000, kM, k_m6, nIa, nIp, nIs, sI_1, sI_22, sL_1, sL_21, sS_21, sS_22, sI_ne, sL_ne, sS_ne, sS_eq, sI_eq, sI_at, sL_eq, sL_at, Nat.add_zero, if_true, if_false, h211, len, c1, pO, A1, A2, A3, c1', A4] | rw [bV_e] | rw [pS_e] | rw [bI_s] | rw [bU_s] | rw [bL_s] | rw [gI_n (by omega) (by omega)] | rw [gR_n (by omega)] | rw [pI_n (by omega) (by omega)] | rw [gL_n (by omega) (by omega)] | rw [pL_n (by omega) (by omega)] | rw [j_X5_keepNext_85] | rw [j_X5_keepNext_99] | rw [j_X5_keepNext_111] | rw [j_X5_keepNext_133]))
              · rw [(F4 211 0 (by rw [rg211]; simp)).1, n3]; congr 1; omega
          · rw [if_neg q6]
            have hl5 := hlen.2.2 q6
            have ar5 := ar2.2.2.mp q6
            rw [ar5] at pO
            obtain ⟨S4, A4, C4, F4⟩ := c_trm (n := n) (x := x) hn u1 C2 (gdT_mo hg (by omega)) (pT_br (by omega) m1' m2 (fun z => absurd z q6))
            obtain ⟨w1, w2, w3⟩ := (a_lf (L := P2.1) (T := P2.2) (x := x)).2.2.2 (by omega)
            rw [w1, w2, w3, if_neg q6, iE] at A4
            have c1' : S2.2.1 151 j Pre.length = nI (hk x) := by rw [(F2' 151 j (rr 151 (by omega))).2.1]; exact c1
            refine ⟨S4, ?_, C4, fun _ => ?_, FR_tr F2' (FR_mo F4 (by simp))⟩
            · unfold nmT
              ((try simp only [k0, k1, k2, k3, k4, k5, k6, k8, k16, k30, k60, k100, k200, k201, k300, k1500, k8000, kM, k_m6]); repeat (first | rw [zt_eq (by omega)] | rw [zt_ne (by omega) (by omega) (by omega)] | rw [zt_nle (by omega) (by omega)] | rw [zt_le (by omega) (by omega)] | rw [zt_nlt (by omega) (by omega)] | rw [zt_lt (by omega) (by omega)] | rw [zt_nm (by omega)] | rw [zt_mm] | rw [zt_ml] | rw [zt_0m] | rw [zt_m0] | rw [zt_n6 (by omega)] | rw [zt_66] | rw [zt_06] | simp (disch := omega) only [k0, k1, k2, k3, k4, k5, k6, k8, k16, k30, k60, k100, k200, k201, k300, k1500, k8000, kM, k_m6, nIa, nIp, nIs, sI_1, sI_22, sL_1, sL_21, sS_21, sS_22, sI_ne, sL_ne, sS_ne, sS_eq, sI_eq, sI_at, sL_eq, sL_at, Nat.add_zero, if_true, if_false, h211, len, c1, pO, A1, A2, c1', A4] | rw [bV_e] | rw [pS_e] | rw [bI_s] | rw [bU_s] | rw [bL_s] | rw [gI_n (by omega) (by omega)] | rw [gR_n (by omega)] | rw [pI_n (by omega) (by omega)] | rw [gL_n (by omega) (by omega)] | rw [pL_n (by omega) (by omega)] | rw [j_X5_keepNext_85] | rw [j_X5_keepNext_99] | rw [j_X5_keepNext_111] | rw [j_X5_keepNext_133]))
            · rw [(F4 211 0 (by rw [rg211]; simp)).1, n2]; congr 1; omega
