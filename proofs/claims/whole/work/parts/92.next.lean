/-! the class: a row gets its number -/
theorem ixT_E {P Q : PT} (h : Ext P Q) {x : List Mk} (hx : x ∈ P.2) : ixT Q.2 x = ixT P.2 x := by
  obtain ⟨_, e, he⟩ := h
  rw [he]; unfold ixT
  rw [List.idxOf_append, if_pos hx]
theorem ix_E {P Q : PT} (h : Ext P Q) {l : List Nat} (hx : l ∈ P.1) : ix Q.1 l = ix P.1 l := by
  obtain ⟨⟨e, he⟩, _⟩ := h
  rw [he]; exact ix_appE hx
def nmT (r : PT × Bool) (x : List Mk) : Int32 := if r.2 then nI (ixT r.1.2 x) else mI
theorem ix300 {P : PT} {N : Nat} (h : EOk P N) {l : List Nat} (hl : l ∈ P.1) : ix P.1 l < 300 := by have := ix_lt hl; have := h.1.2.1; omega
theorem ix1500 {P : PT} {N : Nat} (h : EOk P N) {x : List Mk} (hl : x ∈ P.2) : ixT P.2 x < 1500 := by have := ixT_lt hl; have := h.2.1; omega
theorem c_leaf {n d j p b N e : Nat} {S : St} {P : PT} {ms x : List Mk} {m : Mk} (hn : 10000 ≤ n) (h : EOk P N) (hC : CP S P) (hR : RW S j ms) (hi : ms[p]? = some (shM e m)) (hx : x = [m]) (h2 : hk x ≤ 2) (hg : gdT b N x) (hb : b + x.length ≤ zB P.2 + 200) : ∃ S', f_X5_keepLeaf n S j (nI p) = some (S', nmT (addT (d + 1) P x) x) ∧ CP S' (addT (d + 1) P x).1 ∧ FR [0, 200] S S' := by
  have hp := gt_lt hi
  have h200 := hR.2.1
  have hk1 : hk x = m.1 := by rw [hx]; rfl
  have e1 : hl1 x = m.2.2.2.1 := by rw [hx]; rfl
  have e2 : hl2 x = m.2.2.2.2 := by rw [hx]; rfl
  have e3 : hid x = m.2.1 := by rw [hx]; rfl
  obtain ⟨c1, c2, c3, c4, c5⟩ := hR.2.2 p _ hi
  replace c1 : S.2.1 151 j p = nI m.1 := c1
  replace c2 : S.2.1 152 j p = nI (hid x) := by rw [e3]; exact c2
  replace c4 : S.2.2 154 j p = en (hl1 x) := by rw [e1]; exact c4
  replace c5 : S.2.2 155 j p = en (hl2 x) := by rw [e2]; exact c5
  obtain ⟨l0, l2⟩ := gd_lv hg
  have wk : ∀ Q : PT, Ext P Q → gdT (zB Q.2 + 200) N x := fun Q e => gdT_mo hg (by have := Ext_z e; omega)
  rw [addT_s]
  unfold f_X5_keepLeaf
  by_cases q0 : hk x = 0
  · rw [if_pos q0]
    have lv := l0 q0
    obtain ⟨S1, A1, C1, F1⟩ := c_lev (n := n) hn h hC lv
    obtain ⟨o1, o2, o3⟩ := adL_ok h lv
    have hm0 : m.1 = 0 := by omega
    rw [hm0] at c1
    cases h9 : (adL P (hl1 x)).2 with
    | false =>
      rw [thP_f h9]
      rw [h9, if_neg (by simp)] at A1
      refine ⟨S1, ?_, C1, FR_mo F1 (by simp)⟩
      show _ = some (S1, mI)
      ((try simp only [k0, k1, k2, k3, k4, k5, k6, k8, k16, k30, k60, k100, k200, k201, k300, k1500, k8000, kM, k_m6]); repeat (first | rw [zt_eq (by omega)] | rw [zt_ne (by omega) (by omega) (by omega)] | rw [zt_nle (by omega) (by omega)] | rw [zt_le (by omega) (by omega)] | rw [zt_nlt (by omega) (by omega)] | rw [zt_lt (by omega) (by omega)] | rw [zt_nm (by omega)] | rw [zt_mm] | rw [zt_ml] | rw [zt_0m] | rw [zt_m0] | rw [zt_n6 (by omega)] | rw [zt_66] | rw [zt_06] | simp (disch := omega) only [k0, k1, k2, k3, k4, k5, k6, k8, k16, k30, k60, k100, k200, k201, k300, k1500, k8000, kM, k_m6, nIa, nIp, nIs, sI_1, sI_22, sL_1, sL_21, sS_21, sS_22, sI_ne, sL_ne, sS_ne, sS_eq, sI_eq, sI_at, sL_eq, sL_at, Nat.add_zero, if_true, if_false, c1, c4, A1] | rw [bV_e] | rw [pS_e] | rw [bI_s] | rw [bU_s] | rw [bL_s] | rw [gI_n (by omega) (by omega)] | rw [gR_n (by omega)] | rw [pI_n (by omega) (by omega)] | rw [gL_n (by omega) (by omega)] | rw [pL_n (by omega) (by omega)] | rw [j_X5_keepLeaf_52]))
    | true =>
      rw [thP_t h9]
      have mL := o3 h9
      have ixl := ix300 o1 mL
      rw [h9, if_pos rfl] at A1
      have hpT := pT_lf (L := (adL P (hl1 x)).1.1) (T := (adL P (hl1 x)).1.2) (x := x) (by omega) (fun _ => mL) (fun z => by omega)
      obtain ⟨S2, A2, C2, F2⟩ := c_trm (n := n) hn o1 C1 (wk _ o2) hpT
      obtain ⟨w1, w2, w3⟩ := (a_lf (L := (adL P (hl1 x)).1.1) (T := (adL P (hl1 x)).1.2) (x := x)).1 q0
      rw [w1, w2, w3, q0] at A2
      have c1' : S1.2.1 151 j p = nI 0 := by rw [(F1 151 j (by rw [rgR (by omega), List.mem_singleton]; omega)).2.1]; exact c1
      refine ⟨S2, ?_, C2, FR_tr (FR_mo F1 (by simp)) (FR_mo F2 (by simp))⟩
      unfold nmT
      ((try simp only [k0, k1, k2, k3, k4, k5, k6, k8, k16, k30, k60, k100, k200, k201, k300, k1500, k8000, kM, k_m6]); repeat (first | rw [zt_eq (by omega)] | rw [zt_ne (by omega) (by omega) (by omega)] | rw [zt_nle (by omega) (by omega)] | rw [zt_le (by omega) (by omega)] | rw [zt_nlt (by omega) (by omega)] | rw [zt_lt (by omega) (by omega)] | rw [zt_nm (by omega)] | rw [zt_mm] | rw [zt_ml] | rw [zt_0m] | rw [zt_m0] | rw [zt_n6 (by omega)] | rw [zt_66] | rw [zt_06] | simp (disch := omega) only [k0, k1, k2, k3, k4, k5, k6, k8, k16, k30, k60, k100, k200, k201, k300, k1500, k8000, kM, k_m6, nIa, nIp, nIs, sI_1, sI_22, sL_1, sL_21, sS_21, sS_22, sI_ne, sL_ne, sS_ne, sS_eq, sI_eq, sI_at, sL_eq, sL_at, Nat.add_zero, if_true, if_false, c1, c4, A1, c1', A2] | rw [bV_e] | rw [pS_e] | rw [bI_s] | rw [bU_s] | rw [bL_s] | rw [gI_n (by omega) (by omega)] | rw [gR_n (by omega)] | rw [pI_n (by omega) (by omega)] | rw [gL_n (by omega) (by omega)] | rw [pL_n (by omega) (by omega)] | rw [j_X5_keepLeaf_52]))
  · rw [if_neg q0]
    by_cases q1 : hk x = 1
    · rw [if_pos q1]
      obtain ⟨S2, A2, C2, F2⟩ := c_trm (n := n) hn h hC (wk _ Ext_rf) (pT_lf (by omega) (fun z => by omega) (fun z => by omega))
      obtain ⟨w1, w2, w3⟩ := (a_lf (L := P.1) (T := P.2) (x := x)).2.1 q1
      rw [w1, w2, w3, q1] at A2
      refine ⟨S2, ?_, C2, FR_mo F2 (by simp)⟩
      unfold nmT
      have hm1 : m.1 = 1 := by omega
      rw [hm1] at c1
      ((try simp only [k0, k1, k2, k3, k4, k5, k6, k8, k16, k30, k60, k100, k200, k201, k300, k1500, k8000, kM, k_m6]); repeat (first | rw [zt_eq (by omega)] | rw [zt_ne (by omega) (by omega) (by omega)] | rw [zt_nle (by omega) (by omega)] | rw [zt_le (by omega) (by omega)] | rw [zt_nlt (by omega) (by omega)] | rw [zt_lt (by omega) (by omega)] | rw [zt_nm (by omega)] | rw [zt_mm] | rw [zt_ml] | rw [zt_0m] | rw [zt_m0] | rw [zt_n6 (by omega)] | rw [zt_66] | rw [zt_06] | simp (disch := omega) only [k0, k1, k2, k3, k4, k5, k6, k8, k16, k30, k60, k100, k200, k201, k300, k1500, k8000, kM, k_m6, nIa, nIp, nIs, sI_1, sI_22, sL_1, sL_21, sS_21, sS_22, sI_ne, sL_ne, sS_ne, sS_eq, sI_eq, sI_at, sL_eq, sL_at, Nat.add_zero, if_true, if_false, c1, c2, A2] | rw [bV_e] | rw [pS_e] | rw [bI_s] | rw [bU_s] | rw [bL_s] | rw [gI_n (by omega) (by omega)] | rw [gR_n (by omega)] | rw [pI_n (by omega) (by omega)] | rw [gL_n (by omega) (by omega)] | rw [pL_n (by omega) (by omega)]))
    · have q2 : hk x = 2 := by omega
      rw [if_neg q1, if_pos q2]
      obtain ⟨lv1, lv2⟩ := l2 q2
      have hm2 : m.1 = 2 := by omega
      rw [hm2] at c1
      obtain ⟨S1, A1, C1, F1⟩ := c_lev (n := n) hn h hC lv1
      obtain ⟨o1, o2, o3⟩ := adL_ok h lv1
      cases h9 : (adL P (hl1 x)).2 with
      | false =>
        rw [thP_f h9]
        rw [h9, if_neg (by simp)] at A1
        refine ⟨S1, ?_, C1, FR_mo F1 (by simp)⟩
        show _ = some (S1, mI)
        ((try simp only [k0, k1, k2, k3, k4, k5, k6, k8, k16, k30, k60, k100, k200, k201, k300, k1500, k8000, kM, k_m6]); repeat (first | rw [zt_eq (by omega)] | rw [zt_ne (by omega) (by omega) (by omega)] | rw [zt_nle (by omega) (by omega)] | rw [zt_le (by omega) (by omega)] | rw [zt_nlt (by omega) (by omega)] | rw [zt_lt (by omega) (by omega)] | rw [zt_nm (by omega)] | rw [zt_mm] | rw [zt_ml] | rw [zt_0m] | rw [zt_m0] | rw [zt_n6 (by omega)] | rw [zt_66] | rw [zt_06] | simp (disch := omega) only [k0, k1, k2, k3, k4, k5, k6, k8, k16, k30, k60, k100, k200, k201, k300, k1500, k8000, kM, k_m6, nIa, nIp, nIs, sI_1, sI_22, sL_1, sL_21, sS_21, sS_22, sI_ne, sL_ne, sS_ne, sS_eq, sI_eq, sI_at, sL_eq, sL_at, Nat.add_zero, if_true, if_false, c1, c4, A1] | rw [bV_e] | rw [pS_e] | rw [bI_s] | rw [bU_s] | rw [bL_s] | rw [gI_n (by omega) (by omega)] | rw [gR_n (by omega)] | rw [pI_n (by omega) (by omega)] | rw [gL_n (by omega) (by omega)] | rw [pL_n (by omega) (by omega)] | rw [j_X5_keepLeaf_52]))
      | true =>
        rw [thP_t h9]
        have mL1 := o3 h9
        have ixl := ix300 o1 mL1
        rw [h9, if_pos rfl] at A1
        generalize hP1 : (adL P (hl1 x)).1 = P1 at *
        have rr : rg 151 j ∉ [0] ∧ rg 152 j ∉ [0] ∧ rg 155 j ∉ [0] := by rw [rgR (by omega), rgR (by omega), rgR (by omega)]; simp
        have c1' : S1.2.1 151 j p = nI 2 := by rw [(F1 151 j rr.1).2.1]; exact c1
        have c5' : S1.2.2 155 j p = en (hl2 x) := by rw [(F1 155 j rr.2.2).2.2]; exact c5
        obtain ⟨S2, A2, C2, F2⟩ := c_lev (n := n) hn o1 C1 lv2
        obtain ⟨u1, u2, u3⟩ := adL_ok o1 lv2
        cases h8 : (adL P1 (hl2 x)).2 with
        | false =>
          rw [thP_f h8]
          rw [h8, if_neg (by simp)] at A2
          refine ⟨S2, ?_, C2, FR_tr (FR_mo F1 (by simp)) (FR_mo F2 (by simp))⟩
          show _ = some (S2, mI)
          ((try simp only [k0, k1, k2, k3, k4, k5, k6, k8, k16, k30, k60, k100, k200, k201, k300, k1500, k8000, kM, k_m6]); repeat (first | rw [zt_eq (by omega)] | rw [zt_ne (by omega) (by omega) (by omega)] | rw [zt_nle (by omega) (by omega)] | rw [zt_le (by omega) (by omega)] | rw [zt_nlt (by omega) (by omega)] | rw [zt_lt (by omega) (by omega)] | rw [zt_nm (by omega)] | rw [zt_mm] | rw [zt_ml] | rw [zt_0m] | rw [zt_m0] | rw [zt_n6 (by omega)] | rw [zt_66] | rw [zt_06] | simp (disch := omega) only [k0, k1, k2, k3, k4, k5, k6, k8, k16, k30, k60, k100, k200, k201, k300, k1500, k8000, kM, k_m6, nIa, nIp, nIs, sI_1, sI_22, sL_1, sL_21, sS_21, sS_22, sI_ne, sL_ne, sS_ne, sS_eq, sI_eq, sI_at, sL_eq, sL_at, Nat.add_zero, if_true, if_false, c1, c4, A1, c1', c5', A2] | rw [bV_e] | rw [pS_e] | rw [bI_s] | rw [bU_s] | rw [bL_s] | rw [gI_n (by omega) (by omega)] | rw [gR_n (by omega)] | rw [pI_n (by omega) (by omega)] | rw [gL_n (by omega) (by omega)] | rw [pL_n (by omega) (by omega)] | rw [j_X5_keepLeaf_52]))
        | true =>
          rw [thP_t h8]
          have mL2 := u3 h8
          have ixl2 := ix300 u1 mL2
          rw [h8, if_pos rfl] at A2
          have iE := ix_E u2 mL1
          have mL1' := Ext_L u2 mL1
          generalize hP2 : (adL P1 (hl2 x)).1 = P2 at *
          obtain ⟨S3, A3, C3, F3⟩ := c_trm (n := n) hn u1 C2 (wk _ (Ext_tr o2 u2)) (pT_lf (x := x) (by omega) (fun z => by omega) (fun _ => ⟨mL1', mL2⟩))
          obtain ⟨w1, w2, w3⟩ := (a_lf (L := P2.1) (T := P2.2) (x := x)).2.2.1 q2
          rw [w1, w2, w3, q2, iE] at A3
          have c2' : S2.2.1 152 j p = nI (hid x) := by rw [(F2 152 j rr.2.1).2.1, (F1 152 j rr.2.1).2.1]; exact c2
          refine ⟨S3, ?_, C3, FR_tr (FR_tr (FR_mo F1 (by simp)) (FR_mo F2 (by simp))) (FR_mo F3 (by simp))⟩
          unfold nmT
          ((try simp only [k0, k1, k2, k3, k4, k5, k6, k8, k16, k30, k60, k100, k200, k201, k300, k1500, k8000, kM, k_m6]); repeat (first | rw [zt_eq (by omega)] | rw [zt_ne (by omega) (by omega) (by omega)] | rw [zt_nle (by omega) (by omega)] | rw [zt_le (by omega) (by omega)] | rw [zt_nlt (by omega) (by omega)] | rw [zt_lt (by omega) (by omega)] | rw [zt_nm (by omega)] | rw [zt_mm] | rw [zt_ml] | rw [zt_0m] | rw [zt_m0] | rw [zt_n6 (by omega)] | rw [zt_66] | rw [zt_06] | simp (disch := omega) only [k0, k1, k2, k3, k4, k5, k6, k8, k16, k30, k60, k100, k200, k201, k300, k1500, k8000, kM, k_m6, nIa, nIp, nIs, sI_1, sI_22, sL_1, sL_21, sS_21, sS_22, sI_ne, sL_ne, sS_ne, sS_eq, sI_eq, sI_at, sL_eq, sL_at, Nat.add_zero, if_true, if_false, c1, c4, A1, c1', c5', A2, c2', A3] | rw [bV_e] | rw [pS_e] | rw [bI_s] | rw [bU_s] | rw [bL_s] | rw [gI_n (by omega) (by omega)] | rw [gR_n (by omega)] | rw [pI_n (by omega) (by omega)] | rw [gL_n (by omega) (by omega)] | rw [pL_n (by omega) (by omega)] | rw [j_X5_keepLeaf_52]))
