/-! the class: typing as a whole -/
theorem tb_s {S : St} {L : List (List Nat)} {T : List (List Mk)} {x : List Mk} (h : TC S L T) (hx : x ∈ T) (h0 : hk x = 0) : S.2.1 202 0 (ixT T x) = nI (ix L (hl1 x)) := by rw [(h.2 _ _ (ixT_get hx)).2.1]; unfold a1; rw [if_pos h0]
theorem tb_v {S : St} {L : List (List Nat)} {T : List (List Mk)} {x : List Mk} (h : TC S L T) (hx : x ∈ T) (h0 : hk x = 1 ∨ hk x = 2) : S.2.1 202 0 (ixT T x) = nI (hid x) := by rw [(h.2 _ _ (ixT_get hx)).2.1]; unfold a1; rw [if_neg (by omega), if_pos (by omega)]
theorem tb_n2 {S : St} {L : List (List Nat)} {T : List (List Mk)} {x : List Mk} (h : TC S L T) (hx : x ∈ T) (h0 : hk x = 2) : S.2.1 203 0 (ixT T x) = nI (ix L (hl1 x)) := by rw [(h.2 _ _ (ixT_get hx)).2.2.1]; unfold a2; rw [if_neg (by omega), if_pos h0]
theorem tb_n3 {S : St} {L : List (List Nat)} {T : List (List Mk)} {x : List Mk} (h : TC S L T) (hx : x ∈ T) (h0 : hk x = 2) : S.2.1 204 0 (ixT T x) = nI (ix L (hl2 x)) := by rw [(h.2 _ _ (ixT_get hx)).2.2.2.1]; unfold a3; rw [if_pos h0]
theorem hd_f {B N : Nat} {x : List Mk} (h : gdT B N x) : (hk x = 1 → hid x < B) ∧ (hk x = 2 → hid x < N ∧ lvO (hl1 x) ∧ lvO (hl2 x)) := by
  cases x with
  | nil => exact absurd (Tm_ne h.1) (by simp)
  | cons m r =>
    obtain ⟨a, b, c, d1, d2, d3⟩ := h.2.2 m List.mem_cons_self
    have d0 := (tm_parts h.1).1
    exact ⟨fun z => by have := b z; show m.2.1 < B; omega, fun z => ⟨c z, d2 z⟩⟩
theorem c_find {n : Nat} {L : List (List Nat)} {T : List (List Mk)} {Ns : List Nme} (hn : 10000 ≤ n) (he : ENV L T Ns) : ∀ (d a : Nat), d + a = 101 → FH n d a L T Ns (k_X6_find n d) := by
  have hg0 := he.2.1.2.2.2.1
  have hz := zB_le he.2.1
  have hT15 := he.2.1.1
  have h40 := he.2.2.1
  intro d
  induction d with
  | zero =>
    intro a ha S ctx x hx hl
    omega
  | succ d ih =>
    intro a ha S ctx x hx hl hc hC hX
    have hF := ih (a + 1) (by omega)
    have hgx := hg0 x hx
    have hx1 := Tm_ne hgx.1
    have ixx := ixT_lt hx
    have hp := he.2.1.2.2.2.2 x hx
    have h6 := hk_le hgx
    have hs := s_has5 (n := n) hC.1 hT15 ixx
    have tk := tb_k hC.1 hx
    have hLl := he.1.2.1
    show ∃ S', f_X6_find n (k_X6_find n d) S _ _ _ = _ ∧ _
    unfold f_X6_find
    rw [hs, bI_s, if_neg (show ¬ nI 1 = 0 by decide), if_neg (nI_pos (by omega)), if_neg (show ¬ (100 : Int32) ≤ nI ctx.length by rw [k100, nIle (by omega) (by omega)]; omega), if_neg (nI_pos (by omega)), if_pos (show nI a < 100 by rw [k100, nIlt (by omega) (by omega)]; omega), gI_n (by omega) (by omega), tk]
    have ne : ∀ k j : Nat, k ≤ 6 → j ≤ 6 → k ≠ j → ¬ nI k = nI j := fun k j h1 h2 h3 => by rw [nIeq (by omega) (by omega)]; exact h3
    rw [tyS_s]
    by_cases q0 : hk x = 0
    · rw [if_pos q0, if_pos (show nI (hk x) = 0 by rw [q0]; rfl)]
      have t1 := tb_s hC.1 hx q0
      have lv := hl1_lv hgx q0
      have mL := hp.1 q0
      have ixl := ix_lt mL
      have co := s_codeX (n := n) hC.2.1 he.1 mL
      have up := s_ofUp (n := n) (S := S) lv.1 lv.2.1 (by omega)
      obtain ⟨S6, A6, R6, F6⟩ := s_putSort (n := n) (j := 6 + a) (S := S) (l := 1 :: hl1 x) (b := (hl1 x).length < 16) rfl (fun z => lvO_1 lv z)
      have F6' : FR (FD a) S S6 := FD_in F6 (fun x hx => by simp at hx; omega)
      have K6 : KP 256 ctx.length S S6 := KP_fr F6 (by rw [rg256]; simp; omega)
      by_cases z6 : (hl1 x).length < 16
      · rw [if_pos z6]
        rw [if_pos z6] at up A6
        rw [if_pos z6] at A6
        refine ⟨S6, ?_, Nat.zero_le _, fun _ => R6 z6, K6, F6'⟩
        ((try simp only [k0, k1, k2, k3, k4, k5, k6, k8, k16, k30, k60, k100, k200, k201, k300, k1500, k8000, kM, k_m6]); repeat (first | rw [zt_eq (by omega)] | rw [zt_ne (by omega) (by omega) (by omega)] | rw [zt_nle (by omega) (by omega)] | rw [zt_le (by omega) (by omega)] | rw [zt_nlt (by omega) (by omega)] | rw [zt_lt (by omega) (by omega)] | rw [zt_nm (by omega)] | rw [zt_mm] | rw [zt_ml] | rw [zt_0m] | rw [zt_m0] | rw [zt_n6 (by omega)] | rw [zt_66] | rw [zt_06] | simp (disch := omega) only [k0, k1, k2, k3, k4, k5, k6, k8, k16, k30, k60, k100, k200, k201, k300, k1500, k8000, kM, k_m6, nIa, nIp, nIs, sI_1, sI_22, sL_1, sL_21, sS_21, sS_22, sI_ne, sL_ne, sS_ne, sS_eq, sI_eq, sI_at, sL_eq, sL_at, Nat.add_zero, if_true, if_false, t1, co, up, A6] | rw [bV_e] | rw [pS_e] | rw [bI_s] | rw [bU_s] | rw [bL_s] | rw [gI_n (by omega) (by omega)] | rw [gR_n (by omega)] | rw [pI_n (by omega) (by omega)] | rw [gL_n (by omega) (by omega)] | rw [pL_n (by omega) (by omega)]))
      · rw [if_neg z6]
        rw [if_neg z6] at up A6
        rw [if_neg z6] at A6
        refine ⟨S6, ?_, (by decide), (fun z => nomatch z), K6, F6'⟩
        ((try simp only [k0, k1, k2, k3, k4, k5, k6, k8, k16, k30, k60, k100, k200, k201, k300, k1500, k8000, kM, k_m6]); repeat (first | rw [zt_eq (by omega)] | rw [zt_ne (by omega) (by omega) (by omega)] | rw [zt_nle (by omega) (by omega)] | rw [zt_le (by omega) (by omega)] | rw [zt_nlt (by omega) (by omega)] | rw [zt_lt (by omega) (by omega)] | rw [zt_nm (by omega)] | rw [zt_mm] | rw [zt_ml] | rw [zt_0m] | rw [zt_m0] | rw [zt_n6 (by omega)] | rw [zt_66] | rw [zt_06] | simp (disch := omega) only [k0, k1, k2, k3, k4, k5, k6, k8, k16, k30, k60, k100, k200, k201, k300, k1500, k8000, kM, k_m6, nIa, nIp, nIs, sI_1, sI_22, sL_1, sL_21, sS_21, sS_22, sI_ne, sL_ne, sS_ne, sS_eq, sI_eq, sI_at, sL_eq, sL_at, Nat.add_zero, if_true, if_false, t1, co] | rw [bV_e] | rw [pS_e] | rw [bI_s] | rw [bU_s] | rw [bL_s] | rw [gI_n (by omega) (by omega)] | rw [gR_n (by omega)] | rw [pI_n (by omega) (by omega)] | rw [gL_n (by omega) (by omega)] | rw [pL_n (by omega) (by omega)]))
        rw [up, bL_s]
        ((try simp only [k0, k1, k2, k3, k4, k5, k6, k8, k16, k30, k60, k100, k200, k201, k300, k1500, k8000, kM, k_m6]); repeat (first | rw [zt_eq (by omega)] | rw [zt_ne (by omega) (by omega) (by omega)] | rw [zt_nle (by omega) (by omega)] | rw [zt_le (by omega) (by omega)] | rw [zt_nlt (by omega) (by omega)] | rw [zt_lt (by omega) (by omega)] | rw [zt_nm (by omega)] | rw [zt_mm] | rw [zt_ml] | rw [zt_0m] | rw [zt_m0] | rw [zt_n6 (by omega)] | rw [zt_66] | rw [zt_06] | simp (disch := omega) only [k0, k1, k2, k3, k4, k5, k6, k8, k16, k30, k60, k100, k200, k201, k300, k1500, k8000, kM, k_m6, nIa, nIp, nIs, sI_1, sI_22, sL_1, sL_21, sS_21, sS_22, sI_ne, sL_ne, sS_ne, sS_eq, sI_eq, sI_at, sL_eq, sL_at, Nat.add_zero, if_true, if_false, A6] | rw [bV_e] | rw [pS_e] | rw [bI_s] | rw [bU_s] | rw [bL_s] | rw [gI_n (by omega) (by omega)] | rw [gR_n (by omega)] | rw [pI_n (by omega) (by omega)] | rw [gL_n (by omega) (by omega)] | rw [pL_n (by omega) (by omega)]))
    · rw [if_neg q0, if_neg (show ¬ nI (hk x) = 0 from ne _ 0 h6 (by omega) q0)]
      by_cases q1 : hk x = 1
      · rw [if_pos q1, if_pos (show nI (hk x) = 1 by rw [q1]; rfl)]
        have t1 := tb_v hC.1 hx (Or.inl q1)
        have hi60 := (hd_f hgx).1 q1
        unfold tyV
        by_cases z : hid x < ctx.length
        · have e9 := List.getElem?_eq_getElem z
          obtain ⟨c1, c2⟩ := hX _ _ e9
          have ixc := ixT_lt c2
          obtain ⟨S5, A5, R5, F5⟩ := s_spread (n := n) (j := 6 + a) he.1 he.2.1 hC.1 hC.2.1 (ixT_get c2) (by omega)
          obtain ⟨S6, A6, R6, F6⟩ := s_raise (n := n) (e := hid x + 1) (gd_mBs (hg0 _ c2) (by omega) h40) R5 (by omega)
          have F6' : FR (FD a) S S6 := FR_tr (FD_in F5 (fun x hx => by simp at hx; omega)) (FD_in F6 (fun x hx => by simp at hx; omega))
          have K6 : KP 256 ctx.length S S6 := KP_tr (KP_fr F5 (by rw [rg256]; simp; omega)) (KP_fr F6 (by rw [rg256]; simp; omega))
          rw [e9]
          refine ⟨S6, ?_, Nat.zero_le _, fun _ => R6, K6, F6'⟩
          ((try simp only [k0, k1, k2, k3, k4, k5, k6, k8, k16, k30, k60, k100, k200, k201, k300, k1500, k8000, kM, k_m6]); repeat (first | rw [zt_eq (by omega)] | rw [zt_ne (by omega) (by omega) (by omega)] | rw [zt_nle (by omega) (by omega)] | rw [zt_le (by omega) (by omega)] | rw [zt_nlt (by omega) (by omega)] | rw [zt_lt (by omega) (by omega)] | rw [zt_nm (by omega)] | rw [zt_mm] | rw [zt_ml] | rw [zt_0m] | rw [zt_m0] | rw [zt_n6 (by omega)] | rw [zt_66] | rw [zt_06] | simp (disch := omega) only [k0, k1, k2, k3, k4, k5, k6, k8, k16, k30, k60, k100, k200, k201, k300, k1500, k8000, kM, k_m6, nIa, nIp, nIs, sI_1, sI_22, sL_1, sL_21, sS_21, sS_22, sI_ne, sL_ne, sS_ne, sS_eq, sI_eq, sI_at, sL_eq, sL_at, Nat.add_zero, if_true, if_false, t1, c1, A5, A6] | rw [bV_e] | rw [pS_e] | rw [bI_s] | rw [bU_s] | rw [bL_s] | rw [gI_n (by omega) (by omega)] | rw [gR_n (by omega)] | rw [pI_n (by omega) (by omega)] | rw [gL_n (by omega) (by omega)] | rw [pL_n (by omega) (by omega)] | rw [f_X6_putBinderType]))
        · have e9 : ctx[hid x]? = none := List.getElem?_eq_none (by omega)
          rw [e9]
          show ∃ S', _ = some (S', nI 1) ∧ 1 ≤ 8 ∧ (1 = 0 → RW S' (6 + a) []) ∧ _
          refine ⟨S, ?_, (by decide), (fun z => nomatch z), KP_rf, FR_rf⟩
          ((try simp only [k0, k1, k2, k3, k4, k5, k6, k8, k16, k30, k60, k100, k200, k201, k300, k1500, k8000, kM, k_m6]); repeat (first | rw [zt_eq (by omega)] | rw [zt_ne (by omega) (by omega) (by omega)] | rw [zt_nle (by omega) (by omega)] | rw [zt_le (by omega) (by omega)] | rw [zt_nlt (by omega) (by omega)] | rw [zt_lt (by omega) (by omega)] | rw [zt_nm (by omega)] | rw [zt_mm] | rw [zt_ml] | rw [zt_0m] | rw [zt_m0] | rw [zt_n6 (by omega)] | rw [zt_66] | rw [zt_06] | simp (disch := omega) only [k0, k1, k2, k3, k4, k5, k6, k8, k16, k30, k60, k100, k200, k201, k300, k1500, k8000, kM, k_m6, nIa, nIp, nIs, sI_1, sI_22, sL_1, sL_21, sS_21, sS_22, sI_ne, sL_ne, sS_ne, sS_eq, sI_eq, sI_at, sL_eq, sL_at, Nat.add_zero, if_true, if_false, t1] | rw [bV_e] | rw [pS_e] | rw [bI_s] | rw [bU_s] | rw [bL_s] | rw [gI_n (by omega) (by omega)] | rw [gR_n (by omega)] | rw [pI_n (by omega) (by omega)] | rw [gL_n (by omega) (by omega)] | rw [pL_n (by omega) (by omega)] | rw [f_X6_putBinderType]))
      · rw [if_neg q1, if_neg (show ¬ nI (hk x) = 1 from ne _ 1 h6 (by omega) q1)]
        by_cases q2 : hk x = 2
        · rw [if_pos q2, if_pos (show nI (hk x) = 2 by rw [q2]; rfl)]
          obtain ⟨hiN, lv1, lv2⟩ := (hd_f hgx).2 q2
          have t1 := tb_v hC.1 hx (Or.inr q2)
          obtain ⟨mL1, mL2⟩ := hp.2.1 q2
          have e9 := List.getElem?_eq_getElem hiN
          have tO := s_typeOf2 (n := n) hC.2.2 h40 e9
          have mT := (he.2.2.2 _ (List.getElem_mem hiN)).2.1
          have enT : ntyp Ns (hid x) = (Ns[hid x]'hiN).2.1 := by unfold ntyp; rw [e9]
          rw [enT]
          generalize (Ns[hid x]'hiN).2.1 = ty at *
          have ixt := ixT_lt mT
          obtain ⟨S5, A5, R5, F5⟩ := s_spread (n := n) (j := 6 + a) he.1 he.2.1 hC.1 hC.2.1 (ixT_get mT) (by omega)
          have F5' : FR (FD a) S S5 := FD_in F5 (fun x hx => by simp at hx; omega)
          have C5 := CS_FD hC F5'
          have t2 := tb_n2 C5.1 hx q2
          have t3 := tb_n3 C5.1 hx q2
          have ixl := ix_lt mL1
          have ixl2 := ix_lt mL2
          have co1 := s_codeX (n := n) C5.2.1 he.1 mL1
          have co2 := s_codeX (n := n) C5.2.1 he.1 mL2
          obtain ⟨S6, A6, R6, F6⟩ := s_giveLevels (n := n) (a := hl1 x) (b := hl2 x) lv1 lv2 (gdT_mV (hg0 _ mT) (by omega) (by omega)) (by omega) R5
          have F6' : FR (FD a) S S6 := FR_tr F5' (FD_in F6 (fun x hx => by simp at hx; omega))
          have K6 : KP 256 ctx.length S S6 := KP_tr (KP_fr F5 (by rw [rg256]; simp; omega)) (KP_fr F6 (by rw [rg256]; simp; omega))
          unfold tyN
          by_cases z : (ty.map (gvM (hl1 x) (hl2 x))).all f16 = true
          · rw [if_pos z]
            rw [if_pos z] at A6
            have A6' : f_X4_giveLevels n S5 (6 + a) (en (hl1 x)) (en (hl2 x)) = some (S6, nI 1) := A6
            refine ⟨S6, ?_, Nat.zero_le _, fun _ => R6 z, K6, F6'⟩
            ((try simp only [k0, k1, k2, k3, k4, k5, k6, k8, k16, k30, k60, k100, k200, k201, k300, k1500, k8000, kM, k_m6]); repeat (first | rw [zt_eq (by omega)] | rw [zt_ne (by omega) (by omega) (by omega)] | rw [zt_nle (by omega) (by omega)] | rw [zt_le (by omega) (by omega)] | rw [zt_nlt (by omega) (by omega)] | rw [zt_lt (by omega) (by omega)] | rw [zt_nm (by omega)] | rw [zt_mm] | rw [zt_ml] | rw [zt_0m] | rw [zt_m0] | rw [zt_n6 (by omega)] | rw [zt_66] | rw [zt_06] | simp (disch := omega) only [k0, k1, k2, k3, k4, k5, k6, k8, k16, k30, k60, k100, k200, k201, k300, k1500, k8000, kM, k_m6, nIa, nIp, nIs, sI_1, sI_22, sL_1, sL_21, sS_21, sS_22, sI_ne, sL_ne, sS_ne, sS_eq, sI_eq, sI_at, sL_eq, sL_at, Nat.add_zero, if_true, if_false, t1, tO, A5, t2, co1, t3, co2, A6'] | rw [bV_e] | rw [pS_e] | rw [bI_s] | rw [bU_s] | rw [bL_s] | rw [gI_n (by omega) (by omega)] | rw [gR_n (by omega)] | rw [pI_n (by omega) (by omega)] | rw [gL_n (by omega) (by omega)] | rw [pL_n (by omega) (by omega)] | rw [f_X6_putNameType]))
          · rw [if_neg z]
            rw [if_neg z] at A6
            have A6' : f_X4_giveLevels n S5 (6 + a) (en (hl1 x)) (en (hl2 x)) = some (S6, nI 0) := A6
            refine ⟨S6, ?_, (by decide), (fun z => nomatch z), K6, F6'⟩
            ((try simp only [k0, k1, k2, k3, k4, k5, k6, k8, k16, k30, k60, k100, k200, k201, k300, k1500, k8000, kM, k_m6]); repeat (first | rw [zt_eq (by omega)] | rw [zt_ne (by omega) (by omega) (by omega)] | rw [zt_nle (by omega) (by omega)] | rw [zt_le (by omega) (by omega)] | rw [zt_nlt (by omega) (by omega)] | rw [zt_lt (by omega) (by omega)] | rw [zt_nm (by omega)] | rw [zt_mm] | rw [zt_ml] | rw [zt_0m] | rw [zt_m0] | rw [zt_n6 (by omega)] | rw [zt_66] | rw [zt_06] | simp (disch := omega) only [k0, k1, k2, k3, k4, k5, k6, k8, k16, k30, k60, k100, k200, k201, k300, k1500, k8000, kM, k_m6, nIa, nIp, nIs, sI_1, sI_22, sL_1, sL_21, sS_21, sS_22, sI_ne, sL_ne, sS_ne, sS_eq, sI_eq, sI_at, sL_eq, sL_at, Nat.add_zero, if_true, if_false, t1, tO, A5, t2, co1, t3, co2, A6'] | rw [bV_e] | rw [pS_e] | rw [bI_s] | rw [bU_s] | rw [bL_s] | rw [gI_n (by omega) (by omega)] | rw [gR_n (by omega)] | rw [pI_n (by omega) (by omega)] | rw [gL_n (by omega) (by omega)] | rw [pL_n (by omega) (by omega)] | rw [f_X6_putNameType]))
        · rw [if_neg q2, if_neg (show ¬ nI (hk x) = 2 from ne _ 2 h6 (by omega) q2)]
          by_cases q3 : hk x = 3
          · rw [if_pos q3, if_pos (show nI (hk x) = 3 by rw [q3]; rfl)]
            obtain ⟨S1, A1, W⟩ := c_pi hn he hF (by omega) hx q3 hl hc hC hX
            refine ⟨S1, ?_, W⟩
            ((try simp only [k0, k1, k2, k3, k4, k5, k6, k8, k16, k30, k60, k100, k200, k201, k300, k1500, k8000, kM, k_m6]); repeat (first | rw [zt_eq (by omega)] | rw [zt_ne (by omega) (by omega) (by omega)] | rw [zt_nle (by omega) (by omega)] | rw [zt_le (by omega) (by omega)] | rw [zt_nlt (by omega) (by omega)] | rw [zt_lt (by omega) (by omega)] | rw [zt_nm (by omega)] | rw [zt_mm] | rw [zt_ml] | rw [zt_0m] | rw [zt_m0] | rw [zt_n6 (by omega)] | rw [zt_66] | rw [zt_06] | simp (disch := omega) only [k0, k1, k2, k3, k4, k5, k6, k8, k16, k30, k60, k100, k200, k201, k300, k1500, k8000, kM, k_m6, nIa, nIp, nIs, sI_1, sI_22, sL_1, sL_21, sS_21, sS_22, sI_ne, sL_ne, sS_ne, sS_eq, sI_eq, sI_at, sL_eq, sL_at, Nat.add_zero, if_true, if_false, A1] | rw [bV_e] | rw [pS_e] | rw [bI_s] | rw [bU_s] | rw [bL_s] | rw [gI_n (by omega) (by omega)] | rw [gR_n (by omega)] | rw [pI_n (by omega) (by omega)] | rw [gL_n (by omega) (by omega)] | rw [pL_n (by omega) (by omega)]))
          · rw [if_neg q3, if_neg (show ¬ nI (hk x) = 3 from ne _ 3 h6 (by omega) q3)]
            by_cases q4 : hk x = 4
            · rw [if_pos q4, if_pos (show nI (hk x) = 4 by rw [q4]; rfl)]
              obtain ⟨S1, A1, W⟩ := c_la hn he hF (by omega) hx q4 hl hc hC hX
              refine ⟨S1, ?_, W⟩
              ((try simp only [k0, k1, k2, k3, k4, k5, k6, k8, k16, k30, k60, k100, k200, k201, k300, k1500, k8000, kM, k_m6]); repeat (first | rw [zt_eq (by omega)] | rw [zt_ne (by omega) (by omega) (by omega)] | rw [zt_nle (by omega) (by omega)] | rw [zt_le (by omega) (by omega)] | rw [zt_nlt (by omega) (by omega)] | rw [zt_lt (by omega) (by omega)] | rw [zt_nm (by omega)] | rw [zt_mm] | rw [zt_ml] | rw [zt_0m] | rw [zt_m0] | rw [zt_n6 (by omega)] | rw [zt_66] | rw [zt_06] | simp (disch := omega) only [k0, k1, k2, k3, k4, k5, k6, k8, k16, k30, k60, k100, k200, k201, k300, k1500, k8000, kM, k_m6, nIa, nIp, nIs, sI_1, sI_22, sL_1, sL_21, sS_21, sS_22, sI_ne, sL_ne, sS_ne, sS_eq, sI_eq, sI_at, sL_eq, sL_at, Nat.add_zero, if_true, if_false, A1] | rw [bV_e] | rw [pS_e] | rw [bI_s] | rw [bU_s] | rw [bL_s] | rw [gI_n (by omega) (by omega)] | rw [gR_n (by omega)] | rw [pI_n (by omega) (by omega)] | rw [gL_n (by omega) (by omega)] | rw [pL_n (by omega) (by omega)]))
            · rw [if_neg q4, if_neg (show ¬ nI (hk x) = 4 from ne _ 4 h6 (by omega) q4)]
              by_cases q5 : hk x = 5
              · rw [if_pos q5, if_pos (show nI (hk x) = 5 by rw [q5]; rfl)]
                obtain ⟨S1, A1, W⟩ := c_ap hn he hF (by omega) hx q5 hl hc hC hX
                refine ⟨S1, ?_, W⟩
                ((try simp only [k0, k1, k2, k3, k4, k5, k6, k8, k16, k30, k60, k100, k200, k201, k300, k1500, k8000, kM, k_m6]); repeat (first | rw [zt_eq (by omega)] | rw [zt_ne (by omega) (by omega) (by omega)] | rw [zt_nle (by omega) (by omega)] | rw [zt_le (by omega) (by omega)] | rw [zt_nlt (by omega) (by omega)] | rw [zt_lt (by omega) (by omega)] | rw [zt_nm (by omega)] | rw [zt_mm] | rw [zt_ml] | rw [zt_0m] | rw [zt_m0] | rw [zt_n6 (by omega)] | rw [zt_66] | rw [zt_06] | simp (disch := omega) only [k0, k1, k2, k3, k4, k5, k6, k8, k16, k30, k60, k100, k200, k201, k300, k1500, k8000, kM, k_m6, nIa, nIp, nIs, sI_1, sI_22, sL_1, sL_21, sS_21, sS_22, sI_ne, sL_ne, sS_ne, sS_eq, sI_eq, sI_at, sL_eq, sL_at, Nat.add_zero, if_true, if_false, A1] | rw [bV_e] | rw [pS_e] | rw [bI_s] | rw [bU_s] | rw [bL_s] | rw [gI_n (by omega) (by omega)] | rw [gR_n (by omega)] | rw [pI_n (by omega) (by omega)] | rw [gL_n (by omega) (by omega)] | rw [pL_n (by omega) (by omega)]))
              · rw [if_neg q5, if_neg (show ¬ nI (hk x) = 5 from ne _ 5 h6 (by omega) q5)]
                have q6 : hk x = 6 := by omega
                obtain ⟨S1, A1, W⟩ := c_le hn he hF (by omega) hx q6 hl hc hC hX
                refine ⟨S1, ?_, W⟩
                ((try simp only [k0, k1, k2, k3, k4, k5, k6, k8, k16, k30, k60, k100, k200, k201, k300, k1500, k8000, kM, k_m6]); repeat (first | rw [zt_eq (by omega)] | rw [zt_ne (by omega) (by omega) (by omega)] | rw [zt_nle (by omega) (by omega)] | rw [zt_le (by omega) (by omega)] | rw [zt_nlt (by omega) (by omega)] | rw [zt_lt (by omega) (by omega)] | rw [zt_nm (by omega)] | rw [zt_mm] | rw [zt_ml] | rw [zt_0m] | rw [zt_m0] | rw [zt_n6 (by omega)] | rw [zt_66] | rw [zt_06] | simp (disch := omega) only [k0, k1, k2, k3, k4, k5, k6, k8, k16, k30, k60, k100, k200, k201, k300, k1500, k8000, kM, k_m6, nIa, nIp, nIs, sI_1, sI_22, sL_1, sL_21, sS_21, sS_22, sI_ne, sL_ne, sS_ne, sS_eq, sI_eq, sI_at, sL_eq, sL_at, Nat.add_zero, if_true, if_false, A1] | rw [bV_e] | rw [pS_e] | rw [bI_s] | rw [bU_s] | rw [bL_s] | rw [gI_n (by omega) (by omega)] | rw [gR_n (by omega)] | rw [pI_n (by omega) (by omega)] | rw [gL_n (by omega) (by omega)] | rw [pL_n (by omega) (by omega)]))
