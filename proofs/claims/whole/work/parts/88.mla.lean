/-! the reference: types of functions -/
theorem flt_pi {a b : List Mk} : flt (piT a b) = 3 :: (flt a ++ flt b) := by
  unfold piT
  rw [flt_c, flt_app, flt_sh]; rfl
theorem S75 {S : St} {v : Int32} : FR TZ S (sS S 375 0 v) := FR_sS FR_rf (by rw [rg8 (by omega)]; decide)
theorem fit_szd {t : List Mk} (h : t.all f16 = true) : fitB t = decide (t.length ≤ 200) := by unfold fitB; rw [h, Bool.and_true]
theorem pi_f16 {B N : Nat} {a b : List Mk} (ha : gdT B N a) (hb : gdT (B + 1) N b) : (piT a b).all f16 = true := by
  unfold piT
  rw [List.all_cons, List.all_append, all_sh, f16_gd ha, f16_gd hb]
  rfl
theorem pi_mW {B N : Nat} {a b : List Mk} (ha : gdT B N a) (hb : gdT (B + 1) N b) (hB : B ≤ 1200000) (hN : N ≤ 40) : ∀ m ∈ piT a b, mW m := by
  intro m hm
  rcases List.mem_cons.mp hm with z | z
  · rw [z]
    exact ⟨by simp, by simp, fun z => (by cases z), fun z => (by cases z), fun _ _ => rfl, fun _ => rfl⟩
  · rcases List.mem_append.mp z with z | z
    · exact gd_mW ha (by omega) hN m z
    · obtain ⟨w, hw, rfl⟩ := List.mem_map.mp z
      exact mW_sh (gd_mW hb (by omega) hN w hw)
theorem m_la {n d a o q : Nat} {L : List (List Nat)} {T : List (List Mk)} {Ns : List Nme} {F : St → Int32 → Option (St × Int32)} {S : St} {ctx : List (List Mk)} {x : List Mk} (hn : 10000 ≤ n) (he : ENV L T Ns) (hF : FM n d (a + 1) L T Ns F) (hd : d + a ≤ 101) (h3 : hk x = 4) (hg : gdT (zB T + ctx.length) Ns.length x) (hl : x.length + 2 * a ≤ 200) (hc : ctx.length ≤ a) (hM : MS S L T Ns) (hX : RX S ctx) (hko : cOk (zB T) Ns.length ctx) (hs : sg (S.2.1 367 0) o (flt x)) (ho : o + (flt x).length ≤ 8000) (h5 : S.1 375 0 = nI q) (hq : q ≤ 7000 * a) : ∃ S', f_X8_typeOfLambda n F S (nI o) = some (S', nI (tyLa Ns (tyS Ns d) ctx x).1) ∧ ((tyLa Ns (tyS Ns d) ctx x).1 = 0 → RS S' q (tyLa Ns (tyS Ns d) ctx x).2 ∧ S'.1 383 0 = nI ctx.length) ∧ (tyLa Ns (tyS Ns d) ctx x).1 ≤ 8 ∧ KP 371 q S S' ∧ KP 382 ctx.length S S' ∧ FR TZ S S' := by
  have h40 := he.2.2.1
  have hz := zB_le he.2.1
  obtain ⟨fx, lx⟩ := (flt_pt hg).1 (by omega) (by omega)
  obtain ⟨g1, g2⟩ := (gd_pt hg).1 (by omega)
  rw [h3, show dl 4 = 1 from rfl] at g2
  have l1 := Tm_ne g1.1
  have l2 := Tm_ne g2.1
  rw [fx] at hs ho
  rw [List.length_cons, List.length_append] at ho
  have hs1 := (sg_app.mp hs.2).1
  have hs2 := (sg_app.mp hs.2).2
  have n7 : ∀ R : List Nat, 367 ∉ R → rg 367 0 ∉ R := fun R h => n8o (by omega) h
  have n1 : ∀ R : List Nat, 371 ∉ R → rg 371 0 ∉ R := fun R h => n8o (by omega) h
  obtain ⟨S1, A1, R1, B1, K1, K1', F1⟩ := m_sort (n := n) (o := o + 1) hn he hF (by omega) (by omega) g1 (by omega) (by omega) hM hX hko hs1 (by omega) h5 (by omega)
  unfold tyLa
  generalize srt Ns (tyS Ns d ctx (p1 x)) = s1 at *
  unfold f_X8_typeOfLambda
  by_cases z1 : s1.1 = 0
  · obtain ⟨R1a, R1b, lv1⟩ := R1 z1
    rw [z1] at A1
    rw [thn_0 z1]
    have F2 : FR TZ S (sS S1 375 0 (nI q)) := FR_tr F1 S75
    have K2 : KP 371 q S (sS S1 375 0 (nI q)) := KP_tr K1 (fun i _ => rfl)
    have K2' : KP 382 ctx.length S (sS S1 375 0 (nI q)) := KP_tr K1' (fun i _ => rfl)
    have R2b : (sS S1 375 0 (nI q)).1 383 0 = nI ctx.length := by rw [sS_ne (by omega)]; exact R1b
    have X2 := RX_k hX K2' F2 (by decide) R2b
    have S2s : sg ((sS S1 375 0 (nI q)).2.1 367 0) (o + 1) (flt (p1 x)) := sg_fr F2 (n7 _ (by decide)) hs1
    have bT := s_behindTerm (n := n) (f := 367) (S := sS S1 375 0 (nI q)) (o := o + 1) (by omega) g1.1 (gd_mW g1 (by omega) h40) S2s (by rw [ln367]; omega) (by omega)
    have X3 := RX_c X2 S2s (by omega)
    have F3 : FR TZ S (sS (sI (sS S1 375 0 (nI q)) 382 0 ctx.length (nI (o + 1))) 383 0 (nI (ctx.length + 1))) := FR_sS (FR_sI F2 (by rw [rg8 (by omega)]; decide)) (by rw [rg8 (by omega)]; decide)
    have M3 := MS_TZ hM F3
    have K3 : KP 371 q S (sS (sI (sS S1 375 0 (nI q)) 382 0 ctx.length (nI (o + 1))) 383 0 (nI (ctx.length + 1))) := KP_tr K2 (fun i _ => by rw [sS_21, sI_ne (by omega)])
    have K3' : KP 382 ctx.length S (sS (sI (sS S1 375 0 (nI q)) 382 0 ctx.length (nI (o + 1))) 383 0 (nI (ctx.length + 1))) := KP_tr K2' (fun i hi => by rw [sS_21, sI_at (by omega)])
    obtain ⟨S4, A4, R4, B4, K4, K4', F4⟩ := hF (sS (sI (sS S1 375 0 (nI q)) 382 0 ctx.length (nI (o + 1))) 383 0 (nI (ctx.length + 1))) (p1 x :: ctx) (p2 x) (o + 1 + (flt (p1 x)).length) q g2 (by omega) (by rw [List.length_cons]; omega) M3 X3 ⟨g1, hko⟩ (sg_fr F3 (n7 _ (by decide)) hs2) (by omega) (by rw [sS_ne (by omega), sI_1, sS_eq]) (by omega)
    have gd4 := tyS_gd he d (p1 x :: ctx) (p2 x) g2 ⟨g1, hko⟩ (by rw [List.length_cons]; omega)
    rw [List.length_cons] at R4 K4' gd4
    have F4' : FR TZ S S4 := FR_tr F3 F4
    have K4a : KP 371 q S S4 := KP_tr K3 K4
    have K4b : KP 382 ctx.length S S4 := KP_tr K3' (KP_mo K4' (by omega))
    generalize tyS Ns d (p1 x :: ctx) (p2 x) = r4 at *
    by_cases z4 : r4.1 = 0
    · obtain ⟨⟨w1, w2⟩, R4b⟩ := R4 z4
      have g4 := gd4 z4
      have fl4 := gd_flt g4 (by omega) h40
      rw [z4] at A4
      rw [thn_0 z4]
      have e83 : nI (ctx.length + 1) - nI 1 = nI ctx.length := by rw [nIs (by omega)]; rfl
      have F5 : FR TZ S (sS S4 383 0 (nI ctx.length)) := FR_tr F4' S83
      have f6 := S00_fr (S := sS S4 383 0 (nI ctx.length))
      have w1' : sg ((sS S4 383 0 (nI ctx.length)).2.1 371 0) q (flt r4.2) := w1
      obtain ⟨S8, a8, b8, f8⟩ := s_put (n := n) (S := S00 (sS S4 383 0 (nI ctx.length))) NXT_0 (x := 3) (v := nI 3) rfl
      have f68 := FR_tr f6 f8
      have s5 : sg ((sS S4 383 0 (nI ctx.length)).2.1 367 0) (o + 1) (flt (p1 x)) := sg_fr F5 (n7 _ (by decide)) hs1
      obtain ⟨S9, a9, b9, f9⟩ := s_copy (n := n) (f := 367) (e := o + 1 + (flt (p1 x)).length) (by omega) (by omega) (sg_fr f68 (n7 _ (by decide)) s5) b8 rfl (by rw [ln367]; omega) (by omega)
      have f69 := FR_tr f68 f9
      have w2' : S9.1 375 0 = nI (q + (flt r4.2).length) := by rw [(f69 375 0 (n8o (by omega) (by decide))).1, sS_ne (by omega)]; exact w2
      obtain ⟨S10, a10, b10, f10⟩ := s_copy (n := n) (f := 371) (e := q + (flt r4.2).length) (by omega) (by omega) (sg_fr f69 (n1 _ (by decide)) w1') b9 rfl (by rw [ln371]; omega) (by omega)
      have f610 := FR_tr f69 f10
      obtain ⟨S11, a11, b11, k11, f11⟩ := s_settle (n := n) (q := q) (t := piT (p1 x) r4.2) hn b10 (by rw [flt_pi]; simp) (pi_mW g1 g4 (by omega) h40) (by omega)
      have F11 : FR TZ S S11 := FR_tr F5 (FR_tr (NRTZ f610) (nzTZ (FR_mo f11 (by simp))))
      have K5a : KP 371 q S (sS S4 383 0 (nI ctx.length)) := KP_tr K4a (fun i _ => rfl)
      have K5b : KP 382 ctx.length S (sS S4 383 0 (nI ctx.length)) := KP_tr K4b (fun i _ => rfl)
      have K11 : KP 371 q S S11 := KP_tr K5a (KP_tr (KP_fr f610 (n1 NR (by decide))) k11)
      have K11' : KP 382 ctx.length S S11 := KP_tr K5b (KP_tr (n382 f610 (by decide)) (n382 f11 (by decide)))
      have h83 : S11.1 383 0 = nI ctx.length := by rw [(f11 383 0 (n8o (by omega) (by decide))).1, (f610 383 0 (n8o (by omega) (by decide))).1]; exact sS_eq
      rw [fit_szd (pi_f16 g1 g4)] at a11 b11
      unfold szd
      by_cases z : (piT (p1 x) r4.2).length ≤ 200
      · rw [decide_eq_true z] at a11 b11
        rw [if_pos z]
        refine ⟨S11, ?_, fun _ => ⟨b11 rfl, h83⟩, Nat.zero_le _, K11, K11', F11⟩
        have a11' : f_X8_settle n S10 (nI q) = some (S11, nI 0) := a11
        unfold S00 at a8
        ((try simp only [k0, k1, k2, k3, k4, k5, k6, k8, k16, k30, k60, k100, k200, k201, k300, k1500, k8000, kM, k_m6]); repeat (first | rw [zt_eq (by omega)] | rw [zt_ne (by omega) (by omega) (by omega)] | rw [zt_nle (by omega) (by omega)] | rw [zt_le (by omega) (by omega)] | rw [zt_nlt (by omega) (by omega)] | rw [zt_lt (by omega) (by omega)] | rw [zt_nm (by omega)] | rw [zt_mm] | rw [zt_ml] | rw [zt_0m] | rw [zt_m0] | rw [zt_n6 (by omega)] | rw [zt_66] | rw [zt_06] | simp (disch := omega) only [k0, k1, k2, k3, k4, k5, k6, k8, k16, k30, k60, k100, k200, k201, k300, k1500, k8000, kM, k_m6, nIa, nIp, nIs, sI_1, sI_22, sL_1, sL_21, sS_21, sS_22, sI_ne, sL_ne, sS_ne, sS_eq, sI_eq, sI_at, sL_eq, sL_at, Nat.add_zero, if_true, if_false, h5, A1, R2b, R1b, bT, A4, R4b, e83, Nat.add_sub_cancel, a8, a9, w2', a10, a11'] | rw [bV_e] | rw [pS_e] | rw [bI_s] | rw [bU_s] | rw [bL_s] | rw [gI_n (by omega) (by omega)] | rw [gR_n (by omega)] | rw [pI_n (by omega) (by omega)] | rw [gL_n (by omega) (by omega)] | rw [pL_n (by omega) (by omega)]))
      · rw [decide_eq_false z] at a11
        rw [if_neg z]
        refine ⟨S11, ?_, (fun w => nomatch w), (by decide), K11, K11', F11⟩
        have a11' : f_X8_settle n S10 (nI q) = some (S11, nI 5) := a11
        unfold S00 at a8
        ((try simp only [k0, k1, k2, k3, k4, k5, k6, k8, k16, k30, k60, k100, k200, k201, k300, k1500, k8000, kM, k_m6]); repeat (first | rw [zt_eq (by omega)] | rw [zt_ne (by omega) (by omega) (by omega)] | rw [zt_nle (by omega) (by omega)] | rw [zt_le (by omega) (by omega)] | rw [zt_nlt (by omega) (by omega)] | rw [zt_lt (by omega) (by omega)] | rw [zt_nm (by omega)] | rw [zt_mm] | rw [zt_ml] | rw [zt_0m] | rw [zt_m0] | rw [zt_n6 (by omega)] | rw [zt_66] | rw [zt_06] | simp (disch := omega) only [k0, k1, k2, k3, k4, k5, k6, k8, k16, k30, k60, k100, k200, k201, k300, k1500, k8000, kM, k_m6, nIa, nIp, nIs, sI_1, sI_22, sL_1, sL_21, sS_21, sS_22, sI_ne, sL_ne, sS_ne, sS_eq, sI_eq, sI_at, sL_eq, sL_at, Nat.add_zero, if_true, if_false, h5, A1, R2b, R1b, bT, A4, R4b, e83, Nat.add_sub_cancel, a8, a9, w2', a10, a11'] | rw [bV_e] | rw [pS_e] | rw [bI_s] | rw [bU_s] | rw [bL_s] | rw [gI_n (by omega) (by omega)] | rw [gR_n (by omega)] | rw [pI_n (by omega) (by omega)] | rw [gL_n (by omega) (by omega)] | rw [pL_n (by omega) (by omega)]))
    · rw [thn_n z4]
      refine ⟨sS S4 383 0 (S4.1 383 0 - nI 1), ?_, fun w => absurd w z4, B4, KP_tr K4a (fun i _ => rfl), KP_tr K4b (fun i _ => rfl), FR_tr F4' S83⟩
      ((try simp only [k0, k1, k2, k3, k4, k5, k6, k8, k16, k30, k60, k100, k200, k201, k300, k1500, k8000, kM, k_m6]); repeat (first | rw [zt_eq (by omega)] | rw [zt_ne (by omega) (by omega) (by omega)] | rw [zt_nle (by omega) (by omega)] | rw [zt_le (by omega) (by omega)] | rw [zt_nlt (by omega) (by omega)] | rw [zt_lt (by omega) (by omega)] | rw [zt_nm (by omega)] | rw [zt_mm] | rw [zt_ml] | rw [zt_0m] | rw [zt_m0] | rw [zt_n6 (by omega)] | rw [zt_66] | rw [zt_06] | simp (disch := omega) only [k0, k1, k2, k3, k4, k5, k6, k8, k16, k30, k60, k100, k200, k201, k300, k1500, k8000, kM, k_m6, nIa, nIp, nIs, sI_1, sI_22, sL_1, sL_21, sS_21, sS_22, sI_ne, sL_ne, sS_ne, sS_eq, sI_eq, sI_at, sL_eq, sL_at, Nat.add_zero, if_true, if_false, h5, A1, R2b, R1b, bT, A4] | rw [bV_e] | rw [pS_e] | rw [bI_s] | rw [bU_s] | rw [bL_s] | rw [gI_n (by omega) (by omega)] | rw [gR_n (by omega)] | rw [pI_n (by omega) (by omega)] | rw [gL_n (by omega) (by omega)] | rw [pL_n (by omega) (by omega)]))
  · rw [thn_n z1]
    refine ⟨S1, ?_, fun w => absurd w z1, B1, K1, K1', F1⟩
    ((try simp only [k0, k1, k2, k3, k4, k5, k6, k8, k16, k30, k60, k100, k200, k201, k300, k1500, k8000, kM, k_m6]); repeat (first | rw [zt_eq (by omega)] | rw [zt_ne (by omega) (by omega) (by omega)] | rw [zt_nle (by omega) (by omega)] | rw [zt_le (by omega) (by omega)] | rw [zt_nlt (by omega) (by omega)] | rw [zt_lt (by omega) (by omega)] | rw [zt_nm (by omega)] | rw [zt_mm] | rw [zt_ml] | rw [zt_0m] | rw [zt_m0] | rw [zt_n6 (by omega)] | rw [zt_66] | rw [zt_06] | simp (disch := omega) only [k0, k1, k2, k3, k4, k5, k6, k8, k16, k30, k60, k100, k200, k201, k300, k1500, k8000, kM, k_m6, nIa, nIp, nIs, sI_1, sI_22, sL_1, sL_21, sS_21, sS_22, sI_ne, sL_ne, sS_ne, sS_eq, sI_eq, sI_at, sL_eq, sL_at, Nat.add_zero, if_true, if_false, h5, A1] | rw [bV_e] | rw [pS_e] | rw [bI_s] | rw [bU_s] | rw [bL_s] | rw [gI_n (by omega) (by omega)] | rw [gR_n (by omega)] | rw [pI_n (by omega) (by omega)] | rw [gL_n (by omega) (by omega)] | rw [pL_n (by omega) (by omega)]))
