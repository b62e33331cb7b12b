/-! the reference: types of function types and of functions -/
theorem flt_pt {B N : Nat} {x : List Mk} (h : gdT B N x) : (3 ≤ hk x → hk x ≠ 6 → flt x = hk x :: (flt (p1 x) ++ flt (p2 x)) ∧ x.length = 1 + (p1 x).length + (p2 x).length) ∧ (hk x = 6 → flt x = 6 :: (flt (p1 x) ++ (flt (p2 x) ++ flt (p3 x))) ∧ x.length = 1 + (p1 x).length + (p2 x).length + (p3 x).length) := by
  obtain ⟨t1, t2, t3⟩ := tlen h
  cases x with
  | nil => exact absurd (Tm_ne h.1) (by simp)
  | cons m r =>
    have h6 : m.1 ≤ 6 := hk_le h
    obtain ⟨d0, dA, dB, dC, dD⟩ := tm_parts h.1
    refine ⟨fun z w => ⟨?_, t2 z w⟩, fun z => ⟨?_, t3 z⟩⟩
    · have z' : 3 ≤ m.1 := z
      have e := dC ((ar_2 z' h6).2.2.mp w)
      rw [flt_c, tks_3 z']
      conv => lhs; rw [e]
      rw [flt_app, flt_sh]
      rfl
    · have z' : m.1 = 6 := z
      have e := (dD ((ar_2 (by omega) h6).2.1.mp z')).1
      rw [flt_c, tks_3 (by omega), z']
      conv => lhs; rw [e]
      rw [flt_app, flt_app, flt_sh]
      rfl
theorem S83 {S : St} {v : Int32} : FR TZ S (sS S 383 0 v) := FR_sS FR_rf (by rw [rg8 (by omega)]; decide)
theorem m_pi {n d a o q : Nat} {L : List (List Nat)} {T : List (List Mk)} {Ns : List Nme} {F : St → Int32 → Option (St × Int32)} {S : St} {ctx : List (List Mk)} {x : List Mk} (hn : 10000 ≤ n) (he : ENV L T Ns) (hF : FM n d (a + 1) L T Ns F) (hd : d + a ≤ 101) (h3 : hk x = 3) (hg : gdT (zB T + ctx.length) Ns.length x) (hl : x.length + 2 * a ≤ 200) (hc : ctx.length ≤ a) (hM : MS S L T Ns) (hX : RX S ctx) (hko : cOk (zB T) Ns.length ctx) (hs : sg (S.2.1 367 0) o (flt x)) (ho : o + (flt x).length ≤ 8000) (h5 : S.1 375 0 = nI q) (hq : q ≤ 7000 * a) : ∃ S', f_X8_typeOfPi n F S (nI o) = some (S', nI (tyPi Ns (tyS Ns d) ctx x).1) ∧ ((tyPi Ns (tyS Ns d) ctx x).1 = 0 → RS S' q (tyPi Ns (tyS Ns d) ctx x).2 ∧ S'.1 383 0 = nI ctx.length) ∧ (tyPi Ns (tyS Ns d) ctx x).1 ≤ 8 ∧ KP 371 q S S' ∧ KP 382 ctx.length S S' ∧ FR TZ S S' := by
  have h40 := he.2.2.1
  have hz := zB_le he.2.1
  obtain ⟨fx, lx⟩ := (flt_pt hg).1 (by omega) (by omega)
  obtain ⟨g1, g2⟩ := (gd_pt hg).1 (by omega)
  rw [h3, show dl 3 = 1 from rfl] at g2
  have l1 := Tm_ne g1.1
  have l2 := Tm_ne g2.1
  rw [fx] at hs ho
  rw [List.length_cons, List.length_append] at ho
  have hs1 := (sg_app.mp hs.2).1
  have hs2 := (sg_app.mp hs.2).2
  have n7 : ∀ R : List Nat, 367 ∉ R → rg 367 0 ∉ R := fun R h => n8o (by omega) h
  obtain ⟨S1, A1, R1, B1, K1, K1', F1⟩ := m_sort (n := n) (o := o + 1) hn he hF (by omega) (by omega) g1 (by omega) (by omega) hM hX hko hs1 (by omega) h5 (by omega)
  unfold tyPi
  generalize srt Ns (tyS Ns d ctx (p1 x)) = s1 at *
  unfold f_X8_typeOfPi
  by_cases z1 : s1.1 = 0
  · obtain ⟨R1a, R1b, lv1⟩ := R1 z1
    rw [z1] at A1
    rw [thn_0 z1]
    obtain ⟨u1, u2⟩ := R1a
    rw [flt_sort, List.length_cons] at u2
    rw [flt_sort] at u1
    have lvl := lv1.2.1
    have X1 := RX_k hX K1' F1 (by decide) R1b
    have S1s : sg (S1.2.1 367 0) (o + 1) (flt (p1 x)) := sg_fr F1 (n7 _ (by decide)) hs1
    have X3 := RX_c X1 S1s (by omega)
    have F3 : FR TZ S (sS (sI S1 382 0 ctx.length (nI (o + 1))) 383 0 (nI (ctx.length + 1))) := FR_sS (FR_sI F1 (by rw [rg8 (by omega)]; decide)) (by rw [rg8 (by omega)]; decide)
    have M3 := MS_TZ hM F3
    have bT := s_behindTerm (n := n) (f := 367) (S := sS (sI S1 382 0 ctx.length (nI (o + 1))) 383 0 (nI (ctx.length + 1))) (o := o + 1) (by omega) g1.1 (gd_mW g1 (by omega) h40) (sg_fr F3 (n7 _ (by decide)) hs1) (by rw [ln367]; omega) (by omega)
    have K3 : KP 371 q S (sS (sI S1 382 0 ctx.length (nI (o + 1))) 383 0 (nI (ctx.length + 1))) := KP_tr K1 (fun i _ => by rw [sS_21, sI_ne (by omega)])
    have K3' : KP 382 ctx.length S (sS (sI S1 382 0 ctx.length (nI (o + 1))) 383 0 (nI (ctx.length + 1))) := KP_tr K1' (fun i hi => by rw [sS_21, sI_at (by omega)])
    obtain ⟨S4, A4, R4, B4, K4, K4', F4⟩ := m_sort (n := n) (o := o + 1 + (flt (p1 x)).length) (q := q + (s1.2.length + 1)) (ctx := p1 x :: ctx) (x := p2 x) (S := sS (sI S1 382 0 ctx.length (nI (o + 1))) 383 0 (nI (ctx.length + 1))) hn he hF (by omega) (by omega) g2 (by omega) (by rw [List.length_cons]; omega) M3 X3 ⟨g1, hko⟩ (sg_fr F3 (n7 _ (by decide)) hs2) (by omega) (by rw [sS_ne (by omega), sI_1]; exact u2) (by omega)
    rw [List.length_cons] at R4 K4'
    have F4' : FR TZ S S4 := FR_tr F3 F4
    have K4a : KP 371 q S S4 := KP_tr K3 (KP_mo K4 (by omega))
    have K4b : KP 382 ctx.length S S4 := KP_tr K3' (KP_mo K4' (by omega))
    generalize srt Ns (tyS Ns d (p1 x :: ctx) (p2 x)) = s4 at *
    by_cases z4 : s4.1 = 0
    · obtain ⟨R4a, R4b, lv4⟩ := R4 z4
      rw [z4] at A4
      rw [thn_0 z4]
      obtain ⟨w1, w2⟩ := R4a
      rw [flt_sort, List.length_cons] at w2
      rw [flt_sort] at w1
      have lvl4 := lv4.2.1
      have e83 : nI (ctx.length + 1) - nI 1 = nI ctx.length := by rw [nIs (by omega)]; rfl
      have F5 : FR TZ S (sS S4 383 0 (nI ctx.length)) := FR_tr F4' S83
      have f6 := S00_fr (S := sS S4 383 0 (nI ctx.length))
      have u1' : sg ((sS S4 383 0 (nI ctx.length)).2.1 371 0) (q + 1) s1.2 := by
        refine KP_sg K4 ?_ (by omega)
        rw [sS_21, sI_ne (by omega)]
        exact u1.2
      have w1' : sg ((sS S4 383 0 (nI ctx.length)).2.1 371 0) (q + (s1.2.length + 1) + 1) s4.2 := w1.2
      have n1 : ∀ R : List Nat, 371 ∉ R → rg 371 0 ∉ R := fun R h => n8o (by omega) h
      obtain ⟨S7, a7, b7, f7⟩ := s_put (n := n) (S := S00 (sS S4 383 0 (nI ctx.length))) NXT_0 (x := 0) (v := nI 0) rfl
      obtain ⟨S8, a8, b8, f8⟩ := s_put (n := n) b7 (x := 3) (v := nI 3) rfl
      have f68 := FR_tr f6 (FR_tr f7 f8)
      obtain ⟨S9, a9, b9, f9⟩ := s_copy (n := n) (f := 371) (e := q + (s1.2.length + 1)) (by omega) (by omega) (sg_fr f68 (n1 _ (by decide)) u1') b8 (by omega) (by rw [ln371]; omega) (by omega)
      have f69 := FR_tr f68 f9
      have w2' : S9.1 375 0 = nI (q + (s1.2.length + 1) + (s4.2.length + 1)) := by rw [(f69 375 0 (n8o (by omega) (by decide))).1, sS_ne (by omega)]; exact w2
      obtain ⟨S10, a10, b10, f10⟩ := s_copy (n := n) (f := 371) (e := q + (s1.2.length + 1) + (s4.2.length + 1)) (by omega) (by omega) (sg_fr f69 (n1 _ (by decide)) w1') b9 (by omega) (by rw [ln371]; omega) (by omega)
      have f610 := FR_tr f69 f10
      have ok12 : okL (3 :: (s1.2 ++ s4.2)) := okL_cons (by omega) (fun t ht => by
        rcases List.mem_append.mp ht with z | z
        · exact lv1.1 t z
        · exact lv4.1 t z)
      have lc12 : lc 1 (3 :: (s1.2 ++ s4.2)) := by
        show lc (0 + tp 3) (s1.2 ++ s4.2)
        exact lc_ap2 (k := 1) lv1.2.2 (j := 1) lv4.2.2
      obtain ⟨S11, a11, b11, k11, f11⟩ := s_settle (n := n) (q := q) (t := sortT (3 :: (s1.2 ++ s4.2))) hn b10 (by rw [flt_sort]; simp) (mW_sort ok12 lc12) (by omega)
      have F11 : FR TZ S S11 := FR_tr F5 (FR_tr (NRTZ f610) (nzTZ (FR_mo f11 (by simp))))
      have K5a : KP 371 q S (sS S4 383 0 (nI ctx.length)) := KP_tr K4a (fun i _ => rfl)
      have K5b : KP 382 ctx.length S (sS S4 383 0 (nI ctx.length)) := KP_tr K4b (fun i _ => rfl)
      have K11 : KP 371 q S S11 := KP_tr K5a (KP_tr (KP_fr f610 (n1 NR (by decide))) k11)
      have K11' : KP 382 ctx.length S S11 := KP_tr K5b (KP_tr (n382 f610 (by decide)) (n382 f11 (by decide)))
      have h83 : S11.1 383 0 = nI ctx.length := by rw [(f11 383 0 (n8o (by omega) (by decide))).1, (f610 383 0 (n8o (by omega) (by decide))).1]; exact sS_eq
      rw [fit_sort] at a11 b11
      have pre : ∀ v, f_X8_settle n S10 (nI q) = some (S11, v) → (bV (S.1 375 0) fun v1 => bI (f_X8_ofSort n F S (nI o + 1)) fun S3 v5 => if v5 ≤ 0 then bV (S3.1 375 0) fun v7 => pI S3 382 0 (S3.1 383 0) 300 (nI o + 1) fun S9 => pS S9 383 0 ((S9.1 383 0) + 1) fun S12 => bI (f_X8_behindTerm n S12 367 (nI o + 1)) fun S14 v16 => bI (f_X8_ofSort n F S14 v16) fun S17 v19 => pS S17 383 0 ((S17.1 383 0) - 1) fun S20 => if v19 ≤ 0 then pS S20 373 0 0 fun S23 => pS S23 380 0 0 fun S25 => bU (f_X8_put n S25 0) fun S27 => bU (f_X8_put n S27 3) fun S29 => bU (f_X8_copy n S29 371 (v1 + 1) v7) fun S31 => bU (f_X8_copy n S31 371 (v7 + 1) (S31.1 375 0)) fun S33 => bI (f_X8_settle n S33 v1) fun S35 v37 => some (S35, v37) else some (S20, v19) else some (S3, v5)) = some (S11, v) := by
        intro v hv
        unfold S00 at a7
        ((try simp only [k0, k1, k2, k3, k4, k5, k6, k8, k16, k30, k60, k100, k200, k201, k300, k1500, k8000, kM, k_m6]); repeat (first | rw [zt_eq (by omega)] | rw [zt_ne (by omega) (by omega) (by omega)] | rw [zt_nle (by omega) (by omega)] | rw [zt_le (by omega) (by omega)] | rw [zt_nlt (by omega) (by omega)] | rw [zt_lt (by omega) (by omega)] | rw [zt_nm (by omega)] | rw [zt_mm] | rw [zt_ml] | rw [zt_0m] | rw [zt_m0] | rw [zt_n6 (by omega)] | rw [zt_66] | rw [zt_06] | simp (disch := omega) only [k0, k1, k2, k3, k4, k5, k6, k8, k16, k30, k60, k100, k200, k201, k300, k1500, k8000, kM, k_m6, nIa, nIp, nIs, sI_1, sI_22, sL_1, sL_21, sS_21, sS_22, sI_ne, sL_ne, sS_ne, sS_eq, sI_eq, sI_at, sL_eq, sL_at, Nat.add_zero, if_true, if_false, h5, A1, u2, R1b, bT, A4, R4b, e83, Nat.add_sub_cancel, a7, a8, a9, w2', a10, hv] | rw [bV_e] | rw [pS_e] | rw [bI_s] | rw [bU_s] | rw [bL_s] | rw [gI_n (by omega) (by omega)] | rw [gR_n (by omega)] | rw [pI_n (by omega) (by omega)] | rw [gL_n (by omega) (by omega)] | rw [pL_n (by omega) (by omega)]))
      by_cases z : 1 + s1.2.length + s4.2.length ≤ 16
      · have z' : decide ((3 :: (s1.2 ++ s4.2)).length ≤ 16) = true := by simp; omega
        rw [z'] at a11 b11
        rw [if_pos z]
        exact ⟨S11, pre _ a11, fun _ => ⟨b11 rfl, h83⟩, Nat.zero_le _, K11, K11', F11⟩
      · have z' : decide ((3 :: (s1.2 ++ s4.2)).length ≤ 16) = false := by simp; omega
        rw [z'] at a11
        rw [if_neg z]
        exact ⟨S11, pre _ a11, (fun w => nomatch w), (by decide), K11, K11', F11⟩
    · rw [thn_n z4]
      refine ⟨sS S4 383 0 (S4.1 383 0 - nI 1), ?_, fun w => absurd w z4, B4, KP_tr K4a (fun i _ => rfl), KP_tr K4b (fun i _ => rfl), FR_tr F4' S83⟩
      ((try simp only [k0, k1, k2, k3, k4, k5, k6, k8, k16, k30, k60, k100, k200, k201, k300, k1500, k8000, kM, k_m6]); repeat (first | rw [zt_eq (by omega)] | rw [zt_ne (by omega) (by omega) (by omega)] | rw [zt_nle (by omega) (by omega)] | rw [zt_le (by omega) (by omega)] | rw [zt_nlt (by omega) (by omega)] | rw [zt_lt (by omega) (by omega)] | rw [zt_nm (by omega)] | rw [zt_mm] | rw [zt_ml] | rw [zt_0m] | rw [zt_m0] | rw [zt_n6 (by omega)] | rw [zt_66] | rw [zt_06] | simp (disch := omega) only [k0, k1, k2, k3, k4, k5, k6, k8, k16, k30, k60, k100, k200, k201, k300, k1500, k8000, kM, k_m6, nIa, nIp, nIs, sI_1, sI_22, sL_1, sL_21, sS_21, sS_22, sI_ne, sL_ne, sS_ne, sS_eq, sI_eq, sI_at, sL_eq, sL_at, Nat.add_zero, if_true, if_false, h5, A1, u2, R1b, bT, A4] | rw [bV_e] | rw [pS_e] | rw [bI_s] | rw [bU_s] | rw [bL_s] | rw [gI_n (by omega) (by omega)] | rw [gR_n (by omega)] | rw [pI_n (by omega) (by omega)] | rw [gL_n (by omega) (by omega)] | rw [pL_n (by omega) (by omega)]))
  · rw [thn_n z1]
    refine ⟨S1, ?_, fun w => absurd w z1, B1, K1, K1', F1⟩
    ((try simp only [k0, k1, k2, k3, k4, k5, k6, k8, k16, k30, k60, k100, k200, k201, k300, k1500, k8000, kM, k_m6]); repeat (first | rw [zt_eq (by omega)] | rw [zt_ne (by omega) (by omega) (by omega)] | rw [zt_nle (by omega) (by omega)] | rw [zt_le (by omega) (by omega)] | rw [zt_nlt (by omega) (by omega)] | rw [zt_lt (by omega) (by omega)] | rw [zt_nm (by omega)] | rw [zt_mm] | rw [zt_ml] | rw [zt_0m] | rw [zt_m0] | rw [zt_n6 (by omega)] | rw [zt_66] | rw [zt_06] | simp (disch := omega) only [k0, k1, k2, k3, k4, k5, k6, k8, k16, k30, k60, k100, k200, k201, k300, k1500, k8000, kM, k_m6, nIa, nIp, nIs, sI_1, sI_22, sL_1, sL_21, sS_21, sS_22, sI_ne, sL_ne, sS_ne, sS_eq, sI_eq, sI_at, sL_eq, sL_at, Nat.add_zero, if_true, if_false, h5, A1] | rw [bV_e] | rw [pS_e] | rw [bI_s] | rw [bU_s] | rw [bL_s] | rw [gI_n (by omega) (by omega)] | rw [gR_n (by omega)] | rw [pI_n (by omega) (by omega)] | rw [gL_n (by omega) (by omega)] | rw [pL_n (by omega) (by omega)]))
