/-! the reference: types of single marks -/
theorem fit_sort {l : List Nat} : fitB (sortT l) = decide (l.length ≤ 16) := by
  unfold fitB sortT f16
  simp
theorem mW_sort {l : List Nat} (h1 : okL l) (h2 : lc 1 l) : ∀ m ∈ sortT l, mW m := fun m hm => by
  rw [List.mem_singleton.mp hm]
  exact ⟨by simp, by simp, fun _ => ⟨h1, h2⟩, fun z => (by cases z), fun z => absurd rfl z, fun _ => rfl⟩
theorem rsd_rs {e : Nat} {m : Mk} : rsd (nI e) m (rsM e m) := by
  refine ⟨rfl, rfl, fun z => ?_, fun z => ?_⟩
  · show (if m.1 = 1 ∧ m.2.2.1 ≤ m.2.1 then m.2.1 + e else m.2.1) = m.2.1
    rw [if_neg (fun w => z w.1)]
  · show nI (if m.1 = 1 ∧ m.2.2.1 ≤ m.2.1 then m.2.1 + e else m.2.1) = _
    by_cases w : m.2.1 < m.2.2.1
    · rw [if_neg (by omega), if_pos w]
    · rw [if_pos ⟨z, by omega⟩, if_neg w, nIa]
theorem fit_gd {B N : Nat} {ms : List Mk} (h : gdT B N ms) : fitB ms = true := by
  unfold fitB; rw [f16_gd h, Bool.and_true, decide_eq_true_eq]; exact h.2.1
def S00 (S : St) : St := sS (sS S 373 0 (nI 0)) 380 0 (nI 0)
theorem S00_fr {S : St} : FR NR S (S00 S) := FR_sS (FR_sS FR_rf (by rw [rg8 (by omega)]; decide)) (by rw [rg8 (by omega)]; decide)
theorem NRTZ {S S' : St} (h : FR NR S S') : FR TZ S S' := FR_mo h (by simp [TZ, NR, NZ])
theorem leaf1 {B N : Nat} {x : List Mk} (h : gdT B N x) (h2 : hk x ≤ 2) : ∃ m, x = [m] ∧ m.1 = hk x ∧ hl1 x = m.2.2.2.1 ∧ hl2 x = m.2.2.2.2 ∧ hid x = m.2.1 ∧ m.2.2.1 = 0 := by
  cases x with
  | nil => exact absurd (Tm_ne h.1) (by simp)
  | cons m r =>
    have r0 := (tm_parts h.1).2.1 (ar_0 h2)
    subst r0
    exact ⟨m, rfl, rfl, rfl, rfl, rfl, (tm_parts h.1).1⟩
theorem m_single {n d a o q : Nat} {L : List (List Nat)} {T : List (List Mk)} {Ns : List Nme} {S : St} {ctx : List (List Mk)} {x : List Mk} (hn : 10000 ≤ n) (he : ENV L T Ns) (ha : a ≤ 101) (h2 : hk x ≤ 2) (hg : gdT (zB T + ctx.length) Ns.length x) (hc : ctx.length ≤ a) (hM : MS S L T Ns) (hX : RX S ctx) (hko : cOk (zB T) Ns.length ctx) (hs : sg (S.2.1 367 0) o (flt x)) (ho : o + (flt x).length ≤ 8000) (h5 : S.1 375 0 = nI q) (hq : q ≤ 7000 * a) : ∃ S', f_X8_typeOfSingle n S (nI o) = some (S', nI (tyS Ns (d + 1) ctx x).1) ∧ ((tyS Ns (d + 1) ctx x).1 = 0 → RS S' q (tyS Ns (d + 1) ctx x).2 ∧ S'.1 383 0 = nI ctx.length) ∧ (tyS Ns (d + 1) ctx x).1 ≤ 8 ∧ KP 371 q S S' ∧ KP 382 ctx.length S S' ∧ FR TZ S S' := by
  have h40 := he.2.2.1
  have hz := zB_le he.2.1
  obtain ⟨m, ex, em, el1, el2, ei, d0⟩ := leaf1 hg h2
  have hmv := hg.2.2 m (by rw [ex]; simp)
  have fx : flt x = tks m := by rw [ex]; exact List.append_nil _
  rw [fx] at hs ho
  have f0 := S00_fr (S := S)
  have n0 : NXT (S00 S) [] := NXT_0
  have n7 : ∀ R : List Nat, 367 ∉ R → rg 367 0 ∉ R := fun R h => n8o (by omega) h
  have done : ∀ (S1 : St) (t : List Mk) (c : List Nat) (R : List Nat), NXT S1 c → c = flt t → (∀ m ∈ t, mW m) → FR R S S1 → (∀ z ∈ R, z ∈ NZ) → ∃ S', j_X8_typeOfSingle_133 n S1 = some (S', if fitB t then nI 0 else nI 5) ∧ (fitB t = true → RS S' q t ∧ S'.1 383 0 = nI ctx.length) ∧ KP 371 q S S' ∧ KP 382 ctx.length S S' ∧ FR TZ S S' := by
    intro S1 t c R hN hct hw hF hR
    have hF' : FR NZ S S1 := FR_mo hF hR
    obtain ⟨S2, a2, b2, k2, f2⟩ := s_settle (n := n) (q := q) hn hN hct hw (by omega)
    have h5' : S1.1 375 0 = nI q := by rw [(hF' 375 0 (n8o (by omega) (by decide))).1]; exact h5
    have h83 : S2.1 383 0 = nI ctx.length := by rw [(f2 383 0 (n8o (by omega) (by decide))).1, (hF' 383 0 (n8o (by omega) (by decide))).1]; exact hX.1
    refine ⟨S2, ?_, fun z => ⟨b2 z, h83⟩, KP_tr (KP_fr hF' (n8o (by omega) (by decide))) k2, KP_tr (n382 hF' (by decide)) (n382 f2 (by decide)), FR_tr (nzTZ (FR_mo hF' (fun z hz => List.mem_cons_of_mem _ (List.mem_cons_of_mem _ hz)))) (nzTZ (FR_mo f2 (by simp)))⟩
    unfold j_X8_typeOfSingle_133
    rw [h5', a2, bI_s]
  unfold f_X8_typeOfSingle
  rw [tyS_s]
  rw [show (pS S 373 0 0 fun S1 => pS S1 380 0 0 fun S3 => gI S3 367 0 (nI o) 8000 fun v5 => _) = _ from rfl]
  by_cases q0 : hk x = 0
  · rw [if_pos q0, el1]
    have qm : m.1 = 0 := by omega
    have lv := hmv.2.2.2.1 qm
    rw [tks_0 qm] at hs ho
    rw [List.length_cons] at ho
    have hs0 : (S00 S).2.1 367 0 o = nI 0 := hs.1
    have hsl : sg ((S00 S).2.1 367 0) (o + 1) m.2.2.2.1 := hs.2
    obtain ⟨S2, a2, b2, f2⟩ := s_put (n := n) n0 (x := 0) (v := nI 0) rfl
    obtain ⟨S3, a3, b3, f3⟩ := s_put (n := n) b2 (x := 1) (v := nI 1) rfl
    have f03 := FR_tr f2 f3
    have bl := s_behindLevel (n := n) (S := S3) (f := 367) (o := o + 1) (by decide) lv.1 lv.2.2 (sg_fr f03 (n7 _ (by decide)) hsl) (by rw [ln367]; omega) (by have := lv.2.1; omega)
    obtain ⟨S4, a4, b4, f4⟩ := s_copy (n := n) (f := 367) (e := o + 1 + m.2.2.2.1.length) (by omega) (by omega) (sg_fr f03 (n7 _ (by decide)) hsl) b3 rfl (by rw [ln367]; omega) (by have := lv.2.1; omega)
    obtain ⟨S5, a5, b5, k5, k5', f5⟩ := done S4 (sortT (1 :: m.2.2.2.1)) _ NR b4 (by rw [flt_sort]; rfl) (mW_sort (okL_cons (by omega) lv.1) lv.2.2) (FR_tr f0 (FR_tr f03 f4)) (by simp [NR, NZ])
    rw [fit_sort] at a5 b5
    by_cases z : m.2.2.2.1.length < 16
    · have z' : decide ((1 :: m.2.2.2.1).length ≤ 16) = true := by simp; omega
      rw [z'] at a5 b5
      rw [if_pos z]
      refine ⟨S5, ?_, fun _ => b5 rfl, Nat.zero_le _, k5, k5', f5⟩
      have a5' : j_X8_typeOfSingle_133 n S4 = some (S5, nI 0) := a5
      rw [pS_e, pS_e, show sS (sS S 373 0 0) 380 0 0 = S00 S from rfl]
      rw [gI_n (by omega) (by omega), hs0, if_pos (show nI 0 = 0 from rfl)]
      show (bU (f_X8_put n (S00 S) (nI 0)) _) = _
      ((try simp only [k0, k1, k2, k3, k4, k5, k6, k8, k16, k30, k60, k100, k200, k201, k300, k1500, k8000, kM, k_m6]); repeat (first | rw [zt_eq (by omega)] | rw [zt_ne (by omega) (by omega) (by omega)] | rw [zt_nle (by omega) (by omega)] | rw [zt_le (by omega) (by omega)] | rw [zt_nlt (by omega) (by omega)] | rw [zt_lt (by omega) (by omega)] | rw [zt_nm (by omega)] | rw [zt_mm] | rw [zt_ml] | rw [zt_0m] | rw [zt_m0] | rw [zt_n6 (by omega)] | rw [zt_66] | rw [zt_06] | simp (disch := omega) only [k0, k1, k2, k3, k4, k5, k6, k8, k16, k30, k60, k100, k200, k201, k300, k1500, k8000, kM, k_m6, nIa, nIp, nIs, sI_1, sI_22, sL_1, sL_21, sS_21, sS_22, sI_ne, sL_ne, sS_ne, sS_eq, sI_eq, sI_at, sL_eq, sL_at, Nat.add_zero, if_true, if_false, a2, a3, bl, a4] | rw [bV_e] | rw [pS_e] | rw [bI_s] | rw [bU_s] | rw [bL_s] | rw [gI_n (by omega) (by omega)] | rw [gR_n (by omega)] | rw [pI_n (by omega) (by omega)] | rw [gL_n (by omega) (by omega)] | rw [pL_n (by omega) (by omega)]))
      exact a5'
    · have z' : decide ((1 :: m.2.2.2.1).length ≤ 16) = false := by simp; omega
      rw [z'] at a5
      rw [if_neg z]
      refine ⟨S5, ?_, (fun w => nomatch w), (by decide), k5, k5', f5⟩
      have a5' : j_X8_typeOfSingle_133 n S4 = some (S5, nI 5) := a5
      rw [pS_e, pS_e, show sS (sS S 373 0 0) 380 0 0 = S00 S from rfl]
      rw [gI_n (by omega) (by omega), hs0, if_pos (show nI 0 = 0 from rfl)]
      show (bU (f_X8_put n (S00 S) (nI 0)) _) = _
      ((try simp only [k0, k1, k2, k3, k4, k5, k6, k8, k16, k30, k60, k100, k200, k201, k300, k1500, k8000, kM, k_m6]); repeat (first | rw [zt_eq (by omega)] | rw [zt_ne (by omega) (by omega) (by omega)] | rw [zt_nle (by omega) (by omega)] | rw [zt_le (by omega) (by omega)] | rw [zt_nlt (by omega) (by omega)] | rw [zt_lt (by omega) (by omega)] | rw [zt_nm (by omega)] | rw [zt_mm] | rw [zt_ml] | rw [zt_0m] | rw [zt_m0] | rw [zt_n6 (by omega)] | rw [zt_66] | rw [zt_06] | simp (disch := omega) only [k0, k1, k2, k3, k4, k5, k6, k8, k16, k30, k60, k100, k200, k201, k300, k1500, k8000, kM, k_m6, nIa, nIp, nIs, sI_1, sI_22, sL_1, sL_21, sS_21, sS_22, sI_ne, sL_ne, sS_ne, sS_eq, sI_eq, sI_at, sL_eq, sL_at, Nat.add_zero, if_true, if_false, a2, a3, bl, a4] | rw [bV_e] | rw [pS_e] | rw [bI_s] | rw [bU_s] | rw [bL_s] | rw [gI_n (by omega) (by omega)] | rw [gR_n (by omega)] | rw [pI_n (by omega) (by omega)] | rw [gL_n (by omega) (by omega)] | rw [pL_n (by omega) (by omega)]))
      exact a5'
  · rw [if_neg q0]
    by_cases q1 : hk x = 1
    · rw [if_pos q1, ei]
      have qm : m.1 = 1 := by omega
      rw [tks_1 qm] at hs ho
      simp only [List.length_cons, List.length_nil] at ho
      have hs0 : (S00 S).2.1 367 0 o = nI 1 := hs.1
      have hs1 : (S00 S).2.1 367 0 (o + 1) = nI m.2.1 := hs.2.1
      have hid' := (hd_f hg).1 q1
      rw [ei] at hid'
      have h83 : (S00 S).1 383 0 = nI ctx.length := hX.1
      unfold tyV
      by_cases z : m.2.1 < ctx.length
      · have e9 := List.getElem?_eq_getElem z
        obtain ⟨p, c1, c2, c3⟩ := hX.2 _ _ e9
        have gt := cOk_at hko e9
        rw [e9]
        generalize ctx[m.2.1] = t at *
        have c1' : (S00 S).2.1 382 0 (ctx.length - 1 - m.2.1) = nI p := c1
        obtain ⟨S2, a2, b2, f2⟩ := s_lift (n := n) (f := 367) (o := p) (by_ := nI (m.2.1 + 1)) (g := rsM (m.2.1 + 1)) (S := S00 S) (x := t) (by omega) (by omega) hn gt.1 (fun y hy => ⟨(gd_mWd gt (by omega) h40 y hy).1, (gd_mWd gt (by omega) h40 y hy).2, rsd_rs⟩) c2 (by rw [ln367]; omega) (by omega) (by have := gt.2.1; omega) n0
        rw [List.nil_append] at b2
        have gr := rs_gd (e := m.2.1 + 1) gt
        obtain ⟨S5, a5, b5, k5, k5', f5⟩ := done S2 (t.map (rsM (m.2.1 + 1))) _ (376 :: NR) b2 rfl (gd_mW gr (by omega) h40) (FR_tr (FR_mo f0 (fun z hz => List.mem_cons_of_mem _ hz)) f2) (by simp [NR, NZ])
        rw [fit_gd gr] at a5 b5
        have a5' : j_X8_typeOfSingle_133 n S2 = some (S5, nI 0) := a5
        refine ⟨S5, ?_, fun _ => b5 rfl, Nat.zero_le _, k5, k5', f5⟩
        rw [pS_e, pS_e, show sS (sS S 373 0 0) 380 0 0 = S00 S from rfl]
        rw [gI_n (by omega) (by omega), hs0, if_neg (show ¬ nI 1 = 0 by decide), gI_n (by omega) (by omega), hs0, if_pos (show nI 1 = 1 from rfl)]
        generalize hS0 : S00 S = S0 at *
        ((try simp only [k0, k1, k2, k3, k4, k5, k6, k8, k16, k30, k60, k100, k200, k201, k300, k1500, k8000, kM, k_m6]); repeat (first | rw [zt_eq (by omega)] | rw [zt_ne (by omega) (by omega) (by omega)] | rw [zt_nle (by omega) (by omega)] | rw [zt_le (by omega) (by omega)] | rw [zt_nlt (by omega) (by omega)] | rw [zt_lt (by omega) (by omega)] | rw [zt_nm (by omega)] | rw [zt_mm] | rw [zt_ml] | rw [zt_0m] | rw [zt_m0] | rw [zt_n6 (by omega)] | rw [zt_66] | rw [zt_06] | simp (disch := omega) only [k0, k1, k2, k3, k4, k5, k6, k8, k16, k30, k60, k100, k200, k201, k300, k1500, k8000, kM, k_m6, nIa, nIp, nIs, sI_1, sI_22, sL_1, sL_21, sS_21, sS_22, sI_ne, sL_ne, sS_ne, sS_eq, sI_eq, sI_at, sL_eq, sL_at, Nat.add_zero, if_true, if_false, hs1, h83, c1', a2] | rw [bV_e] | rw [pS_e] | rw [bI_s] | rw [bU_s] | rw [bL_s] | rw [gI_n (by omega) (by omega)] | rw [gR_n (by omega)] | rw [pI_n (by omega) (by omega)] | rw [gL_n (by omega) (by omega)] | rw [pL_n (by omega) (by omega)]))
        exact a5'
      · have e9 : ctx[m.2.1]? = none := List.getElem?_eq_none (by omega)
        rw [e9]
        show ∃ S', _ = some (S', nI 1) ∧ (1 = 0 → _) ∧ 1 ≤ 8 ∧ _
        refine ⟨S00 S, ?_, (fun w => nomatch w), (by decide), KP_fr f0 (n8o (by omega) (by decide)), n382 f0 (by decide), NRTZ f0⟩
        rw [pS_e, pS_e, show sS (sS S 373 0 0) 380 0 0 = S00 S from rfl]
        rw [gI_n (by omega) (by omega), hs0, if_neg (show ¬ nI 1 = 0 by decide), gI_n (by omega) (by omega), hs0, if_pos (show nI 1 = 1 from rfl)]
        generalize hS0 : S00 S = S0 at *
        ((try simp only [k0, k1, k2, k3, k4, k5, k6, k8, k16, k30, k60, k100, k200, k201, k300, k1500, k8000, kM, k_m6]); repeat (first | rw [zt_eq (by omega)] | rw [zt_ne (by omega) (by omega) (by omega)] | rw [zt_nle (by omega) (by omega)] | rw [zt_le (by omega) (by omega)] | rw [zt_nlt (by omega) (by omega)] | rw [zt_lt (by omega) (by omega)] | rw [zt_nm (by omega)] | rw [zt_mm] | rw [zt_ml] | rw [zt_0m] | rw [zt_m0] | rw [zt_n6 (by omega)] | rw [zt_66] | rw [zt_06] | simp (disch := omega) only [k0, k1, k2, k3, k4, k5, k6, k8, k16, k30, k60, k100, k200, k201, k300, k1500, k8000, kM, k_m6, nIa, nIp, nIs, sI_1, sI_22, sL_1, sL_21, sS_21, sS_22, sI_ne, sL_ne, sS_ne, sS_eq, sI_eq, sI_at, sL_eq, sL_at, Nat.add_zero, if_true, if_false, hs1, h83] | rw [bV_e] | rw [pS_e] | rw [bI_s] | rw [bU_s] | rw [bL_s] | rw [gI_n (by omega) (by omega)] | rw [gR_n (by omega)] | rw [pI_n (by omega) (by omega)] | rw [gL_n (by omega) (by omega)] | rw [pL_n (by omega) (by omega)]))
    · have q2 : hk x = 2 := by omega
      rw [if_neg q1, if_pos q2, el1, el2, ei]
      have qm : m.1 = 2 := by omega
      rw [tks_2 qm] at hs ho
      simp only [List.length_cons, List.length_append] at ho
      have hs0 : (S00 S).2.1 367 0 o = nI 2 := hs.1
      have hs1 : (S00 S).2.1 367 0 (o + 1) = nI m.2.1 := hs.2.1
      have hsl := sg_app.mp hs.2.2
      have lv := hmv.2.2.2.2.1 qm
      have hiN := hmv.2.2.1 qm
      have e9 := List.getElem?_eq_getElem hiN
      have c1 := (hM.2.2.2 _ _ e9).2.1
      have mT := (he.2.2.2 _ (List.getElem_mem hiN)).2.1
      have enT : ntyp Ns m.2.1 = (Ns[m.2.1]'hiN).2.1 := by unfold ntyp; rw [e9]
      rw [enT]
      generalize (Ns[m.2.1]'hiN).2.1 = ty at *
      have c1' : (S00 S).2.1 364 0 m.2.1 = nI (ixT T ty) := c1
      have ixt := ixT_lt mT
      have hT15 := he.2.1.1
      have M0 := MS_fr hM f0 (by decide) (by decide) (by decide)
      obtain ⟨S2, a2, b2, f2⟩ := s_named (n := n) (f := 367) (o := o + 2) (S := S00 S) (by omega) hn lv.1 lv.2 (by rw [ln367]; omega) he.1 he.2.1 M0.2.1 M0.1 (ixT_get mT) hsl.1 hsl.2 n0
      rw [List.nil_append] at b2
      have gt := he.2.1.2.2.2.1 ty mT
      obtain ⟨S5, a5, b5, k5, k5', f5⟩ := done S2 (ty.map (gvM m.2.2.2.1 m.2.2.2.2)) _ DR b2 rfl (fun y hy => by
        obtain ⟨w, hw, rfl⟩ := List.mem_map.mp hy
        exact mW_gv lv.1 lv.2 (gd_mW gt (by omega) h40 w hw)) (FR_tr (FR_mo f0 (by simp [DR, NR])) f2) (by simp [DR, NR, NZ])
      have ef : fitB (ty.map (gvM m.2.2.2.1 m.2.2.2.2)) = (ty.map (gvM m.2.2.2.1 m.2.2.2.2)).all f16 := by
        unfold fitB
        rw [List.length_map, decide_eq_true gt.2.1, Bool.true_and]
      rw [ef] at a5 b5
      unfold tyN
      have pre : ∀ r : Option (St × Int32), j_X8_typeOfSingle_133 n S2 = r → (pS S 373 0 0 fun S1 => pS S1 380 0 0 fun S3 => gI S3 367 0 (nI o) 8000 fun v5 => if v5 = 0 then bU (f_X8_put n S3 0) fun S30 => bU (f_X8_put n S30 1) fun S32 => bI (f_X8_behindLevel n S32 367 (nI o + 1)) fun S34 v36 => bU (f_X8_copy n S34 367 (nI o + 1) v36) fun S37 => j_X8_typeOfSingle_133 n S37 else gI S3 367 0 (nI o) 8000 fun v9 => if v9 = 1 then gI S3 367 0 (nI o + 1) 8000 fun v21 => if v21 < (S3.1 383 0) then gI S3 382 0 (((S3.1 383 0) - 1) - v21) 300 fun v25 => bU (f_X8_lift n S3 367 v25 (v21 + 1)) fun S28 => j_X8_typeOfSingle_133 n S28 else some (S3, 1) else gI S3 367 0 (nI o + 1) 8000 fun v13 => gI S3 364 0 v13 40 fun v16 => bU (f_X8_named n S3 v16 367 (nI o + 2)) fun S19 => j_X8_typeOfSingle_133 n S19) = r := by
        intro r hr
        rw [pS_e, pS_e, show sS (sS S 373 0 0) 380 0 0 = S00 S from rfl]
        rw [gI_n (by omega) (by omega), hs0, if_neg (show ¬ nI 2 = 0 by decide), gI_n (by omega) (by omega), hs0, if_neg (show ¬ nI 2 = 1 by decide)]
        generalize hS0 : S00 S = S0 at *
        have h40' : m.2.1 < 40 := by omega
        ((try simp only [k0, k1, k2, k3, k4, k5, k6, k8, k16, k30, k60, k100, k200, k201, k300, k1500, k8000, kM, k_m6]); repeat (first | rw [zt_eq (by omega)] | rw [zt_ne (by omega) (by omega) (by omega)] | rw [zt_nle (by omega) (by omega)] | rw [zt_le (by omega) (by omega)] | rw [zt_nlt (by omega) (by omega)] | rw [zt_lt (by omega) (by omega)] | rw [zt_nm (by omega)] | rw [zt_mm] | rw [zt_ml] | rw [zt_0m] | rw [zt_m0] | rw [zt_n6 (by omega)] | rw [zt_66] | rw [zt_06] | simp (disch := omega) only [k0, k1, k2, k3, k4, k5, k6, k8, k16, k30, k60, k100, k200, k201, k300, k1500, k8000, kM, k_m6, nIa, nIp, nIs, sI_1, sI_22, sL_1, sL_21, sS_21, sS_22, sI_ne, sL_ne, sS_ne, sS_eq, sI_eq, sI_at, sL_eq, sL_at, Nat.add_zero, if_true, if_false, hs1, c1', a2] | rw [bV_e] | rw [pS_e] | rw [bI_s] | rw [bU_s] | rw [bL_s] | rw [gI_n (by omega) (by omega)] | rw [gR_n (by omega)] | rw [pI_n (by omega) (by omega)] | rw [gL_n (by omega) (by omega)] | rw [pL_n (by omega) (by omega)]))
        exact hr
      by_cases z : (ty.map (gvM m.2.2.2.1 m.2.2.2.2)).all f16 = true
      · rw [if_pos z] at a5 ⊢
        exact ⟨S5, pre _ a5, fun _ => b5 z, Nat.zero_le _, k5, k5', f5⟩
      · rw [if_neg z] at a5 ⊢
        exact ⟨S5, pre _ a5, (fun w => nomatch w), (by decide), k5, k5', f5⟩
