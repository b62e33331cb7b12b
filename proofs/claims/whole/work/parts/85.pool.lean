/-! the reference: types in a pool -/
def MS (S : St) (L : List (List Nat)) (T : List (List Mk)) (Ns : List Nme) : Prop := TM S L T ∧ LM S L ∧ NM S T Ns
theorem MS_fr {S S' : St} {R : List Nat} {L : List (List Nat)} {T : List (List Mk)} {Ns : List Nme} (h : MS S L T Ns) (g : FR R S S') (h0 : 351 ∉ R) (h5 : 356 ∉ R) (h2 : 363 ∉ R) : MS S' L T Ns := ⟨TM_fr h.1 g h5, LM_fr h.2.1 g h0, NM_fr h.2.2 g h2⟩
def TZ : List Nat := 371 :: 375 :: 382 :: 383 :: NZ
theorem MS_TZ {S S' : St} {L : List (List Nat)} {T : List (List Mk)} {Ns : List Nme} (h : MS S L T Ns) (g : FR TZ S S') : MS S' L T Ns := MS_fr h g (by decide) (by decide) (by decide)
def RS (S : St) (q : Nat) (t : List Mk) : Prop := sg (S.2.1 371 0) q (flt t) ∧ S.1 375 0 = nI (q + (flt t).length)
theorem RS_fr {S S' : St} {R : List Nat} {q : Nat} {t : List Mk} (h : RS S q t) (g : FR R S S') (h1 : 371 ∉ R) (h2 : 375 ∉ R) : RS S' q t := by
  unfold RS
  rw [(g 371 0 (n8o (by omega) h1)).2.1, (g 375 0 (n8o (by omega) h2)).1]
  exact h
theorem flt_fit {t : List Mk} (h : fitB t = true) : (flt t).length ≤ 6800 := by
  unfold fitB at h
  rw [Bool.and_eq_true] at h
  have h1 := of_decide_eq_true h.1
  have h2 := List.all_eq_true.mp h.2
  have : ∀ y : List Mk, (∀ m ∈ y, f16 m = true) → (flt y).length ≤ 34 * y.length := by
    intro y
    induction y with
    | nil => intro _; simp [flt]
    | cons m r ih =>
      intro hm
      have i1 := ih (fun z hz => hm z (List.mem_cons_of_mem _ hz))
      have f1 := hm m List.mem_cons_self
      unfold f16 at f1
      have f2 := of_decide_eq_true f1
      rw [flt_c, List.length_append, List.length_cons]
      have : (tks m).length ≤ 34 := by
        by_cases q0 : m.1 = 0
        · rw [tks_0 q0, List.length_cons]; omega
        · by_cases q1 : m.1 = 1
          · rw [tks_1 q1]; simp
          · by_cases q2 : m.1 = 2
            · rw [tks_2 q2, List.length_cons, List.length_cons, List.length_append]; omega
            · rw [tks_3 (by omega)]; simp
      omega
  have := this t h2
  omega
theorem s_settle {n q : Nat} {S : St} {t : List Mk} {c : List Nat} (hn : 10000 ≤ n) (h : NXT S c) (hc : c = flt t) (hm : ∀ m ∈ t, mW m) (hq : q ≤ 1400000) : ∃ S', f_X8_settle n S (nI q) = some (S', if fitB t then nI 0 else nI 5) ∧ (fitB t = true → RS S' q t) ∧ KP 371 q S S' ∧ FR [371, 375] S S' := by
  subst hc
  unfold f_X8_settle
  by_cases h8 : (flt t).length ≤ 8000
  · obtain ⟨w1, w2, w3⟩ := NXT_ok h h8
    have hf := s_fits (n := n) (f := 369) (S := S) (by omega) hm w3 rfl (by rw [ln369]; omega) (by omega)
    rw [Nat.zero_add] at hf
    by_cases qf : fitB t = true
    · rw [if_pos qf] at hf ⊢
      have hf' : f_X8_fits n S 369 (nI 0) (nI (flt t).length) = some (S, nI 1) := hf
      have f1 : FR [371, 375] S (sS S 375 0 (nI q)) := FR_sS FR_rf (by rw [rg8 (by omega)]; simp)
      obtain ⟨S2, a2, b2, c2, k2, f2⟩ := s_push (n := n) (f := 369) (S := sS S 375 0 (nI q)) (o := 0) (e := (flt t).length) (q := q) (by omega) (by omega) hn (by omega) (by rw [ln369]; omega) h8 (by omega) sS_eq (by rw [sS_21]; exact w3)
      have w2' : (sS S 375 0 (nI q)).1 373 0 = nI (flt t).length := by rw [sS_ne (by omega)]; exact w2
      refine ⟨S2, ?_, fun _ => ⟨b2, c2⟩, KP_tr (fun i _ => rfl) k2, FR_tr f1 f2⟩
      ((try simp only [k0, k1, k2, k3, k4, k5, k6, k8, k16, k30, k60, k100, k200, k201, k300, k1500, k8000, kM, k_m6]); repeat (first | rw [zt_eq (by omega)] | rw [zt_ne (by omega) (by omega) (by omega)] | rw [zt_nle (by omega) (by omega)] | rw [zt_le (by omega) (by omega)] | rw [zt_nlt (by omega) (by omega)] | rw [zt_lt (by omega) (by omega)] | rw [zt_nm (by omega)] | rw [zt_mm] | rw [zt_ml] | rw [zt_0m] | rw [zt_m0] | rw [zt_n6 (by omega)] | rw [zt_66] | rw [zt_06] | simp (disch := omega) only [k0, k1, k2, k3, k4, k5, k6, k8, k16, k30, k60, k100, k200, k201, k300, k1500, k8000, kM, k_m6, nIa, nIp, nIs, sI_1, sI_22, sL_1, sL_21, sS_21, sS_22, sI_ne, sL_ne, sS_ne, sS_eq, sI_eq, sI_at, sL_eq, sL_at, Nat.add_zero, if_true, if_false, w1, w2, hf', w2', a2] | rw [bV_e] | rw [pS_e] | rw [bI_s] | rw [bU_s] | rw [bL_s] | rw [gI_n (by omega) (by omega)] | rw [gR_n (by omega)] | rw [pI_n (by omega) (by omega)] | rw [gL_n (by omega) (by omega)] | rw [pL_n (by omega) (by omega)]))
    · rw [if_neg qf] at hf ⊢
      have hf' : f_X8_fits n S 369 (nI 0) (nI (flt t).length) = some (S, nI 0) := hf
      refine ⟨S, ?_, fun z => absurd z qf, KP_rf, FR_rf⟩
      ((try simp only [k0, k1, k2, k3, k4, k5, k6, k8, k16, k30, k60, k100, k200, k201, k300, k1500, k8000, kM, k_m6]); repeat (first | rw [zt_eq (by omega)] | rw [zt_ne (by omega) (by omega) (by omega)] | rw [zt_nle (by omega) (by omega)] | rw [zt_le (by omega) (by omega)] | rw [zt_nlt (by omega) (by omega)] | rw [zt_lt (by omega) (by omega)] | rw [zt_nm (by omega)] | rw [zt_mm] | rw [zt_ml] | rw [zt_0m] | rw [zt_m0] | rw [zt_n6 (by omega)] | rw [zt_66] | rw [zt_06] | simp (disch := omega) only [k0, k1, k2, k3, k4, k5, k6, k8, k16, k30, k60, k100, k200, k201, k300, k1500, k8000, kM, k_m6, nIa, nIp, nIs, sI_1, sI_22, sL_1, sL_21, sS_21, sS_22, sI_ne, sL_ne, sS_ne, sS_eq, sI_eq, sI_at, sL_eq, sL_at, Nat.add_zero, if_true, if_false, w1, w2, hf'] | rw [bV_e] | rw [pS_e] | rw [bI_s] | rw [bU_s] | rw [bL_s] | rw [gI_n (by omega) (by omega)] | rw [gR_n (by omega)] | rw [pI_n (by omega) (by omega)] | rw [gL_n (by omega) (by omega)] | rw [pL_n (by omega) (by omega)]))
  · obtain ⟨w1, w2⟩ := NXT_w h h8
    have qf : ¬ fitB t = true := fun z => by have := flt_fit z; omega
    rw [if_neg qf]
    refine ⟨S, ?_, fun z => absurd z qf, KP_rf, FR_rf⟩
    ((try simp only [k0, k1, k2, k3, k4, k5, k6, k8, k16, k30, k60, k100, k200, k201, k300, k1500, k8000, kM, k_m6]); repeat (first | rw [zt_eq (by omega)] | rw [zt_ne (by omega) (by omega) (by omega)] | rw [zt_nle (by omega) (by omega)] | rw [zt_le (by omega) (by omega)] | rw [zt_nlt (by omega) (by omega)] | rw [zt_lt (by omega) (by omega)] | rw [zt_nm (by omega)] | rw [zt_mm] | rw [zt_ml] | rw [zt_0m] | rw [zt_m0] | rw [zt_n6 (by omega)] | rw [zt_66] | rw [zt_06] | simp (disch := omega) only [k0, k1, k2, k3, k4, k5, k6, k8, k16, k30, k60, k100, k200, k201, k300, k1500, k8000, kM, k_m6, nIa, nIp, nIs, sI_1, sI_22, sL_1, sL_21, sS_21, sS_22, sI_ne, sL_ne, sS_ne, sS_eq, sI_eq, sI_at, sL_eq, sL_at, Nat.add_zero, if_true, if_false, w1] | rw [bV_e] | rw [pS_e] | rw [bI_s] | rw [bU_s] | rw [bL_s] | rw [gI_n (by omega) (by omega)] | rw [gR_n (by omega)] | rw [pI_n (by omega) (by omega)] | rw [gL_n (by omega) (by omega)] | rw [pL_n (by omega) (by omega)]))
theorem c_6n : m6 < nI 0 := by decide
theorem s_normalAt {n q B : Nat} {L : List (List Nat)} {T : List (List Mk)} {Ns : List Nme} {S : St} {t : List Mk} (hn : 10000 ≤ n) (he : ENV L T Ns) (hB : zB T ≤ B ∧ B ≤ 1000000) (hM : MS S L T Ns) (hg : gdT B Ns.length t) (hR : RS S q t) (hq : q ≤ 1400000) : ∃ S', f_X8_normalAt n S (nI q) = some (S', nI (nr Ns t).1) ∧ ((nr Ns t).1 = 0 ∨ nr Ns t = (5, [])) ∧ ((nr Ns t).1 = 0 → RS S' q (nr Ns t).2) ∧ KP 371 q S S' ∧ FR (371 :: 375 :: NZ) S S' := by
  have h40 := he.2.2.1
  have hz := zB_le he.2.1
  have hfl := gd_flt hg (by omega) h40
  obtain ⟨r1, r2⟩ := hR
  obtain ⟨S1, a1, b1, c1, f1⟩ := s_load (n := n) (f := 371) (o := q) (e := q + (flt t).length) (by omega) (by omega) hn rfl (by rw [ln371]; omega) (by omega) r1
  have f1' : FR (371 :: 375 :: NZ) S S1 := FR_mo f1 (by simp [NZ])
  have m1 := MS_fr hM f1 (by simp) (by simp) (by simp)
  obtain ⟨S2, a2, b2, f2⟩ := s_normalize (n := n) hn he.1 he.2.1 he.2.2 hB ⟨b1, c1⟩ hg m1.1 m1.2.1 m1.2.2
  have f2' : FR (371 :: 375 :: NZ) S S2 := FR_tr f1' (FR_mo f2 (fun x hx => List.mem_cons_of_mem _ (List.mem_cons_of_mem _ hx)))
  have k2 : KP 371 q S S2 := KP_tr (KP_fr f1 (n8o (by omega) (by decide))) (KP_fr f2 (n8o (by omega) (by decide)))
  unfold f_X8_normalAt
  cases h9 : nrm Ns t with
  | none =>
    rw [nr_n h9]
    rw [h9] at a2
    have a2' : f_X8_normalize n S1 = some (S2, m6) := a2
    refine ⟨S2, ?_, Or.inr rfl, (fun z => nomatch z), k2, f2'⟩
    ((try simp only [k0, k1, k2, k3, k4, k5, k6, k8, k16, k30, k60, k100, k200, k201, k300, k1500, k8000, kM, k_m6]); repeat (first | rw [zt_eq (by omega)] | rw [zt_ne (by omega) (by omega) (by omega)] | rw [zt_nle (by omega) (by omega)] | rw [zt_le (by omega) (by omega)] | rw [zt_nlt (by omega) (by omega)] | rw [zt_lt (by omega) (by omega)] | rw [zt_nm (by omega)] | rw [zt_mm] | rw [zt_ml] | rw [zt_0m] | rw [zt_m0] | rw [zt_n6 (by omega)] | rw [zt_66] | rw [zt_06] | simp (disch := omega) only [k0, k1, k2, k3, k4, k5, k6, k8, k16, k30, k60, k100, k200, k201, k300, k1500, k8000, kM, k_m6, nIa, nIp, nIs, sI_1, sI_22, sL_1, sL_21, sS_21, sS_22, sI_ne, sL_ne, sS_ne, sS_eq, sI_eq, sI_at, sL_eq, sL_at, Nat.add_zero, if_true, if_false, r2, a1, a2'] | rw [bV_e] | rw [pS_e] | rw [bI_s] | rw [bU_s] | rw [bL_s] | rw [gI_n (by omega) (by omega)] | rw [gR_n (by omega)] | rw [pI_n (by omega) (by omega)] | rw [gL_n (by omega) (by omega)] | rw [pL_n (by omega) (by omega)]))
  | some p =>
    rw [nr_s h9]
    rw [h9] at a2
    have a2' : f_X8_normalize n S1 = some (S2, nI p.1) := a2
    have hp := nrm_c h9
    obtain ⟨⟨d1, d2⟩, g2⟩ := b2 p h9
    have hfl2 := gd_flt g2 (by omega) h40
    have f3 : FR [371, 375] S2 (sS S2 375 0 (nI q)) := FR_sS FR_rf (by rw [rg8 (by omega)]; simp)
    obtain ⟨S4, a4, b4, c4, k4, f4⟩ := s_push (n := n) (f := 368) (S := sS S2 375 0 (nI q)) (o := 0) (e := (flt p.2).length) (q := q) (l := flt p.2) (by omega) (by omega) hn (by omega) (by rw [ln368]; omega) (by omega) (by omega) sS_eq (by rw [sS_21]; exact d1)
    have d2' : (sS S2 375 0 (nI q)).1 372 0 = nI (flt p.2).length := by rw [sS_ne (by omega)]; exact d2
    refine ⟨S4, ?_, Or.inl rfl, fun _ => ⟨b4, c4⟩, KP_tr k2 (KP_tr (fun i _ => rfl) k4), FR_tr f2' (FR_mo (FR_tr f3 f4) (by simp))⟩
    ((try simp only [k0, k1, k2, k3, k4, k5, k6, k8, k16, k30, k60, k100, k200, k201, k300, k1500, k8000, kM, k_m6]); repeat (first | rw [zt_eq (by omega)] | rw [zt_ne (by omega) (by omega) (by omega)] | rw [zt_nle (by omega) (by omega)] | rw [zt_le (by omega) (by omega)] | rw [zt_nlt (by omega) (by omega)] | rw [zt_lt (by omega) (by omega)] | rw [zt_nm (by omega)] | rw [zt_mm] | rw [zt_ml] | rw [zt_0m] | rw [zt_m0] | rw [zt_n6 (by omega)] | rw [zt_66] | rw [zt_06] | simp (disch := omega) only [k0, k1, k2, k3, k4, k5, k6, k8, k16, k30, k60, k100, k200, k201, k300, k1500, k8000, kM, k_m6, nIa, nIp, nIs, sI_1, sI_22, sL_1, sL_21, sS_21, sS_22, sI_ne, sL_ne, sS_ne, sS_eq, sI_eq, sI_at, sL_eq, sL_at, Nat.add_zero, if_true, if_false, r2, a1, a2', d2, a4] | rw [bV_e] | rw [pS_e] | rw [bI_s] | rw [bU_s] | rw [bL_s] | rw [gI_n (by omega) (by omega)] | rw [gR_n (by omega)] | rw [pI_n (by omega) (by omega)] | rw [gL_n (by omega) (by omega)] | rw [pL_n (by omega) (by omega)]))
/-! where binders stand -/
def RX (S : St) (ctx : List (List Mk)) : Prop := S.1 383 0 = nI ctx.length ∧ ∀ i t, ctx[i]? = some t → ∃ p, S.2.1 382 0 (ctx.length - 1 - i) = nI p ∧ sg (S.2.1 367 0) p (flt t) ∧ p + (flt t).length ≤ 8000
theorem RX_k {S S' : St} {ctx : List (List Mk)} {R : List Nat} (h : RX S ctx) (k : KP 382 ctx.length S S') (g : FR R S S') (h7 : 367 ∉ R) (h3 : S'.1 383 0 = nI ctx.length) : RX S' ctx := by
  refine ⟨h3, fun i t hi => ?_⟩
  have := gt_lt hi
  obtain ⟨p, a, b, c⟩ := h.2 i t hi
  exact ⟨p, (k _ (by omega)).trans a, sg_fr g (n8o (by omega) h7) b, c⟩
theorem RX_c {S : St} {ctx : List (List Mk)} {t : List Mk} {p : Nat} (h : RX S ctx) (hp : sg (S.2.1 367 0) p (flt t)) (h8 : p + (flt t).length ≤ 8000) : RX (sS (sI S 382 0 ctx.length (nI p)) 383 0 (nI (ctx.length + 1))) (t :: ctx) := by
  refine ⟨by rw [sS_eq, List.length_cons], fun i u hi => ?_⟩
  cases i with
  | zero =>
    cases hi
    refine ⟨p, ?_, by rw [sS_21, sI_ne (by omega)]; exact hp, h8⟩
    rw [List.length_cons, show ctx.length + 1 - 1 - 0 = ctx.length by omega, sS_21, sI_eq]
  | succ i =>
    have hi' : ctx[i]? = some u := hi
    have hlt := gt_lt hi'
    obtain ⟨p', a, b, c⟩ := h.2 i u hi'
    refine ⟨p', ?_, by rw [sS_21, sI_ne (by omega)]; exact b, c⟩
    rw [List.length_cons, show ctx.length + 1 - 1 - (i + 1) = ctx.length - 1 - i by omega, sS_21, sI_at (by omega)]
    exact a
def FM (n d a : Nat) (L : List (List Nat)) (T : List (List Mk)) (Ns : List Nme) (F : St → Int32 → Option (St × Int32)) : Prop := ∀ (S : St) (ctx : List (List Mk)) (x : List Mk) (o q : Nat), gdT (zB T + ctx.length) Ns.length x → x.length + 2 * a ≤ 200 → ctx.length ≤ a → MS S L T Ns → RX S ctx → cOk (zB T) Ns.length ctx → sg (S.2.1 367 0) o (flt x) → o + (flt x).length ≤ 8000 → S.1 375 0 = nI q → q ≤ 7000 * a → ∃ S', F S (nI o) = some (S', nI (tyS Ns d ctx x).1) ∧ ((tyS Ns d ctx x).1 = 0 → RS S' q (tyS Ns d ctx x).2 ∧ S'.1 383 0 = nI ctx.length) ∧ (tyS Ns d ctx x).1 ≤ 8 ∧ KP 371 q S S' ∧ KP 382 ctx.length S S' ∧ FR TZ S S'
theorem nzTZ {S S' : St} (h : FR (371 :: 375 :: NZ) S S') : FR TZ S S' := FR_mo h (by simp [TZ]; intro a h; exact Or.inr (Or.inr (Or.inr (Or.inr h))))
theorem n382 {R : List Nat} {o : Nat} {S S' : St} (h : FR R S S') (hr : 382 ∉ R) : KP 382 o S S' := KP_fr h (n8o (by omega) hr)
theorem flt_sort (l : List Nat) : flt (sortT l) = 0 :: l := List.append_nil _
theorem leaf0 {B N : Nat} {y : List Mk} (h : gdT B N y) (h0 : hk y = 0) : flt y = flt (sortT (hl1 y)) := by
  cases y with
  | nil => exact absurd (Tm_ne h.1) (by simp)
  | cons m r =>
    have hm : m.1 = 0 := h0
    have r0 := (tm_parts h.1).2.1 (by rw [hm]; rfl)
    rw [r0, flt_sort, flt_c, tks_0 hm, flt_n, List.append_nil]; rfl
/-- a sort is asked for -/
theorem m_sort {n d a o q : Nat} {L : List (List Nat)} {T : List (List Mk)} {Ns : List Nme} {F : St → Int32 → Option (St × Int32)} {S : St} {ctx : List (List Mk)} {x : List Mk} (hn : 10000 ≤ n) (he : ENV L T Ns) (hF : FM n d a L T Ns F) (hd : d + a ≤ 110) (ha : a ≤ 101) (hg : gdT (zB T + ctx.length) Ns.length x) (hl : x.length + 2 * a ≤ 200) (hc : ctx.length ≤ a) (hM : MS S L T Ns) (hX : RX S ctx) (hko : cOk (zB T) Ns.length ctx) (hs : sg (S.2.1 367 0) o (flt x)) (ho : o + (flt x).length ≤ 8000) (h5 : S.1 375 0 = nI q) (hq : q ≤ 7000 * a) : ∃ S', f_X8_ofSort n F S (nI o) = some (S', nI (srt Ns (tyS Ns d ctx x)).1) ∧ ((srt Ns (tyS Ns d ctx x)).1 = 0 → RS S' q (sortT (srt Ns (tyS Ns d ctx x)).2) ∧ S'.1 383 0 = nI ctx.length ∧ lvO (srt Ns (tyS Ns d ctx x)).2) ∧ (srt Ns (tyS Ns d ctx x)).1 ≤ 8 ∧ KP 371 q S S' ∧ KP 382 ctx.length S S' ∧ FR TZ S S' := by
  have hz := zB_le he.2.1
  obtain ⟨S1, A1, R1, B1, K1, K1', F1⟩ := hF S ctx x o q hg hl hc hM hX hko hs ho h5 hq
  have gd1 := tyS_gd he d ctx x hg hko (by omega)
  generalize tyS Ns d ctx x = r at *
  unfold f_X8_ofSort
  by_cases z1 : r.1 = 0
  · obtain ⟨R1a, R1b⟩ := R1 z1
    rw [z1] at A1
    have lv := srt_lv he (by omega) gd1
    obtain ⟨S2, A2, D2, R2, K2, F2⟩ := s_normalAt (n := n) (q := q) hn he (by omega) (MS_TZ hM F1) (gd1 z1) R1a (by omega)
    have gn := nr_gd he (B := zB T + ctx.length) (by omega) (gd1 z1)
    have F2' : FR TZ S S2 := FR_tr F1 (nzTZ F2)
    have K2' : KP 371 q S S2 := KP_tr K1 K2
    have K2b : KP 382 ctx.length S S2 := KP_tr K1' (n382 F2 (by decide))
    have h83 : S2.1 383 0 = nI ctx.length := by rw [(F2 383 0 (n8o (by omega) (by decide))).1]; exact R1b
    rw [srt_0 z1] at lv ⊢
    generalize nr Ns r.2 = y at *
    rcases D2 with u | u
    · obtain ⟨R2a, R2b⟩ := R2 u
      rw [u] at A2
      rw [thn_0 u] at lv ⊢
      have gy := gn u
      have kk0 : S2.2.1 371 0 q = nI (hk y.2) := by
        cases h9 : y.2 with
        | nil => rw [h9] at gy; exact absurd (Tm_ne gy.1) (by simp)
        | cons m r9 =>
          rw [h9, flt_c] at R2a
          exact sg_h R2a
      have y6 := hk_le gy
      by_cases z : hk y.2 = 0
      · rw [if_pos z] at lv ⊢
        refine ⟨S2, ?_, fun _ => ⟨?_, h83, lv rfl⟩, Nat.zero_le _, K2', K2b, F2'⟩
        · rw [z] at kk0
          ((try simp only [k0, k1, k2, k3, k4, k5, k6, k8, k16, k30, k60, k100, k200, k201, k300, k1500, k8000, kM, k_m6]); repeat (first | rw [zt_eq (by omega)] | rw [zt_ne (by omega) (by omega) (by omega)] | rw [zt_nle (by omega) (by omega)] | rw [zt_le (by omega) (by omega)] | rw [zt_nlt (by omega) (by omega)] | rw [zt_lt (by omega) (by omega)] | rw [zt_nm (by omega)] | rw [zt_mm] | rw [zt_ml] | rw [zt_0m] | rw [zt_m0] | rw [zt_n6 (by omega)] | rw [zt_66] | rw [zt_06] | simp (disch := omega) only [k0, k1, k2, k3, k4, k5, k6, k8, k16, k30, k60, k100, k200, k201, k300, k1500, k8000, kM, k_m6, nIa, nIp, nIs, sI_1, sI_22, sL_1, sL_21, sS_21, sS_22, sI_ne, sL_ne, sS_ne, sS_eq, sI_eq, sI_at, sL_eq, sL_at, Nat.add_zero, if_true, if_false, h5, A1, A2, kk0] | rw [bV_e] | rw [pS_e] | rw [bI_s] | rw [bU_s] | rw [bL_s] | rw [gI_n (by omega) (by omega)] | rw [gR_n (by omega)] | rw [pI_n (by omega) (by omega)] | rw [gL_n (by omega) (by omega)] | rw [pL_n (by omega) (by omega)] | rw [j_X8_ofSort_24]))
        · unfold RS
          rw [← leaf0 gy z]
          exact ⟨R2a, R2b⟩
      · rw [if_neg z]
        refine ⟨S2, ?_, (fun w => nomatch w), (by decide), K2', K2b, F2'⟩
        ((try simp only [k0, k1, k2, k3, k4, k5, k6, k8, k16, k30, k60, k100, k200, k201, k300, k1500, k8000, kM, k_m6]); repeat (first | rw [zt_eq (by omega)] | rw [zt_ne (by omega) (by omega) (by omega)] | rw [zt_nle (by omega) (by omega)] | rw [zt_le (by omega) (by omega)] | rw [zt_nlt (by omega) (by omega)] | rw [zt_lt (by omega) (by omega)] | rw [zt_nm (by omega)] | rw [zt_mm] | rw [zt_ml] | rw [zt_0m] | rw [zt_m0] | rw [zt_n6 (by omega)] | rw [zt_66] | rw [zt_06] | simp (disch := omega) only [k0, k1, k2, k3, k4, k5, k6, k8, k16, k30, k60, k100, k200, k201, k300, k1500, k8000, kM, k_m6, nIa, nIp, nIs, sI_1, sI_22, sL_1, sL_21, sS_21, sS_22, sI_ne, sL_ne, sS_ne, sS_eq, sI_eq, sI_at, sL_eq, sL_at, Nat.add_zero, if_true, if_false, h5, A1, A2, kk0] | rw [bV_e] | rw [pS_e] | rw [bI_s] | rw [bU_s] | rw [bL_s] | rw [gI_n (by omega) (by omega)] | rw [gR_n (by omega)] | rw [pI_n (by omega) (by omega)] | rw [gL_n (by omega) (by omega)] | rw [pL_n (by omega) (by omega)] | rw [j_X8_ofSort_24]))
    · rw [u, thn_m (by decide)]
      rw [u] at A2
      have A2' : f_X8_normalAt n S1 (nI q) = some (S2, nI 5) := A2
      refine ⟨S2, ?_, (fun w => nomatch w), (by decide), K2', K2b, F2'⟩
      ((try simp only [k0, k1, k2, k3, k4, k5, k6, k8, k16, k30, k60, k100, k200, k201, k300, k1500, k8000, kM, k_m6]); repeat (first | rw [zt_eq (by omega)] | rw [zt_ne (by omega) (by omega) (by omega)] | rw [zt_nle (by omega) (by omega)] | rw [zt_le (by omega) (by omega)] | rw [zt_nlt (by omega) (by omega)] | rw [zt_lt (by omega) (by omega)] | rw [zt_nm (by omega)] | rw [zt_mm] | rw [zt_ml] | rw [zt_0m] | rw [zt_m0] | rw [zt_n6 (by omega)] | rw [zt_66] | rw [zt_06] | simp (disch := omega) only [k0, k1, k2, k3, k4, k5, k6, k8, k16, k30, k60, k100, k200, k201, k300, k1500, k8000, kM, k_m6, nIa, nIp, nIs, sI_1, sI_22, sL_1, sL_21, sS_21, sS_22, sI_ne, sL_ne, sS_ne, sS_eq, sI_eq, sI_at, sL_eq, sL_at, Nat.add_zero, if_true, if_false, h5, A1, A2'] | rw [bV_e] | rw [pS_e] | rw [bI_s] | rw [bU_s] | rw [bL_s] | rw [gI_n (by omega) (by omega)] | rw [gR_n (by omega)] | rw [pI_n (by omega) (by omega)] | rw [gL_n (by omega) (by omega)] | rw [pL_n (by omega) (by omega)] | rw [j_X8_ofSort_24]))
  · rw [srt_n z1]
    refine ⟨S1, ?_, fun w => absurd w z1, B1, K1, K1', F1⟩
    ((try simp only [k0, k1, k2, k3, k4, k5, k6, k8, k16, k30, k60, k100, k200, k201, k300, k1500, k8000, kM, k_m6]); repeat (first | rw [zt_eq (by omega)] | rw [zt_ne (by omega) (by omega) (by omega)] | rw [zt_nle (by omega) (by omega)] | rw [zt_le (by omega) (by omega)] | rw [zt_nlt (by omega) (by omega)] | rw [zt_lt (by omega) (by omega)] | rw [zt_nm (by omega)] | rw [zt_mm] | rw [zt_ml] | rw [zt_0m] | rw [zt_m0] | rw [zt_n6 (by omega)] | rw [zt_66] | rw [zt_06] | simp (disch := omega) only [k0, k1, k2, k3, k4, k5, k6, k8, k16, k30, k60, k100, k200, k201, k300, k1500, k8000, kM, k_m6, nIa, nIp, nIs, sI_1, sI_22, sL_1, sL_21, sS_21, sS_22, sI_ne, sL_ne, sS_ne, sS_eq, sI_eq, sI_at, sL_eq, sL_at, Nat.add_zero, if_true, if_false, h5, A1] | rw [bV_e] | rw [pS_e] | rw [bI_s] | rw [bU_s] | rw [bL_s] | rw [gI_n (by omega) (by omega)] | rw [gR_n (by omega)] | rw [pI_n (by omega) (by omega)] | rw [gL_n (by omega) (by omega)] | rw [pL_n (by omega) (by omega)] | rw [j_X8_ofSort_24]))
