/-! the reference: the row at hand -/
def CUR (S : St) (ms : List Mk) : Prop := sg (S.2.1 368 0) 0 (flt ms) ∧ S.1 372 0 = nI (flt ms).length
theorem CUR_fr {S S' : St} {R : List Nat} {ms : List Mk} (h : CUR S ms) (g : FR R S S') (h1 : 368 ∉ R) (h2 : 372 ∉ R) : CUR S' ms := by
  unfold CUR
  rw [(g 368 0 (by rw [rg8 (by omega)]; exact h1)).2.1, (g 372 0 (by rw [rg8 (by omega)]; exact h2)).1]
  exact h
theorem sg_mid {a : Nat → Int32} {o : Nat} {A B C : List Nat} (h : sg a o (A ++ (B ++ C))) : sg a (o + A.length) B := (sg_app.mp (sg_app.mp h).2).1
theorem gd_flt {B N : Nat} {ms : List Mk} (h : gdT B N ms) (hB : B ≤ 1500000) (hN : N ≤ 40) : (flt ms).length ≤ 6800 := by
  have h1 := flt_len (gdT_mV h hB (by omega))
  have h2 := h.2.1
  omega
theorem gd_mW {B N : Nat} {ms : List Mk} (h : gdT B N ms) (hB : B ≤ 1500000) (hN : N ≤ 40) : ∀ m ∈ ms, mW m := fun m hm => mV_mW (gdT_mV h hB (by omega) m hm)
theorem gd_mWd {B N : Nat} {ms : List Mk} (h : gdT B N ms) (hB : B ≤ 1500000) (hN : N ≤ 40) : ∀ m ∈ ms, mW m ∧ m.2.2.1 < 100000 := fun m hm => ⟨gd_mW h hB hN m hm, (gd_mBs h hB hN m hm).2.2⟩
/-! the next step -/
def oF (p : Nat) (ms : List Mk) (o : Option Nat) : Int32 := match o with
  | none => mI
  | some i => nI (p + (flt (ms.take i)).length)
theorem s_stepAt_l {n : Nat} {S : St} {T : List (List Mk)} {Ns : List Nme} (hn : 10000 ≤ n) (hN : NM S T Ns) (hO : NOk T Ns) (hT : T.length ≤ 1500) : ∀ (x : List Mk) (st : List Nat) (p mm e : Nat), run st x = some [] → (∀ m ∈ x, mW m ∧ (m.1 = 2 → m.2.1 < Ns.length)) → sg (S.2.1 368 0) p (flt x) → e = p + (flt x).length → e ≤ 8000 → S.1 372 0 = nI e → x.length < mm → l_X8_stepAt_2 n mm S (nI p) = some (S, oF p x (nxS Ns x)) := by
  intro x
  induction x with
  | nil =>
    intro st p mm e hr hm hs he h8 h2 hmm
    obtain ⟨mm, rfl⟩ : ∃ y, mm = y + 1 := ⟨mm - 1, by omega⟩
    rw [flt_n, List.length_nil] at he
    unfold l_X8_stepAt_2
    show _ = some (S, mI)
    ((try simp only [i0, i1, i2, i3, i4, i5, i6, i8, i16, i30, i60, i100, i200, i201, i300, i1500, i8000, iM, i_m6]); repeat (first | rw [zt_eq (by omega)] | rw [zt_ne (by omega) (by omega) (by omega)] | rw [zt_nle (by omega) (by omega)] | rw [zt_le (by omega) (by omega)] | rw [zt_nlt (by omega) (by omega)] | rw [zt_lt (by omega) (by omega)] | rw [zt_nm (by omega)] | rw [zt_mm] | rw [zt_ml] | rw [zt_0m] | rw [zt_m0] | rw [zt_n6 (by omega)] | rw [zt_66] | rw [zt_06] | simp (disch := omega) only [i0, i1, i2, i3, i4, i5, i6, i8, i16, i30, i60, i100, i200, i201, i300, i1500, i8000, iM, i_m6, nIa, nIp, nIs, sI_1, sI_22, sL_1, sL_21, sS_21, sS_22, sI_ne, sL_ne, sS_ne, sS_eq, sI_eq, sI_at, sL_eq, sL_at, Nat.add_zero, if_true, if_false, h2] | rw [bV_e] | rw [pS_e] | rw [bI_s] | rw [bU_s] | rw [bL_s] | rw [gI_n (by omega) (by omega)] | rw [pI_n (by omega) (by omega)] | rw [gL_n (by omega) (by omega)] | rw [pL_n (by omega) (by omega)]))
  | cons m r ih =>
    intro st p mm e hr hm hs he h8 h2 hmm
    obtain ⟨mm, rfl⟩ : ∃ y, mm = y + 1 := ⟨mm - 1, by omega⟩
    rw [List.length_cons] at hmm
    obtain ⟨s, rfl, hr2⟩ := run_cc hr
    rw [flt_c] at hs he
    have hk0 := sg_h hs
    obtain ⟨h1, h3⟩ := sg_app.mp hs
    rw [List.length_append] at he
    obtain ⟨hmw, hm2⟩ := hm m List.mem_cons_self
    have tp := tks_pos m
    have m6 := hmw.1
    have mi := hmw.2.1
    have bT := s_behindToken (n := n) (S := S) (f := 368) (by omega) hmw h1 (by rw [ln368]; omega) (by omega)
    have hih := ih _ (p + (tks m).length) mm e hr2 (fun y hy => hm y (List.mem_cons_of_mem _ hy)) h3 (by omega) h8 h2 (by omega)
    have o0 : isStp Ns m r = true → oF p (m :: r) (nxS Ns (m :: r)) = nI p := by
      intro z
      show oF p (m :: r) (if isStp Ns m r then some 0 else _) = _
      rw [if_pos z]; rfl
    have o1 : ¬ isStp Ns m r = true → oF p (m :: r) (nxS Ns (m :: r)) = oF (p + (tks m).length) r (nxS Ns r) := by
      intro z
      show oF p (m :: r) (if isStp Ns m r then some 0 else (nxS Ns r).map (· + 1)) = _
      rw [if_neg z]
      cases nxS Ns r with
      | none => rfl
      | some k =>
        show nI (p + (flt ((m :: r).take (k + 1))).length) = nI (p + (tks m).length + (flt (r.take k)).length)
        rw [List.take_succ_cons, flt_c, List.length_append]; congr 1; omega
    unfold l_X8_stepAt_2
    by_cases q6 : m.1 = 6
    · rw [o0 (by unfold isStp; simp [q6])]
      rw [q6] at hk0
      ((try simp only [i0, i1, i2, i3, i4, i5, i6, i8, i16, i30, i60, i100, i200, i201, i300, i1500, i8000, iM, i_m6]); repeat (first | rw [zt_eq (by omega)] | rw [zt_ne (by omega) (by omega) (by omega)] | rw [zt_nle (by omega) (by omega)] | rw [zt_le (by omega) (by omega)] | rw [zt_nlt (by omega) (by omega)] | rw [zt_lt (by omega) (by omega)] | rw [zt_nm (by omega)] | rw [zt_mm] | rw [zt_ml] | rw [zt_0m] | rw [zt_m0] | rw [zt_n6 (by omega)] | rw [zt_66] | rw [zt_06] | simp (disch := omega) only [i0, i1, i2, i3, i4, i5, i6, i8, i16, i30, i60, i100, i200, i201, i300, i1500, i8000, iM, i_m6, nIa, nIp, nIs, sI_1, sI_22, sL_1, sL_21, sS_21, sS_22, sI_ne, sL_ne, sS_ne, sS_eq, sI_eq, sI_at, sL_eq, sL_at, Nat.add_zero, if_true, if_false, h2, hk0] | rw [bV_e] | rw [pS_e] | rw [bI_s] | rw [bU_s] | rw [bL_s] | rw [gI_n (by omega) (by omega)] | rw [pI_n (by omega) (by omega)] | rw [gL_n (by omega) (by omega)] | rw [pL_n (by omega) (by omega)] | rw [j_X8_stepAt_69] | rw [j_X8_stepAt_74]))
      exact if_neg (by decide)
    · by_cases q5 : m.1 = 5
      · have tk5 : (tks m).length = 1 := by rw [tks_3 (by omega)]; rfl
        rw [tk5] at h3 bT hih
        cases r with
        | nil => rw [q5] at hr2; cases hr2
        | cons m' r' =>
          rw [flt_c] at h3
          have hk1 := sg_h h3
          have m6' := (hm m' (List.mem_cons_of_mem _ List.mem_cons_self)).1.1
          have tp' := tks_pos m'
          rw [flt_c, List.length_append] at he
          rw [q5] at hk0
          by_cases z : m'.1 = 4
          · rw [o0 (by unfold isStp; simp [q5]; exact z)]
            rw [z] at hk1
            ((try simp only [i0, i1, i2, i3, i4, i5, i6, i8, i16, i30, i60, i100, i200, i201, i300, i1500, i8000, iM, i_m6]); repeat (first | rw [zt_eq (by omega)] | rw [zt_ne (by omega) (by omega) (by omega)] | rw [zt_nle (by omega) (by omega)] | rw [zt_le (by omega) (by omega)] | rw [zt_nlt (by omega) (by omega)] | rw [zt_lt (by omega) (by omega)] | rw [zt_nm (by omega)] | rw [zt_mm] | rw [zt_ml] | rw [zt_0m] | rw [zt_m0] | rw [zt_n6 (by omega)] | rw [zt_66] | rw [zt_06] | simp (disch := omega) only [i0, i1, i2, i3, i4, i5, i6, i8, i16, i30, i60, i100, i200, i201, i300, i1500, i8000, iM, i_m6, nIa, nIp, nIs, sI_1, sI_22, sL_1, sL_21, sS_21, sS_22, sI_ne, sL_ne, sS_ne, sS_eq, sI_eq, sI_at, sL_eq, sL_at, Nat.add_zero, if_true, if_false, h2, hk0, hk1] | rw [bV_e] | rw [pS_e] | rw [bI_s] | rw [bU_s] | rw [bL_s] | rw [gI_n (by omega) (by omega)] | rw [pI_n (by omega) (by omega)] | rw [gL_n (by omega) (by omega)] | rw [pL_n (by omega) (by omega)] | rw [j_X8_stepAt_69] | rw [j_X8_stepAt_74]))
            exact if_neg (by decide)
          · rw [o1 (by unfold isStp; simp [q5]; exact z), tk5, ← hih]
            ((try simp only [i0, i1, i2, i3, i4, i5, i6, i8, i16, i30, i60, i100, i200, i201, i300, i1500, i8000, iM, i_m6]); repeat (first | rw [zt_eq (by omega)] | rw [zt_ne (by omega) (by omega) (by omega)] | rw [zt_nle (by omega) (by omega)] | rw [zt_le (by omega) (by omega)] | rw [zt_nlt (by omega) (by omega)] | rw [zt_lt (by omega) (by omega)] | rw [zt_nm (by omega)] | rw [zt_mm] | rw [zt_ml] | rw [zt_0m] | rw [zt_m0] | rw [zt_n6 (by omega)] | rw [zt_66] | rw [zt_06] | simp (disch := omega) only [i0, i1, i2, i3, i4, i5, i6, i8, i16, i30, i60, i100, i200, i201, i300, i1500, i8000, iM, i_m6, nIa, nIp, nIs, sI_1, sI_22, sL_1, sL_21, sS_21, sS_22, sI_ne, sL_ne, sS_ne, sS_eq, sI_eq, sI_at, sL_eq, sL_at, Nat.add_zero, if_true, if_false, h2, hk0, hk1, bT] | rw [bV_e] | rw [pS_e] | rw [bI_s] | rw [bU_s] | rw [bL_s] | rw [gI_n (by omega) (by omega)] | rw [pI_n (by omega) (by omega)] | rw [gL_n (by omega) (by omega)] | rw [pL_n (by omega) (by omega)] | rw [j_X8_stepAt_43] | rw [j_X8_stepAt_73] | rw [j_X8_stepAt_74]))
      · by_cases q2 : m.1 = 2
        · have h1' := h1
          rw [tks_2 q2] at h1'
          have tkl : (tks m).length = (m.2.2.2.1 ++ m.2.2.2.2).length + 2 := by rw [tks_2 q2]; rfl
          have hx : S.2.1 368 0 (p + 1) = nI m.2.1 := h1'.2.1
          have hlt := hm2 q2
          have e9 := List.getElem?_eq_getElem hlt
          have c3 := (hN.2 m.2.1 _ e9).2.2
          have hO1 := hO.1
          have nv : nval Ns m.2.1 = (Ns[m.2.1]).2.2 := by unfold nval; rw [e9]
          rw [q2] at hk0
          rw [← nv] at c3
          cases h9 : nval Ns m.2.1 with
          | some v =>
            rw [o0 (by unfold isStp; simp [q2, h9])]
            rw [h9, nvI_s] at c3
            have := ixT_lt (nval_mem hO h9)
            ((try simp only [i0, i1, i2, i3, i4, i5, i6, i8, i16, i30, i60, i100, i200, i201, i300, i1500, i8000, iM, i_m6]); repeat (first | rw [zt_eq (by omega)] | rw [zt_ne (by omega) (by omega) (by omega)] | rw [zt_nle (by omega) (by omega)] | rw [zt_le (by omega) (by omega)] | rw [zt_nlt (by omega) (by omega)] | rw [zt_lt (by omega) (by omega)] | rw [zt_nm (by omega)] | rw [zt_mm] | rw [zt_ml] | rw [zt_0m] | rw [zt_m0] | rw [zt_n6 (by omega)] | rw [zt_66] | rw [zt_06] | simp (disch := omega) only [i0, i1, i2, i3, i4, i5, i6, i8, i16, i30, i60, i100, i200, i201, i300, i1500, i8000, iM, i_m6, nIa, nIp, nIs, sI_1, sI_22, sL_1, sL_21, sS_21, sS_22, sI_ne, sL_ne, sS_ne, sS_eq, sI_eq, sI_at, sL_eq, sL_at, Nat.add_zero, if_true, if_false, h2, hk0, hx, c3] | rw [bV_e] | rw [pS_e] | rw [bI_s] | rw [bU_s] | rw [bL_s] | rw [gI_n (by omega) (by omega)] | rw [pI_n (by omega) (by omega)] | rw [gL_n (by omega) (by omega)] | rw [pL_n (by omega) (by omega)] | rw [j_X8_stepAt_43] | rw [j_X8_stepAt_69] | rw [j_X8_stepAt_73] | rw [j_X8_stepAt_74]))
            exact if_neg (by decide)
          | none =>
            rw [o1 (by unfold isStp; simp [q2, h9]), ← hih]
            rw [h9, nvI_n] at c3
            ((try simp only [i0, i1, i2, i3, i4, i5, i6, i8, i16, i30, i60, i100, i200, i201, i300, i1500, i8000, iM, i_m6]); repeat (first | rw [zt_eq (by omega)] | rw [zt_ne (by omega) (by omega) (by omega)] | rw [zt_nle (by omega) (by omega)] | rw [zt_le (by omega) (by omega)] | rw [zt_nlt (by omega) (by omega)] | rw [zt_lt (by omega) (by omega)] | rw [zt_nm (by omega)] | rw [zt_mm] | rw [zt_ml] | rw [zt_0m] | rw [zt_m0] | rw [zt_n6 (by omega)] | rw [zt_66] | rw [zt_06] | simp (disch := omega) only [i0, i1, i2, i3, i4, i5, i6, i8, i16, i30, i60, i100, i200, i201, i300, i1500, i8000, iM, i_m6, nIa, nIp, nIs, sI_1, sI_22, sL_1, sL_21, sS_21, sS_22, sI_ne, sL_ne, sS_ne, sS_eq, sI_eq, sI_at, sL_eq, sL_at, Nat.add_zero, if_true, if_false, h2, hk0, hx, c3, bT] | rw [bV_e] | rw [pS_e] | rw [bI_s] | rw [bU_s] | rw [bL_s] | rw [gI_n (by omega) (by omega)] | rw [pI_n (by omega) (by omega)] | rw [gL_n (by omega) (by omega)] | rw [pL_n (by omega) (by omega)] | rw [j_X8_stepAt_43] | rw [j_X8_stepAt_69] | rw [j_X8_stepAt_73] | rw [j_X8_stepAt_74]))
        · rw [o1 (by unfold isStp; simp [q2, q5, q6]), ← hih]
          ((try simp only [i0, i1, i2, i3, i4, i5, i6, i8, i16, i30, i60, i100, i200, i201, i300, i1500, i8000, iM, i_m6]); repeat (first | rw [zt_eq (by omega)] | rw [zt_ne (by omega) (by omega) (by omega)] | rw [zt_nle (by omega) (by omega)] | rw [zt_le (by omega) (by omega)] | rw [zt_nlt (by omega) (by omega)] | rw [zt_lt (by omega) (by omega)] | rw [zt_nm (by omega)] | rw [zt_mm] | rw [zt_ml] | rw [zt_0m] | rw [zt_m0] | rw [zt_n6 (by omega)] | rw [zt_66] | rw [zt_06] | simp (disch := omega) only [i0, i1, i2, i3, i4, i5, i6, i8, i16, i30, i60, i100, i200, i201, i300, i1500, i8000, iM, i_m6, nIa, nIp, nIs, sI_1, sI_22, sL_1, sL_21, sS_21, sS_22, sI_ne, sL_ne, sS_ne, sS_eq, sI_eq, sI_at, sL_eq, sL_at, Nat.add_zero, if_true, if_false, h2, hk0, bT] | rw [bV_e] | rw [pS_e] | rw [bI_s] | rw [bU_s] | rw [bL_s] | rw [gI_n (by omega) (by omega)] | rw [pI_n (by omega) (by omega)] | rw [gL_n (by omega) (by omega)] | rw [pL_n (by omega) (by omega)] | rw [j_X8_stepAt_43] | rw [j_X8_stepAt_69] | rw [j_X8_stepAt_73] | rw [j_X8_stepAt_74]))
theorem s_stepAt {n B : Nat} {S : St} {T : List (List Mk)} {Ns : List Nme} {ms : List Mk} (hn : 10000 ≤ n) (hN : NM S T Ns) (hO : NOk T Ns) (hT : T.length ≤ 1500) (hB : B ≤ 1000000) (hg : gdT B Ns.length ms) (hC : CUR S ms) : f_X8_stepAt n S = some (S, oF 0 ms (nxS Ns ms)) := by
  have h1 := gd_flt hg (by omega) hO.1
  have h2 := hg.2.1
  exact s_stepAt_l hn hN hO hT ms [0] 0 n _ hg.1 (fun m hm => ⟨gd_mW hg (by omega) hO.1 m hm, (hg.2.2 m hm).2.2.1⟩) hC.1 (by omega) (by omega) hC.2 (by omega)
/-! rows copied -/
theorem s_take_l {n : Nat} {e : Nat} (h8 : e ≤ 8000) : ∀ (l done : List Nat) (mm p : Nat) (S : St), p = done.length → e = p + l.length → l.length < mm → S.1 373 0 = nI e → sg (S.2.1 369 0) p l → sg (S.2.1 368 0) 0 done → ∃ S', l_X8_take_2 n mm S (nI p) = some S' ∧ sg (S'.2.1 368 0) 0 (done ++ l) ∧ S'.1 372 0 = nI e ∧ FR [368, 372] S S' := by
  intro l
  induction l with
  | nil =>
    intro done mm p S hp he hmm h3 hs hd
    obtain ⟨mm, rfl⟩ : ∃ y, mm = y + 1 := ⟨mm - 1, by omega⟩
    rw [List.length_nil] at he
    refine ⟨sS S 372 0 (nI e), ?_, by rw [List.append_nil]; exact hd, sS_eq, FR_sS FR_rf (by rw [rg8 (by omega)]; simp)⟩
    unfold l_X8_take_2
    ((try simp only [i0, i1, i2, i3, i4, i5, i6, i8, i16, i30, i60, i100, i200, i201, i300, i1500, i8000, iM, i_m6]); repeat (first | rw [zt_eq (by omega)] | rw [zt_ne (by omega) (by omega) (by omega)] | rw [zt_nle (by omega) (by omega)] | rw [zt_le (by omega) (by omega)] | rw [zt_nlt (by omega) (by omega)] | rw [zt_lt (by omega) (by omega)] | rw [zt_nm (by omega)] | rw [zt_mm] | rw [zt_ml] | rw [zt_0m] | rw [zt_m0] | rw [zt_n6 (by omega)] | rw [zt_66] | rw [zt_06] | simp (disch := omega) only [i0, i1, i2, i3, i4, i5, i6, i8, i16, i30, i60, i100, i200, i201, i300, i1500, i8000, iM, i_m6, nIa, nIp, nIs, sI_1, sI_22, sL_1, sL_21, sS_21, sS_22, sI_ne, sL_ne, sS_ne, sS_eq, sI_eq, sI_at, sL_eq, sL_at, Nat.add_zero, if_true, if_false, h3] | rw [bV_e] | rw [pS_e] | rw [bI_s] | rw [bU_s] | rw [bL_s] | rw [gI_n (by omega) (by omega)] | rw [pI_n (by omega) (by omega)] | rw [gL_n (by omega) (by omega)] | rw [pL_n (by omega) (by omega)]))
  | cons t l ih =>
    intro done mm p S hp he hmm h3 hs hd
    obtain ⟨mm, rfl⟩ : ∃ y, mm = y + 1 := ⟨mm - 1, by omega⟩
    rw [List.length_cons] at he hmm
    obtain ⟨h1, h2⟩ := hs
    have f1 : FR [368, 372] S (sI S 368 0 p (nI t)) := FR_sI FR_rf (by rw [rg8 (by omega)]; simp)
    obtain ⟨S', a, b, c, d⟩ := ih (done ++ [t]) mm (p + 1) (sI S 368 0 p (nI t)) (by simp [hp]) (by omega) (by omega) (by rw [sI_1]; exact h3) (by rw [sI_ne (by omega)]; exact h2) (by
      rw [sI_self]
      refine sg_app.mpr ⟨sg_up hd (by omega), ?_, trivial⟩
      rw [Nat.zero_add, ← hp]; simp [upd])
    refine ⟨S', ?_, by rw [List.append_assoc] at b; exact b, c, FR_tr f1 d⟩
    unfold l_X8_take_2
    ((try simp only [i0, i1, i2, i3, i4, i5, i6, i8, i16, i30, i60, i100, i200, i201, i300, i1500, i8000, iM, i_m6]); repeat (first | rw [zt_eq (by omega)] | rw [zt_ne (by omega) (by omega) (by omega)] | rw [zt_nle (by omega) (by omega)] | rw [zt_le (by omega) (by omega)] | rw [zt_nlt (by omega) (by omega)] | rw [zt_lt (by omega) (by omega)] | rw [zt_nm (by omega)] | rw [zt_mm] | rw [zt_ml] | rw [zt_0m] | rw [zt_m0] | rw [zt_n6 (by omega)] | rw [zt_66] | rw [zt_06] | simp (disch := omega) only [i0, i1, i2, i3, i4, i5, i6, i8, i16, i30, i60, i100, i200, i201, i300, i1500, i8000, iM, i_m6, nIa, nIp, nIs, sI_1, sI_22, sL_1, sL_21, sS_21, sS_22, sI_ne, sL_ne, sS_ne, sS_eq, sI_eq, sI_at, sL_eq, sL_at, Nat.add_zero, if_true, if_false, h3, h1] | rw [bV_e] | rw [pS_e] | rw [bI_s] | rw [bU_s] | rw [bL_s] | rw [gI_n (by omega) (by omega)] | rw [pI_n (by omega) (by omega)] | rw [gL_n (by omega) (by omega)] | rw [pL_n (by omega) (by omega)]))
    exact a
theorem s_take {n : Nat} {S : St} {c : List Nat} (hn : 10000 ≤ n) (h : NXT S c) (hc : c.length ≤ 8000) : ∃ S', f_X8_take n S = some S' ∧ sg (S'.2.1 368 0) 0 c ∧ S'.1 372 0 = nI c.length ∧ FR [368, 372] S S' := by
  obtain ⟨w1, w2, w3⟩ := NXT_ok h hc
  exact s_take_l hc c [] n 0 S rfl (by omega) (by omega) w2 w3 trivial
theorem s_load_l {n f o e : Nat} (hf : 367 ≤ f ∧ f ≤ 371) (hne : f ≠ 368) (he : e ≤ ln f) : ∀ (l done : List Nat) (mm p : Nat) (S : St), p = o + done.length → e = p + l.length → done.length + l.length ≤ 8000 → l.length < mm → sg (S.2.1 f 0) p l → sg (S.2.1 368 0) 0 done → ∃ S', l_X8_load_3 n mm S f (nI o) (nI e) (nI p) = some S' ∧ sg (S'.2.1 368 0) 0 (done ++ l) ∧ S'.1 372 0 = nI (done ++ l).length ∧ FR [368, 372] S S' := by
  obtain ⟨hf1, hf2⟩ := ln8 hf
  intro l
  induction l with
  | nil =>
    intro done mm p S hp hep h8 hmm hs hd
    obtain ⟨mm, rfl⟩ : ∃ y, mm = y + 1 := ⟨mm - 1, by omega⟩
    rw [List.length_nil] at hep
    refine ⟨sS S 372 0 (nI done.length), ?_, by rw [List.append_nil]; exact hd, by rw [sS_eq, List.append_nil], FR_sS FR_rf (by rw [rg8 (by omega)]; simp)⟩
    unfold l_X8_load_3
    have : e - o = done.length := by omega
    ((try simp only [i0, i1, i2, i3, i4, i5, i6, i8, i16, i30, i60, i100, i200, i201, i300, i1500, i8000, iM, i_m6]); repeat (first | rw [zt_eq (by omega)] | rw [zt_ne (by omega) (by omega) (by omega)] | rw [zt_nle (by omega) (by omega)] | rw [zt_le (by omega) (by omega)] | rw [zt_nlt (by omega) (by omega)] | rw [zt_lt (by omega) (by omega)] | rw [zt_nm (by omega)] | rw [zt_mm] | rw [zt_ml] | rw [zt_0m] | rw [zt_m0] | rw [zt_n6 (by omega)] | rw [zt_66] | rw [zt_06] | simp (disch := omega) only [i0, i1, i2, i3, i4, i5, i6, i8, i16, i30, i60, i100, i200, i201, i300, i1500, i8000, iM, i_m6, nIa, nIp, nIs, sI_1, sI_22, sL_1, sL_21, sS_21, sS_22, sI_ne, sL_ne, sS_ne, sS_eq, sI_eq, sI_at, sL_eq, sL_at, Nat.add_zero, if_true, if_false, this] | rw [bV_e] | rw [pS_e] | rw [bI_s] | rw [bU_s] | rw [bL_s] | rw [gI_n (by omega) (by omega)] | rw [pI_n (by omega) (by omega)] | rw [gL_n (by omega) (by omega)] | rw [pL_n (by omega) (by omega)]))
  | cons t l ih =>
    intro done mm p S hp hep h8 hmm hs hd
    obtain ⟨mm, rfl⟩ : ∃ y, mm = y + 1 := ⟨mm - 1, by omega⟩
    rw [List.length_cons] at hep hmm h8
    obtain ⟨h1, h2⟩ := hs
    have f1 : FR [368, 372] S (sI S 368 0 done.length (nI t)) := FR_sI FR_rf (by rw [rg8 (by omega)]; simp)
    obtain ⟨S', a, b, c, d⟩ := ih (done ++ [t]) mm (p + 1) (sI S 368 0 done.length (nI t)) (by simp; omega) (by omega) (by simp; omega) (by omega) (by rw [sI_ne (by omega)]; exact h2) (by
      rw [sI_self]
      refine sg_app.mpr ⟨sg_up hd (by omega), ?_, trivial⟩
      rw [Nat.zero_add]; simp [upd])
    rw [List.append_assoc] at b c
    refine ⟨S', ?_, b, c, FR_tr f1 d⟩
    unfold l_X8_load_3
    have : p - o = done.length := by omega
    ((try simp only [i0, i1, i2, i3, i4, i5, i6, i8, i16, i30, i60, i100, i200, i201, i300, i1500, i8000, iM, i_m6]); repeat (first | rw [zt_eq (by omega)] | rw [zt_ne (by omega) (by omega) (by omega)] | rw [zt_nle (by omega) (by omega)] | rw [zt_le (by omega) (by omega)] | rw [zt_nlt (by omega) (by omega)] | rw [zt_lt (by omega) (by omega)] | rw [zt_nm (by omega)] | rw [zt_mm] | rw [zt_ml] | rw [zt_0m] | rw [zt_m0] | rw [zt_n6 (by omega)] | rw [zt_66] | rw [zt_06] | simp (disch := omega) only [i0, i1, i2, i3, i4, i5, i6, i8, i16, i30, i60, i100, i200, i201, i300, i1500, i8000, iM, i_m6, nIa, nIp, nIs, sI_1, sI_22, sL_1, sL_21, sS_21, sS_22, sI_ne, sL_ne, sS_ne, sS_eq, sI_eq, sI_at, sL_eq, sL_at, Nat.add_zero, if_true, if_false, h1, this] | rw [bV_e] | rw [pS_e] | rw [bI_s] | rw [bU_s] | rw [bL_s] | rw [gI_n (by omega) (by omega)] | rw [pI_n (by omega) (by omega)] | rw [gL_n (by omega) (by omega)] | rw [pL_n (by omega) (by omega)]))
    exact a
theorem s_load {n f o e : Nat} {S : St} {l : List Nat} (hf : 367 ≤ f ∧ f ≤ 371) (hne : f ≠ 368) (hn : 10000 ≤ n) (he : e = o + l.length) (hl : e ≤ ln f) (h8 : l.length ≤ 8000) (hs : sg (S.2.1 f 0) o l) : ∃ S', f_X8_load n S f (nI o) (nI e) = some S' ∧ sg (S'.2.1 368 0) 0 l ∧ S'.1 372 0 = nI l.length ∧ FR [368, 372] S S' := s_load_l hf hne hl l [] n o S rfl he (by simp; omega) (by omega) hs trivial
theorem s_push_l {n f o e : Nat} (hf : 367 ≤ f ∧ f ≤ 371) (hne : f ≠ 371) (he : e ≤ ln f) : ∀ (l : List Nat) (mm p q : Nat) (S : St), e = p + l.length → q + l.length ≤ 1500000 → l.length < mm → S.1 375 0 = nI q → sg (S.2.1 f 0) p l → ∃ S', l_X8_push_3 n mm S f (nI e) (nI p) = some S' ∧ sg (S'.2.1 371 0) q l ∧ S'.1 375 0 = nI (q + l.length) ∧ KP 371 q S S' ∧ FR [371, 375] S S' := by
  obtain ⟨hf1, hf2⟩ := ln8 hf
  intro l
  induction l with
  | nil =>
    intro mm p q S hep h8 hmm h5 hs
    obtain ⟨mm, rfl⟩ : ∃ y, mm = y + 1 := ⟨mm - 1, by omega⟩
    rw [List.length_nil] at hep
    refine ⟨S, ?_, trivial, h5, KP_rf, FR_rf⟩
    unfold l_X8_push_3
    ((try simp only [i0, i1, i2, i3, i4, i5, i6, i8, i16, i30, i60, i100, i200, i201, i300, i1500, i8000, iM, i_m6]); repeat (first | rw [zt_eq (by omega)] | rw [zt_ne (by omega) (by omega) (by omega)] | rw [zt_nle (by omega) (by omega)] | rw [zt_le (by omega) (by omega)] | rw [zt_nlt (by omega) (by omega)] | rw [zt_lt (by omega) (by omega)] | rw [zt_nm (by omega)] | rw [zt_mm] | rw [zt_ml] | rw [zt_0m] | rw [zt_m0] | rw [zt_n6 (by omega)] | rw [zt_66] | rw [zt_06] | simp (disch := omega) only [i0, i1, i2, i3, i4, i5, i6, i8, i16, i30, i60, i100, i200, i201, i300, i1500, i8000, iM, i_m6, nIa, nIp, nIs, sI_1, sI_22, sL_1, sL_21, sS_21, sS_22, sI_ne, sL_ne, sS_ne, sS_eq, sI_eq, sI_at, sL_eq, sL_at, Nat.add_zero, if_true, if_false] | rw [bV_e] | rw [pS_e] | rw [bI_s] | rw [bU_s] | rw [bL_s] | rw [gI_n (by omega) (by omega)] | rw [pI_n (by omega) (by omega)] | rw [gL_n (by omega) (by omega)] | rw [pL_n (by omega) (by omega)]))
  | cons t l ih =>
    intro mm p q S hep h8 hmm h5 hs
    obtain ⟨mm, rfl⟩ : ∃ y, mm = y + 1 := ⟨mm - 1, by omega⟩
    rw [List.length_cons] at hep hmm h8
    obtain ⟨h1, h2⟩ := hs
    have f1 : FR [371, 375] S (sS (sI S 371 0 q (nI t)) 375 0 (nI (q + 1))) := FR_sS (FR_sI FR_rf (by rw [rg8 (by omega)]; simp)) (by rw [rg8 (by omega)]; simp)
    obtain ⟨S', a, b, c, k, d⟩ := ih mm (p + 1) (q + 1) (sS (sI S 371 0 q (nI t)) 375 0 (nI (q + 1))) (by omega) (by omega) (by omega) sS_eq (by rw [sS_21, sI_ne (by omega)]; exact h2)
    refine ⟨S', ?_, ⟨(k q (by omega)).trans (by rw [sS_21, sI_eq]), b⟩, by rw [c, List.length_cons]; congr 1; omega, fun i hi => (k i (by omega)).trans (by rw [sS_21, sI_at (by omega)]), FR_tr f1 d⟩
    unfold l_X8_push_3
    ((try simp only [i0, i1, i2, i3, i4, i5, i6, i8, i16, i30, i60, i100, i200, i201, i300, i1500, i8000, iM, i_m6]); repeat (first | rw [zt_eq (by omega)] | rw [zt_ne (by omega) (by omega) (by omega)] | rw [zt_nle (by omega) (by omega)] | rw [zt_le (by omega) (by omega)] | rw [zt_nlt (by omega) (by omega)] | rw [zt_lt (by omega) (by omega)] | rw [zt_nm (by omega)] | rw [zt_mm] | rw [zt_ml] | rw [zt_0m] | rw [zt_m0] | rw [zt_n6 (by omega)] | rw [zt_66] | rw [zt_06] | simp (disch := omega) only [i0, i1, i2, i3, i4, i5, i6, i8, i16, i30, i60, i100, i200, i201, i300, i1500, i8000, iM, i_m6, nIa, nIp, nIs, sI_1, sI_22, sL_1, sL_21, sS_21, sS_22, sI_ne, sL_ne, sS_ne, sS_eq, sI_eq, sI_at, sL_eq, sL_at, Nat.add_zero, if_true, if_false, h1, h5] | rw [bV_e] | rw [pS_e] | rw [bI_s] | rw [bU_s] | rw [bL_s] | rw [gI_n (by omega) (by omega)] | rw [pI_n (by omega) (by omega)] | rw [gL_n (by omega) (by omega)] | rw [pL_n (by omega) (by omega)]))
    exact a
theorem s_push {n f o e q : Nat} {S : St} {l : List Nat} (hf : 367 ≤ f ∧ f ≤ 371) (hne : f ≠ 371) (hn : 10000 ≤ n) (he : e = o + l.length) (hl : e ≤ ln f) (h8 : l.length ≤ 8000) (hq : q + l.length ≤ 1500000) (h5 : S.1 375 0 = nI q) (hs : sg (S.2.1 f 0) o l) : ∃ S', f_X8_push n S f (nI o) (nI e) = some S' ∧ sg (S'.2.1 371 0) q l ∧ S'.1 375 0 = nI (q + l.length) ∧ KP 371 q S S' ∧ FR [371, 375] S S' := s_push_l (o := o) hf hne hl l n o q S he hq (by omega) h5 hs
