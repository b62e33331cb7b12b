/-! the class: the next step, and taking it -/
def oI (i : Nat) (o : Option Nat) : Int32 := match o with
  | none => mI
  | some k => nI (i + k)
theorem s_valueOf2 {n i : Nat} {S : St} {T : List (List Mk)} {Ns : List Nme} (h : NC S T Ns) (hN : Ns.length ≤ 40) (hi : i < Ns.length) : f_X2_valueOf n S (nI i) = some (S, nvI T (nval Ns i)) := by
  have e := List.getElem?_eq_getElem hi
  obtain ⟨c1, c2, c3⟩ := h.2 i _ e
  have h1 := h.1
  unfold f_X2_valueOf
  unfold nval
  rw [e]
  ((try simp only [i0, i1, i2, i3, i4, i5, i6, i8, i16, i30, i60, i100, i200, i201, i300, i1500, i8000, iM, i_m6]); repeat (first | rw [zt_eq (by omega)] | rw [zt_ne (by omega) (by omega) (by omega)] | rw [zt_nle (by omega) (by omega)] | rw [zt_le (by omega) (by omega)] | rw [zt_nlt (by omega) (by omega)] | rw [zt_lt (by omega) (by omega)] | rw [zt_nm (by omega)] | rw [zt_mm] | rw [zt_ml] | rw [zt_0m] | rw [zt_m0] | rw [zt_n6 (by omega)] | rw [zt_66] | rw [zt_06] | simp (disch := omega) only [i0, i1, i2, i3, i4, i5, i6, i8, i16, i30, i60, i100, i200, i201, i300, i1500, i8000, iM, i_m6, nIa, nIp, nIs, sI_1, sI_22, sL_1, sL_21, sS_21, sS_22, sI_ne, sL_ne, sS_ne, sS_eq, sI_eq, sI_at, sL_eq, sL_at, Nat.add_zero, if_true, if_false, h1, c3] | rw [bV_e] | rw [pS_e] | rw [bI_s] | rw [bU_s] | rw [bL_s] | rw [gI_n (by omega) (by omega)] | rw [pI_n (by omega) (by omega)] | rw [gL_n (by omega) (by omega)] | rw [pL_n (by omega) (by omega)]))
theorem s_typeOf2 {n i : Nat} {S : St} {T : List (List Mk)} {Ns : List Nme} {e : Nme} (h : NC S T Ns) (hN : Ns.length ≤ 40) (hi : Ns[i]? = some e) : f_X2_typeOf n S (nI i) = some (S, nI (ixT T e.2.1)) := by
  obtain ⟨c1, c2, c3⟩ := h.2 i _ hi
  have hlt := gt_lt hi
  have h1 := h.1
  unfold f_X2_typeOf
  ((try simp only [i0, i1, i2, i3, i4, i5, i6, i8, i16, i30, i60, i100, i200, i201, i300, i1500, i8000, iM, i_m6]); repeat (first | rw [zt_eq (by omega)] | rw [zt_ne (by omega) (by omega) (by omega)] | rw [zt_nle (by omega) (by omega)] | rw [zt_le (by omega) (by omega)] | rw [zt_nlt (by omega) (by omega)] | rw [zt_lt (by omega) (by omega)] | rw [zt_nm (by omega)] | rw [zt_mm] | rw [zt_ml] | rw [zt_0m] | rw [zt_m0] | rw [zt_n6 (by omega)] | rw [zt_66] | rw [zt_06] | simp (disch := omega) only [i0, i1, i2, i3, i4, i5, i6, i8, i16, i30, i60, i100, i200, i201, i300, i1500, i8000, iM, i_m6, nIa, nIp, nIs, sI_1, sI_22, sL_1, sL_21, sS_21, sS_22, sI_ne, sL_ne, sS_ne, sS_eq, sI_eq, sI_at, sL_eq, sL_at, Nat.add_zero, if_true, if_false, h1, c2] | rw [bV_e] | rw [pS_e] | rw [bI_s] | rw [bU_s] | rw [bL_s] | rw [gI_n (by omega) (by omega)] | rw [pI_n (by omega) (by omega)] | rw [gL_n (by omega) (by omega)] | rw [pL_n (by omega) (by omega)]))
theorem nvI_s {T : List (List Mk)} {v : List Mk} : nvI T (some v) = nI (ixT T v) := rfl
theorem nvI_n {T : List (List Mk)} : nvI T none = mI := rfl
theorem nval_mem {T : List (List Mk)} {Ns : List Nme} {i : Nat} {v : List Mk} (h : NOk T Ns) (hv : nval Ns i = some v) : v ∈ T := by
  unfold nval at hv
  cases h9 : Ns[i]? with
  | none => rw [h9] at hv; cases hv
  | some e => rw [h9] at hv; exact (h.2 e (gt_mem h9)).2.2 v hv
theorem s_nextStep_l {n j N : Nat} {S : St} {T : List (List Mk)} {Ns : List Nme} {ms : List Mk} (h : RW S j ms) (hm : ∀ m ∈ ms, m.1 ≤ 6 ∧ (m.1 = 2 → m.2.1 < Ns.length)) (hN : NC S T Ns) (hO : NOk T Ns) (hT : T.length ≤ 1500) : ∀ (d mm i : Nat), i + d = ms.length → d < mm → l_X3_nextStep_2 n mm S j (nI i) = some (S, oI i (nxS Ns (ms.drop i))) := by
  have h2 := h.2.1
  have h1 := h.1
  intro d
  induction d with
  | zero =>
    intro mm i hi hmm
    obtain ⟨mm, rfl⟩ : ∃ x, mm = x + 1 := ⟨mm - 1, by omega⟩
    rw [List.drop_eq_nil_iff.mpr (by omega)]
    unfold l_X3_nextStep_2
    show _ = some (S, mI)
    ((try simp only [i0, i1, i2, i3, i4, i5, i6, i8, i16, i30, i60, i100, i200, i201, i300, i1500, i8000, iM, i_m6]); repeat (first | rw [zt_eq (by omega)] | rw [zt_ne (by omega) (by omega) (by omega)] | rw [zt_nle (by omega) (by omega)] | rw [zt_le (by omega) (by omega)] | rw [zt_nlt (by omega) (by omega)] | rw [zt_lt (by omega) (by omega)] | rw [zt_nm (by omega)] | rw [zt_mm] | rw [zt_ml] | rw [zt_0m] | rw [zt_m0] | rw [zt_n6 (by omega)] | rw [zt_66] | rw [zt_06] | simp (disch := omega) only [i0, i1, i2, i3, i4, i5, i6, i8, i16, i30, i60, i100, i200, i201, i300, i1500, i8000, iM, i_m6, nIa, nIp, nIs, sI_1, sI_22, sL_1, sL_21, sS_21, sS_22, sI_ne, sL_ne, sS_ne, sS_eq, sI_eq, sI_at, sL_eq, sL_at, Nat.add_zero, if_true, if_false, h1] | rw [bV_e] | rw [pS_e] | rw [bI_s] | rw [bU_s] | rw [bL_s] | rw [gI_n (by omega) (by omega)] | rw [pI_n (by omega) (by omega)] | rw [gL_n (by omega) (by omega)] | rw [pL_n (by omega) (by omega)]))
  | succ d ih =>
    intro mm i hi hmm
    obtain ⟨mm, rfl⟩ : ∃ x, mm = x + 1 := ⟨mm - 1, by omega⟩
    have hlt : i < ms.length := by omega
    have e : ms[i]? = some ms[i] := List.getElem?_eq_getElem hlt
    obtain ⟨c1, c2, -⟩ := h.2.2 i _ e
    obtain ⟨m6, m2⟩ := hm _ (List.getElem_mem hlt)
    have hih := ih mm (i + 1) (by omega) (by omega)
    have kA := s_kindAt (n := n) h (p := i + 1) (by omega)
    rw [drop_c hlt]
    generalize hme : ms[i] = m at *
    have o0 : isStp Ns m (ms.drop (i + 1)) = true → oI i (nxS Ns (m :: ms.drop (i + 1))) = nI i := by
      intro z
      show oI i (if isStp Ns m (ms.drop (i + 1)) then some 0 else _) = _
      rw [if_pos z]; rfl
    have o1 : ¬ isStp Ns m (ms.drop (i + 1)) = true → oI i (nxS Ns (m :: ms.drop (i + 1))) = oI (i + 1) (nxS Ns (ms.drop (i + 1))) := by
      intro z
      show oI i (if isStp Ns m (ms.drop (i + 1)) then some 0 else (nxS Ns (ms.drop (i + 1))).map (· + 1)) = _
      rw [if_neg z]
      cases nxS Ns (ms.drop (i + 1)) with
      | none => rfl
      | some k => show nI (i + (k + 1)) = nI (i + 1 + k); congr 1; omega
    unfold l_X3_nextStep_2
    by_cases q6 : m.1 = 6
    · rw [o0 (by unfold isStp; simp [q6])]
      ((try simp only [i0, i1, i2, i3, i4, i5, i6, i8, i16, i30, i60, i100, i200, i201, i300, i1500, i8000, iM, i_m6]); repeat (first | rw [zt_eq (by omega)] | rw [zt_ne (by omega) (by omega) (by omega)] | rw [zt_nle (by omega) (by omega)] | rw [zt_le (by omega) (by omega)] | rw [zt_nlt (by omega) (by omega)] | rw [zt_lt (by omega) (by omega)] | rw [zt_nm (by omega)] | rw [zt_mm] | rw [zt_ml] | rw [zt_0m] | rw [zt_m0] | rw [zt_n6 (by omega)] | rw [zt_66] | rw [zt_06] | simp (disch := omega) only [i0, i1, i2, i3, i4, i5, i6, i8, i16, i30, i60, i100, i200, i201, i300, i1500, i8000, iM, i_m6, nIa, nIp, nIs, sI_1, sI_22, sL_1, sL_21, sS_21, sS_22, sI_ne, sL_ne, sS_ne, sS_eq, sI_eq, sI_at, sL_eq, sL_at, Nat.add_zero, if_true, if_false, h1, c1, q6] | rw [bV_e] | rw [pS_e] | rw [bI_s] | rw [bU_s] | rw [bL_s] | rw [gI_n (by omega) (by omega)] | rw [pI_n (by omega) (by omega)] | rw [gL_n (by omega) (by omega)] | rw [pL_n (by omega) (by omega)]))
    · by_cases q5 : m.1 = 5
      · by_cases z : hk (ms.drop (i + 1)) = 4 ∧ ms.drop (i + 1) ≠ []
        · rw [o0 (by unfold isStp; simp [q5, z])]
          have hlt2 : i + 1 < ms.length := by
            rcases Nat.lt_or_ge (i + 1) ms.length with w | w
            · exact w
            · exact absurd (List.drop_eq_nil_iff.mpr w) z.2
          have k4 : (ms[i + 1]).1 = 4 := by have := z.1; rw [drop_c hlt2] at this; exact this
          rw [List.getElem?_eq_getElem hlt2] at kA
          have kA' : f_X4_kindAt n S j (nI (i + 1)) = some (S, nI 4) := by rw [kA]; show some (S, nI (ms[i + 1]).1) = _; rw [k4]
          ((try simp only [i0, i1, i2, i3, i4, i5, i6, i8, i16, i30, i60, i100, i200, i201, i300, i1500, i8000, iM, i_m6]); repeat (first | rw [zt_eq (by omega)] | rw [zt_ne (by omega) (by omega) (by omega)] | rw [zt_nle (by omega) (by omega)] | rw [zt_le (by omega) (by omega)] | rw [zt_nlt (by omega) (by omega)] | rw [zt_lt (by omega) (by omega)] | rw [zt_nm (by omega)] | rw [zt_mm] | rw [zt_ml] | rw [zt_0m] | rw [zt_m0] | rw [zt_n6 (by omega)] | rw [zt_66] | rw [zt_06] | simp (disch := omega) only [i0, i1, i2, i3, i4, i5, i6, i8, i16, i30, i60, i100, i200, i201, i300, i1500, i8000, iM, i_m6, nIa, nIp, nIs, sI_1, sI_22, sL_1, sL_21, sS_21, sS_22, sI_ne, sL_ne, sS_ne, sS_eq, sI_eq, sI_at, sL_eq, sL_at, Nat.add_zero, if_true, if_false, h1, c1, q5, kA'] | rw [bV_e] | rw [pS_e] | rw [bI_s] | rw [bU_s] | rw [bL_s] | rw [gI_n (by omega) (by omega)] | rw [pI_n (by omega) (by omega)] | rw [gL_n (by omega) (by omega)] | rw [pL_n (by omega) (by omega)]))
        · rw [o1 (by unfold isStp; simp only [q5]; intro w; simp at w; exact z (by simpa using w))]
          rw [← hih]
          by_cases hlt2 : i + 1 < ms.length
          · rw [List.getElem?_eq_getElem hlt2] at kA
            have k4 : (ms[i + 1]).1 ≠ 4 := fun w => z ⟨by rw [drop_c hlt2]; exact w, by rw [drop_c hlt2]; exact List.cons_ne_nil _ _⟩
            have k6 := (hm _ (List.getElem_mem hlt2)).1
            have kA' : f_X4_kindAt n S j (nI (i + 1)) = some (S, nI (ms[i + 1]).1) := kA
            ((try simp only [i0, i1, i2, i3, i4, i5, i6, i8, i16, i30, i60, i100, i200, i201, i300, i1500, i8000, iM, i_m6]); repeat (first | rw [zt_eq (by omega)] | rw [zt_ne (by omega) (by omega) (by omega)] | rw [zt_nle (by omega) (by omega)] | rw [zt_le (by omega) (by omega)] | rw [zt_nlt (by omega) (by omega)] | rw [zt_lt (by omega) (by omega)] | rw [zt_nm (by omega)] | rw [zt_mm] | rw [zt_ml] | rw [zt_0m] | rw [zt_m0] | rw [zt_n6 (by omega)] | rw [zt_66] | rw [zt_06] | simp (disch := omega) only [i0, i1, i2, i3, i4, i5, i6, i8, i16, i30, i60, i100, i200, i201, i300, i1500, i8000, iM, i_m6, nIa, nIp, nIs, sI_1, sI_22, sL_1, sL_21, sS_21, sS_22, sI_ne, sL_ne, sS_ne, sS_eq, sI_eq, sI_at, sL_eq, sL_at, Nat.add_zero, if_true, if_false, h1, c1, q5, kA'] | rw [bV_e] | rw [pS_e] | rw [bI_s] | rw [bU_s] | rw [bL_s] | rw [gI_n (by omega) (by omega)] | rw [pI_n (by omega) (by omega)] | rw [gL_n (by omega) (by omega)] | rw [pL_n (by omega) (by omega)] | rw [j_X3_nextStep_39] | rw [j_X3_nextStep_63]))
          · rw [List.getElem?_eq_none (by omega)] at kA
            have kA' : f_X4_kindAt n S j (nI (i + 1)) = some (S, mI) := kA
            have m4 : ¬ mI = nI 4 := by decide
            ((try simp only [i0, i1, i2, i3, i4, i5, i6, i8, i16, i30, i60, i100, i200, i201, i300, i1500, i8000, iM, i_m6]); repeat (first | rw [zt_eq (by omega)] | rw [zt_ne (by omega) (by omega) (by omega)] | rw [zt_nle (by omega) (by omega)] | rw [zt_le (by omega) (by omega)] | rw [zt_nlt (by omega) (by omega)] | rw [zt_lt (by omega) (by omega)] | rw [zt_nm (by omega)] | rw [zt_mm] | rw [zt_ml] | rw [zt_0m] | rw [zt_m0] | rw [zt_n6 (by omega)] | rw [zt_66] | rw [zt_06] | simp (disch := omega) only [i0, i1, i2, i3, i4, i5, i6, i8, i16, i30, i60, i100, i200, i201, i300, i1500, i8000, iM, i_m6, nIa, nIp, nIs, sI_1, sI_22, sL_1, sL_21, sS_21, sS_22, sI_ne, sL_ne, sS_ne, sS_eq, sI_eq, sI_at, sL_eq, sL_at, Nat.add_zero, if_true, if_false, h1, c1, q5, kA', if_neg m4] | rw [bV_e] | rw [pS_e] | rw [bI_s] | rw [bU_s] | rw [bL_s] | rw [gI_n (by omega) (by omega)] | rw [pI_n (by omega) (by omega)] | rw [gL_n (by omega) (by omega)] | rw [pL_n (by omega) (by omega)] | rw [j_X3_nextStep_39] | rw [j_X3_nextStep_63]))
      · by_cases q2 : m.1 = 2
        · have hv := s_valueOf2 (n := n) hN hO.1 (m2 q2)
          cases h9 : nval Ns m.2.1 with
          | some v =>
            rw [o0 (by unfold isStp; simp [q2, h9])]
            rw [h9, nvI_s] at hv
            have := ixT_lt (nval_mem hO h9)
            ((try simp only [i0, i1, i2, i3, i4, i5, i6, i8, i16, i30, i60, i100, i200, i201, i300, i1500, i8000, iM, i_m6]); repeat (first | rw [zt_eq (by omega)] | rw [zt_ne (by omega) (by omega) (by omega)] | rw [zt_nle (by omega) (by omega)] | rw [zt_le (by omega) (by omega)] | rw [zt_nlt (by omega) (by omega)] | rw [zt_lt (by omega) (by omega)] | rw [zt_nm (by omega)] | rw [zt_mm] | rw [zt_ml] | rw [zt_0m] | rw [zt_m0] | rw [zt_n6 (by omega)] | rw [zt_66] | rw [zt_06] | simp (disch := omega) only [i0, i1, i2, i3, i4, i5, i6, i8, i16, i30, i60, i100, i200, i201, i300, i1500, i8000, iM, i_m6, nIa, nIp, nIs, sI_1, sI_22, sL_1, sL_21, sS_21, sS_22, sI_ne, sL_ne, sS_ne, sS_eq, sI_eq, sI_at, sL_eq, sL_at, Nat.add_zero, if_true, if_false, h1, c1, q2, c2, hv] | rw [bV_e] | rw [pS_e] | rw [bI_s] | rw [bU_s] | rw [bL_s] | rw [gI_n (by omega) (by omega)] | rw [pI_n (by omega) (by omega)] | rw [gL_n (by omega) (by omega)] | rw [pL_n (by omega) (by omega)] | rw [j_X3_nextStep_39] | rw [j_X3_nextStep_63]))
          | none =>
            rw [o1 (by unfold isStp; simp [q2, h9])]
            rw [← hih]
            rw [h9, nvI_n] at hv
            ((try simp only [i0, i1, i2, i3, i4, i5, i6, i8, i16, i30, i60, i100, i200, i201, i300, i1500, i8000, iM, i_m6]); repeat (first | rw [zt_eq (by omega)] | rw [zt_ne (by omega) (by omega) (by omega)] | rw [zt_nle (by omega) (by omega)] | rw [zt_le (by omega) (by omega)] | rw [zt_nlt (by omega) (by omega)] | rw [zt_lt (by omega) (by omega)] | rw [zt_nm (by omega)] | rw [zt_mm] | rw [zt_ml] | rw [zt_0m] | rw [zt_m0] | rw [zt_n6 (by omega)] | rw [zt_66] | rw [zt_06] | simp (disch := omega) only [i0, i1, i2, i3, i4, i5, i6, i8, i16, i30, i60, i100, i200, i201, i300, i1500, i8000, iM, i_m6, nIa, nIp, nIs, sI_1, sI_22, sL_1, sL_21, sS_21, sS_22, sI_ne, sL_ne, sS_ne, sS_eq, sI_eq, sI_at, sL_eq, sL_at, Nat.add_zero, if_true, if_false, h1, c1, q2, c2, hv] | rw [bV_e] | rw [pS_e] | rw [bI_s] | rw [bU_s] | rw [bL_s] | rw [gI_n (by omega) (by omega)] | rw [pI_n (by omega) (by omega)] | rw [gL_n (by omega) (by omega)] | rw [pL_n (by omega) (by omega)] | rw [j_X3_nextStep_39] | rw [j_X3_nextStep_63]))
        · rw [o1 (by unfold isStp; simp [q2, q5, q6]), ← hih]
          ((try simp only [i0, i1, i2, i3, i4, i5, i6, i8, i16, i30, i60, i100, i200, i201, i300, i1500, i8000, iM, i_m6]); repeat (first | rw [zt_eq (by omega)] | rw [zt_ne (by omega) (by omega) (by omega)] | rw [zt_nle (by omega) (by omega)] | rw [zt_le (by omega) (by omega)] | rw [zt_nlt (by omega) (by omega)] | rw [zt_lt (by omega) (by omega)] | rw [zt_nm (by omega)] | rw [zt_mm] | rw [zt_ml] | rw [zt_0m] | rw [zt_m0] | rw [zt_n6 (by omega)] | rw [zt_66] | rw [zt_06] | simp (disch := omega) only [i0, i1, i2, i3, i4, i5, i6, i8, i16, i30, i60, i100, i200, i201, i300, i1500, i8000, iM, i_m6, nIa, nIp, nIs, sI_1, sI_22, sL_1, sL_21, sS_21, sS_22, sI_ne, sL_ne, sS_ne, sS_eq, sI_eq, sI_at, sL_eq, sL_at, Nat.add_zero, if_true, if_false, h1, c1] | rw [bV_e] | rw [pS_e] | rw [bI_s] | rw [bU_s] | rw [bL_s] | rw [gI_n (by omega) (by omega)] | rw [pI_n (by omega) (by omega)] | rw [gL_n (by omega) (by omega)] | rw [pL_n (by omega) (by omega)] | rw [j_X3_nextStep_39] | rw [j_X3_nextStep_63]))
theorem s_nextStep {n j : Nat} {S : St} {T : List (List Mk)} {Ns : List Nme} {ms : List Mk} (h : RW S j ms) (hm : ∀ m ∈ ms, m.1 ≤ 6 ∧ (m.1 = 2 → m.2.1 < Ns.length)) (hN : NC S T Ns) (hO : NOk T Ns) (hT : T.length ≤ 1500) (hn : 10000 ≤ n) : f_X3_nextStep n S j = some (S, oI 0 (nxS Ns ms)) := by
  have h2 := h.2.1
  exact s_nextStep_l (N := 0) h hm hN hO hT ms.length n 0 (by omega) (by omega)
theorem nxS_at {Ns : List Nme} : ∀ {ms : List Mk} {i : Nat}, nxS Ns ms = some i → ∃ m, ms[i]? = some m ∧ isStp Ns m (ms.drop (i + 1)) = true := by
  intro ms
  induction ms with
  | nil => intro i h; cases h
  | cons m r ih =>
    intro i h
    have h' : (if isStp Ns m r then some 0 else (nxS Ns r).map (· + 1)) = some i := h
    by_cases z : isStp Ns m r = true
    · rw [if_pos z] at h'
      cases h'
      exact ⟨m, rfl, z⟩
    · rw [if_neg z] at h'
      cases h9 : nxS Ns r with
      | none => rw [h9] at h'; cases h'
      | some k =>
        rw [h9] at h'
        cases h'
        obtain ⟨m', a, b⟩ := ih h9
        exact ⟨m', a, b⟩
/-! ends and parts, by what stands in the row -/
theorem s_endX {n j e : Nat} {S : St} {ms P X Q : List Mk} (h : RW S j ms) (hb : ∀ m ∈ ms, mB m) (he : ms = P ++ (X ++ Q)) (hr : run [e] X = some []) (hn : 201 ≤ n) : f_X4_endOf n S j (nI P.length) = some (S, nI (P.length + X.length)) := by
  have hl := congrArg List.length he
  simp only [List.length_append] at hl
  rw [s_endOf h hb (by omega) hn, he, List.drop_left, show fpT 1 (X ++ Q) = X.length from run_len (a := [e]) hr]
theorem head_at {P X Q : List Mk} {m : Mk} {r : List Mk} (hx : X = m :: r) : (P ++ (X ++ Q))[P.length]? = some m := by
  rw [hx, List.getElem?_append_right (Nat.le_refl _), Nat.sub_self]; rfl
theorem s_takeX {n j a e : Nat} {S : St} {ms P X Q : List Mk} (hja : j ≠ a) (h : RW S a ms) (hb : ∀ m ∈ ms, mB m) (he : ms = P ++ (X.map (shM e) ++ Q)) (hT : Tm X) (hn : 201 ≤ n) : ∃ S', f_X4_takePart n S j a (nI P.length) (nI (P.length + X.length)) = some S' ∧ RW S' j X ∧ FR [1000 + j] S S' := by
  have hl := congrArg List.length he
  simp only [List.length_append, List.length_map] at hl
  cases X with
  | nil => exact absurd (Tm_ne hT) (by simp)
  | cons m r =>
    have d0 : m.2.2.1 = 0 := (tm_parts hT).1
    have hi : ms[P.length]? = some (shM e m) := by rw [he]; exact head_at rfl
    have hsg : seg ms P.length (P.length + (m :: r).length) = (m :: r).map (shM e) := by
      unfold seg
      rw [he, ← List.append_assoc, List.take_append_of_le_length (by simp only [List.length_append, List.length_map]; omega), List.take_of_length_le (by simp only [List.length_append, List.length_map]; omega), List.drop_left]
    have dd : (shM e m).2.2.1 = e := by show m.2.2.1 + e = e; omega
    obtain ⟨S', q1, q2, q3⟩ := s_takePart (n := n) (ms := []) (k := P.length + (m :: r).length) hja h hi (by omega) (by omega) hb (fun y hy => by
      rw [hsg] at hy
      obtain ⟨w, _, rfl⟩ := List.mem_map.mp hy
      rw [dd]; show e ≤ w.2.2.1 + e; omega) hn
    rw [hsg, dd, map_dn_sh] at q2
    exact ⟨S', q1, q2, q3⟩
/-! what stands in a row at a place where a term begins -/
theorem lay6 {B N : Nat} {ms : List Mk} {i : Nat} {m : Mk} (h : gdT B N ms) (hi : ms[i]? = some m) : ∃ r, subT ms i = dnM m.2.2.1 m :: r ∧ (m.1 ≤ 2 → r = [] ∧ ms = ms.take i ++ (m :: rst ms i)) ∧ (3 ≤ m.1 → m.1 ≠ 6 → ms = (ms.take i ++ [m]) ++ ((p1 (subT ms i)).map (shM m.2.2.1) ++ ((p2 (subT ms i)).map (shM (m.2.2.1 + dl m.1)) ++ rst ms i))) ∧ (m.1 = 6 → ms = (ms.take i ++ [m]) ++ ((p1 (subT ms i)).map (shM m.2.2.1) ++ ((p2 (subT ms i)).map (shM m.2.2.1) ++ ((p3 (subT ms i)).map (shM (m.2.2.1 + 1)) ++ rst ms i)))) := by
  obtain ⟨g1, g2, g3⟩ := sub_gd h hi
  obtain ⟨r0, hr0⟩ := cut_h hi
  have hm6 := (h.2.2 m (gt_mem hi)).1
  have hs : subT ms i = dnM m.2.2.1 m :: r0.map (dnM m.2.2.1) := by unfold subT; rw [dpt_e hi, hr0]; rfl
  refine ⟨r0.map (dnM m.2.2.1), hs, fun z => ?_, fun z w => ?_, fun z => ?_⟩
  · rw [hs] at g1
    have r1 := (tm_parts g1.1).2.1 (show ar m.1 = 0 from ar_0 z)
    refine ⟨r1, ?_⟩
    have r2 : r0 = [] := List.map_eq_nil_iff.mp r1
    have := cut_all (ms := ms) (i := i)
    rw [hr0, r2] at this
    exact this
  · have tp := tm_parts (hs ▸ g1.1)
    have e := tp.2.2.2.1 (show ar m.1 = 2 from (ar_2 z hm6).2.2.mp w)
    rw [← hs] at e
    have g2' := g2
    rw [hs, List.map_cons, sh_dn (Nat.le_refl _)] at g2'
    conv => lhs; rw [cut_all (ms := ms) (i := i), ← g2', e]
    rw [List.map_append, sh_sh]
    show _ = (ms.take i ++ [m]) ++ ((p1 (subT ms i)).map (shM m.2.2.1) ++ ((p2 (subT ms i)).map (shM (m.2.2.1 + dl m.1)) ++ rst ms i))
    rw [show dl (dnM m.2.2.1 m).1 + m.2.2.1 = m.2.2.1 + dl m.1 from Nat.add_comm _ _]
    simp only [List.append_assoc, List.cons_append, List.nil_append]
  · have tp := tm_parts (hs ▸ g1.1)
    have e := (tp.2.2.2.2 (show ar m.1 = 3 from (ar_2 (by omega) hm6).2.1.mp z)).1
    rw [← hs] at e
    have g2' := g2
    rw [hs, List.map_cons, sh_dn (Nat.le_refl _)] at g2'
    conv => lhs; rw [cut_all (ms := ms) (i := i), ← g2', e]
    rw [List.map_append, List.map_append, sh_sh, Nat.add_comm 1]
    simp only [List.append_assoc, List.cons_append, List.nil_append]
