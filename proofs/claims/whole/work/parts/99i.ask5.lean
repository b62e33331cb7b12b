/-! calls: levelPart, declared, told, clear -/
theorem hd_kd {l : List Nat} (h : lvO l) : ∃ t r, l = t :: r ∧ t ≤ 6 := by
  cases l with
  | nil => exact absurd h.2.2 (fun z => z)
  | cons t r => exact ⟨t, r, rfl, (okL_c h.1).1⟩
theorem s_kindOf0 {n : Nat} {S : St} {l : List Nat} (h : lvO l) : f_X0_kindOf n S (en l) = some (S, nI (kd l)) := by
  obtain ⟨t, r, rfl, ht⟩ := hd_kd h
  have h16 := h.2.1
  have hm : f_X0_markAt n S (en (t :: r)) 0 = some (S, nI (t + 1)) := by
    have := s_markAt (n := n) (S := S) (l := t :: r) (i := 0) h.1 (by omega) (by simp)
    exact this
  unfold f_X0_kindOf
  rw [hm, bI_s, bV_e, show nI (t + 1) - 1 = nI t from nI_pred _, kd_c]
  by_cases z : 4 < t
  · rw [if_pos (show 4 < nI t by rw [k4, nIlt (by omega) (by omega)]; exact z), if_pos z]; rfl
  · rw [if_neg (show ¬ 4 < nI t by rw [k4, nIlt (by omega) (by omega)]; exact z), if_neg z]
theorem k_told {n : Nat} {SC SM : St} {P : PT} {Ns : List Nme} (hI : INV SC SM P Ns) (a : Int32) : ∃ SM' v, f_X7_told n SC a = some (SC, v) ∧ f_X8_told n SM a = some (SM', v) ∧ INV SC SM' P Ns := by
  have hI0 := INV_350 (v := 0) hI
  refine ⟨sS SM 350 0 0, if a = 0 then nI P.1.length else if a = 1 then nI P.2.length else if a = 2 then nI Ns.length else -1, ?_, ?_, hI0⟩
  · unfold f_X7_told
    rw [hI.2.2.1.1.1, hI.2.2.1.2.1, hI.2.2.2.1.1]
    by_cases z : a = 0
    · rw [if_pos z, if_pos z]
    · rw [if_neg z, if_neg z]
      by_cases w : a = 1
      · rw [if_pos w, if_pos w]
      · rw [if_neg w, if_neg w]
        by_cases y : a = 2
        · rw [if_pos y, if_pos y]
        · rw [if_neg y, if_neg y]
  · unfold f_X8_told
    rw [pS_e, hI0.2.2.2.2.1.1.1, hI0.2.2.2.2.1.2.1.1, hI0.2.2.2.2.2.1]
    by_cases z : a = 0
    · rw [if_pos z, if_pos z]
    · rw [if_neg z, if_neg z]
      by_cases w : a = 1
      · rw [if_pos w, if_pos w]
      · rw [if_neg w, if_neg w]
        by_cases y : a = 2
        · rw [if_pos y, if_pos y]
        · rw [if_neg y, if_neg y]
theorem LOk_0 : LOk [[0]] := by
  refine ⟨rfl, by simp, by simp, fun l hl => ?_, fun l hl => ?_⟩
  · rw [List.mem_singleton.mp hl]
    exact ⟨fun t ht => by rw [List.mem_singleton.mp ht]; omega, by simp, trivial⟩
  · rw [List.mem_singleton.mp hl]
    exact ⟨fun z => absurd z (by decide), fun z => absurd z (by decide)⟩
theorem TOk_0 : TOk [[0]] [] 0 := ⟨by simp, by simp, by omega, (fun x hx => nomatch hx), (fun x hx => nomatch hx)⟩
theorem LM_0 {S : St} (h5 : S.1 355 0 = nI 1) (h1 : S.2.1 351 0 0 = nI 0) (h2 : S.2.1 352 0 0 = mI) (h3 : S.2.1 353 0 0 = mI) (h4 : S.2.1 354 0 0 = nI 1) : LM S [[0]] := by
  refine ⟨h5, fun i hi => ?_⟩
  have : i = 0 := by simpa using hi
  subst this
  exact ⟨h1, h2, h3, h4⟩
theorem LC_0 {S : St} (h5 : S.1 0 0 = nI 1) (h1 : S.2.2 1 0 0 = en [0]) (h2 : S.2.1 2 0 0 = mI) (h3 : S.2.1 3 0 0 = mI) : LC S [[0]] := by
  refine ⟨h5, fun i hi => ?_⟩
  have : i = 0 := by simpa using hi
  subst this
  exact ⟨h1, h2, h3⟩
theorem LC_h {S : St} {L : List (List Nat)} (h : LC S L) (hL : LOk L) : S.2.2 1 0 0 = en [0] ∧ S.2.1 2 0 0 = mI ∧ S.2.1 3 0 0 = mI := by
  have h0 := hL.1
  have hlt := gt_lt h0
  obtain ⟨a, b, c⟩ := h.2 0 hlt
  have e : L[0] = [0] := by rw [List.getElem?_eq_getElem hlt] at h0; exact Option.some.inj h0
  rw [e] at a b c
  exact ⟨a, b, c⟩
theorem k_clear {n : Nat} {SC SM : St} {P : PT} {Ns : List Nme} (hI : INV SC SM P Ns) : ∃ SC' SM', f_X7_clear n SC = some SC' ∧ f_X8_clear n SM = some SM' ∧ INV SC' SM' ([[0]], []) [] := by
  obtain ⟨h1, h2, h3, h4, h5, h6⟩ := hI
  obtain ⟨c1, c2, c3⟩ := LC_h h3.1 h1.1
  refine ⟨sS (sS (sS SC 0 0 (nI 1)) 200 0 (nI 0)) 50 0 (nI 0), sS (sS (sI (sI (sI (sI (sS (sS SM 350 0 (nI 0)) 355 0 (nI 1)) 351 0 0 (nI 0)) 352 0 0 mI) 353 0 0 mI) 354 0 0 (nI 1)) 362 0 (nI 0)) 366 0 (nI 0), rfl, ?_, ⟨LOk_0, TOk_0⟩, ⟨by simp, fun e he => by cases he⟩, ⟨LC_0 ?_ c1 c2 c3, ⟨?_, fun i ms hi => by cases hi⟩⟩, ⟨sS_eq, fun i e hi => by cases hi⟩, ⟨LM_0 ?_ ?_ ?_ ?_ ?_, ⟨?_, fun i ms hi => by cases hi⟩, ?_⟩, ⟨sS_eq, fun i e hi => by cases hi⟩⟩
  · unfold f_X8_clear
    ((try simp only [k0, k1, k2, k3, k4, k5, k6, k8, k16, k30, k60, k100, k200, k201, k300, k1500, k8000, kM, k_m6]); repeat (first | rw [zt_eq (by omega)] | rw [zt_ne (by omega) (by omega) (by omega)] | rw [zt_nle (by omega) (by omega)] | rw [zt_le (by omega) (by omega)] | rw [zt_nlt (by omega) (by omega)] | rw [zt_lt (by omega) (by omega)] | rw [zt_nm (by omega)] | rw [zt_mm] | rw [zt_ml] | rw [zt_0m] | rw [zt_m0] | rw [zt_n6 (by omega)] | rw [zt_66] | rw [zt_06] | simp (disch := omega) only [k0, k1, k2, k3, k4, k5, k6, k8, k16, k30, k60, k100, k200, k201, k300, k1500, k8000, kM, k_m6, nIa, nIp, nIs, sI_1, sI_22, sL_1, sL_21, sS_21, sS_22, sI_ne, sL_ne, sS_ne, sS_eq, sI_eq, sI_at, sL_eq, sL_at, Nat.add_zero, if_true, if_false] | rw [bV_e] | rw [pS_e] | rw [bI_s] | rw [bU_s] | rw [bL_s] | rw [gI_n (by omega) (by omega)] | rw [gR_n (by omega)] | rw [pI_n (by omega) (by omega)] | rw [gL_n (by omega) (by omega)] | rw [pL_n (by omega) (by omega)]))
  · rw [sS_ne (by omega), sS_ne (by omega), sS_eq]
  · rw [sS_ne (by omega), sS_eq]; rfl
  · simp (disch := omega) only [sI_1, sS_ne, sS_eq]
  · simp (disch := omega) only [sS_21, sI_ne, sI_eq]
  · simp (disch := omega) only [sS_21, sI_ne, sI_eq]
  · simp (disch := omega) only [sS_21, sI_ne, sI_eq]
  · simp (disch := omega) only [sS_21, sI_ne, sI_eq]
  · rw [sS_ne (by omega), sS_eq]; rfl
  · simp (disch := omega) only [sI_1, sS_ne, sS_eq]; exact h5.2.2
theorem k_levelPart {n : Nat} {SC SM : St} {P : PT} {Ns : List Nme} (hn : 10000 ≤ n) (hI : INV SC SM P Ns) (a b : Int32) : AGR mVa n (f_X7_levelPart n SC a b) (f_X8_levelPart n SM a b) := by
  have hI0 := INV_350 (v := 0) hI
  obtain ⟨h1, h2, h3, h4, h5, h6⟩ := hI
  have hI : INV SC SM P Ns := ⟨h1, h2, h3, h4, h5, h6⟩
  have l300 := h1.1.2.1
  unfold f_X7_levelPart f_X8_levelPart
  rcases i_cases a (c := P.1.length) (by omega) with ⟨i, hi, rfl⟩ | hb
  · rw [nL_ok h3 h1 hi, bX_0, isL_ok h5 h1 hi, bI_s, if_neg (show ¬ nI 1 = 0 by decide), s_isIn, bI_s]
    have ci := s_codeOf (n := n) h3.1 h1.1 hi
    have lvi := h1.1.2.2.2.1 _ (List.getElem_mem hi)
    obtain ⟨c1, c2, c3⟩ := h3.1.2 i hi
    obtain ⟨d1, d2, d3, d4⟩ := hI0.2.2.2.2.1.1.2 i hi
    generalize P.1[i] = la at *
    have ko := s_kindOf0 (n := n) (S := SC) lvi
    have so := s_sizeOf (n := n) (S := SC) lvi.1 lvi.2.1 (by omega)
    have tail : ∀ v : Int32, ∀ rm : Option (St × Int32), rm = some (sS SM 350 0 0, v) → AGR mVa n (some (SC, 0, v)) rm := fun v rm h => by
      rw [h]; exact ⟨SC, _, 0, v, v, P, Ns, rfl, rfl, hI0, sS_eq, Or.inl rfl, fun _ => rfl⟩
    rcases i_cases b (c := 4) (by omega) with ⟨k, hk, rfl⟩ | hb | hb
    · rw [if_neg (nI_pos (by omega)), if_neg (show ¬ 3 < nI k by rw [k3, nIlt (by omega) (by omega)]; omega), if_neg (show ¬ (1 : Int32) = 0 by decide)]
      unfold j_X8_levelPart_27
      rw [pS_e, sS_eq, if_pos le0]
      generalize sS SM 350 0 0 = S0 at *
      have ne : ∀ j : Nat, j ≤ 6 → k ≠ j → ¬ nI k = nI j := fun j h1 h2 => by rw [nIeq (by omega) (by omega)]; exact h2
      by_cases q0 : k = 0
      · rw [if_pos (show nI k = 0 by rw [q0]; rfl), if_pos (show nI k = 0 by rw [q0]; rfl), ci, bL_s, ko, bI_s, gI_n (by omega) (by omega), d1]; exact tail _ _ rfl
      · rw [if_neg (show ¬ nI k = 0 from ne 0 (by omega) q0), if_neg (show ¬ nI k = 0 from ne 0 (by omega) q0)]
        by_cases q1 : k = 1
        · rw [if_pos (show nI k = 1 by rw [q1]; rfl), if_pos (show nI k = 1 by rw [q1]; rfl), gI_n (by omega) (by omega), gI_n (by omega) (by omega), c2, d2]; exact tail _ _ rfl
        · rw [if_neg (show ¬ nI k = 1 from ne 1 (by omega) q1), if_neg (show ¬ nI k = 1 from ne 1 (by omega) q1)]
          by_cases q2 : k = 2
          · rw [if_pos (show nI k = 2 by rw [q2]; rfl), if_pos (show nI k = 2 by rw [q2]; rfl), gI_n (by omega) (by omega), gI_n (by omega) (by omega), c3, d3]; exact tail _ _ rfl
          · rw [if_neg (show ¬ nI k = 2 from ne 2 (by omega) q2), if_neg (show ¬ nI k = 2 from ne 2 (by omega) q2), if_pos (show nI k = 3 by rw [show k = 3 by omega]; rfl), ci, bL_s, so, bI_s, gI_n (by omega) (by omega), d4]; exact tail _ _ rfl
    all_goals
      have nb : ∀ j : Nat, j < 4 → ¬ b = nI j := fun j h1 h2 => by
        rw [h2] at hb
        first
          | exact nI_pos (show j < 2 ^ 31 by omega) hb
          | (rw [nIle (by omega) (by omega)] at hb; omega)
      rw [if_neg (show ¬ b = 0 from nb 0 (by omega)), if_neg (show ¬ b = 1 from nb 1 (by omega)), if_neg (show ¬ b = 2 from nb 2 (by omega)), if_neg (show ¬ b = 3 from nb 3 (by omega))]
    · rw [if_pos hb, if_pos rfl]
      unfold j_X8_levelPart_27
      rw [pS_e, sS_eq, if_neg (by decide)]
      exact agr_bad hI (by simp) rfl
    · rw [if_neg (ge_nn (by omega) hb), if_pos (show 3 < b from Int32.lt_of_lt_of_le (by decide) hb), if_pos rfl]
      unfold j_X8_levelPart_27
      rw [pS_e, sS_eq, if_neg (by decide)]
      exact agr_bad hI (by simp) rfl
  · rw [nL_bad h3 h1 hb, bX_n (by decide), isL_bad h5 h1 hb, bI_s, if_pos (show nI 0 = 0 from rfl)]
    unfold j_X8_levelPart_27
    rw [pS_e, sS_eq, if_neg (by decide)]
    exact agr_bad hI (by simp) rfl
theorem k_declared {n : Nat} {SC SM : St} {P : PT} {Ns : List Nme} (hn : 10000 ≤ n) (hI : INV SC SM P Ns) (a b : Int32) : AGR mVa n (f_X7_declared n SC a b) (f_X8_declared n SM a b) := by
  have hI0 := INV_350 (v := 0) hI
  obtain ⟨h1, h2, h3, h4, h5, h6⟩ := hI
  have hI : INV SC SM P Ns := ⟨h1, h2, h3, h4, h5, h6⟩
  have h40 := h2.1
  unfold f_X7_declared f_X8_declared
  rcases i_cases a (c := Ns.length) (by omega) with ⟨i, hi, rfl⟩ | hb
  · rw [nN_ok h4 h40 hi, bX_0, isN_ok h6 h40 hi, bI_s, if_neg (show ¬ nI 1 = 0 by decide), s_isIn, bI_s]
    have ei := List.getElem?_eq_getElem hi
    obtain ⟨c1, c2, c3⟩ := h4.2 i _ ei
    obtain ⟨d1, d2, d3⟩ := hI0.2.2.2.2.2.2 i _ ei
    generalize Ns[i] = e at *
    have tail : ∀ v : Int32, ∀ rm : Option (St × Int32), rm = some (sS SM 350 0 0, v) → AGR mVa n (some (SC, 0, v)) rm := fun v rm h => by
      rw [h]; exact ⟨SC, _, 0, v, v, P, Ns, rfl, rfl, hI0, sS_eq, Or.inl rfl, fun _ => rfl⟩
    rcases i_cases b (c := 3) (by omega) with ⟨k, hk, rfl⟩ | hb | hb
    · rw [if_neg (nI_pos (by omega)), if_neg (show ¬ 2 < nI k by rw [k2, nIlt (by omega) (by omega)]; omega), if_neg (show ¬ (1 : Int32) = 0 by decide)]
      unfold j_X8_declared_27
      rw [pS_e, sS_eq, if_pos le0]
      generalize sS SM 350 0 0 = S0 at *
      have ne : ∀ j : Nat, j ≤ 6 → k ≠ j → ¬ nI k = nI j := fun j h1 h2 => by rw [nIeq (by omega) (by omega)]; exact h2
      by_cases q0 : k = 0
      · rw [if_pos (show nI k = 0 by rw [q0]; rfl), if_pos (show nI k = 0 by rw [q0]; rfl), gI_n (by omega) (by omega), gI_n (by omega) (by omega), c1, d1]; exact tail _ _ rfl
      · rw [if_neg (show ¬ nI k = 0 from ne 0 (by omega) q0), if_neg (show ¬ nI k = 0 from ne 0 (by omega) q0)]
        by_cases q1 : k = 1
        · rw [if_pos (show nI k = 1 by rw [q1]; rfl), if_pos (show nI k = 1 by rw [q1]; rfl), gI_n (by omega) (by omega), gI_n (by omega) (by omega), c2, d2]; exact tail _ _ rfl
        · rw [if_neg (show ¬ nI k = 1 from ne 1 (by omega) q1), if_neg (show ¬ nI k = 1 from ne 1 (by omega) q1), if_pos (show nI k = 2 by rw [show k = 2 by omega]; rfl), gI_n (by omega) (by omega), gI_n (by omega) (by omega), c3, d3]; exact tail _ _ rfl
    all_goals
      have nb : ∀ j : Nat, j < 3 → ¬ b = nI j := fun j h1 h2 => by
        rw [h2] at hb
        first
          | exact nI_pos (show j < 2 ^ 31 by omega) hb
          | (rw [nIle (by omega) (by omega)] at hb; omega)
      rw [if_neg (show ¬ b = 0 from nb 0 (by omega)), if_neg (show ¬ b = 1 from nb 1 (by omega)), if_neg (show ¬ b = 2 from nb 2 (by omega))]
    · rw [if_pos hb, if_pos rfl]
      unfold j_X8_declared_27
      rw [pS_e, sS_eq, if_neg (by decide)]
      exact agr_bad hI (by simp) rfl
    · rw [if_neg (ge_nn (by omega) hb), if_pos (show 2 < b from Int32.lt_of_lt_of_le (by decide) hb), if_pos rfl]
      unfold j_X8_declared_27
      rw [pS_e, sS_eq, if_neg (by decide)]
      exact agr_bad hI (by simp) rfl
  · rw [nN_bad h4 h40 hb, bX_n (by decide), isN_bad h6 h40 hb, bI_s, if_pos (show nI 0 = 0 from rfl)]
    unfold j_X8_declared_27
    rw [pS_e, sS_eq, if_neg (by decide)]
    exact agr_bad hI (by simp) rfl
