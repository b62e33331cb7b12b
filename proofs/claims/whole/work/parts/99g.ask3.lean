/-! calls: value, normal, steps, same -/
def mVa (c : Int32) : Int32 := if c = 2 then 1 else if c = 1 then 2 else c
theorem pv_ok {n i : Nat} {S : St} (h : i < 1001) : f_X7_needParameterValue n S (nI i) = some (S, 0, 0) := by
  unfold f_X7_needParameterValue
  rw [if_neg (nI_pos (by omega)), if_pos (show nI i ≤ 1000 by rw [show (1000 : Int32) = nI 1000 from rfl, nIle (by omega) (by omega)]; omega)]
theorem pv_bad {n : Nat} {S : St} {a : Int32} (h : a < 0 ∨ nI 1001 ≤ a) : f_X7_needParameterValue n S a = some (S, 1, 0) := by
  unfold f_X7_needParameterValue j_X7_needParameterValue_11
  rcases h with z | z
  · rw [if_pos z]
  · rw [if_neg (ge_nn (by omega) z), if_neg (show ¬ a ≤ 1000 from Int32.not_le.mpr (Int32.lt_of_lt_of_le (by decide) z))]
theorem i1_ok {n i : Nat} {S : St} (h : i < 1001) : f_X8_isIn n S (nI i) 0 1000 = some (S, nI 1) := by
  rw [s_isIn, if_neg (nI_pos (by omega)), if_neg (show ¬ 1000 < nI i by rw [show (1000 : Int32) = nI 1000 from rfl, nIlt (by omega) (by omega)]; omega)]; rfl
theorem i1_bad {n : Nat} {S : St} {a : Int32} (h : a < 0 ∨ nI 1001 ≤ a) : f_X8_isIn n S a 0 1000 = some (S, nI 0) := by
  rw [s_isIn]
  rcases h with z | z
  · rw [if_pos z]; rfl
  · rw [if_neg (ge_nn (by omega) z), if_pos (show 1000 < a from Int32.lt_of_lt_of_le (by decide) z)]; rfl
theorem k_value {n : Nat} {SC SM : St} {P : PT} {Ns : List Nme} (hn : 10000 ≤ n) (hI : INV SC SM P Ns) (a b c d : Int32) : AGR mVa n (f_X7_value n SC a b c d) (f_X8_value n SM a b c d) := by
  have hI0 := INV_350 (v := 0) hI
  obtain ⟨h1, h2, h3, h4, h5, h6⟩ := hI
  have hI : INV SC SM P Ns := ⟨h1, h2, h3, h4, h5, h6⟩
  have l300 := h1.1.2.1
  unfold f_X7_value f_X8_value
  have bad2 : ∀ b' c' d' : Int32, AGR mVa n (some (SC, 1, 0)) (j_X8_value_47 n SM a b' c' d') := by
    intro b' c' d'
    unfold j_X8_value_47 j_X8_value_52
    rw [pS_e, sS_eq, if_neg (by decide)]
    exact agr_bad hI (by simp) rfl
  rcases i_cases a (c := P.1.length) (by omega) with ⟨i, hi, rfl⟩ | hb
  · rw [nL_ok h3 h1 hi, bX_0, isL_ok h5 h1 hi, bI_s, if_neg (show ¬ nI 1 = 0 by decide)]
    rcases i_cases b (c := 1001) (by omega) with ⟨p, hp, rfl⟩ | hb
    · rw [pv_ok hp, bX_0, i1_ok hp, bI_s, if_neg (show ¬ nI 1 = 0 by decide)]
      rcases i_cases c (c := 1001) (by omega) with ⟨q, hq, rfl⟩ | hb
      · rw [pv_ok hq, bX_0, i1_ok hq, bI_s, if_neg (show ¬ nI 1 = 0 by decide)]
        rcases i_cases d (c := 1001) (by omega) with ⟨r, hr, rfl⟩ | hb
        · rw [pv_ok hr, bX_0, i1_ok hr, bI_s, if_neg (show ¬ nI 1 = 0 by decide)]
          unfold j_X8_value_52
          rw [pS_e, sS_eq, if_pos le0]
          have ci := s_codeOf (n := n) h3.1 h1.1 hi
          have lvi := h1.1.2.2.2.1 _ (List.getElem_mem hi)
          have ixi := ix_nd h1.1.2.2.1 hi
          have mi := List.getElem_mem hi
          generalize P.1[i] = la at *
          have li := lvi.2.1
          obtain ⟨x, hx⟩ := s_worth (n := n) (p := p) (q := q) (r := r) (by omega) (by omega) (by omega) lvi.1 lvi.2.1 lvi.2.2 (by omega) SC
          have fx : FR [4] SC (rA SC 4 x) := rA_fr (R := [4]) (by simp [rg])
          obtain ⟨S1, A1, B1, K1, F1⟩ := s_layLevel (n := n) (f := 368) (o := 0) h1.1 (by omega) hI0.2.2.2.2.1.1 mi (by rw [ln368]; omega) (by omega)
          have I1 := INV_M hI0 F1 (by simp) (by simp) (by simp) (by simp)
          obtain ⟨y, hy⟩ := s_valueOf (n := n) (f := 368) (o := 0) (p := p) (q := q) (r := r) (by omega) (by omega) (by omega) lvi.1 lvi.2.1 lvi.2.2 S1 (by decide) (by decide) B1 (by rw [ln368]; omega) (by omega)
          have fy : FR [378] S1 (rA S1 378 y) := rA_fr (R := [378]) (by rw [rg8 (by omega)]; simp)
          have I3 := INV_M I1 fy (by simp) (by simp) (by simp) (by simp)
          rw [ixi] at A1
          have A1' : f_X8_layLevel n (sS SM 350 0 0) (nI i) 368 0 = some (S1, nI (0 + la.length)) := A1
          have hy' : f_X8_valueOf n S1 368 0 (nI p) (nI q) (nI r) = some (rA S1 378 y, nI ((vs p q r la).headD 0)) := hy
          rw [ci, bL_s, hx, bI_s, A1', bI_s, hy', bI_s]
          have e350 : (rA S1 378 y).1 350 0 = 0 := by rw [(fy 350 0 (by rw [r350]; simp)).1, (F1 350 0 (by rw [r350]; simp)).1, sS_eq]
          exact ⟨rA SC 4 x, rA S1 378 y, 0, _, _, P, Ns, rfl, rfl, INV_C I3 fx (by simp) (by simp) (by simp), e350, Or.inl rfl, fun _ => rfl⟩
        · rw [pv_bad hb, bX_n (by decide), i1_bad hb, bI_s, if_pos (show nI 0 = 0 from rfl)]; exact bad2 _ _ _
      · rw [pv_bad hb, bX_n (by decide), i1_bad hb, bI_s, if_pos (show nI 0 = 0 from rfl)]; exact bad2 _ _ _
    · rw [pv_bad hb, bX_n (by decide), i1_bad hb, bI_s, if_pos (show nI 0 = 0 from rfl)]; exact bad2 _ _ _
  · rw [nL_bad h3 h1 hb, bX_n (by decide), isL_bad h5 h1 hb, bI_s, if_pos (show nI 0 = 0 from rfl)]
    unfold j_X8_value_52
    rw [pS_e, sS_eq, if_neg (by decide)]
    exact agr_bad hI (by simp) rfl
/-- a term spread and reduced; laid and normalized -/
theorem k_red {n i j : Nat} {SC SM : St} {P : PT} {Ns : List Nme} {x : List Mk} (hn : 10000 ≤ n) (hj : j ≤ 1) (hI : INV SC SM P Ns) (hx : P.2[i]? = some x) : ∃ S1 S2 T1 T2, f_X5_spread n SC (nI i) j = some S1 ∧ f_X3_reduce n S1 j = some (S2, oN (nrm Ns x)) ∧ f_X8_layTerm n SM (nI i) 368 0 = some (T1, nI (flt x).length) ∧ f_X8_normalize n (sS T1 372 0 (nI (flt x).length)) = some (T2, oN (nrm Ns x)) ∧ INV S2 T2 P Ns ∧ FR [208, 1002, 1003, 1004, 1000 + j] SC S2 ∧ FR NZ SM T2 ∧ (∀ p, nrm Ns x = some p → p.1 ≤ 30 ∧ RW S2 j p.2 ∧ CUR T2 p.2 ∧ gdT (zB P.2) Ns.length p.2) := by
  obtain ⟨h1, h2, h3, h4, h5, h6⟩ := hI
  have hI : INV SC SM P Ns := ⟨h1, h2, h3, h4, h5, h6⟩
  obtain ⟨eC, cC, mM⟩ := INV_env hI
  have hz := zB_le h1.2
  have gi := h1.2.2.2.2.1 _ (gt_mem hx)
  obtain ⟨S1, A1, R1, F1⟩ := s_spread (n := n) (j := j) h1.1 h1.2 cC.1 cC.2.1 hx (by omega)
  have C1 := CS_fr cC F1 (by simp; omega) (by simp; omega) (by simp; omega)
  obtain ⟨S2, A2, R2, F2⟩ := s_reduce (n := n) (j := j) (B := zB P.2) hn (by omega) h1.1 h1.2 rfl h2 (by omega) R1 gi C1.1 C1.2.1 C1.2.2
  obtain ⟨T1, D1, E1, G1⟩ := s_layTerm (n := n) (f := 368) h1.1 h1.2 (by omega) mM.2.1 mM.1 hx hn
  have G2 : FR NZ SM (sS T1 372 0 (nI (flt x).length)) := FR_sS (FR_mo G1 (by simp [NZ])) (by rw [rg8 (by omega)]; decide)
  have M2 := MS_fr mM G2 (by decide) (by decide) (by decide)
  obtain ⟨T2, D2, E2, G3⟩ := s_normalize (n := n) (B := zB P.2) hn h1.1 h1.2 h2 (by omega) (⟨E1, sS_eq⟩ : CUR (sS T1 372 0 (nI (flt x).length)) x) gi M2.1 M2.2.1 M2.2.2
  have F12 : FR [208, 1002, 1003, 1004, 1000 + j] SC S2 := FR_tr (FR_mo F1 (by simp)) (FR_mo F2 (by simp [RDX]))
  have G23 := FR_tr G2 G3
  refine ⟨S1, S2, T1, T2, A1, A2, D1, D2, INV_C (INV_M hI G23 (by decide) (by decide) (by decide) (by decide)) F12 (by simp; omega) (by simp; omega) (by simp; omega), F12, G23, fun p hp => ⟨nrm_c hp, (R2 p hp).1, (E2 p hp).1, (R2 p hp).2⟩⟩
theorem oN_s {p : Nat × List Mk} : oN (some p) = nI p.1 := rfl
theorem oN_n : oN none = m6 := rfl
theorem k_steps {n : Nat} {SC SM : St} {P : PT} {Ns : List Nme} (hn : 10000 ≤ n) (hI : INV SC SM P Ns) (a : Int32) : AGR mIU n (f_X7_steps n SC a) (f_X8_steps n SM a) := by
  have hI0 := INV_350 (v := 0) hI
  obtain ⟨h1, h2, h3, h4, h5, h6⟩ := hI
  have hI : INV SC SM P Ns := ⟨h1, h2, h3, h4, h5, h6⟩
  have l15 := h1.2.1
  unfold f_X7_steps f_X8_steps j_X8_steps_14
  rcases i_cases a (c := P.2.length) (by omega) with ⟨i, hi, rfl⟩ | hb
  · rw [nT_ok h3 h1 hi, bX_0, isT_ok h5 h1 hi, bI_s, if_neg (show ¬ nI 1 = 0 by decide), pS_e, sS_eq, if_pos le0]
    obtain ⟨S1, S2, T1, T2, A1, A2, D1, D2, I2, F2, G2, _⟩ := k_red (n := n) (j := 0) hn (by omega) hI0 (List.getElem?_eq_getElem hi)
    rw [A1, bU_s, A2, bI_s, D1, bI_s, pS_e, D2, bI_s]
    exact ⟨S2, T2, 0, _, _, P, Ns, rfl, rfl, I2, by rw [(G2 350 0 (by rw [r350]; decide)).1, sS_eq]; rfl, Or.inl rfl, fun _ => rfl⟩
  · rw [nT_bad h3 h1 hb, bX_n (by decide), isT_bad h5 h1 hb, bI_s, if_pos (show nI 0 = 0 from rfl), pS_e, sS_eq, if_neg (by decide)]
    exact agr_bad hI (by simp) rfl
theorem k_normal {n : Nat} {SC SM : St} {P : PT} {Ns : List Nme} (hn : 10000 ≤ n) (hI : INV SC SM P Ns) (a : Int32) : AGR mIU n (f_X7_normal n SC a) (f_X8_normal n SM a) := by
  have hI0 := INV_350 (v := 0) hI
  obtain ⟨h1, h2, h3, h4, h5, h6⟩ := hI
  have hI : INV SC SM P Ns := ⟨h1, h2, h3, h4, h5, h6⟩
  have l15 := h1.2.1
  have h40 := h2.1
  have hz := zB_le h1.2
  unfold f_X7_normal f_X8_normal j_X8_normal_14
  rcases i_cases a (c := P.2.length) (by omega) with ⟨i, hi, rfl⟩ | hb
  · rw [nT_ok h3 h1 hi, bX_0, isT_ok h5 h1 hi, bI_s, if_neg (show ¬ nI 1 = 0 by decide), pS_e, sS_eq, if_pos le0]
    obtain ⟨S1, S2, T1, T2, A1, A2, D1, D2, I2, F2, G2, W⟩ := k_red (n := n) (j := 0) hn (by omega) hI0 (List.getElem?_eq_getElem hi)
    rw [A1, bU_s, A2, bI_s, D1, bI_s, pS_e, D2, bI_s]
    have e350 : T2.1 350 0 = 0 := by rw [(G2 350 0 (by rw [r350]; decide)).1, sS_eq]
    generalize nrm Ns P.2[i] = o at *
    cases o with
    | none =>
      rw [oN_n, if_pos (show m6 = -6 from rfl), if_neg (show ¬ 0 ≤ m6 from c_06)]
      exact ⟨S2, T2, 0, _, _, P, Ns, rfl, rfl, I2, e350, Or.inl rfl, fun _ => rfl⟩
    | some p =>
      obtain ⟨hpc, R2, C2, g2⟩ := W p rfl
      obtain ⟨S3, A3, C3, F3⟩ := c_numbered (n := n) (j := 0) hn (by omega) h1 I2.2.2.1 R2 g2
      have hfr := gd_flt g2 (by omega) h40
      obtain ⟨T3, D3, M3, V3, G4⟩ := m_answer (n := n) (f := 368) (o := 0) hn (by omega) h1 I2.2.2.2.2.1 g2 C2.1 (by rw [ln368]; omega)
      obtain ⟨o1, o2, o3⟩ := ansT_ok h1 g2
      have D3' : f_X8_answer n T2 368 0 = some (T3, if (ansT P p.2).2 then nI (ixT (ansT P p.2).1.2 p.2) else 0) := D3
      have I4 : INV S3 T3 (ansT P p.2).1 Ns := ⟨o1, NOk_E h2 o2, C3, NC_E (NC_fr I2.2.2.2.1 F3 (by simp)) h2 o2, M3, NM_E (NM_fr I2.2.2.2.2.2 G4 (by decide)) h2 o2⟩
      rw [oN_s, if_neg (show ¬ nI p.1 = -6 from fun z => nI_pos (show p.1 < 2 ^ 31 by omega) (by rw [z]; exact c_60)), if_pos (show 0 ≤ nI p.1 by rw [k0, nIle (by omega) (by omega)]; omega), A3, D3', bI_s]
      cases h9 : (ansT P p.2).2 with
      | true =>
        rw [h9] at V3
        show AGR mIU n (bX (some (S3, 0, _)) _) _
        rw [bX_0]
        exact ⟨S3, T3, 0, _, _, _, Ns, rfl, rfl, I4, by rw [V3]; exact e350, Or.inl rfl, fun _ => rfl⟩
      | false =>
        rw [h9] at V3
        show AGR mIU n (bX (some (S3, 3, _)) _) _
        rw [bX_n (by decide)]
        exact ⟨S3, T3, 3, 0, _, _, Ns, rfl, rfl, I4, V3, by simp, fun z => absurd z (by decide)⟩
  · rw [nT_bad h3 h1 hb, bX_n (by decide), isT_bad h5 h1 hb, bI_s, if_pos (show nI 0 = 0 from rfl), pS_e, sS_eq, if_neg (by decide)]
    exact agr_bad hI (by simp) rfl
