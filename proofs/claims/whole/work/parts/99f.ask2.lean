/-! calls: atMost, value, type, normal, steps, same -/
theorem INV_C {SC SC' SM : St} {P : PT} {Ns : List Nme} {R : List Nat} (h : INV SC SM P Ns) (g : FR R SC SC') (h0 : 0 ∉ R) (h5 : 50 ∉ R) (h2 : 200 ∉ R) : INV SC' SM P Ns := ⟨h.1, h.2.1, CP_fr h.2.2.1 g h0 h2, NC_fr h.2.2.2.1 g h5, h.2.2.2.2.1, h.2.2.2.2.2⟩
theorem INV_M {SC SM SM' : St} {P : PT} {Ns : List Nme} {R : List Nat} (h : INV SC SM P Ns) (g : FR R SM SM') (h0 : 351 ∉ R) (h5 : 356 ∉ R) (h2 : 363 ∉ R) (h9 : 379 ∉ R) : INV SC SM' P Ns := ⟨h.1, h.2.1, h.2.2.1, h.2.2.2.1, ⟨LM_fr h.2.2.2.2.1.1 g h0, TM_fr h.2.2.2.2.1.2.1 g h5, by rw [(g 379 0 (n8o (by omega) h9)).1]; exact h.2.2.2.2.1.2.2⟩, NM_fr h.2.2.2.2.2 g h2⟩
theorem INV_env {SC SM : St} {P : PT} {Ns : List Nme} (h : INV SC SM P Ns) : ENV P.1 P.2 Ns ∧ CS SC P.1 P.2 Ns ∧ MS SM P.1 P.2 Ns := ⟨⟨h.1.1, h.1.2, h.2.1⟩, ⟨h.2.2.1.2, h.2.2.1.1, h.2.2.2.1⟩, ⟨h.2.2.2.2.1.2.1, h.2.2.2.2.1.1, h.2.2.2.2.2⟩⟩
theorem r350 : rg 350 0 = 350 := rfl
theorem k_atMost {n : Nat} {SC SM : St} {P : PT} {Ns : List Nme} (hn : 10000 ≤ n) (hI : INV SC SM P Ns) (a b : Int32) : AGR mIU n (f_X7_atMost n SC a b) (f_X8_atMost n SM a b) := by
  have hI0 := INV_350 (v := 0) hI
  obtain ⟨h1, h2, h3, h4, h5, h6⟩ := hI
  have hI : INV SC SM P Ns := ⟨h1, h2, h3, h4, h5, h6⟩
  have l300 := h1.1.2.1
  unfold f_X7_atMost f_X8_atMost g_X8_atMost
  have bad : AGR mIU n (some (SC, 2, 0)) (zW (j_X8_atMost_21 n SM a b)) := by
    unfold j_X8_atMost_21 j_X8_atMost_22
    rw [pS_e, sS_eq, if_neg (by decide)]
    exact agr_bad hI (by simp) rfl
  rcases i_cases a (c := P.1.length) (by omega) with ⟨i, hi, rfl⟩ | hb
  · rw [nL_ok h3 h1 hi, bX_0, isL_ok h5 h1 hi, bI_s, if_neg (show ¬ nI 1 = 0 by decide)]
    rcases i_cases b (c := P.1.length) (by omega) with ⟨j, hj, rfl⟩ | hb
    · rw [nL_ok h3 h1 hj, bX_0, isL_ok h5 h1 hj, bI_s, if_neg (show ¬ nI 1 = 0 by decide)]
      unfold j_X8_atMost_22
      rw [pS_e, sS_eq, if_pos le0]
      have ci := s_codeOf (n := n) h3.1 h1.1 hi
      have cj := s_codeOf (n := n) h3.1 h1.1 hj
      have lvi := h1.1.2.2.2.1 _ (List.getElem_mem hi)
      have lvj := h1.1.2.2.2.1 _ (List.getElem_mem hj)
      have ixi := ix_nd h1.1.2.2.1 hi
      have ixj := ix_nd h1.1.2.2.1 hj
      have mi := List.getElem_mem hi
      have mj := List.getElem_mem hj
      generalize P.1[i] = la at *
      generalize P.1[j] = lb at *
      obtain ⟨x, hx⟩ := s_isAtMost (n := n) lvi.1 lvj.1 lvi.2.1 lvj.2.1 lvi.2.2 lvj.2.2 (by omega) SC
      have fx : FR [4] SC (rA SC 4 x) := rA_fr (R := [4]) (by simp [rg])
      have li := lvi.2.1
      have lj := lvj.2.1
      obtain ⟨S1, A1, B1, K1, F1⟩ := s_layLevel (n := n) (f := 368) (o := 0) h1.1 (by omega) hI0.2.2.2.2.1.1 mi (by rw [ln368]; omega) (by omega)
      have I1 := INV_M hI0 F1 (by simp) (by simp) (by simp) (by simp)
      obtain ⟨S2, A2, B2, K2, F2⟩ := s_layLevel (n := n) (f := 369) (o := 0) h1.1 (by omega) I1.2.2.2.2.1.1 mj (by rw [ln369]; omega) (by omega)
      have I2 := INV_M I1 F2 (by simp) (by simp) (by simp) (by simp)
      obtain ⟨y, hy⟩ := s_isAtMost8 (n := n) (f := 368) (g := 369) (o := 0) (u := 0) lvi.1 lvj.1 li lj lvi.2.2 lvj.2.2 (by omega) S2 (by decide) (by decide) (by decide) (by decide) (sg_fr F2 (n8o (by omega) (by decide)) B1) B2 (by rw [ln368]; omega) (by rw [ln369]; omega)
      have fy : FR [378] S2 (rA S2 378 y) := rA_fr (R := [378]) (by rw [rg8 (by omega)]; simp)
      have I3 := INV_M I2 fy (by simp) (by simp) (by simp) (by simp)
      rw [ixi] at A1
      rw [ixj] at A2
      rw [ci, bL_s, cj, bL_s, hx, bI_s]
      have A1' : f_X8_layLevel n (sS SM 350 0 0) (nI i) 368 0 = some (S1, nI (0 + la.length)) := A1
      have A2' : f_X8_layLevel n S1 (nI j) 369 0 = some (S2, nI (0 + lb.length)) := A2
      have hy' : f_X8_isAtMost n S2 368 0 369 0 = some (rA S2 378 y, if atB2 la lb then 1 else 0) := hy
      rw [A1', bI_s, A2', bI_s, hy', bI_s]
      have e350 : (rA S2 378 y).1 350 0 = 0 := by
        rw [(fy 350 0 (by rw [r350]; simp)).1, (F2 350 0 (by rw [r350]; simp)).1, (F1 350 0 (by rw [r350]; simp)).1, sS_eq]
      refine ⟨rA SC 4 x, rA S2 378 y, 0, if atB2 la lb then 1 else 0, if atB2 la lb then 1 else 0, P, Ns, ?_, ?_, INV_C I3 fx (by simp) (by simp) (by simp), e350, Or.inl rfl, fun _ => rfl⟩
      · unfold zX
        cases atB2 la lb <;> rfl
      · cases atB2 la lb <;> rfl
    · rw [nL_bad h3 h1 hb, bX_n (by decide), isL_bad h5 h1 hb, bI_s, if_pos (show nI 0 = 0 from rfl)]
      exact bad
  · rw [nL_bad h3 h1 hb, bX_n (by decide), isL_bad h5 h1 hb, bI_s, if_pos (show nI 0 = 0 from rfl)]
    exact bad
/-- the type of a numbered term -/
theorem k_type {n : Nat} {SC SM : St} {P : PT} {Ns : List Nme} (hn : 10000 ≤ n) (hI : INV SC SM P Ns) (a : Int32) : AGR mIU n (f_X7_type n SC a) (f_X8_type n SM a) := by
  have hI0 := INV_350 (v := 0) hI
  obtain ⟨h1, h2, h3, h4, h5, h6⟩ := hI
  have hI : INV SC SM P Ns := ⟨h1, h2, h3, h4, h5, h6⟩
  have l15 := h1.2.1
  have h40 := h2.1
  have hz := zB_le h1.2
  unfold f_X7_type f_X8_type j_X8_type_14
  rcases i_cases a (c := P.2.length) (by omega) with ⟨i, hi, rfl⟩ | hb
  · rw [nT_ok h3 h1 hi, bX_0, isT_ok h5 h1 hi, bI_s, if_neg (show ¬ nI 1 = 0 by decide), pS_e, sS_eq, if_pos le0]
    have e9 := List.getElem?_eq_getElem hi
    have mi := List.getElem_mem hi
    have gi := h1.2.2.2.2.1 _ mi
    have ixi := ixT_nd h1.2.2.1 hi
    generalize P.2[i] = x at *
    have lx := gi.2.1
    obtain ⟨eC, cC, _⟩ := INV_env hI
    obtain ⟨_, _, mM⟩ := INV_env hI0
    obtain ⟨S1, A1, B1, R1, K1, F1⟩ := c_find (n := n) hn eC 101 0 (by omega) SC [] x mi (by omega) (by simp) cC (fun i t hi => by cases hi)
    rw [ixi] at A1
    have gt := tyS_gd eC 101 [] x (gdT_mo gi (by omega)) trivial (by simp)
    -- the reference
    obtain ⟨T1, D1, E1, G1⟩ := s_layTerm (n := n) (f := 367) h1.1 h1.2 (by omega) mM.2.1 mM.1 e9 hn
    have I1 := INV_M hI0 G1 (by decide) (by decide) (by decide) (by decide)
    have G2 : FR [375, 383] T1 (sS (sS T1 383 0 (nI 0)) 375 0 (nI 0)) := FR_sS (FR_sS FR_rf (by rw [rg8 (by omega)]; simp)) (by rw [rg8 (by omega)]; simp)
    have I2 := INV_M I1 G2 (by decide) (by decide) (by decide) (by decide)
    have bg : f_X8_begin n (sS SM 350 0 0) (nI i) = some (sS (sS T1 383 0 (nI 0)) 375 0 (nI 0)) := by
      unfold f_X8_begin
      rw [D1, bI_s, pS_e, pS_e]; rfl
    have hfl := gd_flt gi (by omega) h40
    obtain ⟨T2, D2, R2, _, _, _, G3⟩ := m_typeOf (n := n) hn eC 101 0 (by omega) (sS (sS T1 383 0 (nI 0)) 375 0 (nI 0)) [] x 0 0 (gdT_mo gi (by omega)) (by omega) (by simp) ⟨I2.2.2.2.2.1.2.1, I2.2.2.2.2.1.1, I2.2.2.2.2.2⟩ ⟨by rw [sS_ne (by omega), sS_eq]; rfl, fun i t hi => by cases hi⟩ trivial E1 (by omega) sS_eq (by omega)
    have I3 := INV_M I2 G3 (by decide) (by decide) (by decide) (by decide)
    have e350 : T2.1 350 0 = 0 := by rw [(G3 350 0 (by rw [r350]; decide)).1, (G2 350 0 (by rw [r350]; decide)).1, (G1 350 0 (by rw [r350]; decide)).1, sS_eq]
    have A1' : k_X6_find n 101 SC (nI i) 0 0 = some (S1, nI (tyS Ns 101 [] x).1) := A1
    have D2' : k_X8_typeOf n 101 (sS (sS T1 383 0 (nI 0)) 375 0 (nI 0)) 0 = some (T2, nI (tyS Ns 101 [] x).1) := D2
    rw [A1', bI_s, bg, bU_s, D2', bI_s]
    have J3 : INV S1 T2 P Ns := INV_C I3 F1 (by rw [mem_FD]; omega) (by rw [mem_FD]; omega) (by rw [mem_FD]; omega)
    generalize tyS Ns 101 [] x = r at *
    by_cases z : r.1 = 0
    · rw [if_pos (show nI r.1 = 0 by rw [z]; rfl), if_pos (show nI r.1 ≤ 0 by rw [z]; decide)]
      have g0 := gt z
      rw [List.length_nil, Nat.add_zero] at g0
      obtain ⟨S2, A2, C2, F2⟩ := c_numbered (n := n) (j := 6) hn (by omega) h1 J3.2.2.1 (R1 z) g0
      obtain ⟨rs, _⟩ := R2 z
      have hfr := gd_flt g0 (by omega) h40
      obtain ⟨T3, D3, M3, V3, G4⟩ := m_answer (n := n) (f := 371) (o := 0) hn (by omega) h1 J3.2.2.2.2.1 g0 rs.1 (by rw [ln371]; omega)
      obtain ⟨o1, o2, o3⟩ := ansT_ok h1 g0
      have D3' : f_X8_answer n T2 371 0 = some (T3, if (ansT P r.2).2 then nI (ixT (ansT P r.2).1.2 r.2) else 0) := D3
      have I4 : INV S2 T3 (ansT P r.2).1 Ns := ⟨o1, NOk_E h2 o2, C2, NC_E (NC_fr J3.2.2.2.1 F2 (by simp)) h2 o2, M3, NM_E (NM_fr J3.2.2.2.2.2 G4 (by decide)) h2 o2⟩
      rw [A2, D3', bI_s]
      cases h9 : (ansT P r.2).2 with
      | true =>
        rw [h9] at V3
        show AGR mIU n (bX (some (S2, 0, _)) _) _
        rw [bX_0]
        exact ⟨S2, T3, 0, _, _, _, Ns, rfl, rfl, I4, by rw [V3]; exact e350, Or.inl rfl, fun _ => rfl⟩
      | false =>
        rw [h9] at V3
        show AGR mIU n (bX (some (S2, 3, _)) _) _
        rw [bX_n (by decide)]
        exact ⟨S2, T3, 3, 0, _, _, Ns, rfl, rfl, I4, V3, by simp, fun z => absurd z (by decide)⟩
    · have ne : ¬ nI r.1 = 0 := by rw [k0, nIeq (by omega) (by omega)]; exact z
      rw [if_neg ne, if_neg (show ¬ nI r.1 ≤ 0 by rw [k0, nIle (by omega) (by omega)]; omega)]
      exact ⟨S1, T2, 0, _, _, P, Ns, rfl, rfl, J3, e350, Or.inl rfl, fun _ => rfl⟩
  · rw [nT_bad h3 h1 hb, bX_n (by decide), isT_bad h5 h1 hb, bI_s, if_pos (show nI 0 = 0 from rfl), pS_e, sS_eq, if_neg (by decide)]
    exact agr_bad hI (by simp) rfl
