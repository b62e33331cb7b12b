/-! calls: same, part, levelPart, declared, told, clear -/
theorem k_same {n : Nat} {SC SM : St} {P : PT} {Ns : List Nme} (hn : 10000 ≤ n) (hI : INV SC SM P Ns) (a b : Int32) : AGR mIU n (f_X7_same n SC a b) (f_X8_same n SM a b) := by
  have hI0 := INV_350 (v := 0) hI
  obtain ⟨h1, h2, h3, h4, h5, h6⟩ := hI
  have hI : INV SC SM P Ns := ⟨h1, h2, h3, h4, h5, h6⟩
  have l15 := h1.2.1
  have h40 := h2.1
  have hz := zB_le h1.2
  unfold f_X7_same f_X8_same
  have bad : AGR mIU n (some (SC, 2, 0)) (j_X8_same_21 n SM a b) := by
    unfold j_X8_same_21 j_X8_same_22
    rw [pS_e, sS_eq, if_neg (by decide)]
    exact agr_bad hI (by simp) rfl
  rcases i_cases a (c := P.2.length) (by omega) with ⟨i, hi, rfl⟩ | hb
  · rw [nT_ok h3 h1 hi, bX_0, isT_ok h5 h1 hi, bI_s, if_neg (show ¬ nI 1 = 0 by decide)]
    rcases i_cases b (c := P.2.length) (by omega) with ⟨j, hj, rfl⟩ | hb
    · rw [nT_ok h3 h1 hj, bX_0, isT_ok h5 h1 hj, bI_s, if_neg (show ¬ nI 1 = 0 by decide)]
      unfold j_X8_same_22
      rw [pS_e, sS_eq, if_pos le0]
      have ei := List.getElem?_eq_getElem hi
      have ej := List.getElem?_eq_getElem hj
      have gi := h1.2.2.2.2.1 _ (List.getElem_mem hi)
      have gj := h1.2.2.2.2.1 _ (List.getElem_mem hj)
      generalize P.2[i] = x at *
      generalize P.2[j] = y at *
      obtain ⟨eC, cC, _⟩ := INV_env hI
      obtain ⟨_, _, mM⟩ := INV_env hI0
      -- the class: both rows, then both normal forms
      obtain ⟨S1, A1, R1, F1⟩ := s_spread (n := n) (j := 0) h1.1 h1.2 cC.1 cC.2.1 ei (by omega)
      have C1 := CS_fr cC F1 (by simp) (by simp) (by simp)
      obtain ⟨S2, A2, R2, F2⟩ := s_spread (n := n) (j := 1) h1.1 h1.2 C1.1 C1.2.1 ej (by omega)
      have C2 := CS_fr C1 F2 (by simp) (by simp) (by simp)
      obtain ⟨S3, A3, R3, F3⟩ := s_reduce (n := n) (j := 0) (B := zB P.2) hn (by omega) h1.1 h1.2 rfl h2 (by omega) (RW_fr R1 F2 (by simp)) gi C2.1 C2.2.1 C2.2.2
      have C3 := CS_fr C2 F3 (by simp [RDX]) (by simp [RDX]) (by simp [RDX])
      obtain ⟨S4, A4, R4, F4⟩ := s_reduce (n := n) (j := 1) (B := zB P.2) hn (by omega) h1.1 h1.2 rfl h2 (by omega) (RW_fr R2 F3 (by simp [RDX])) gj C3.1 C3.2.1 C3.2.2
      have FR3 : FR [208, 1000, 1001, 1002, 1003, 1004] SC S3 := FR_tr (FR_tr (FR_mo F1 (by simp)) (FR_mo F2 (by simp))) (FR_mo F3 (by simp [RDX]))
      have FR4 : FR [208, 1000, 1001, 1002, 1003, 1004] SC S4 := FR_tr FR3 (FR_mo F4 (by simp [RDX]))
      -- the reference
      obtain ⟨T1, D1, E1, G1⟩ := s_layTerm (n := n) (f := 368) h1.1 h1.2 (by omega) mM.2.1 mM.1 ei hn
      have G2 : FR TZ (sS SM 350 0 0) (sS T1 372 0 (nI (flt x).length)) := FR_sS (FR_mo G1 (by simp [TZ, NZ])) (by rw [rg8 (by omega)]; decide)
      have M2 := MS_TZ mM G2
      obtain ⟨T2, D2, E2, G3⟩ := s_normalize (n := n) (B := zB P.2) hn h1.1 h1.2 h2 (by omega) (⟨E1, sS_eq⟩ : CUR (sS T1 372 0 (nI (flt x).length)) x) gi M2.1 M2.2.1 M2.2.2
      have GT : ∀ {A B : St}, FR NZ A B → FR TZ A B := fun h => nzTZ (FR_mo h (fun z hz => List.mem_cons_of_mem _ (List.mem_cons_of_mem _ hz)))
      have G23 : FR TZ (sS SM 350 0 0) T2 := FR_tr G2 (GT G3)
      have inv : ∀ SC' SM' : St, FR [208, 1000, 1001, 1002, 1003, 1004] SC SC' → FR TZ (sS SM 350 0 0) SM' → INV SC' SM' P Ns := fun SC' SM' f g => INV_C (INV_M hI0 g (by decide) (by decide) (by decide) (by decide)) f (by simp) (by simp) (by simp)
      have v350 : ∀ SM' : St, FR TZ (sS SM 350 0 0) SM' → SM'.1 350 0 = 0 := fun SM' g => by rw [(g 350 0 (by rw [r350]; decide)).1, sS_eq]
      rw [A1, bU_s, A2, bU_s, A3, bI_s, D1, bI_s, pS_e, D2, bI_s]
      cases h9 : nrm Ns x with
      | none =>
        rw [oN_n, if_pos (show m6 = -6 from rfl), if_neg (show ¬ 0 ≤ m6 from c_06)]
        exact ⟨S3, T2, 0, _, _, P, Ns, rfl, rfl, inv _ _ FR3 G23, v350 _ G23, Or.inl rfl, fun _ => rfl⟩
      | some p =>
        have hpc := nrm_c h9
        obtain ⟨⟨c1, c2⟩, gp⟩ := E2 p h9
        have flp := gd_flt gp (by omega) h40
        rw [oN_s, if_neg (show ¬ nI p.1 = -6 from fun z => nI_pos (show p.1 < 2 ^ 31 by omega) (by rw [z]; exact c_60)), if_pos (show 0 ≤ nI p.1 by rw [k0, nIle (by omega) (by omega)]; omega), pS_e]
        have G4 : FR TZ (sS SM 350 0 0) (sS T2 375 0 0) := FR_tr G23 S75
        obtain ⟨T3, D3, E3, Q3, _, G5⟩ := s_push (n := n) (f := 368) (S := sS T2 375 0 0) (o := 0) (e := (flt p.2).length) (q := 0) (l := flt p.2) (by omega) (by omega) hn (by omega) (by rw [ln368]; omega) (by omega) (by omega) sS_eq (by rw [sS_21]; exact c1)
        have G45 : FR TZ (sS SM 350 0 0) T3 := FR_tr G4 (FR_mo G5 (by simp [TZ]))
        have c2' : (sS T2 375 0 0).1 372 0 = nI (flt p.2).length := by rw [sS_ne (by omega)]; exact c2
        rw [c2', show f_X8_push n (sS T2 375 0 0) 368 0 (nI (flt p.2).length) = some T3 from D3, bU_s]
        have M3 := MS_TZ mM G45
        obtain ⟨T4, D4, E4, G6⟩ := s_layTerm (n := n) (f := 368) h1.1 h1.2 (by omega) M3.2.1 M3.1 ej hn
        have G7 : FR TZ (sS SM 350 0 0) (sS T4 372 0 (nI (flt y).length)) := FR_sS (FR_tr G45 (FR_mo G6 (by simp [TZ, NZ]))) (by rw [rg8 (by omega)]; decide)
        have M4 := MS_TZ mM G7
        obtain ⟨T5, D5, E5, G8⟩ := s_normalize (n := n) (B := zB P.2) hn h1.1 h1.2 h2 (by omega) (⟨E4, sS_eq⟩ : CUR (sS T4 372 0 (nI (flt y).length)) y) gj M4.1 M4.2.1 M4.2.2
        have G78 : FR TZ (sS SM 350 0 0) T5 := FR_tr G7 (GT G8)
        rw [A4, bI_s, D4, bI_s, pS_e, D5, bI_s]
        cases h8 : nrm Ns y with
        | none =>
          rw [oN_n, if_pos (show m6 = -6 from rfl), if_neg (show ¬ 0 ≤ m6 from c_06)]
          exact ⟨S4, T5, 0, _, _, P, Ns, rfl, rfl, inv _ _ FR4 G78, v350 _ G78, Or.inl rfl, fun _ => rfl⟩
        | some r =>
          have hrc := nrm_c h8
          obtain ⟨⟨d1, d2⟩, gr⟩ := E5 r h8
          have flr := gd_flt gr (by omega) h40
          have Rp := (R3 p h9).1
          have Rr := (R4 r h8).1
          have Rp' : RW S4 0 p.2 := RW_fr Rp F4 (by simp [RDX])
          rw [oN_s, if_neg (show ¬ nI r.1 = -6 from fun z => nI_pos (show r.1 < 2 ^ 31 by omega) (by rw [z]; exact c_60)), if_pos (show 0 ≤ nI r.1 by rw [k0, nIle (by omega) (by omega)]; omega)]
          obtain ⟨S5, A5, F5⟩ := s_matches (n := n) (gdT_mV gp (by omega) (by omega)) (gdT_mV gr (by omega) (by omega)) Rp' Rr (i := 0) (k := p.2.length) (by omega) (by omega) (by omega)
          have sge : seg p.2 0 p.2.length = p.2 := by unfold seg; rw [List.take_length, List.drop_zero]
          rw [sge] at A5
          have A5' : f_X4_matches n S4 0 0 (S4.1 150 0) 1 = some (S5, if mtc p.2 r.2 then 1 else 0) := by rw [Rp'.1]; exact A5
          have sp : sg (T5.2.1 371 0) 0 (flt p.2) := sg_fr G8 (n8o (by omega) (by decide)) (by
            rw [sS_21]
            exact sg_fr G6 (n8o (by omega) (by decide)) E3)
          obtain ⟨T6, D6, G9⟩ := s_isSame (n := n) (f := 371) (g := 368) (o := 0) (u := 0) (S := T5) hn (by omega) (by omega) gp.1 gr.1 (gdT_mV gp (by omega) (by omega)) (gdT_mV gr (by omega) (by omega)) sp d1 (by rw [ln371]; omega) (by rw [ln368]; omega) (by have := gp.2.1; omega)
          have D6' : f_X8_isSame n T5 371 0 368 0 = some (T6, zb (mtc p.2 r.2)) := D6
          have G89 : FR TZ (sS SM 350 0 0) T6 := FR_tr G78 (FR_mo G9 (by simp [TZ, NZ]))
          have I6 : INV S5 T6 P Ns := INV_C (inv _ _ FR4 G89) F5 (by simp) (by simp) (by simp)
          rw [A5', bI_s, D6', bI_s]
          cases mtc p.2 r.2 with
          | true =>
            show AGR mIU n (if (1 : Int32) = 0 then _ else _) (if nI 1 = 0 then _ else _)
            rw [if_neg (show ¬ (1 : Int32) = 0 by decide), if_neg (show ¬ nI 1 = 0 by decide)]
            exact ⟨S5, T6, 0, _, _, P, Ns, rfl, rfl, I6, v350 _ G89, Or.inl rfl, fun _ => rfl⟩
          | false =>
            show AGR mIU n (if (0 : Int32) = 0 then _ else _) (if nI 0 = 0 then _ else _)
            rw [if_pos rfl, if_pos (show nI 0 = 0 from rfl)]
            exact ⟨S5, T6, 0, _, _, P, Ns, rfl, rfl, I6, v350 _ G89, Or.inl rfl, fun _ => rfl⟩
    · rw [nT_bad h3 h1 hb, bX_n (by decide), isT_bad h5 h1 hb, bI_s, if_pos (show nI 0 = 0 from rfl)]
      exact bad
  · rw [nT_bad h3 h1 hb, bX_n (by decide), isT_bad h5 h1 hb, bI_s, if_pos (show nI 0 = 0 from rfl)]
    exact bad
theorem k_part {n : Nat} {SC SM : St} {P : PT} {Ns : List Nme} (hn : 10000 ≤ n) (hI : INV SC SM P Ns) (a b : Int32) : AGR mVa n (f_X7_part n SC a b) (f_X8_part n SM a b) := by
  have hI0 := INV_350 (v := 0) hI
  obtain ⟨h1, h2, h3, h4, h5, h6⟩ := hI
  have hI : INV SC SM P Ns := ⟨h1, h2, h3, h4, h5, h6⟩
  have l15 := h1.2.1
  have hz := zB_le h1.2
  unfold f_X7_part f_X8_part
  rcases i_cases a (c := P.2.length) (by omega) with ⟨i, hi, rfl⟩ | hb
  · rw [nT_ok h3 h1 hi, bX_0, isT_ok h5 h1 hi, bI_s, if_neg (show ¬ nI 1 = 0 by decide), s_isIn, bI_s]
    have ei := List.getElem?_eq_getElem hi
    have gi := h1.2.2.2.2.1 _ (List.getElem_mem hi)
    generalize P.2[i] = x at *
    obtain ⟨c1, c2, c3, c4, c5, c6⟩ := h3.2.2 i x ei
    obtain ⟨d1, d2, d3, d4, d5, d6⟩ := hI0.2.2.2.2.1.2.1.2 i x ei
    have op : opn x ≤ 1000000 := by have := opn_le gi.2.2; omega
    have tail : ∀ v : Int32, ∀ rm : Option (St × Int32), rm = some (sS SM 350 0 0, v) → AGR mVa n (some (SC, 0, v)) rm := fun v rm h => by
      rw [h]; exact ⟨SC, _, 0, v, v, P, Ns, rfl, rfl, hI0, sS_eq, Or.inl rfl, fun _ => rfl⟩
    rcases i_cases b (c := 6) (by omega) with ⟨k, hk, rfl⟩ | hb | hb
    · rw [if_neg (nI_pos (by omega)), if_neg (show ¬ 5 < nI k by rw [k5, nIlt (by omega) (by omega)]; omega), if_neg (show ¬ (1 : Int32) = 0 by decide)]
      unfold j_X8_part_27
      rw [pS_e, sS_eq, if_pos le0]
      generalize sS SM 350 0 0 = S0 at *
      have ifl : (if nI (opn x) ≤ 0 then j_X8_part_58 n S0 (nI i) (nI k) 0 else j_X8_part_58 n S0 (nI i) (nI k) (nI (opn x))) = j_X8_part_58 n S0 (nI i) (nI k) (nI (opn x)) := by
        by_cases z : opn x = 0
        · rw [z, if_pos (by decide)]; rfl
        · rw [if_neg (show ¬ nI (opn x) ≤ 0 by rw [k0, nIle (by omega) (by omega)]; omega)]
      have r61 : ∀ k : Int32 → Option (St × Int32), gI S0 361 0 (nI i) 1500 k = k (nI (opn x)) := fun k => by rw [gI_n (by omega) (by omega), d6]
      rw [r61, r61, ifl]
      unfold j_X8_part_58
      have ne : ∀ j : Nat, j ≤ 6 → k ≠ j → ¬ nI k = nI j := fun j h1 h2 => by rw [nIeq (by omega) (by omega)]; exact h2
      by_cases q0 : k = 0
      · rw [if_pos (show nI k = 0 by rw [q0]; rfl), if_pos (show nI k = 0 by rw [q0]; rfl), gI_n (by omega) (by omega), gI_n (by omega) (by omega), c1, d1]; exact tail _ _ rfl
      · rw [if_neg (show ¬ nI k = 0 from ne 0 (by omega) q0), if_neg (show ¬ nI k = 0 from ne 0 (by omega) q0)]
        by_cases q1 : k = 1
        · rw [if_pos (show nI k = 1 by rw [q1]; rfl), if_pos (show nI k = 1 by rw [q1]; rfl), gI_n (by omega) (by omega), gI_n (by omega) (by omega), c2, d2]; exact tail _ _ rfl
        · rw [if_neg (show ¬ nI k = 1 from ne 1 (by omega) q1), if_neg (show ¬ nI k = 1 from ne 1 (by omega) q1)]
          by_cases q2 : k = 2
          · rw [if_pos (show nI k = 2 by rw [q2]; rfl), if_pos (show nI k = 2 by rw [q2]; rfl), gI_n (by omega) (by omega), gI_n (by omega) (by omega), c3, d3]; exact tail _ _ rfl
          · rw [if_neg (show ¬ nI k = 2 from ne 2 (by omega) q2), if_neg (show ¬ nI k = 2 from ne 2 (by omega) q2)]
            by_cases q3 : k = 3
            · rw [if_pos (show nI k = 3 by rw [q3]; rfl), if_pos (show nI k = 3 by rw [q3]; rfl), gI_n (by omega) (by omega), gI_n (by omega) (by omega), c4, d4]; exact tail _ _ rfl
            · rw [if_neg (show ¬ nI k = 3 from ne 3 (by omega) q3), if_neg (show ¬ nI k = 3 from ne 3 (by omega) q3)]
              by_cases q4 : k = 4
              · rw [if_pos (show nI k = 4 by rw [q4]; rfl), if_pos (show nI k = 4 by rw [q4]; rfl), gI_n (by omega) (by omega), gI_n (by omega) (by omega), c5, d5]; exact tail _ _ rfl
              · rw [if_neg (show ¬ nI k = 4 from ne 4 (by omega) q4), if_neg (show ¬ nI k = 4 from ne 4 (by omega) q4), if_pos (show nI k = 5 by rw [show k = 5 by omega]; rfl), gI_n (by omega) (by omega), c6]; exact tail _ _ rfl
    all_goals
      have nb : ∀ j : Nat, j < 6 → ¬ b = nI j := fun j h1 h2 => by
        rw [h2] at hb
        first
          | exact nI_pos (show j < 2 ^ 31 by omega) hb
          | (rw [nIle (by omega) (by omega)] at hb; omega)
      rw [if_neg (show ¬ b = 0 from nb 0 (by omega)), if_neg (show ¬ b = 1 from nb 1 (by omega)), if_neg (show ¬ b = 2 from nb 2 (by omega)), if_neg (show ¬ b = 3 from nb 3 (by omega)), if_neg (show ¬ b = 4 from nb 4 (by omega)), if_neg (show ¬ b = 5 from nb 5 (by omega))]
    · rw [if_pos hb, if_pos rfl]
      unfold j_X8_part_27
      rw [pS_e, sS_eq, if_neg (by decide)]
      exact agr_bad hI (by simp) rfl
    · rw [if_neg (ge_nn (by omega) hb), if_pos (show 5 < b from Int32.lt_of_lt_of_le (by decide) hb), if_pos rfl]
      unfold j_X8_part_27
      rw [pS_e, sS_eq, if_neg (by decide)]
      exact agr_bad hI (by simp) rfl
  · rw [nT_bad h3 h1 hb, bX_n (by decide), isT_bad h5 h1 hb, bI_s, if_pos (show nI 0 = 0 from rfl)]
    unfold j_X8_part_27
    rw [pS_e, sS_eq, if_neg (by decide)]
    exact agr_bad hI (by simp) rfl
