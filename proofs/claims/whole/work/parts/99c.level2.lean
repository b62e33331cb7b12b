/-! calls: level -/
theorem ix_nd {L : List (List Nat)} {i : Nat} (hn : L.Nodup) (hi : i < L.length) : ix L (L[i]) = i := by
  have h1 := ix_get (List.getElem_mem hi)
  have h2 := List.getElem?_eq_getElem hi
  have hl := ix_lt (List.getElem_mem hi)
  rw [List.getElem?_eq_getElem hl] at h1
  have e := Option.some.inj h1
  have pw := List.pairwise_iff_getElem.mp hn
  rcases Nat.lt_trichotomy (ix L L[i]) i with z | z | z
  · exact absurd e (pw _ _ hl hi z)
  · exact z
  · exact absurd e.symm (pw _ _ hi hl z)
theorem lt1 {a : Int32} (h : a < 0) : a < 1 := Int32.lt_trans h (by decide)
theorem ge5 {a : Int32} (h : nI 5 ≤ a) : ¬ a < 1 ∧ ¬ a ≤ 4 ∧ 4 < a := ⟨Int32.not_lt.mpr (Int32.le_trans (by decide) h), Int32.not_le.mpr (Int32.lt_of_lt_of_le (by decide) h), Int32.lt_of_lt_of_le (by decide) h⟩
theorem c_big {n : Nat} {S : St} {v : Int64} {l : List Nat} {b : Prop} [Decidable b] (hn : 10000 ≤ n) (hv : v = if b then en l else -1) (hl : b → okL l ∧ l.length ≤ 16) (h8 : b → 8 < l.length) : f_X7_askedLevel n S v = some (S, 3, 0) := by
  unfold f_X7_askedLevel j_X7_askedLevel_17
  by_cases z : b
  · rw [if_pos z] at hv
    obtain ⟨h1, h2⟩ := hl z
    have h9 := h8 z
    rw [hv, if_neg (fun w => en_m1 h1 (by omega) ((cmp_eq _ _).mp w)), s_sizeOf h1 h2 (by omega), bI_s, if_neg (show ¬ nI l.length ≤ 8 by rw [k8, nIle (by omega) (by omega)]; omega)]
  · rw [if_neg z] at hv
    rw [hv, if_pos ((cmp_eq _ _).mpr rfl)]
theorem m_end3 {n : Nat} {SM SM' : St} {v : Int32} {k s1 s2 : Int32} (h : f_X8_numberOfLevel n SM k s1 s2 = some (SM', v)) : j_X8_level_95 n SM s2 s1 k = some (if 0 ≤ v then (sS SM' 350 0 0, v) else (sS SM' 350 0 3, 0)) := by
  unfold j_X8_level_95 j_X8_level_111
  rw [h, bI_s]
  by_cases z : 0 ≤ v
  · rw [if_pos z, if_pos z, pS_e, if_pos z]
  · rw [if_neg z, if_neg z, pS_e, if_neg z]
theorem agr_f {mp : Int32 → Int32} {n : Nat} {SC SM SM' : St} {P : PT} {Ns : List Nme} {c : Int32} {b : Int32} (hI : INV SC SM P Ns) (hc : c = 1 ∨ c = 2 ∨ c = 3) (hs : SM' = sS SM 350 0 (mp c)) : AGR mp n (some (SC, c, 0)) (some (SM', b)) := by
  subst hs
  refine ⟨SC, _, c, 0, b, P, Ns, rfl, rfl, INV_350 hI, sS_eq, Or.inr hc, fun z => ?_⟩
  rcases hc with w | w | w <;> rw [w] at z <;> exact absurd z (by decide)
theorem agr_lv {n : Nat} {SC SM : St} {P : PT} {Ns : List Nme} {l : List Nat} (hn : 10000 ≤ n) (hI : INV SC SM P Ns) (hl : lvO l) (hp : prt P.1 l) (h8 : l.length ≤ 8) : AGR mLv n (bX (f_X7_askedLevel n SC (en l)) fun S v => some (S, 0, v)) (j_X8_level_95 n SM (e2 P.1 l) (e1 P.1 l) (nI (kd l))) := by
  obtain ⟨SC', SM', P', A1, A2, I1, F1, m3⟩ := k_lv (n := n) hn hI hl hp h8
  cases h9 : (adL P l).2 with
  | true =>
    have ib := (m3 h9).2
    have A2' : f_X8_numberOfLevel n SM (nI (kd l)) (e1 P.1 l) (e2 P.1 l) = some (SM', nI (ix (adL P l).1.1 l)) := by rw [A2, h9]; rfl
    have A1' : f_X7_askedLevel n SC (en l) = some (SC', 0, nI (ix (adL P l).1.1 l)) := by rw [A1, h9]; rfl
    rw [m_end3 A2', A1', bX_0, if_pos (show 0 ≤ nI (ix (adL P l).1.1 l) by rw [k0, nIle (by omega) (by omega)]; omega)]
    exact ⟨SC', _, 0, _, _, P', Ns, rfl, rfl, INV_350 I1, sS_eq, Or.inl rfl, fun _ => rfl⟩
  | false =>
    have A2' : f_X8_numberOfLevel n SM (nI (kd l)) (e1 P.1 l) (e2 P.1 l) = some (SM', mI) := by rw [A2, h9]; rfl
    have A1' : f_X7_askedLevel n SC (en l) = some (SC', 3, 0) := by rw [A1, h9]; rfl
    rw [m_end3 A2', A1', bX_n (by decide), if_neg (show ¬ 0 ≤ mI from c_0m)]
    exact agr_f I1 (by simp) rfl
theorem le0 : (0 : Int32) ≤ 0 := by decide
theorem k_level {n : Nat} {SC SM : St} {P : PT} {Ns : List Nme} (hn : 10000 ≤ n) (hI : INV SC SM P Ns) (a1 a2 a3 : Int32) : AGR mLv n (f_X7_level n SC a1 a2 a3) (f_X8_level n SM a1 a2 a3) := by
  have hI0 := INV_350 (v := 0) hI
  obtain ⟨h1, h2, h3, h4, h5, h6⟩ := hI
  have hI : INV SC SM P Ns := ⟨h1, h2, h3, h4, h5, h6⟩
  have l300 := h1.1.2.1
  have hLM := h5.1
  have h79 := h5.2.2
  unfold f_X7_level f_X8_level
  have bad1 : AGR mLv n (j_X7_level_10 n SC) (j_X8_level_25 n SM a1 a2 a3) := by
    unfold j_X7_level_10 j_X8_level_25 j_X8_level_65
    rw [pS_e, sS_eq, if_neg (by decide)]
    exact agr_f hI (by simp) rfl
  have bad2 : ∀ x1 x2 x3 : Int32, AGR mLv n (some (SC, 2, 0)) (j_X8_level_60 n SM x1 x2 x3) := by
    intro x1 x2 x3
    unfold j_X8_level_60 j_X8_level_65
    rw [pS_e, sS_eq, if_neg (by decide)]
    exact agr_f hI (by simp) rfl
  rcases i_cases a1 (c := 5) (by omega) with ⟨k, hk, rfl⟩ | hb | hb
  · by_cases q0 : k = 0
    · subst q0
      rw [if_pos (show nI 0 < 1 by decide), if_pos (show nI 0 < 1 by decide)]
      exact bad1
    · rw [if_neg (show ¬ nI k < 1 by rw [k1, nIlt (by omega) (by omega)]; omega), if_neg (show ¬ nI k < 1 by rw [k1, nIlt (by omega) (by omega)]; omega), if_pos (show nI k ≤ 4 by rw [k4, nIle (by omega) (by omega)]; omega), if_neg (show ¬ 4 < nI k by rw [k4, nIlt (by omega) (by omega)]; omega)]
      by_cases q4 : k = 4
      · subst q4
        rw [if_pos (show nI 4 = 4 from rfl), if_pos (show nI 4 = 4 from rfl)]
        rcases i_cases a2 (c := 3) (by omega) with ⟨p, hp, rfl⟩ | hb | hb
        · rw [if_neg (nI_pos (by omega)), if_pos (show nI p < 3 by rw [k3, nIlt (by omega) (by omega)]; omega), s_ofParameter hp, bL_s, s_isIn, if_neg (nI_pos (by omega)), if_neg (show ¬ 2 < nI p by rw [k2, nIlt (by omega) (by omega)]; omega), bI_s, if_neg (by decide)]
          unfold j_X8_level_29
          rw [if_pos (show 4 ≤ nI 4 by decide)]
          unfold j_X8_level_42
          rw [if_neg (by decide), if_neg (by decide)]
          unfold j_X8_level_64 j_X8_level_65
          rw [pS_e, sS_eq, if_pos le0, if_neg (by decide), if_neg (by decide)]
          have lv : lvO [4 + p] := ⟨fun t ht => by rw [List.mem_singleton.mp ht]; omega, by simp, by
            show lc (0 + tp (4 + p)) []
            have : tp (4 + p) = 0 := by unfold tp; rw [if_neg (by omega), if_neg (by omega)]
            rw [this]; trivial⟩
          have t0 : tp (4 + p) = 0 := by unfold tp; rw [if_neg (by omega), if_neg (by omega)]
          have ag := agr_lv (n := n) hn hI0 lv (l := [4 + p]) ⟨fun z => by have : 1 ≤ tp (4 + p) := z; omega, fun z => by have : tp (4 + p) = 2 := z; omega⟩ (by simp)
          have e1' : e1 P.1 [4 + p] = nI p := by rw [e1_c, if_pos t0, if_neg (by omega)]; congr 1; omega
          have e2' : e2 P.1 [4 + p] = -1 := by rw [e2_c, if_neg (by omega)]
          have kd' : kd [4 + p] = 4 := by rw [kd_c]; split <;> omega
          rw [e1', e2', kd'] at ag
          exact ag
        · rw [if_pos hb, s_isIn, if_pos hb, bI_s, if_pos rfl]; exact bad1
        · rw [if_neg (ge_nn (by omega) hb), if_neg (show ¬ a2 < 3 from ge_nl (c := 3) hb), s_isIn, if_neg (ge_nn (by omega) hb), if_pos (show 2 < a2 from Int32.lt_of_lt_of_le (by decide) hb), bI_s, if_pos rfl]; exact bad1
      · rw [if_neg (show ¬ nI k = 4 by rw [k4, nIeq (by omega) (by omega)]; exact q4), if_neg (show ¬ nI k = 4 by rw [k4, nIeq (by omega) (by omega)]; exact q4)]
        unfold j_X8_level_29
        rw [if_neg (show ¬ 4 ≤ nI k by rw [k4, nIle (by omega) (by omega)]; omega)]
        rcases i_cases a2 (c := P.1.length) (by omega) with ⟨i, hi, rfl⟩ | hb
        · rw [nL_ok h3 h1 hi, bX_0, isL_ok h5 h1 hi, bI_s, if_neg (show ¬ nI 1 = 0 by decide)]
          have lvi := h1.1.2.2.2.1 _ (List.getElem_mem hi)
          have ci := s_codeOf (n := n) h3.1 h1.1 hi
          have li := (hLM.2 i hi).2.2.2
          have ixi := ix_nd h1.1.2.2.1 hi
          have mi := List.getElem_mem hi
          generalize P.1[i] = la at *
          have la16 := lvi.2.1
          have la1 : 1 ≤ la.length := by cases la with | nil => exact absurd lvi.2.2 (fun z => z) | cons a b => simp
          unfold j_X8_level_42
          by_cases kq1 : k = 1
          · subst kq1
            rw [if_pos (show nI 1 = 1 from rfl), ci, bL_s, s_ofUp lvi.1 la16 (by omega), bL_s, if_neg (show ¬ nI 1 = 2 by decide), if_neg (show ¬ nI 1 = 3 by decide)]
            unfold j_X8_level_64 j_X8_level_65
            rw [pS_e, sS_eq, if_pos le0, if_neg (show ¬ nI 1 = 2 by decide), if_neg (show ¬ nI 1 = 3 by decide)]
            by_cases z : la.length + 1 ≤ 8
            · have lv1 := lvO_1 lvi (by omega)
              rw [if_pos (by omega)]
              have q1e : q1 (1 :: la) = la := ((lc_parts lv1.2.2).2.1 rfl).1
              have ag := agr_lv (n := n) hn hI0 lv1 ⟨fun _ => by rw [q1e]; exact mi, fun z => by cases z⟩ (by rw [List.length_cons]; omega)
              have e1' : e1 P.1 (1 :: la) = nI i := by rw [e1_c, if_neg (by decide), q1e, ixi]
              rw [e1', show e2 P.1 (1 :: la) = -1 from rfl, show kd (1 :: la) = 1 from rfl] at ag
              exact ag
            · rw [c_big (l := 1 :: la) (b := la.length < 16) hn rfl (fun z => ⟨okL_cons (by omega) lvi.1, by rw [List.length_cons]; omega⟩) (fun _ => by rw [List.length_cons]; omega), bX_n (by decide)]
              have big : f_X8_numberOfLevel n (sS SM 350 0 0) (nI 1) (nI i) (-1) = some (sS SM 350 0 0, mI) := by
                unfold f_X8_numberOfLevel
                have li' : (sS SM 350 0 0).2.1 354 0 i = nI la.length := li
                have h79' : (sS SM 350 0 0).1 379 0 = nI 1 := by rw [sS_ne (by omega)]; exact h79
                generalize sS SM 350 0 0 = S0 at *
                ((try simp only [k0, k1, k2, k3, k4, k5, k6, k8, k16, k30, k60, k100, k200, k201, k300, k1500, k8000, kM, k_m6]); repeat (first | rw [zt_eq (by omega)] | rw [zt_ne (by omega) (by omega) (by omega)] | rw [zt_nle (by omega) (by omega)] | rw [zt_le (by omega) (by omega)] | rw [zt_nlt (by omega) (by omega)] | rw [zt_lt (by omega) (by omega)] | rw [zt_nm (by omega)] | rw [zt_mm] | rw [zt_ml] | rw [zt_0m] | rw [zt_m0] | rw [zt_n6 (by omega)] | rw [zt_66] | rw [zt_06] | simp (disch := omega) only [k0, k1, k2, k3, k4, k5, k6, k8, k16, k30, k60, k100, k200, k201, k300, k1500, k8000, kM, k_m6, nIa, nIp, nIs, sI_1, sI_22, sL_1, sL_21, sS_21, sS_22, sI_ne, sL_ne, sS_ne, sS_eq, sI_eq, sI_at, sL_eq, sL_at, Nat.add_zero, if_true, if_false, li', h79'] | rw [bV_e] | rw [pS_e] | rw [bI_s] | rw [bU_s] | rw [bL_s] | rw [gI_n (by omega) (by omega)] | rw [gR_n (by omega)] | rw [pI_n (by omega) (by omega)] | rw [gL_n (by omega) (by omega)] | rw [pL_n (by omega) (by omega)] | rw [j_X8_numberOfLevel_20] | rw [j_X8_numberOfLevel_31] | rw [j_X8_numberOfLevel_41]))
              rw [m_end3 big, if_neg (show ¬ 0 ≤ mI from c_0m)]
              exact agr_f hI0 (by simp) rfl
          · have q23 : k = 2 ∨ k = 3 := by omega
            rw [if_neg (show ¬ nI k = 1 by rw [k1, nIeq (by omega) (by omega)]; exact kq1)]
            have j52 : ∀ X : Option (St × Int32), j_X8_level_52 n SM (nI k) (nI i) a3 = X → (if nI k = 2 then j_X8_level_52 n SM (nI k) (nI i) a3 else if nI k = 3 then j_X8_level_52 n SM (nI k) (nI i) a3 else j_X8_level_64 n SM (nI k) (nI i) a3) = X := by
              intro X hX
              rcases q23 with z | z
              · rw [if_pos (by rw [z]; rfl)]; exact hX
              · rw [if_neg (by rw [z]; decide), if_pos (by rw [z]; rfl)]; exact hX
            rw [j52 _ rfl]
            unfold j_X8_level_52
            rcases i_cases a3 (c := P.1.length) (by omega) with ⟨i2, hi2, rfl⟩ | hb
            · rw [nL_ok h3 h1 hi2, bX_0, isL_ok h5 h1 hi2, bI_s, if_neg (show ¬ nI 1 = 0 by decide)]
              have lvj := h1.1.2.2.2.1 _ (List.getElem_mem hi2)
              have cj := s_codeOf (n := n) h3.1 h1.1 hi2
              have lj := (hLM.2 i2 hi2).2.2.2
              have ixj := ix_nd h1.1.2.2.1 hi2
              have mj := List.getElem_mem hi2
              generalize P.1[i2] = lb at *
              have lb16 := lvj.2.1
              have lb1 : 1 ≤ lb.length := by cases lb with | nil => exact absurd lvj.2.2 (fun z => z) | cons a b => simp
              rw [ci, bL_s, cj, bL_s, s_ofTwo q23 lvi.1 lvj.1 la16 lb16 (by omega), bL_s]
              unfold j_X8_level_64 j_X8_level_65
              rw [pS_e, sS_eq, if_pos le0]
              have j90 : ∀ X : Option (St × Int32), j_X8_level_95 n (sS SM 350 0 0) (nI i2) (nI i) (nI k) = X → (if nI k = 2 then j_X8_level_90 n (sS SM 350 0 0) (nI i2) (nI i) (nI k) else if nI k = 3 then j_X8_level_90 n (sS SM 350 0 0) (nI i2) (nI i) (nI k) else j_X8_level_95 n (sS SM 350 0 0) (-1) (nI i) (nI k)) = X := by
                intro X hX
                unfold j_X8_level_90
                rcases q23 with z | z
                · rw [if_pos (by rw [z]; rfl)]; exact hX
                · rw [if_neg (by rw [z]; decide), if_pos (by rw [z]; rfl)]; exact hX
              rw [j90 _ rfl]
              have tk2 : tp k = 2 := by rcases q23 with z | z <;> rw [z] <;> rfl
              by_cases z : 1 + la.length + lb.length ≤ 8
              · have lv2 : lvO (k :: (la ++ lb)) := by
                  refine ⟨okL_cons (by omega) (fun t ht => ?_), by rw [List.length_cons, List.length_append]; omega, ?_⟩
                  · rcases List.mem_append.mp ht with y | y
                    · exact lvi.1 t y
                    · exact lvj.1 t y
                  · show lc (0 + tp k) (la ++ lb)
                    rw [tk2]
                    exact lc_ap2 (k := 1) lvi.2.2 (j := 1) lvj.2.2
                rw [if_pos (by omega)]
                have qe : q1 (k :: (la ++ lb)) = la ∧ q2 (k :: (la ++ lb)) = lb := by
                  have f1 : fp 1 (la ++ lb) = la.length := fp_lc lvi.2.2
                  unfold q1 q2
                  simp only [List.drop_succ_cons, List.drop_zero]
                  rw [f1, List.take_left, List.drop_left]
                  exact ⟨rfl, rfl⟩
                have ag := agr_lv (n := n) hn hI0 lv2 ⟨fun _ => by rw [qe.1]; exact mi, fun _ => by rw [qe.2]; exact mj⟩ (by rw [List.length_cons, List.length_append]; omega)
                have e1' : e1 P.1 (k :: (la ++ lb)) = nI i := by rw [e1_c, if_neg (by omega), qe.1, ixi]
                have e2' : e2 P.1 (k :: (la ++ lb)) = nI i2 := by rw [e2_c, if_pos tk2, qe.2, ixj]
                have kd' : kd (k :: (la ++ lb)) = k := by rw [kd_c, if_neg (by omega)]
                rw [e1', e2', kd'] at ag
                exact ag
              · rw [c_big (l := k :: (la ++ lb)) (b := 1 + la.length + lb.length ≤ 16) hn rfl (fun z => ⟨okL_cons (by omega) (fun t ht => by
                  rcases List.mem_append.mp ht with y | y
                  · exact lvi.1 t y
                  · exact lvj.1 t y), by rw [List.length_cons, List.length_append]; omega⟩) (fun _ => by rw [List.length_cons, List.length_append]; omega), bX_n (by decide)]
                have big : f_X8_numberOfLevel n (sS SM 350 0 0) (nI k) (nI i) (nI i2) = some (sS SM 350 0 0, mI) := by
                  unfold f_X8_numberOfLevel
                  have li' : (sS SM 350 0 0).2.1 354 0 i = nI la.length := li
                  have lj' : (sS SM 350 0 0).2.1 354 0 i2 = nI lb.length := lj
                  have h79' : (sS SM 350 0 0).1 379 0 = nI 1 := by rw [sS_ne (by omega)]; exact h79
                  generalize sS SM 350 0 0 = S0 at *
                  rcases q23 with w | w
                  · subst w
                    ((try simp only [k0, k1, k2, k3, k4, k5, k6, k8, k16, k30, k60, k100, k200, k201, k300, k1500, k8000, kM, k_m6]); repeat (first | rw [zt_eq (by omega)] | rw [zt_ne (by omega) (by omega) (by omega)] | rw [zt_nle (by omega) (by omega)] | rw [zt_le (by omega) (by omega)] | rw [zt_nlt (by omega) (by omega)] | rw [zt_lt (by omega) (by omega)] | rw [zt_nm (by omega)] | rw [zt_mm] | rw [zt_ml] | rw [zt_0m] | rw [zt_m0] | rw [zt_n6 (by omega)] | rw [zt_66] | rw [zt_06] | simp (disch := omega) only [k0, k1, k2, k3, k4, k5, k6, k8, k16, k30, k60, k100, k200, k201, k300, k1500, k8000, kM, k_m6, nIa, nIp, nIs, sI_1, sI_22, sL_1, sL_21, sS_21, sS_22, sI_ne, sL_ne, sS_ne, sS_eq, sI_eq, sI_at, sL_eq, sL_at, Nat.add_zero, if_true, if_false, li', lj', h79'] | rw [bV_e] | rw [pS_e] | rw [bI_s] | rw [bU_s] | rw [bL_s] | rw [gI_n (by omega) (by omega)] | rw [gR_n (by omega)] | rw [pI_n (by omega) (by omega)] | rw [gL_n (by omega) (by omega)] | rw [pL_n (by omega) (by omega)] | rw [j_X8_numberOfLevel_20] | rw [j_X8_numberOfLevel_31] | rw [j_X8_numberOfLevel_41]))
                  · subst w
                    ((try simp only [k0, k1, k2, k3, k4, k5, k6, k8, k16, k30, k60, k100, k200, k201, k300, k1500, k8000, kM, k_m6]); repeat (first | rw [zt_eq (by omega)] | rw [zt_ne (by omega) (by omega) (by omega)] | rw [zt_nle (by omega) (by omega)] | rw [zt_le (by omega) (by omega)] | rw [zt_nlt (by omega) (by omega)] | rw [zt_lt (by omega) (by omega)] | rw [zt_nm (by omega)] | rw [zt_mm] | rw [zt_ml] | rw [zt_0m] | rw [zt_m0] | rw [zt_n6 (by omega)] | rw [zt_66] | rw [zt_06] | simp (disch := omega) only [k0, k1, k2, k3, k4, k5, k6, k8, k16, k30, k60, k100, k200, k201, k300, k1500, k8000, kM, k_m6, nIa, nIp, nIs, sI_1, sI_22, sL_1, sL_21, sS_21, sS_22, sI_ne, sL_ne, sS_ne, sS_eq, sI_eq, sI_at, sL_eq, sL_at, Nat.add_zero, if_true, if_false, li', lj', h79'] | rw [bV_e] | rw [pS_e] | rw [bI_s] | rw [bU_s] | rw [bL_s] | rw [gI_n (by omega) (by omega)] | rw [gR_n (by omega)] | rw [pI_n (by omega) (by omega)] | rw [gL_n (by omega) (by omega)] | rw [pL_n (by omega) (by omega)] | rw [j_X8_numberOfLevel_20] | rw [j_X8_numberOfLevel_31] | rw [j_X8_numberOfLevel_41]))
                rw [m_end3 big, if_neg (show ¬ 0 ≤ mI from c_0m)]
                exact agr_f hI0 (by simp) rfl
            · rw [nL_bad h3 h1 hb, bX_n (by decide), isL_bad h5 h1 hb, bI_s, if_pos (show nI 0 = 0 from rfl)]
              exact bad2 _ _ _
        · rw [nL_bad h3 h1 hb, bX_n (by decide), isL_bad h5 h1 hb, bI_s, if_pos (show nI 0 = 0 from rfl)]
          exact bad2 _ _ _
  · rw [if_pos (lt1 hb), if_pos (lt1 hb)]; exact bad1
  · obtain ⟨g1, g2, g3⟩ := ge5 hb
    rw [if_neg g1, if_neg g2, if_neg g1, if_pos g3]; exact bad1
