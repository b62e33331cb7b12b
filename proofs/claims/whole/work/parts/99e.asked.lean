/-! calls: sort, variable, name, term, let -/
theorem agr_bad {mp : Int32 → Int32} {n : Nat} {SC SM : St} {P : PT} {Ns : List Nme} {c s0 : Int32} (hI : INV SC SM P Ns) (hc : c = 1 ∨ c = 2 ∨ c = 3) (hs : s0 = mp c) {b : Int32} : AGR mp n (some (SC, c, 0)) (some (sS SM 350 0 s0, b)) := agr_f hI hc (by rw [hs])
theorem lf_gd1 {B N : Nat} {m : Mk} (h : vV B N m) (h2 : m.1 ≤ 2) (h0 : m.2.2.1 = 0) : gdT B N [m] := by
  refine ⟨?_, by simp, fun x hx => by rw [List.mem_singleton.mp hx]; exact h⟩
  unfold Tm
  rw [run_c, if_pos h0, kids_0 (ar_0 h2)]
  rfl
theorem k_sort {n : Nat} {SC SM : St} {P : PT} {Ns : List Nme} (hn : 10000 ≤ n) (hI : INV SC SM P Ns) (a : Int32) : AGR mIU n (f_X7_sort n SC a) (f_X8_sort n SM a) := by
  have hI0 := INV_350 (v := 0) hI
  obtain ⟨h1, h2, h3, h4, h5, h6⟩ := hI
  have hI : INV SC SM P Ns := ⟨h1, h2, h3, h4, h5, h6⟩
  have l300 := h1.1.2.1
  unfold f_X7_sort f_X8_sort j_X8_sort_14
  rcases i_cases a (c := P.1.length) (by omega) with ⟨i, hi, rfl⟩ | hb
  · rw [nL_ok h3 h1 hi, bX_0, isL_ok h5 h1 hi, bI_s, if_neg (show ¬ nI 1 = 0 by decide), pS_e, sS_eq, if_pos le0]
    have lvi := h1.1.2.2.2.1 _ (List.getElem_mem hi)
    have ixi := ix_nd h1.1.2.2.1 hi
    have mi := List.getElem_mem hi
    generalize P.1[i] = la at *
    have gs : gdT (zB P.2 + 200) Ns.length (sortT la) := lf_gd lvi
    have ag := agr_tm (n := n) (mp := mIU) (full := 2) hn hI0 gs (pT_lf (show 0 ≤ 2 by omega) (fun _ => mi) (fun z => by cases z)) (by simp [sortT]) rfl rfl
    obtain ⟨w1, w2, w3⟩ := (a_lf (L := P.1) (T := P.2) (x := sortT la)).1 rfl
    rw [w1, w2, w3, show hl1 (sortT la) = la from rfl, ixi] at ag
    exact ag
  · rw [nL_bad h3 h1 hb, bX_n (by decide), isL_bad h5 h1 hb, bI_s, if_pos (show nI 0 = 0 from rfl), pS_e, sS_eq, if_neg (by decide)]
    exact agr_bad hI (by simp) rfl
theorem k_variable {n : Nat} {SC SM : St} {P : PT} {Ns : List Nme} (hn : 10000 ≤ n) (hI : INV SC SM P Ns) (a : Int32) : AGR mAU n (f_X7_variable n SC a) (f_X8_variable n SM a) := by
  have hI0 := INV_350 (v := 0) hI
  unfold f_X7_variable f_X8_variable j_X8_variable_16 j_X7_variable_10
  rw [s_isIn, bI_s]
  rcases i_cases a (c := 60) (by omega) with ⟨i, hi, rfl⟩ | hb | hb
  · rw [if_neg (nI_pos (by omega)), if_neg (nI_pos (by omega)), if_neg (show ¬ 59 < nI i by rw [show (59 : Int32) = nI 59 from rfl, nIlt (by omega) (by omega)]; omega), if_neg (show ¬ (1 : Int32) = 0 by decide), if_pos (show nI i ≤ 59 by rw [show (59 : Int32) = nI 59 from rfl, nIle (by omega) (by omega)]; omega), pS_e, sS_eq, if_pos le0]
    have gs : gdT (zB P.2 + 200) Ns.length [(1, i, 0, [], [])] := lf_gd1 ⟨by simp, fun _ => by have := zB_60 (T := P.2); show i < 0 + _; omega, fun z => (by cases z), fun z => (by cases z), fun z => (by cases z), fun _ _ => rfl, fun _ => rfl, fun z => absurd rfl z⟩ (by simp) rfl
    have ag := agr_tm (n := n) (mp := mAU) (full := 2) hn hI0 gs (pT_lf (show 1 ≤ 2 by omega) (fun z => by cases z) (fun z => by cases z)) (by simp) rfl rfl
    obtain ⟨w1, w2, w3⟩ := (a_lf (L := P.1) (T := P.2) (x := [(1, i, 0, [], [])])).2.1 rfl
    rw [w1, w2, w3] at ag
    exact ag
  · rw [if_pos hb, if_pos hb, if_pos rfl, pS_e, sS_eq, if_neg (by decide)]
    exact agr_bad hI (by simp) rfl
  · rw [if_neg (ge_nn (by omega) hb), if_neg (ge_nn (by omega) hb), if_pos (show 59 < a from Int32.lt_of_lt_of_le (by decide) hb), if_pos rfl, if_neg (show ¬ a ≤ 59 from Int32.not_le.mpr (Int32.lt_of_lt_of_le (by decide) hb)), pS_e, sS_eq, if_neg (by decide)]
    exact agr_bad hI (by simp) rfl
theorem k_name {n : Nat} {SC SM : St} {P : PT} {Ns : List Nme} (hn : 10000 ≤ n) (hI : INV SC SM P Ns) (a b c : Int32) : AGR mIU n (f_X7_name n SC a b c) (f_X8_name n SM a b c) := by
  have hI0 := INV_350 (v := 0) hI
  obtain ⟨h1, h2, h3, h4, h5, h6⟩ := hI
  have hI : INV SC SM P Ns := ⟨h1, h2, h3, h4, h5, h6⟩
  have l300 := h1.1.2.1
  have h40 := h2.1
  unfold f_X7_name f_X8_name
  have bad : AGR mIU n (some (SC, 2, 0)) (j_X8_name_29 n SM a b c) := by
    unfold j_X8_name_29 j_X8_name_30
    rw [pS_e, sS_eq, if_neg (by decide)]
    exact agr_bad hI (by simp) rfl
  rcases i_cases a (c := Ns.length) (by omega) with ⟨q, hq, rfl⟩ | hb
  · rw [nN_ok h4 h40 hq, bX_0, isN_ok h6 h40 hq, bI_s, if_neg (show ¬ nI 1 = 0 by decide)]
    rcases i_cases b (c := P.1.length) (by omega) with ⟨i, hi, rfl⟩ | hb
    · rw [nL_ok h3 h1 hi, bX_0, isL_ok h5 h1 hi, bI_s, if_neg (show ¬ nI 1 = 0 by decide)]
      rcases i_cases c (c := P.1.length) (by omega) with ⟨j, hj, rfl⟩ | hb
      · rw [nL_ok h3 h1 hj, bX_0, isL_ok h5 h1 hj, bI_s, if_neg (show ¬ nI 1 = 0 by decide)]
        unfold j_X8_name_30
        rw [pS_e, sS_eq, if_pos le0]
        have lvi := h1.1.2.2.2.1 _ (List.getElem_mem hi)
        have ixi := ix_nd h1.1.2.2.1 hi
        have mi := List.getElem_mem hi
        have lvj := h1.1.2.2.2.1 _ (List.getElem_mem hj)
        have ixj := ix_nd h1.1.2.2.1 hj
        have mj := List.getElem_mem hj
        generalize P.1[i] = la at *
        generalize P.1[j] = lb at *
        have gs : gdT (zB P.2 + 200) Ns.length [(2, q, 0, la, lb)] := lf_gd1 ⟨by simp, fun z => (by cases z), fun _ => hq, fun z => (by cases z), fun _ => ⟨lvi, lvj⟩, fun _ z => absurd rfl z, fun z => absurd rfl z, fun _ z => absurd rfl z⟩ (by simp) rfl
        have ag := agr_tm (n := n) (mp := mIU) (full := 2) hn hI0 gs (pT_lf (show 2 ≤ 2 by omega) (fun z => by cases z) (fun _ => ⟨mi, mj⟩)) (by simp) rfl rfl
        obtain ⟨w1, w2, w3⟩ := (a_lf (L := P.1) (T := P.2) (x := [(2, q, 0, la, lb)])).2.2.1 rfl
        rw [w1, w2, w3, show hl1 [(2, q, 0, la, lb)] = la from rfl, show hl2 [(2, q, 0, la, lb)] = lb from rfl, ixi, ixj] at ag
        exact ag
      · rw [nL_bad h3 h1 hb, bX_n (by decide), isL_bad h5 h1 hb, bI_s, if_pos (show nI 0 = 0 from rfl)]
        exact bad
    · rw [nL_bad h3 h1 hb, bX_n (by decide), isL_bad h5 h1 hb, bI_s, if_pos (show nI 0 = 0 from rfl)]
      exact bad
  · rw [nN_bad h4 h40 hb, bX_n (by decide), isN_bad h6 h40 hb, bI_s, if_pos (show nI 0 = 0 from rfl)]
    exact bad
/-- too large: nothing changes -/
theorem c_tbig {n : Nat} {S : St} {k a b c : Int32} {z : Nat} (hs : f_X5_sizeFor n S k a b c = some (S, nI z)) (hz : 60 < z) (hz2 : z < 2 ^ 31) : f_X7_askedTerm n S k a b c = some (S, 3, 0) := by
  unfold f_X7_askedTerm
  rw [hs, bI_s, if_neg (show ¬ nI z ≤ 60 by rw [k60, nIle hz2 (by omega)]; omega)]
theorem agr_big {n : Nat} {mp : Int32 → Int32} {SC SM : St} {P : PT} {Ns : List Nme} {k a b c full : Int32} {z : Nat} (hI : INV SC SM P Ns) (hs : f_X5_sizeFor n SC k a b c = some (SC, nI z)) (hz : 60 < z) (hz2 : z < 2 ^ 31) (hm : f_X8_numberOfTerm n SM k a b c = some (SM, mI)) (hm3 : mp 3 = full) : AGR mp n (bX (f_X7_askedTerm n SC k a b c) fun S v => some (S, 0, v)) (bI (f_X8_numberOfTerm n SM k a b c) fun S4 v6 => bI (f_X8_orFull n S4 v6 full) fun S7 v9 => some (S7, v9)) := by
  rw [c_tbig hs hz hz2, hm, bI_s]
  unfold f_X8_orFull j_X8_orFull_10
  rw [if_neg (show ¬ 0 ≤ mI from c_0m), pS_e, if_neg (show ¬ 0 ≤ mI from c_0m), bI_s, bX_n (by decide)]
  exact agr_f hI (by simp) (by rw [hm3])
def mTm (c : Int32) : Int32 := c
theorem k_term {n : Nat} {SC SM : St} {P : PT} {Ns : List Nme} (hn : 10000 ≤ n) (hI : INV SC SM P Ns) (a b c : Int32) : AGR mTm n (f_X7_term n SC a b c) (f_X8_term n SM a b c) := by
  have hI0 := INV_350 (v := 0) hI
  obtain ⟨h1, h2, h3, h4, h5, h6⟩ := hI
  have hI : INV SC SM P Ns := ⟨h1, h2, h3, h4, h5, h6⟩
  have l15 := h1.2.1
  unfold f_X7_term f_X8_term
  rw [s_isIn, bI_s]
  have bad1 : AGR mTm n (some (SC, 1, 0)) (j_X8_term_35 n SM a b c 1) := by
    unfold j_X8_term_35
    rw [pS_e, sS_eq, if_neg (by decide)]
    exact agr_bad hI (by simp) rfl
  have bad2 : AGR mTm n (some (SC, 2, 0)) (j_X8_term_30 n SM a b c) := by
    unfold j_X8_term_30 j_X8_term_35
    rw [pS_e, sS_eq, if_neg (by decide)]
    exact agr_bad hI (by simp) rfl
  have ok : ∀ k : Nat, (k = 3 ∨ k = 4 ∨ k = 5) → a = nI k → AGR mTm n (j_X7_term_25 n SC a b c) (bI (f_X8_isTerm n SM b) fun S5 v7 => if v7 = 0 then j_X8_term_30 n S5 a b c else bI (f_X8_isTerm n S5 c) fun S9 v11 => if v11 = 0 then j_X8_term_30 n S9 a b c else j_X8_term_35 n S9 a b c 0) := by
    intro k hkk ha
    unfold j_X7_term_25
    rcases i_cases b (c := P.2.length) (by omega) with ⟨i, hi, rfl⟩ | hb
    · rw [nT_ok h3 h1 hi, bX_0, isT_ok h5 h1 hi, bI_s, if_neg (show ¬ nI 1 = 0 by decide)]
      rcases i_cases c (c := P.2.length) (by omega) with ⟨j, hj, rfl⟩ | hb
      · rw [nT_ok h3 h1 hj, bX_0, isT_ok h5 h1 hj, bI_s, if_neg (show ¬ nI 1 = 0 by decide)]
        unfold j_X8_term_35
        rw [pS_e, sS_eq, if_pos le0, ha]
        have mi := List.getElem_mem hi
        have mj := List.getElem_mem hj
        have gi := h1.2.2.2.2.1 _ mi
        have gj := h1.2.2.2.2.1 _ mj
        have ixi := ixT_nd h1.2.2.1 hi
        have ixj := ixT_nd h1.2.2.1 hj
        generalize P.2[i] = xi at *
        generalize P.2[j] = xj at *
        have li := gi.2.1
        have lj := gj.2.1
        have lx : (mkB k xi xj).length = 1 + xi.length + xj.length := by unfold mkB; rw [List.length_cons, List.length_append, List.length_map]; omega
        by_cases z : 1 + xi.length + xj.length ≤ 60
        · obtain ⟨gx, kx, p1x, p2x⟩ := mkB_gd (B := zB P.2 + 200) hkk (gdT_mo gi (by omega)) (gdT_mo gj (by omega)) (by omega)
          have ag := agr_tm (n := n) (mp := mTm) (full := 3) hn hI0 gx (pT_br (by omega) (by rw [p1x]; exact mi) (by rw [p2x]; exact mj) (fun z => by omega)) (by omega) rfl rfl
          obtain ⟨w1, w2, w3⟩ := (a_lf (L := P.1) (T := P.2) (x := mkB k xi xj)).2.2.2 (by omega)
          rw [w1, w2, w3, if_neg (by omega), p1x, p2x, ixi, ixj, kx] at ag
          exact ag
        · have si := s_sizeOf5 (n := n) h3.2 h1.2.1 mi
          have sj := s_sizeOf5 (n := n) h3.2 h1.2.1 mj
          rw [ixi] at si
          rw [ixj] at sj
          have hsz : f_X5_sizeFor n SC (nI k) (nI i) (nI j) mI = some (SC, nI (1 + xi.length + xj.length)) := by
            unfold f_X5_sizeFor
            have po := s_partsOf4 (n := n) (S := SC) (k := k) (by omega)
            rw [ar_3 hkk] at po
            ((try simp only [k0, k1, k2, k3, k4, k5, k6, k8, k16, k30, k60, k100, k200, k201, k300, k1500, k8000, kM, k_m6]); repeat (first | rw [zt_eq (by omega)] | rw [zt_ne (by omega) (by omega) (by omega)] | rw [zt_nle (by omega) (by omega)] | rw [zt_le (by omega) (by omega)] | rw [zt_nlt (by omega) (by omega)] | rw [zt_lt (by omega) (by omega)] | rw [zt_nm (by omega)] | rw [zt_mm] | rw [zt_ml] | rw [zt_0m] | rw [zt_m0] | rw [zt_n6 (by omega)] | rw [zt_66] | rw [zt_06] | simp (disch := omega) only [k0, k1, k2, k3, k4, k5, k6, k8, k16, k30, k60, k100, k200, k201, k300, k1500, k8000, kM, k_m6, nIa, nIp, nIs, sI_1, sI_22, sL_1, sL_21, sS_21, sS_22, sI_ne, sL_ne, sS_ne, sS_eq, sI_eq, sI_at, sL_eq, sL_at, Nat.add_zero, if_true, if_false, po, si, sj] | rw [bV_e] | rw [pS_e] | rw [bI_s] | rw [bU_s] | rw [bL_s] | rw [gI_n (by omega) (by omega)] | rw [gR_n (by omega)] | rw [pI_n (by omega) (by omega)] | rw [gL_n (by omega) (by omega)] | rw [pL_n (by omega) (by omega)]))
          have ri := (hI0.2.2.2.2.1.2.1.2 _ _ (ixT_get mi)).2.2.2.2.1
          have rj := (hI0.2.2.2.2.1.2.1.2 _ _ (ixT_get mj)).2.2.2.2.1
          rw [ixi] at ri
          rw [ixj] at rj
          have h79 : (sS SM 350 0 0).1 379 0 = nI 1 := hI0.2.2.2.2.1.2.2
          have hbig : f_X8_numberOfTerm n (sS SM 350 0 0) (nI k) (nI i) (nI j) mI = some (sS SM 350 0 0, mI) := by
            generalize sS SM 350 0 0 = S0 at *
            unfold f_X8_numberOfTerm
            ((try simp only [k0, k1, k2, k3, k4, k5, k6, k8, k16, k30, k60, k100, k200, k201, k300, k1500, k8000, kM, k_m6]); repeat (first | rw [zt_eq (by omega)] | rw [zt_ne (by omega) (by omega) (by omega)] | rw [zt_nle (by omega) (by omega)] | rw [zt_le (by omega) (by omega)] | rw [zt_nlt (by omega) (by omega)] | rw [zt_lt (by omega) (by omega)] | rw [zt_nm (by omega)] | rw [zt_mm] | rw [zt_ml] | rw [zt_0m] | rw [zt_m0] | rw [zt_n6 (by omega)] | rw [zt_66] | rw [zt_06] | simp (disch := omega) only [k0, k1, k2, k3, k4, k5, k6, k8, k16, k30, k60, k100, k200, k201, k300, k1500, k8000, kM, k_m6, nIa, nIp, nIs, sI_1, sI_22, sL_1, sL_21, sS_21, sS_22, sI_ne, sL_ne, sS_ne, sS_eq, sI_eq, sI_at, sL_eq, sL_at, Nat.add_zero, if_true, if_false, ri, rj, h79] | rw [bV_e] | rw [pS_e] | rw [bI_s] | rw [bU_s] | rw [bL_s] | rw [gI_n (by omega) (by omega)] | rw [gR_n (by omega)] | rw [pI_n (by omega) (by omega)] | rw [gL_n (by omega) (by omega)] | rw [pL_n (by omega) (by omega)] | rw [j_X8_numberOfTerm_23] | rw [j_X8_numberOfTerm_41]))
          exact agr_big hI0 hsz (by omega) (by omega) hbig rfl
      · rw [nT_bad h3 h1 hb, bX_n (by decide), isT_bad h5 h1 hb, bI_s, if_pos (show nI 0 = 0 from rfl)]
        exact bad2
    · rw [nT_bad h3 h1 hb, bX_n (by decide), isT_bad h5 h1 hb, bI_s, if_pos (show nI 0 = 0 from rfl)]
      exact bad2
  rcases i_cases a (c := 6) (by omega) with ⟨k, hk, hak⟩ | hb | hb
  · by_cases q : 3 ≤ k
    · have ag := ok k (by omega) hak
      rw [if_neg (show ¬ a < 3 by rw [hak, k3, nIlt (by omega) (by omega)]; omega), if_neg (show ¬ 5 < a by rw [hak, k5, nIlt (by omega) (by omega)]; omega), if_neg (show ¬ (1 : Int32) = 0 by decide)]
      rcases (show k = 3 ∨ k = 4 ∨ k = 5 by omega) with w | w | w
      · rw [if_pos (show a = 3 by rw [hak, w]; rfl)]; exact ag
      · rw [if_neg (show ¬ a = 3 by rw [hak, w]; decide), if_pos (show a = 4 by rw [hak, w]; rfl)]; exact ag
      · rw [if_neg (show ¬ a = 3 by rw [hak, w]; decide), if_neg (show ¬ a = 4 by rw [hak, w]; decide), if_pos (show a = 5 by rw [hak, w]; rfl)]; exact ag
    · have ne : ∀ j : Nat, j ≤ 6 → k ≠ j → ¬ a = nI j := fun j h1 h2 => by rw [hak, nIeq (by omega) (by omega)]; exact h2
      rw [if_neg (show ¬ a = 3 from ne 3 (by omega) (by omega)), if_neg (show ¬ a = 4 from ne 4 (by omega) (by omega)), if_neg (show ¬ a = 5 from ne 5 (by omega) (by omega)), if_pos (show a < 3 by rw [hak, k3, nIlt (by omega) (by omega)]; omega), if_pos rfl]
      exact bad1
  · have ne : ∀ j : Nat, j ≤ 6 → ¬ a = nI j := fun j h1 h2 => nI_pos (show j < 2 ^ 31 by omega) (by rw [← h2]; exact hb)
    rw [if_neg (show ¬ a = 3 from ne 3 (by omega)), if_neg (show ¬ a = 4 from ne 4 (by omega)), if_neg (show ¬ a = 5 from ne 5 (by omega)), if_pos (show a < 3 from Int32.lt_trans hb (by decide)), if_pos rfl]
    exact bad1
  · have ne : ∀ j : Nat, j < 6 → ¬ a = nI j := fun j h1 h2 => by
      rw [h2, nIle (by omega) (by omega)] at hb; omega
    rw [if_neg (show ¬ a = 3 from ne 3 (by omega)), if_neg (show ¬ a = 4 from ne 4 (by omega)), if_neg (show ¬ a = 5 from ne 5 (by omega)), if_neg (show ¬ a < 3 from Int32.not_lt.mpr (Int32.le_trans (by decide) hb)), if_pos (show 5 < a from Int32.lt_of_lt_of_le (by decide) hb), if_pos rfl]
    exact bad1
theorem k_let {n : Nat} {SC SM : St} {P : PT} {Ns : List Nme} (hn : 10000 ≤ n) (hI : INV SC SM P Ns) (a b c : Int32) : AGR mIU n (f_X7_let n SC a b c) (f_X8_let n SM a b c) := by
  have hI0 := INV_350 (v := 0) hI
  obtain ⟨h1, h2, h3, h4, h5, h6⟩ := hI
  have hI : INV SC SM P Ns := ⟨h1, h2, h3, h4, h5, h6⟩
  have l15 := h1.2.1
  unfold f_X7_let f_X8_let
  have bad : AGR mIU n (some (SC, 2, 0)) (j_X8_let_29 n SM a b c) := by
    unfold j_X8_let_29 j_X8_let_30
    rw [pS_e, sS_eq, if_neg (by decide)]
    exact agr_bad hI (by simp) rfl
  rcases i_cases a (c := P.2.length) (by omega) with ⟨i, hi, rfl⟩ | hb
  · rw [nT_ok h3 h1 hi, bX_0, isT_ok h5 h1 hi, bI_s, if_neg (show ¬ nI 1 = 0 by decide)]
    rcases i_cases b (c := P.2.length) (by omega) with ⟨j, hj, rfl⟩ | hb
    · rw [nT_ok h3 h1 hj, bX_0, isT_ok h5 h1 hj, bI_s, if_neg (show ¬ nI 1 = 0 by decide)]
      rcases i_cases c (c := P.2.length) (by omega) with ⟨l, hl, rfl⟩ | hb
      · rw [nT_ok h3 h1 hl, bX_0, isT_ok h5 h1 hl, bI_s, if_neg (show ¬ nI 1 = 0 by decide)]
        unfold j_X8_let_30
        rw [pS_e, sS_eq, if_pos le0]
        have mi := List.getElem_mem hi
        have mj := List.getElem_mem hj
        have ml := List.getElem_mem hl
        have gi := h1.2.2.2.2.1 _ mi
        have gj := h1.2.2.2.2.1 _ mj
        have gl := h1.2.2.2.2.1 _ ml
        have ixi := ixT_nd h1.2.2.1 hi
        have ixj := ixT_nd h1.2.2.1 hj
        have ixl := ixT_nd h1.2.2.1 hl
        generalize P.2[i] = xi at *
        generalize P.2[j] = xj at *
        generalize P.2[l] = xl at *
        have li := gi.2.1
        have lj := gj.2.1
        have ll := gl.2.1
        have lx : (mkL xi xj xl).length = 1 + xi.length + xj.length + xl.length := by unfold mkL; rw [List.length_cons, List.length_append, List.length_append, List.length_map]; omega
        by_cases z : 1 + xi.length + xj.length + xl.length ≤ 60
        · obtain ⟨gx, kx, p1x, p2x, p3x⟩ := mkL_gd (B := zB P.2 + 200) (gdT_mo gi (by omega)) (gdT_mo gj (by omega)) (gdT_mo gl (by omega)) (by omega)
          have ag := agr_tm (n := n) (mp := mIU) (full := 2) hn hI0 gx (pT_br (by omega) (by rw [p1x]; exact mi) (by rw [p2x]; exact mj) (fun _ => by rw [p3x]; exact ml)) (by omega) rfl rfl
          obtain ⟨w1, w2, w3⟩ := (a_lf (L := P.1) (T := P.2) (x := mkL xi xj xl)).2.2.2 (by omega)
          rw [w1, w2, w3, if_pos kx, p1x, p2x, p3x, ixi, ixj, ixl, kx] at ag
          exact ag
        · have si := s_sizeOf5 (n := n) h3.2 h1.2.1 mi
          have sj := s_sizeOf5 (n := n) h3.2 h1.2.1 mj
          have sl := s_sizeOf5 (n := n) h3.2 h1.2.1 ml
          rw [ixi] at si
          rw [ixj] at sj
          rw [ixl] at sl
          have hsz : f_X5_sizeFor n SC (nI 6) (nI i) (nI j) (nI l) = some (SC, nI (1 + xi.length + xj.length + xl.length)) := by
            unfold f_X5_sizeFor
            have po := s_partsOf4 (n := n) (S := SC) (k := 6) (by omega)
            rw [show ar 6 = 3 from rfl] at po
            ((try simp only [k0, k1, k2, k3, k4, k5, k6, k8, k16, k30, k60, k100, k200, k201, k300, k1500, k8000, kM, k_m6]); repeat (first | rw [zt_eq (by omega)] | rw [zt_ne (by omega) (by omega) (by omega)] | rw [zt_nle (by omega) (by omega)] | rw [zt_le (by omega) (by omega)] | rw [zt_nlt (by omega) (by omega)] | rw [zt_lt (by omega) (by omega)] | rw [zt_nm (by omega)] | rw [zt_mm] | rw [zt_ml] | rw [zt_0m] | rw [zt_m0] | rw [zt_n6 (by omega)] | rw [zt_66] | rw [zt_06] | simp (disch := omega) only [k0, k1, k2, k3, k4, k5, k6, k8, k16, k30, k60, k100, k200, k201, k300, k1500, k8000, kM, k_m6, nIa, nIp, nIs, sI_1, sI_22, sL_1, sL_21, sS_21, sS_22, sI_ne, sL_ne, sS_ne, sS_eq, sI_eq, sI_at, sL_eq, sL_at, Nat.add_zero, if_true, if_false, po, si, sj, sl] | rw [bV_e] | rw [pS_e] | rw [bI_s] | rw [bU_s] | rw [bL_s] | rw [gI_n (by omega) (by omega)] | rw [gR_n (by omega)] | rw [pI_n (by omega) (by omega)] | rw [gL_n (by omega) (by omega)] | rw [pL_n (by omega) (by omega)]))
          have ri := (hI0.2.2.2.2.1.2.1.2 _ _ (ixT_get mi)).2.2.2.2.1
          have rj := (hI0.2.2.2.2.1.2.1.2 _ _ (ixT_get mj)).2.2.2.2.1
          have rl := (hI0.2.2.2.2.1.2.1.2 _ _ (ixT_get ml)).2.2.2.2.1
          rw [ixi] at ri
          rw [ixj] at rj
          rw [ixl] at rl
          have h79 : (sS SM 350 0 0).1 379 0 = nI 1 := hI0.2.2.2.2.1.2.2
          have hbig : f_X8_numberOfTerm n (sS SM 350 0 0) (nI 6) (nI i) (nI j) (nI l) = some (sS SM 350 0 0, mI) := by
            generalize sS SM 350 0 0 = S0 at *
            unfold f_X8_numberOfTerm
            ((try simp only [k0, k1, k2, k3, k4, k5, k6, k8, k16, k30, k60, k100, k200, k201, k300, k1500, k8000, kM, k_m6]); repeat (first | rw [zt_eq (by omega)] | rw [zt_ne (by omega) (by omega) (by omega)] | rw [zt_nle (by omega) (by omega)] | rw [zt_le (by omega) (by omega)] | rw [zt_nlt (by omega) (by omega)] | rw [zt_lt (by omega) (by omega)] | rw [zt_nm (by omega)] | rw [zt_mm] | rw [zt_ml] | rw [zt_0m] | rw [zt_m0] | rw [zt_n6 (by omega)] | rw [zt_66] | rw [zt_06] | simp (disch := omega) only [k0, k1, k2, k3, k4, k5, k6, k8, k16, k30, k60, k100, k200, k201, k300, k1500, k8000, kM, k_m6, nIa, nIp, nIs, sI_1, sI_22, sL_1, sL_21, sS_21, sS_22, sI_ne, sL_ne, sS_ne, sS_eq, sI_eq, sI_at, sL_eq, sL_at, Nat.add_zero, if_true, if_false, ri, rj, rl, h79] | rw [bV_e] | rw [pS_e] | rw [bI_s] | rw [bU_s] | rw [bL_s] | rw [gI_n (by omega) (by omega)] | rw [gR_n (by omega)] | rw [pI_n (by omega) (by omega)] | rw [gL_n (by omega) (by omega)] | rw [pL_n (by omega) (by omega)] | rw [j_X8_numberOfTerm_23] | rw [j_X8_numberOfTerm_41]))
          exact agr_big hI0 hsz (by omega) (by omega) hbig rfl
      · rw [nT_bad h3 h1 hb, bX_n (by decide), isT_bad h5 h1 hb, bI_s, if_pos (show nI 0 = 0 from rfl)]
        exact bad
    · rw [nT_bad h3 h1 hb, bX_n (by decide), isT_bad h5 h1 hb, bI_s, if_pos (show nI 0 = 0 from rfl)]
      exact bad
  · rw [nT_bad h3 h1 hb, bX_n (by decide), isT_bad h5 h1 hb, bI_s, if_pos (show nI 0 = 0 from rfl)]
    exact bad
