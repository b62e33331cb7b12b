/-! answers: numbers for terms that a call made -/
theorem e1_E {L e : List (List Nat)} {x : List Nat} (h : prt L x) : e1 (L ++ e) x = e1 L x := by
  unfold e1
  by_cases z : tp (x.headD 0) = 0
  · rw [if_pos z, if_pos z]
  · rw [if_neg z, if_neg z, ix_appE (h.1 (by omega))]
theorem e2_E {L e : List (List Nat)} {x : List Nat} (h : prt L x) : e2 (L ++ e) x = e2 L x := by
  unfold e2
  by_cases z : tp (x.headD 0) = 2
  · rw [if_pos z, if_pos z, ix_appE (h.2 z)]
  · rw [if_neg z, if_neg z]
theorem ixT_aE {T e : List (List Mk)} {x : List Mk} (h : x ∈ T) : ixT (T ++ e) x = ixT T x := by
  unfold ixT
  rw [List.idxOf_append, if_pos h]
theorem a_E {L eL : List (List Nat)} {T eT : List (List Mk)} {x : List Mk} (h6 : hk x ≤ 6) (h : pT L T x) : a1 (L ++ eL) (T ++ eT) x = a1 L T x ∧ a2 (L ++ eL) (T ++ eT) x = a2 L T x ∧ a3 (L ++ eL) (T ++ eT) x = a3 L T x := by
  obtain ⟨h0, h2, h3, h6'⟩ := h
  obtain ⟨p0, p1_, p2_, p3_⟩ := a_lf (L := L) (T := T) (x := x)
  obtain ⟨q0, q1_, q2_, q3_⟩ := a_lf (L := L ++ eL) (T := T ++ eT) (x := x)
  by_cases z0 : hk x = 0
  · obtain ⟨u1, u2, u3⟩ := p0 z0
    obtain ⟨v1, v2, v3⟩ := q0 z0
    rw [u1, u2, u3, v1, v2, v3, ix_appE (h0 z0)]; exact ⟨rfl, rfl, rfl⟩
  · by_cases z1 : hk x = 1
    · obtain ⟨u1, u2, u3⟩ := p1_ z1
      obtain ⟨v1, v2, v3⟩ := q1_ z1
      rw [u1, u2, u3, v1, v2, v3]; exact ⟨rfl, rfl, rfl⟩
    · by_cases z2 : hk x = 2
      · obtain ⟨u1, u2, u3⟩ := p2_ z2
        obtain ⟨v1, v2, v3⟩ := q2_ z2
        rw [u1, u2, u3, v1, v2, v3, ix_appE (h2 z2).1, ix_appE (h2 z2).2]; exact ⟨rfl, rfl, rfl⟩
      · have z3 : 3 ≤ hk x := by omega
        obtain ⟨u1, u2, u3⟩ := p3_ z3
        obtain ⟨v1, v2, v3⟩ := q3_ z3
        rw [u1, u2, u3, v1, v2, v3, ixT_aE (h3 z3).1, ixT_aE (h3 z3).2]
        refine ⟨rfl, rfl, ?_⟩
        by_cases z6 : hk x = 6
        · rw [if_pos z6, if_pos z6, ixT_aE (h6' z6)]
        · rw [if_neg z6, if_neg z6]
theorem LC_cut {S : St} {L e : List (List Nat)} (h : LC S (L ++ e)) (hL : LOk L) : LC (sS S 0 0 (nI L.length)) L := by
  refine ⟨sS_eq, fun i hi => ?_⟩
  obtain ⟨a, b, c⟩ := h.2 i (by rw [List.length_append]; omega)
  have ei : (L ++ e)[i]'(by rw [List.length_append]; omega) = L[i] := List.getElem_append_left hi
  rw [ei] at a b c
  have hp := hL.2.2.2.2 _ (List.getElem_mem hi)
  rw [e1_E hp] at b
  rw [e2_E hp] at c
  exact ⟨a, b, c⟩
theorem LM_cut {S : St} {L e : List (List Nat)} (h : LM S (L ++ e)) (hL : LOk L) : LM (sS S 355 0 (nI L.length)) L := by
  refine ⟨sS_eq, fun i hi => ?_⟩
  obtain ⟨a, b, c, d⟩ := h.2 i (by rw [List.length_append]; omega)
  have ei : (L ++ e)[i]'(by rw [List.length_append]; omega) = L[i] := List.getElem_append_left hi
  rw [ei] at a b c d
  have hp := hL.2.2.2.2 _ (List.getElem_mem hi)
  rw [e1_E hp] at b
  rw [e2_E hp] at c
  exact ⟨a, b, c, d⟩
theorem TC_cut {S : St} {L eL : List (List Nat)} {T eT : List (List Mk)} {N : Nat} (h : TC S (L ++ eL) (T ++ eT)) (hT : TOk L T N) : TC (sS S 200 0 (nI T.length)) L T := by
  refine ⟨sS_eq, fun i ms hi => ?_⟩
  have hm := gt_mem hi
  obtain ⟨a, b, c, d, e⟩ := h.2 i ms (by rw [List.getElem?_append_left (gt_lt hi)]; exact hi)
  obtain ⟨u, v, w⟩ := a_E (eL := eL) (eT := eT) (hk_le (hT.2.2.2.1 ms hm)) (hT.2.2.2.2 ms hm)
  rw [u] at b
  rw [v] at c
  rw [w] at d
  exact ⟨a, b, c, d, e⟩
theorem TM_cut {S : St} {L eL : List (List Nat)} {T eT : List (List Mk)} {N : Nat} (h : TM S (L ++ eL) (T ++ eT)) (hT : TOk L T N) : TM (sS S 362 0 (nI T.length)) L T := by
  refine ⟨sS_eq, fun i ms hi => ?_⟩
  have hm := gt_mem hi
  obtain ⟨a, b, c, d, e⟩ := h.2 i ms (by rw [List.getElem?_append_left (gt_lt hi)]; exact hi)
  obtain ⟨u, v, w⟩ := a_E (eL := eL) (eT := eT) (hk_le (hT.2.2.2.1 ms hm)) (hT.2.2.2.2 ms hm)
  rw [u] at b
  rw [v] at c
  rw [w] at d
  exact ⟨a, b, c, d, e⟩
def ansT (P : PT) (x : List Mk) : PT × Bool := if (addT 101 P x).2 then addT 101 P x else (P, false)
theorem ansT_t {P : PT} {x : List Mk} (h : (addT 101 P x).2 = true) : ansT P x = addT 101 P x := if_pos h
theorem ansT_f {P : PT} {x : List Mk} (h : (addT 101 P x).2 = false) : ansT P x = (P, false) := by unfold ansT; rw [h]; rfl
theorem ansT_ok {P : PT} {N : Nat} {x : List Mk} (h : EOk P N) (hg : gdT (zB P.2) N x) : EOk (ansT P x).1 N ∧ Ext P (ansT P x).1 ∧ ((ansT P x).2 = true → x ∈ (ansT P x).1.2) := by
  have h2 := hg.2.1
  have o := addT_ok 101 (zB P.2) P x h hg (by omega)
  cases h9 : (addT 101 P x).2 with
  | true => rw [ansT_t h9]; exact o
  | false => rw [ansT_f h9]; exact ⟨h, Ext_rf, (fun z => nomatch z)⟩
def cd3 (b : Bool) : Int32 := if b then 0 else 3
theorem c_numbered {n j N : Nat} {S : St} {P : PT} {x : List Mk} (hn : 10000 ≤ n) (hj : j ≤ 106) (h : EOk P N) (hC : CP S P) (hR : RW S j x) (hg : gdT (zB P.2) N x) : ∃ S', f_X7_numbered n S j = some (S', cd3 (ansT P x).2, if (ansT P x).2 then nI (ixT (ansT P x).1.2 x) else 0) ∧ CP S' (ansT P x).1 ∧ FR [0, 200, 211] S S' := by
  have h2 := hg.2.1
  have f0 : FR [211] S (sS S 211 0 (nI 0)) := FR_sS FR_rf (by rw [rg211]; simp)
  obtain ⟨S1, A1, C1, N1, F1⟩ := c_next (n := n) (j := j) (N := N) (ms := x) hn hj 101 0 (zB P.2) (sS S 211 0 (nI 0)) P x [] [] 0 (by omega) (by omega) h (CP_fr hC f0 (by simp) (by simp)) (RW_fr hR f0 (by simp; omega)) (by rw [sh_0]; simp) hg (by omega) sS_eq
  obtain ⟨o1, o2, o3⟩ := addT_ok 101 (zB P.2) P x h hg (by omega)
  have F1' : FR [0, 200, 211] S S1 := FR_tr (FR_mo f0 (by simp)) F1
  unfold f_X7_numbered
  cases h9 : (addT 101 P x).2 with
  | true =>
    rw [ansT_t h9, h9]
    rw [nmT_t h9] at A1
    have ib := ix1500 o1 (o3 h9)
    refine ⟨S1, ?_, C1, F1'⟩
    rw [bV_e, bV_e, pS_e]
    rw [show k_X5_keepNext n 101 (sS S 211 0 0) j 0 = some (S1, nI (ixT (addT 101 P x).1.2 x)) from A1, bI_s, if_neg (show ¬ nI (ixT (addT 101 P x).1.2 x) = -1 from nI_ne_m (by omega))]
    rfl
  | false =>
    rw [ansT_f h9]
    rw [nmT_f h9] at A1
    obtain ⟨⟨eL, heL⟩, eT, heT⟩ := o2
    have C1' : CP S1 (P.1 ++ eL, P.2 ++ eT) := by
      unfold CP at C1 ⊢
      rw [heL, heT] at C1
      exact C1
    refine ⟨sS (sS S1 0 0 (nI P.1.length)) 200 0 (nI P.2.length), ?_, ⟨?_, ?_⟩, FR_sS (FR_sS F1' (by simp [rg])) (by simp [rg])⟩
    · rw [bV_e, bV_e, pS_e]
      rw [show k_X5_keepNext n 101 (sS S 211 0 0) j 0 = some (S1, mI) from A1, bI_s, if_pos (show mI = -1 from rfl), pS_e, pS_e, hC.1.1, hC.2.1]
      rfl
    · exact LC_fr (LC_cut C1'.1 h.1) (R := [200]) (FR_sS FR_rf (by simp [rg])) (by simp)
    · exact TC_cut (TC_fr C1'.2 (R := [0]) (FR_sS FR_rf (by simp [rg])) (by simp)) h.2
def MAq (S : St) (P : PT) : Prop := LM S P.1 ∧ TM S P.1 P.2 ∧ S.1 379 0 = 1
def AR : List Nat := 350 :: 379 :: TR
theorem m_answer {n f o N : Nat} {S : St} {P : PT} {x : List Mk} (hn : 10000 ≤ n) (hf : 367 ≤ f ∧ f ≤ 371) (h : EOk P N) (hM : MAq S P) (hg : gdT (zB P.2) N x) (hs : sg (S.2.1 f 0) o (flt x)) (ho : o + (flt x).length ≤ ln f) : ∃ S', f_X8_answer n S f (nI o) = some (S', if (ansT P x).2 then nI (ixT (ansT P x).1.2 x) else 0) ∧ MAq S' (ansT P x).1 ∧ S'.1 350 0 = (if (ansT P x).2 then S.1 350 0 else 2) ∧ FR AR S S' := by
  have h2 := hg.2.1
  have hz := zB_le h.2
  have hfl := gd_flt hg (by omega) h.2.2.2.1
  have f0 : FR [379] S (sS S 379 0 (nI 0)) := FR_sS FR_rf (by rw [rg8 (by omega)]; simp)
  obtain ⟨S1, M1, k1, k2, k3', F1, V1, V2⟩ := m_ct (n := n) (N := N) hn hf 101 0 (zB P.2) (n - x.length) (sS S 379 0 (nI 0)) P x o mI (by omega) (by omega) h ⟨LM_fr hM.1 f0 (by simp), TM_fr hM.2.1 f0 (by simp), sS_eq⟩ hg (by omega) hs ho (by omega) (by omega)
  have nn : n - x.length + x.length = n := by omega
  rw [nn] at V1 V2
  obtain ⟨o1, o2, o3⟩ := addT_ok 101 (zB P.2) P x h hg (by omega)
  have F1' : FR AR S S1 := FR_tr (FR_mo f0 (by simp [AR])) (FR_mo F1 (fun z hz => List.mem_cons_of_mem _ (List.mem_cons_of_mem _ hz)))
  have F2 : FR AR S (sS S1 379 0 (nI 1)) := FR_sS F1' (by rw [rg8 (by omega)]; decide)
  have f9 : FR [379] S1 (sS S1 379 0 (nI 1)) := FR_sS FR_rf (by rw [rg8 (by omega)]; simp)
  have r350 : rg 350 0 = 350 := rfl
  have e350 : (sS S1 379 0 (nI 1)).1 350 0 = S.1 350 0 := by
    rw [sS_ne (by omega), (F1 350 0 (by rw [r350]; decide)).1, sS_ne (by omega)]
  unfold f_X8_answer
  have un : f_X8_countTerm n (sS S 379 0 0) f (nI o) = l_X8_countTerm_11 n n (sS S 379 0 (nI 0)) f (nI o) (nI 0) mI (nI 1) := rfl
  cases h9 : (addT 101 P x).2 with
  | true =>
    rw [ansT_t h9, h9]
    have ib := ix1500 o1 (o3 h9)
    have A1 : f_X8_countTerm n (sS S 379 0 0) f (nI o) = some (S1, nI (ixT (addT 101 P x).1.2 x)) := by
      rw [un]
      refine V1 h9 _ (fun k hk => ?_)
      obtain ⟨k, rfl⟩ : ∃ y, k = y + 1 := ⟨k - 1, by omega⟩
      obtain ⟨q, hq⟩ : ∃ y, n - x.length = y + 1 := ⟨n - x.length - 1, by omega⟩
      unfold l_X8_countTerm_70
      rw [if_neg (show ¬ nI 1 = 0 by decide), if_pos (show nI 0 ≤ 0 by decide)]
      unfold j_X8_countTerm_219
      rw [if_neg (nI_pos (by omega)), if_neg (show ¬ nI 1 = 0 by decide)]
      unfold j_X8_countTerm_233 j_X8_countTerm_234 KT
      rw [hq]
      show l_X8_countTerm_11 n (q + 1) S1 f _ _ _ 0 = _
      unfold l_X8_countTerm_11
      rw [if_pos rfl]
    refine ⟨sS S1 379 0 (nI 1), ?_, ⟨LM_fr M1.1 f9 (by simp), TM_fr M1.2.1 f9 (by simp), sS_eq⟩, e350, F2⟩
    rw [bV_e, bV_e, pS_e, A1, bI_s, pS_e, if_pos (show 0 ≤ nI (ixT (addT 101 P x).1.2 x) by rw [k0, nIle (by omega) (by omega)]; omega)]
    rfl
  | false =>
    rw [ansT_f h9]
    have A1 : f_X8_countTerm n (sS S 379 0 0) f (nI o) = some (S1, mI) := by rw [un]; exact V2 h9
    obtain ⟨⟨eL, heL⟩, eT, heT⟩ := o2
    have M1a := M1.1
    have M1b := M1.2.1
    rw [heL] at M1a M1b
    rw [heT] at M1b
    refine ⟨sS (sS (sS (sS S1 379 0 (nI 1)) 355 0 (nI P.1.length)) 362 0 (nI P.2.length)) 350 0 2, ?_, ⟨?_, ?_, ?_⟩, sS_eq, ?_⟩
    · rw [bV_e, bV_e, pS_e, A1, bI_s, pS_e, if_neg (show ¬ 0 ≤ mI from c_0m), pS_e, pS_e, pS_e, hM.1.1, hM.2.1.1]
      rfl
    · exact LM_fr (LM_cut (LM_fr M1a f9 (by simp)) h.1) (R := [356, 350]) (FR_sS (FR_sS FR_rf (by simp [rg])) (by simp [rg])) (by simp)
    · exact TM_fr (TM_cut (TM_fr (TM_fr M1b f9 (by simp)) (R := [351]) (FR_sS FR_rf (by simp [rg])) (by simp)) h.2) (R := [350]) (FR_sS FR_rf (by simp [rg])) (by simp)
    · rw [sS_ne (by omega), sS_ne (by omega), sS_ne (by omega), sS_eq]; rfl
    · exact FR_sS (FR_sS (FR_sS F2 (by simp [rg, AR, TR, VR])) (by simp [rg, AR, TR])) (by simp [rg, AR])
