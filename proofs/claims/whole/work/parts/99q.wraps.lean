theorem dL_level_0 : decode cL_level 0 = .ok (.aload 4, 2) := by decide +kernel
theorem dL_level_2 : decode cL_level 2 = .ok (.iconst 0, 1) := by decide +kernel
theorem dL_level_3 : decode cL_level 3 = .ok (.aload_n 0, 1) := by decide +kernel
theorem dL_level_4 : decode cL_level 4 = .ok (.iload_n 1, 1) := by decide +kernel
theorem dL_level_5 : decode cL_level 5 = .ok (.iload_n 2, 1) := by decide +kernel
theorem dL_level_6 : decode cL_level 6 = .ok (.iload_n 3, 1) := by decide +kernel
theorem dL_level_7 : decode cL_level 7 = .ok (.invokevirtual 7, 3) := by decide +kernel
theorem dL_level_10 : decode cL_level 10 = .ok (.i2l, 1) := by decide +kernel
theorem dL_level_11 : decode cL_level 11 = .ok (.lastore, 1) := by decide +kernel
theorem dL_level_12 : decode cL_level 12 = .ok (.goto 15, 3) := by decide +kernel
theorem dL_level_15 : decode cL_level 15 = .ok (.astore 5, 2) := by decide +kernel
theorem dL_level_17 : decode cL_level 17 = .ok (.iconst 1, 1) := by decide +kernel
theorem dL_level_18 : decode cL_level 18 = .ok (.ireturn, 1) := by decide +kernel
theorem dL_level_19 : decode cL_level 19 = .ok (.astore 5, 2) := by decide +kernel
theorem dL_level_21 : decode cL_level 21 = .ok (.iconst 2, 1) := by decide +kernel
theorem dL_level_22 : decode cL_level 22 = .ok (.ireturn, 1) := by decide +kernel
theorem dL_level_23 : decode cL_level 23 = .ok (.astore 5, 2) := by decide +kernel
theorem dL_level_25 : decode cL_level 25 = .ok (.iconst 3, 1) := by decide +kernel
theorem dL_level_26 : decode cL_level 26 = .ok (.ireturn, 1) := by decide +kernel
theorem dL_level_27 : decode cL_level 27 = .ok (.iconst 0, 1) := by decide +kernel
theorem dL_level_28 : decode cL_level 28 = .ok (.ireturn, 1) := by decide +kernel
abbrev hh_level : HH := [(0, 12, 15, 13), (0, 12, 19, 15), (0, 12, 23, 17)]
theorem ww_level : Cond.codeWith yL_level cL_level 6 (some .int) hh_level ∈ TB := tb2 (List.mem_of_getElem? (i := 20) rfl) rfl
set_option maxRecDepth 100000 in
set_option maxHeartbeats 4000000 in
theorem L_level {n : Nat} {c : YC} (hK : c.2.2.2.2 = KLw) (hst : c.1.stackTraces = false) {SC SM SC2 : St} {w : Nat → Int64} {a1 a2 a3 code v : Int32} (h : f_X7_level n SC a1 a2 a3 = some (SC2, code, v)) (hc : code = 0 ∨ code = 1 ∨ code = 2 ∨ code = 3) : MW c yL_level cL_level 6 hh_level rmW 4 24 (mx SC SM w) (mx SC2 SM (oW w code v.toInt64)) [.ref (c.2.2.1 0 6 0), .int a1, .int a2, .int a3, .ref (c.2.2.1 2 900 0)] (if code = 1 then 1 else if code = 2 then 2 else if code = 3 then 3 else 0) := by
  refine mk_W (own := RL) (by decide +kernel) rfl (Nat.le_of_ble_eq_true rfl) (fun x hx hR hy htab hE => ?_)
  subst hy
  have hK9 : x_K x = KLw := hK
  have hs : SPL (x_ad x) (x_K x) KK (KM ++ [(2, 900, 0)]) := by rw [hK9]; exact spl_C (by rw [← hK9]; exact hx.2.2.2.2.2.2.1)
  show WX x 6 0 0 (mx SC SM w) 0 [(0, .ref (x_ad x 0 6 0)), (1, .int a1), (2, .int a2), (3, .int a3), (4, .ref (x_ad x 2 900 0))] []
  refine r_aload (k0 := 4) hx dL_level_0 rfl ?_
  refine r_iconst (v := 0) hx dL_level_2 (by decide) ?_
  refine r_aload_n (k0 := 0) hx dL_level_3 rfl rfl ?_
  refine r_iload_n (k0 := 1) hx dL_level_4 rfl rfl ?_
  refine r_iload_n (k0 := 2) hx dL_level_5 rfl rfl ?_
  refine r_iload_n (k0 := 3) hx dL_level_6 rfl rfl ?_
  refine p_XC (S1 := mx SC2 SM w) (C := RX7) (T := TX7) (N := 7) (As := [.int a1, .int a2, .int a3]) (rest := [.int 0, .ref (x_ad x 2 900 0)]) (n := 3) hx hs eC0 (C_X7_level (c := x_yA x KK) (fun _ hk => hk) hst h) eC0 eC2 (by rw [hK9]; exact KL_C (k_0_6 (fun _ hk => hk))) rfl wl_L_7 wi_X7_level we_X7_level wn_X7 wc_X7_level (by decide +kernel) rfl (by rw [hR]; decide +kernel) rfl (Nat.le_of_ble_eq_true rfl) dL_level_7 (fun ht => ?_) (fun ht => ?_)
  · rw [htab]
    rcases hc with rfl | rfl | rfl | rfl
    · exact absurd rfl ht
    · refine ⟨[], ⟨0, 12, 15, 13⟩, [⟨0, 12, 19, 15⟩, ⟨0, 12, 23, 17⟩], rfl, (fun z hz => absurd hz List.not_mem_nil), by decide, by decide, by rw [exn_1]; exact wa_L_13, by decide +kernel, fun q9 => ?_⟩
      show WX x 6 _ _ _ 15 _ _
      refine r_astore (lv' := [(5, .ref q9), (0, .ref (x_ad x 0 6 0)), (1, .int a1), (2, .int a2), (3, .int a3), (4, .ref (x_ad x 2 900 0))]) hx dL_level_15 (by decide) rfl ?_
      refine r_iconst (v := 1) hx dL_level_17 (by decide) ?_
      exact r_wret hE (by decide) (by decide) (by rw [oW_n (by decide)]) (by decide) dL_level_18
    · refine ⟨[⟨0, 12, 15, 13⟩], ⟨0, 12, 19, 15⟩, [⟨0, 12, 23, 17⟩], rfl, (List.forall_mem_cons.mpr ⟨Or.inr ⟨by decide, exn 1, by rw [exn_1]; exact wa_L_13, by decide +kernel⟩, fun z hz => absurd hz List.not_mem_nil⟩), by decide, by decide, by rw [exn_2]; exact wa_L_15, by decide +kernel, fun q9 => ?_⟩
      show WX x 6 _ _ _ 19 _ _
      refine r_astore (lv' := [(5, .ref q9), (0, .ref (x_ad x 0 6 0)), (1, .int a1), (2, .int a2), (3, .int a3), (4, .ref (x_ad x 2 900 0))]) hx dL_level_19 (by decide) rfl ?_
      refine r_iconst (v := 2) hx dL_level_21 (by decide) ?_
      exact r_wret hE (by decide) (by decide) (by rw [oW_n (by decide)]) (by decide) dL_level_22
    · refine ⟨[⟨0, 12, 15, 13⟩, ⟨0, 12, 19, 15⟩], ⟨0, 12, 23, 17⟩, [], rfl, (List.forall_mem_cons.mpr ⟨Or.inr ⟨by decide, exn 1, by rw [exn_1]; exact wa_L_13, by decide +kernel⟩, List.forall_mem_cons.mpr ⟨Or.inr ⟨by decide, exn 2, by rw [exn_2]; exact wa_L_15, by decide +kernel⟩, fun z hz => absurd hz List.not_mem_nil⟩⟩), by decide, by decide, by rw [exn_3]; exact wa_L_17, by decide +kernel, fun q9 => ?_⟩
      show WX x 6 _ _ _ 23 _ _
      refine r_astore (lv' := [(5, .ref q9), (0, .ref (x_ad x 0 6 0)), (1, .int a1), (2, .int a2), (3, .int a3), (4, .ref (x_ad x 2 900 0))]) hx dL_level_23 (by decide) rfl ?_
      refine r_iconst (v := 3) hx dL_level_25 (by decide) ?_
      exact r_wret hE (by decide) (by decide) (by rw [oW_n (by decide)]) (by decide) dL_level_26
  · subst ht
    refine r_i2l hx dL_level_10 ?_
    refine r_last (S1 := mx SC2 SM (vp_updL w 0 v.toInt64)) (L := 1) hx (by rw [hK9]; exact KL_O) rfl (show ¬ ((0 : Int32) < 0 ∨ 1 ≤ (0 : Int32).toNatClampNeg) by decide) sL_mx.symm dL_level_11 ?_
    refine r_goto (tgt := 27) hx dL_level_12 (by decide) ?_
    refine r_iconst (v := 0) hx dL_level_27 (by decide) ?_
    exact r_wret hE (by decide) (by decide) (by rw [oW_0]) (by decide) dL_level_28
theorem dL_atMost_0 : decode cL_atMost 0 = .ok (.aload_n 3, 1) := by decide +kernel
theorem dL_atMost_1 : decode cL_atMost 1 = .ok (.iconst 0, 1) := by decide +kernel
theorem dL_atMost_2 : decode cL_atMost 2 = .ok (.aload_n 0, 1) := by decide +kernel
theorem dL_atMost_3 : decode cL_atMost 3 = .ok (.iload_n 1, 1) := by decide +kernel
theorem dL_atMost_4 : decode cL_atMost 4 = .ok (.iload_n 2, 1) := by decide +kernel
theorem dL_atMost_5 : decode cL_atMost 5 = .ok (.invokevirtual 19, 3) := by decide +kernel
theorem dL_atMost_8 : decode cL_atMost 8 = .ok (.ifCond .eq 7, 3) := by decide +kernel
theorem dL_atMost_11 : decode cL_atMost 11 = .ok (.lconst 1, 1) := by decide +kernel
theorem dL_atMost_12 : decode cL_atMost 12 = .ok (.goto 4, 3) := by decide +kernel
theorem dL_atMost_15 : decode cL_atMost 15 = .ok (.lconst 0, 1) := by decide +kernel
theorem dL_atMost_16 : decode cL_atMost 16 = .ok (.lastore, 1) := by decide +kernel
theorem dL_atMost_17 : decode cL_atMost 17 = .ok (.goto 7, 3) := by decide +kernel
theorem dL_atMost_20 : decode cL_atMost 20 = .ok (.astore 4, 2) := by decide +kernel
theorem dL_atMost_22 : decode cL_atMost 22 = .ok (.iconst 1, 1) := by decide +kernel
theorem dL_atMost_23 : decode cL_atMost 23 = .ok (.ireturn, 1) := by decide +kernel
theorem dL_atMost_24 : decode cL_atMost 24 = .ok (.iconst 0, 1) := by decide +kernel
theorem dL_atMost_25 : decode cL_atMost 25 = .ok (.ireturn, 1) := by decide +kernel
abbrev hh_atMost : HH := [(0, 17, 20, 15)]
theorem ww_atMost : Cond.codeWith yL_atMost cL_atMost 5 (some .int) hh_atMost ∈ TB := tb2 (List.mem_of_getElem? (i := 187) rfl) rfl
set_option maxRecDepth 100000 in
set_option maxHeartbeats 4000000 in
theorem L_atMost {n : Nat} {c : YC} (hK : c.2.2.2.2 = KLw) (hst : c.1.stackTraces = false) {SC SM SC2 : St} {w : Nat → Int64} {a1 a2 code v : Int32} (h : f_X7_atMost n SC a1 a2 = some (SC2, code, v)) (hc : code = 0 ∨ code = 2) : MW c yL_atMost cL_atMost 5 hh_atMost rmW 4 24 (mx SC SM w) (mx SC2 SM (oW w code (if v = 0 then 0 else 1))) [.ref (c.2.2.1 0 6 0), .int a1, .int a2, .ref (c.2.2.1 2 900 0)] (if code = 2 then 1 else 0) := by
  refine mk_W (own := RL) (by decide +kernel) rfl (Nat.le_of_ble_eq_true rfl) (fun x hx hR hy htab hE => ?_)
  subst hy
  have hK9 : x_K x = KLw := hK
  have hs : SPL (x_ad x) (x_K x) KK (KM ++ [(2, 900, 0)]) := by rw [hK9]; exact spl_C (by rw [← hK9]; exact hx.2.2.2.2.2.2.1)
  show WX x 5 0 0 (mx SC SM w) 0 [(0, .ref (x_ad x 0 6 0)), (1, .int a1), (2, .int a2), (3, .ref (x_ad x 2 900 0))] []
  refine r_aload_n (k0 := 3) hx dL_atMost_0 rfl rfl ?_
  refine r_iconst (v := 0) hx dL_atMost_1 (by decide) ?_
  refine r_aload_n (k0 := 0) hx dL_atMost_2 rfl rfl ?_
  refine r_iload_n (k0 := 1) hx dL_atMost_3 rfl rfl ?_
  refine r_iload_n (k0 := 2) hx dL_atMost_4 rfl rfl ?_
  refine p_XC (S1 := mx SC2 SM w) (C := RX7) (T := TX7) (N := 7) (As := [.int a1, .int a2]) (rest := [.int 0, .ref (x_ad x 2 900 0)]) (n := 2) hx hs eC0 (C_X7_atMost (c := x_yA x KK) (fun _ hk => hk) hst h) eC0 eC2 (by rw [hK9]; exact KL_C (k_0_6 (fun _ hk => hk))) rfl wl_L_19 wi_X7_atMost we_X7_atMost wn_X7 wc_X7_atMost (by decide +kernel) rfl (by rw [hR]; decide +kernel) rfl (Nat.le_of_ble_eq_true rfl) dL_atMost_5 (fun ht => ?_) (fun ht => ?_)
  · rw [htab]
    rcases hc with rfl | rfl
    · exact absurd rfl ht
    · refine ⟨[], ⟨0, 17, 20, 15⟩, [], rfl, (fun z hz => absurd hz List.not_mem_nil), by decide, by decide, by rw [exn_2]; exact wa_L_15, by decide +kernel, fun q9 => ?_⟩
      show WX x 5 _ _ _ 20 _ _
      refine r_astore (lv' := [(4, .ref q9), (0, .ref (x_ad x 0 6 0)), (1, .int a1), (2, .int a2), (3, .ref (x_ad x 2 900 0))]) hx dL_atMost_20 (by decide) rfl ?_
      refine r_iconst (v := 1) hx dL_atMost_22 (by decide) ?_
      exact r_wret hE (by decide) (by decide) (by rw [oW_n (by decide)]) (by decide) dL_atMost_23
  · subst ht
    refine r_if_eq (tgt := 15) hx dL_atMost_8 (by decide) (fun hv => ?_) (fun hv => ?_)
    · refine r_lconst (v := 0) hx dL_atMost_15 (by decide) ?_
      refine r_last (S1 := mx SC2 SM (vp_updL w 0 0)) (L := 1) hx (by rw [hK9]; exact KL_O) rfl (show ¬ ((0 : Int32) < 0 ∨ 1 ≤ (0 : Int32).toNatClampNeg) by decide) sL_mx.symm dL_atMost_16 ?_
      refine r_goto (tgt := 24) hx dL_atMost_17 (by decide) ?_
      refine r_iconst (v := 0) hx dL_atMost_24 (by decide) ?_
      exact r_wret hE (by decide) (by decide) (by rw [oW_0, if_pos hv]) (by decide) dL_atMost_25
    · refine r_lconst (v := 1) hx dL_atMost_11 (by decide) ?_
      refine r_goto (tgt := 16) hx dL_atMost_12 (by decide) ?_
      refine r_last (S1 := mx SC2 SM (vp_updL w 0 1)) (L := 1) hx (by rw [hK9]; exact KL_O) rfl (show ¬ ((0 : Int32) < 0 ∨ 1 ≤ (0 : Int32).toNatClampNeg) by decide) sL_mx.symm dL_atMost_16 ?_
      refine r_goto (tgt := 24) hx dL_atMost_17 (by decide) ?_
      refine r_iconst (v := 0) hx dL_atMost_24 (by decide) ?_
      exact r_wret hE (by decide) (by decide) (by rw [oW_0, if_neg hv]) (by decide) dL_atMost_25
theorem dL_value_0 : decode cL_value 0 = .ok (.aload 5, 2) := by decide +kernel
theorem dL_value_2 : decode cL_value 2 = .ok (.iconst 0, 1) := by decide +kernel
theorem dL_value_3 : decode cL_value 3 = .ok (.aload_n 0, 1) := by decide +kernel
theorem dL_value_4 : decode cL_value 4 = .ok (.iload_n 1, 1) := by decide +kernel
theorem dL_value_5 : decode cL_value 5 = .ok (.iload_n 2, 1) := by decide +kernel
theorem dL_value_6 : decode cL_value 6 = .ok (.iload_n 3, 1) := by decide +kernel
theorem dL_value_7 : decode cL_value 7 = .ok (.iload 4, 2) := by decide +kernel
theorem dL_value_9 : decode cL_value 9 = .ok (.invokevirtual 23, 3) := by decide +kernel
theorem dL_value_12 : decode cL_value 12 = .ok (.i2l, 1) := by decide +kernel
theorem dL_value_13 : decode cL_value 13 = .ok (.lastore, 1) := by decide +kernel
theorem dL_value_14 : decode cL_value 14 = .ok (.goto 11, 3) := by decide +kernel
theorem dL_value_17 : decode cL_value 17 = .ok (.astore 6, 2) := by decide +kernel
theorem dL_value_19 : decode cL_value 19 = .ok (.iconst 1, 1) := by decide +kernel
theorem dL_value_20 : decode cL_value 20 = .ok (.ireturn, 1) := by decide +kernel
theorem dL_value_21 : decode cL_value 21 = .ok (.astore 6, 2) := by decide +kernel
theorem dL_value_23 : decode cL_value 23 = .ok (.iconst 2, 1) := by decide +kernel
theorem dL_value_24 : decode cL_value 24 = .ok (.ireturn, 1) := by decide +kernel
theorem dL_value_25 : decode cL_value 25 = .ok (.iconst 0, 1) := by decide +kernel
theorem dL_value_26 : decode cL_value 26 = .ok (.ireturn, 1) := by decide +kernel
abbrev hh_value : HH := [(0, 14, 17, 15), (0, 14, 21, 13)]
theorem ww_value : Cond.codeWith yL_value cL_value 7 (some .int) hh_value ∈ TB := tb2 (List.mem_of_getElem? (i := 208) rfl) rfl
set_option maxRecDepth 100000 in
set_option maxHeartbeats 4000000 in
theorem L_value {n : Nat} {c : YC} (hK : c.2.2.2.2 = KLw) (hst : c.1.stackTraces = false) {SC SM SC2 : St} {w : Nat → Int64} {a1 a2 a3 a4 code v : Int32} (h : f_X7_value n SC a1 a2 a3 a4 = some (SC2, code, v)) (hc : code = 0 ∨ code = 2 ∨ code = 1) : MW c yL_value cL_value 7 hh_value rmW 4 24 (mx SC SM w) (mx SC2 SM (oW w code v.toInt64)) [.ref (c.2.2.1 0 6 0), .int a1, .int a2, .int a3, .int a4, .ref (c.2.2.1 2 900 0)] (if code = 2 then 1 else if code = 1 then 2 else 0) := by
  refine mk_W (own := RL) (by decide +kernel) rfl (Nat.le_of_ble_eq_true rfl) (fun x hx hR hy htab hE => ?_)
  subst hy
  have hK9 : x_K x = KLw := hK
  have hs : SPL (x_ad x) (x_K x) KK (KM ++ [(2, 900, 0)]) := by rw [hK9]; exact spl_C (by rw [← hK9]; exact hx.2.2.2.2.2.2.1)
  show WX x 7 0 0 (mx SC SM w) 0 [(0, .ref (x_ad x 0 6 0)), (1, .int a1), (2, .int a2), (3, .int a3), (4, .int a4), (5, .ref (x_ad x 2 900 0))] []
  refine r_aload (k0 := 5) hx dL_value_0 rfl ?_
  refine r_iconst (v := 0) hx dL_value_2 (by decide) ?_
  refine r_aload_n (k0 := 0) hx dL_value_3 rfl rfl ?_
  refine r_iload_n (k0 := 1) hx dL_value_4 rfl rfl ?_
  refine r_iload_n (k0 := 2) hx dL_value_5 rfl rfl ?_
  refine r_iload_n (k0 := 3) hx dL_value_6 rfl rfl ?_
  refine r_iload (k0 := 4) hx dL_value_7 rfl ?_
  refine p_XC (S1 := mx SC2 SM w) (C := RX7) (T := TX7) (N := 7) (As := [.int a1, .int a2, .int a3, .int a4]) (rest := [.int 0, .ref (x_ad x 2 900 0)]) (n := 4) hx hs eC0 (C_X7_value (c := x_yA x KK) (fun _ hk => hk) hst h) eC0 eC2 (by rw [hK9]; exact KL_C (k_0_6 (fun _ hk => hk))) rfl wl_L_23 wi_X7_value we_X7_value wn_X7 wc_X7_value (by decide +kernel) rfl (by rw [hR]; decide +kernel) rfl (Nat.le_of_ble_eq_true rfl) dL_value_9 (fun ht => ?_) (fun ht => ?_)
  · rw [htab]
    rcases hc with rfl | rfl | rfl
    · exact absurd rfl ht
    · refine ⟨[], ⟨0, 14, 17, 15⟩, [⟨0, 14, 21, 13⟩], rfl, (fun z hz => absurd hz List.not_mem_nil), by decide, by decide, by rw [exn_2]; exact wa_L_15, by decide +kernel, fun q9 => ?_⟩
      show WX x 7 _ _ _ 17 _ _
      refine r_astore (lv' := [(6, .ref q9), (0, .ref (x_ad x 0 6 0)), (1, .int a1), (2, .int a2), (3, .int a3), (4, .int a4), (5, .ref (x_ad x 2 900 0))]) hx dL_value_17 (by decide) rfl ?_
      refine r_iconst (v := 1) hx dL_value_19 (by decide) ?_
      exact r_wret hE (by decide) (by decide) (by rw [oW_n (by decide)]) (by decide) dL_value_20
    · refine ⟨[⟨0, 14, 17, 15⟩], ⟨0, 14, 21, 13⟩, [], rfl, (List.forall_mem_cons.mpr ⟨Or.inr ⟨by decide, exn 2, by rw [exn_2]; exact wa_L_15, by decide +kernel⟩, fun z hz => absurd hz List.not_mem_nil⟩), by decide, by decide, by rw [exn_1]; exact wa_L_13, by decide +kernel, fun q9 => ?_⟩
      show WX x 7 _ _ _ 21 _ _
      refine r_astore (lv' := [(6, .ref q9), (0, .ref (x_ad x 0 6 0)), (1, .int a1), (2, .int a2), (3, .int a3), (4, .int a4), (5, .ref (x_ad x 2 900 0))]) hx dL_value_21 (by decide) rfl ?_
      refine r_iconst (v := 2) hx dL_value_23 (by decide) ?_
      exact r_wret hE (by decide) (by decide) (by rw [oW_n (by decide)]) (by decide) dL_value_24
  · subst ht
    refine r_i2l hx dL_value_12 ?_
    refine r_last (S1 := mx SC2 SM (vp_updL w 0 v.toInt64)) (L := 1) hx (by rw [hK9]; exact KL_O) rfl (show ¬ ((0 : Int32) < 0 ∨ 1 ≤ (0 : Int32).toNatClampNeg) by decide) sL_mx.symm dL_value_13 ?_
    refine r_goto (tgt := 25) hx dL_value_14 (by decide) ?_
    refine r_iconst (v := 0) hx dL_value_25 (by decide) ?_
    exact r_wret hE (by decide) (by decide) (by rw [oW_0]) (by decide) dL_value_26
theorem dL_sort_0 : decode cL_sort 0 = .ok (.aload_n 2, 1) := by decide +kernel
theorem dL_sort_1 : decode cL_sort 1 = .ok (.iconst 0, 1) := by decide +kernel
theorem dL_sort_2 : decode cL_sort 2 = .ok (.aload_n 0, 1) := by decide +kernel
theorem dL_sort_3 : decode cL_sort 3 = .ok (.iload_n 1, 1) := by decide +kernel
theorem dL_sort_4 : decode cL_sort 4 = .ok (.invokevirtual 27, 3) := by decide +kernel
theorem dL_sort_7 : decode cL_sort 7 = .ok (.i2l, 1) := by decide +kernel
theorem dL_sort_8 : decode cL_sort 8 = .ok (.lastore, 1) := by decide +kernel
theorem dL_sort_9 : decode cL_sort 9 = .ok (.goto 9, 3) := by decide +kernel
theorem dL_sort_12 : decode cL_sort 12 = .ok (.astore_n 3, 1) := by decide +kernel
theorem dL_sort_13 : decode cL_sort 13 = .ok (.iconst 1, 1) := by decide +kernel
theorem dL_sort_14 : decode cL_sort 14 = .ok (.ireturn, 1) := by decide +kernel
theorem dL_sort_15 : decode cL_sort 15 = .ok (.astore_n 3, 1) := by decide +kernel
theorem dL_sort_16 : decode cL_sort 16 = .ok (.iconst 2, 1) := by decide +kernel
theorem dL_sort_17 : decode cL_sort 17 = .ok (.ireturn, 1) := by decide +kernel
theorem dL_sort_18 : decode cL_sort 18 = .ok (.iconst 0, 1) := by decide +kernel
theorem dL_sort_19 : decode cL_sort 19 = .ok (.ireturn, 1) := by decide +kernel
abbrev hh_sort : HH := [(0, 9, 12, 15), (0, 9, 15, 17)]
theorem ww_sort : Cond.codeWith yL_sort cL_sort 4 (some .int) hh_sort ∈ TB := tb2 (List.mem_of_getElem? (i := 221) rfl) rfl
set_option maxRecDepth 100000 in
set_option maxHeartbeats 4000000 in
theorem L_sort {n : Nat} {c : YC} (hK : c.2.2.2.2 = KLw) (hst : c.1.stackTraces = false) {SC SM SC2 : St} {w : Nat → Int64} {a1 code v : Int32} (h : f_X7_sort n SC a1 = some (SC2, code, v)) (hc : code = 0 ∨ code = 2 ∨ code = 3) : MW c yL_sort cL_sort 4 hh_sort rmW 4 24 (mx SC SM w) (mx SC2 SM (oW w code v.toInt64)) [.ref (c.2.2.1 0 6 0), .int a1, .ref (c.2.2.1 2 900 0)] (if code = 2 then 1 else if code = 3 then 2 else 0) := by
  refine mk_W (own := RL) (by decide +kernel) rfl (Nat.le_of_ble_eq_true rfl) (fun x hx hR hy htab hE => ?_)
  subst hy
  have hK9 : x_K x = KLw := hK
  have hs : SPL (x_ad x) (x_K x) KK (KM ++ [(2, 900, 0)]) := by rw [hK9]; exact spl_C (by rw [← hK9]; exact hx.2.2.2.2.2.2.1)
  show WX x 4 0 0 (mx SC SM w) 0 [(0, .ref (x_ad x 0 6 0)), (1, .int a1), (2, .ref (x_ad x 2 900 0))] []
  refine r_aload_n (k0 := 2) hx dL_sort_0 rfl rfl ?_
  refine r_iconst (v := 0) hx dL_sort_1 (by decide) ?_
  refine r_aload_n (k0 := 0) hx dL_sort_2 rfl rfl ?_
  refine r_iload_n (k0 := 1) hx dL_sort_3 rfl rfl ?_
  refine p_XC (S1 := mx SC2 SM w) (C := RX7) (T := TX7) (N := 7) (As := [.int a1]) (rest := [.int 0, .ref (x_ad x 2 900 0)]) (n := 1) hx hs eC0 (C_X7_sort (c := x_yA x KK) (fun _ hk => hk) hst h) eC0 eC2 (by rw [hK9]; exact KL_C (k_0_6 (fun _ hk => hk))) rfl wl_L_27 wi_X7_sort we_X7_sort wn_X7 wc_X7_sort (by decide +kernel) rfl (by rw [hR]; decide +kernel) rfl (Nat.le_of_ble_eq_true rfl) dL_sort_4 (fun ht => ?_) (fun ht => ?_)
  · rw [htab]
    rcases hc with rfl | rfl | rfl
    · exact absurd rfl ht
    · refine ⟨[], ⟨0, 9, 12, 15⟩, [⟨0, 9, 15, 17⟩], rfl, (fun z hz => absurd hz List.not_mem_nil), by decide, by decide, by rw [exn_2]; exact wa_L_15, by decide +kernel, fun q9 => ?_⟩
      show WX x 4 _ _ _ 12 _ _
      refine r_astore_n (lv' := [(3, .ref q9), (0, .ref (x_ad x 0 6 0)), (1, .int a1), (2, .ref (x_ad x 2 900 0))]) hx dL_sort_12 rfl (by decide) rfl ?_
      refine r_iconst (v := 1) hx dL_sort_13 (by decide) ?_
      exact r_wret hE (by decide) (by decide) (by rw [oW_n (by decide)]) (by decide) dL_sort_14
    · refine ⟨[⟨0, 9, 12, 15⟩], ⟨0, 9, 15, 17⟩, [], rfl, (List.forall_mem_cons.mpr ⟨Or.inr ⟨by decide, exn 2, by rw [exn_2]; exact wa_L_15, by decide +kernel⟩, fun z hz => absurd hz List.not_mem_nil⟩), by decide, by decide, by rw [exn_3]; exact wa_L_17, by decide +kernel, fun q9 => ?_⟩
      show WX x 4 _ _ _ 15 _ _
      refine r_astore_n (lv' := [(3, .ref q9), (0, .ref (x_ad x 0 6 0)), (1, .int a1), (2, .ref (x_ad x 2 900 0))]) hx dL_sort_15 rfl (by decide) rfl ?_
      refine r_iconst (v := 2) hx dL_sort_16 (by decide) ?_
      exact r_wret hE (by decide) (by decide) (by rw [oW_n (by decide)]) (by decide) dL_sort_17
  · subst ht
    refine r_i2l hx dL_sort_7 ?_
    refine r_last (S1 := mx SC2 SM (vp_updL w 0 v.toInt64)) (L := 1) hx (by rw [hK9]; exact KL_O) rfl (show ¬ ((0 : Int32) < 0 ∨ 1 ≤ (0 : Int32).toNatClampNeg) by decide) sL_mx.symm dL_sort_8 ?_
    refine r_goto (tgt := 18) hx dL_sort_9 (by decide) ?_
    refine r_iconst (v := 0) hx dL_sort_18 (by decide) ?_
    exact r_wret hE (by decide) (by decide) (by rw [oW_0]) (by decide) dL_sort_19
theorem dL_variable_0 : decode cL_variable 0 = .ok (.aload_n 2, 1) := by decide +kernel
theorem dL_variable_1 : decode cL_variable 1 = .ok (.iconst 0, 1) := by decide +kernel
theorem dL_variable_2 : decode cL_variable 2 = .ok (.aload_n 0, 1) := by decide +kernel
theorem dL_variable_3 : decode cL_variable 3 = .ok (.iload_n 1, 1) := by decide +kernel
theorem dL_variable_4 : decode cL_variable 4 = .ok (.invokevirtual 31, 3) := by decide +kernel
theorem dL_variable_7 : decode cL_variable 7 = .ok (.i2l, 1) := by decide +kernel
theorem dL_variable_8 : decode cL_variable 8 = .ok (.lastore, 1) := by decide +kernel
theorem dL_variable_9 : decode cL_variable 9 = .ok (.goto 9, 3) := by decide +kernel
theorem dL_variable_12 : decode cL_variable 12 = .ok (.astore_n 3, 1) := by decide +kernel
theorem dL_variable_13 : decode cL_variable 13 = .ok (.iconst 1, 1) := by decide +kernel
theorem dL_variable_14 : decode cL_variable 14 = .ok (.ireturn, 1) := by decide +kernel
theorem dL_variable_15 : decode cL_variable 15 = .ok (.astore_n 3, 1) := by decide +kernel
theorem dL_variable_16 : decode cL_variable 16 = .ok (.iconst 2, 1) := by decide +kernel
theorem dL_variable_17 : decode cL_variable 17 = .ok (.ireturn, 1) := by decide +kernel
theorem dL_variable_18 : decode cL_variable 18 = .ok (.iconst 0, 1) := by decide +kernel
theorem dL_variable_19 : decode cL_variable 19 = .ok (.ireturn, 1) := by decide +kernel
abbrev hh_variable : HH := [(0, 9, 12, 13), (0, 9, 15, 17)]
theorem ww_variable : Cond.codeWith yL_variable cL_variable 4 (some .int) hh_variable ∈ TB := tb3 (List.mem_of_getElem? (i := 27) rfl) rfl
set_option maxRecDepth 100000 in
set_option maxHeartbeats 4000000 in
theorem L_variable {n : Nat} {c : YC} (hK : c.2.2.2.2 = KLw) (hst : c.1.stackTraces = false) {SC SM SC2 : St} {w : Nat → Int64} {a1 code v : Int32} (h : f_X7_variable n SC a1 = some (SC2, code, v)) (hc : code = 0 ∨ code = 1 ∨ code = 3) : MW c yL_variable cL_variable 4 hh_variable rmW 4 24 (mx SC SM w) (mx SC2 SM (oW w code v.toInt64)) [.ref (c.2.2.1 0 6 0), .int a1, .ref (c.2.2.1 2 900 0)] (if code = 1 then 1 else if code = 3 then 2 else 0) := by
  refine mk_W (own := RL) (by decide +kernel) rfl (Nat.le_of_ble_eq_true rfl) (fun x hx hR hy htab hE => ?_)
  subst hy
  have hK9 : x_K x = KLw := hK
  have hs : SPL (x_ad x) (x_K x) KK (KM ++ [(2, 900, 0)]) := by rw [hK9]; exact spl_C (by rw [← hK9]; exact hx.2.2.2.2.2.2.1)
  show WX x 4 0 0 (mx SC SM w) 0 [(0, .ref (x_ad x 0 6 0)), (1, .int a1), (2, .ref (x_ad x 2 900 0))] []
  refine r_aload_n (k0 := 2) hx dL_variable_0 rfl rfl ?_
  refine r_iconst (v := 0) hx dL_variable_1 (by decide) ?_
  refine r_aload_n (k0 := 0) hx dL_variable_2 rfl rfl ?_
  refine r_iload_n (k0 := 1) hx dL_variable_3 rfl rfl ?_
  refine p_XC (S1 := mx SC2 SM w) (C := RX7) (T := TX7) (N := 7) (As := [.int a1]) (rest := [.int 0, .ref (x_ad x 2 900 0)]) (n := 1) hx hs eC0 (C_X7_variable (c := x_yA x KK) (fun _ hk => hk) hst h) eC0 eC2 (by rw [hK9]; exact KL_C (k_0_6 (fun _ hk => hk))) rfl wl_L_31 wi_X7_variable we_X7_variable wn_X7 wc_X7_variable (by decide +kernel) rfl (by rw [hR]; decide +kernel) rfl (Nat.le_of_ble_eq_true rfl) dL_variable_4 (fun ht => ?_) (fun ht => ?_)
  · rw [htab]
    rcases hc with rfl | rfl | rfl
    · exact absurd rfl ht
    · refine ⟨[], ⟨0, 9, 12, 13⟩, [⟨0, 9, 15, 17⟩], rfl, (fun z hz => absurd hz List.not_mem_nil), by decide, by decide, by rw [exn_1]; exact wa_L_13, by decide +kernel, fun q9 => ?_⟩
      show WX x 4 _ _ _ 12 _ _
      refine r_astore_n (lv' := [(3, .ref q9), (0, .ref (x_ad x 0 6 0)), (1, .int a1), (2, .ref (x_ad x 2 900 0))]) hx dL_variable_12 rfl (by decide) rfl ?_
      refine r_iconst (v := 1) hx dL_variable_13 (by decide) ?_
      exact r_wret hE (by decide) (by decide) (by rw [oW_n (by decide)]) (by decide) dL_variable_14
    · refine ⟨[⟨0, 9, 12, 13⟩], ⟨0, 9, 15, 17⟩, [], rfl, (List.forall_mem_cons.mpr ⟨Or.inr ⟨by decide, exn 1, by rw [exn_1]; exact wa_L_13, by decide +kernel⟩, fun z hz => absurd hz List.not_mem_nil⟩), by decide, by decide, by rw [exn_3]; exact wa_L_17, by decide +kernel, fun q9 => ?_⟩
      show WX x 4 _ _ _ 15 _ _
      refine r_astore_n (lv' := [(3, .ref q9), (0, .ref (x_ad x 0 6 0)), (1, .int a1), (2, .ref (x_ad x 2 900 0))]) hx dL_variable_15 rfl (by decide) rfl ?_
      refine r_iconst (v := 2) hx dL_variable_16 (by decide) ?_
      exact r_wret hE (by decide) (by decide) (by rw [oW_n (by decide)]) (by decide) dL_variable_17
  · subst ht
    refine r_i2l hx dL_variable_7 ?_
    refine r_last (S1 := mx SC2 SM (vp_updL w 0 v.toInt64)) (L := 1) hx (by rw [hK9]; exact KL_O) rfl (show ¬ ((0 : Int32) < 0 ∨ 1 ≤ (0 : Int32).toNatClampNeg) by decide) sL_mx.symm dL_variable_8 ?_
    refine r_goto (tgt := 18) hx dL_variable_9 (by decide) ?_
    refine r_iconst (v := 0) hx dL_variable_18 (by decide) ?_
    exact r_wret hE (by decide) (by decide) (by rw [oW_0]) (by decide) dL_variable_19
theorem dL_name_0 : decode cL_name 0 = .ok (.aload 4, 2) := by decide +kernel
theorem dL_name_2 : decode cL_name 2 = .ok (.iconst 0, 1) := by decide +kernel
theorem dL_name_3 : decode cL_name 3 = .ok (.aload_n 0, 1) := by decide +kernel
theorem dL_name_4 : decode cL_name 4 = .ok (.iload_n 1, 1) := by decide +kernel
theorem dL_name_5 : decode cL_name 5 = .ok (.iload_n 2, 1) := by decide +kernel
theorem dL_name_6 : decode cL_name 6 = .ok (.iload_n 3, 1) := by decide +kernel
theorem dL_name_7 : decode cL_name 7 = .ok (.invokevirtual 34, 3) := by decide +kernel
theorem dL_name_10 : decode cL_name 10 = .ok (.i2l, 1) := by decide +kernel
theorem dL_name_11 : decode cL_name 11 = .ok (.lastore, 1) := by decide +kernel
theorem dL_name_12 : decode cL_name 12 = .ok (.goto 11, 3) := by decide +kernel
theorem dL_name_15 : decode cL_name 15 = .ok (.astore 5, 2) := by decide +kernel
theorem dL_name_17 : decode cL_name 17 = .ok (.iconst 1, 1) := by decide +kernel
theorem dL_name_18 : decode cL_name 18 = .ok (.ireturn, 1) := by decide +kernel
theorem dL_name_19 : decode cL_name 19 = .ok (.astore 5, 2) := by decide +kernel
theorem dL_name_21 : decode cL_name 21 = .ok (.iconst 2, 1) := by decide +kernel
theorem dL_name_22 : decode cL_name 22 = .ok (.ireturn, 1) := by decide +kernel
theorem dL_name_23 : decode cL_name 23 = .ok (.iconst 0, 1) := by decide +kernel
theorem dL_name_24 : decode cL_name 24 = .ok (.ireturn, 1) := by decide +kernel
abbrev hh_name : HH := [(0, 12, 15, 15), (0, 12, 19, 17)]
theorem ww_name : Cond.codeWith yL_name cL_name 6 (some .int) hh_name ∈ TB := tb3 (List.mem_of_getElem? (i := 35) rfl) rfl
set_option maxRecDepth 100000 in
set_option maxHeartbeats 4000000 in
theorem L_name {n : Nat} {c : YC} (hK : c.2.2.2.2 = KLw) (hst : c.1.stackTraces = false) {SC SM SC2 : St} {w : Nat → Int64} {a1 a2 a3 code v : Int32} (h : f_X7_name n SC a1 a2 a3 = some (SC2, code, v)) (hc : code = 0 ∨ code = 2 ∨ code = 3) : MW c yL_name cL_name 6 hh_name rmW 4 24 (mx SC SM w) (mx SC2 SM (oW w code v.toInt64)) [.ref (c.2.2.1 0 6 0), .int a1, .int a2, .int a3, .ref (c.2.2.1 2 900 0)] (if code = 2 then 1 else if code = 3 then 2 else 0) := by
  refine mk_W (own := RL) (by decide +kernel) rfl (Nat.le_of_ble_eq_true rfl) (fun x hx hR hy htab hE => ?_)
  subst hy
  have hK9 : x_K x = KLw := hK
  have hs : SPL (x_ad x) (x_K x) KK (KM ++ [(2, 900, 0)]) := by rw [hK9]; exact spl_C (by rw [← hK9]; exact hx.2.2.2.2.2.2.1)
  show WX x 6 0 0 (mx SC SM w) 0 [(0, .ref (x_ad x 0 6 0)), (1, .int a1), (2, .int a2), (3, .int a3), (4, .ref (x_ad x 2 900 0))] []
  refine r_aload (k0 := 4) hx dL_name_0 rfl ?_
  refine r_iconst (v := 0) hx dL_name_2 (by decide) ?_
  refine r_aload_n (k0 := 0) hx dL_name_3 rfl rfl ?_
  refine r_iload_n (k0 := 1) hx dL_name_4 rfl rfl ?_
  refine r_iload_n (k0 := 2) hx dL_name_5 rfl rfl ?_
  refine r_iload_n (k0 := 3) hx dL_name_6 rfl rfl ?_
  refine p_XC (S1 := mx SC2 SM w) (C := RX7) (T := TX7) (N := 7) (As := [.int a1, .int a2, .int a3]) (rest := [.int 0, .ref (x_ad x 2 900 0)]) (n := 3) hx hs eC0 (C_X7_name (c := x_yA x KK) (fun _ hk => hk) hst h) eC0 eC2 (by rw [hK9]; exact KL_C (k_0_6 (fun _ hk => hk))) rfl wl_L_34 wi_X7_name we_X7_name wn_X7 wc_X7_name (by decide +kernel) rfl (by rw [hR]; decide +kernel) rfl (Nat.le_of_ble_eq_true rfl) dL_name_7 (fun ht => ?_) (fun ht => ?_)
  · rw [htab]
    rcases hc with rfl | rfl | rfl
    · exact absurd rfl ht
    · refine ⟨[], ⟨0, 12, 15, 15⟩, [⟨0, 12, 19, 17⟩], rfl, (fun z hz => absurd hz List.not_mem_nil), by decide, by decide, by rw [exn_2]; exact wa_L_15, by decide +kernel, fun q9 => ?_⟩
      show WX x 6 _ _ _ 15 _ _
      refine r_astore (lv' := [(5, .ref q9), (0, .ref (x_ad x 0 6 0)), (1, .int a1), (2, .int a2), (3, .int a3), (4, .ref (x_ad x 2 900 0))]) hx dL_name_15 (by decide) rfl ?_
      refine r_iconst (v := 1) hx dL_name_17 (by decide) ?_
      exact r_wret hE (by decide) (by decide) (by rw [oW_n (by decide)]) (by decide) dL_name_18
    · refine ⟨[⟨0, 12, 15, 15⟩], ⟨0, 12, 19, 17⟩, [], rfl, (List.forall_mem_cons.mpr ⟨Or.inr ⟨by decide, exn 2, by rw [exn_2]; exact wa_L_15, by decide +kernel⟩, fun z hz => absurd hz List.not_mem_nil⟩), by decide, by decide, by rw [exn_3]; exact wa_L_17, by decide +kernel, fun q9 => ?_⟩
      show WX x 6 _ _ _ 19 _ _
      refine r_astore (lv' := [(5, .ref q9), (0, .ref (x_ad x 0 6 0)), (1, .int a1), (2, .int a2), (3, .int a3), (4, .ref (x_ad x 2 900 0))]) hx dL_name_19 (by decide) rfl ?_
      refine r_iconst (v := 2) hx dL_name_21 (by decide) ?_
      exact r_wret hE (by decide) (by decide) (by rw [oW_n (by decide)]) (by decide) dL_name_22
  · subst ht
    refine r_i2l hx dL_name_10 ?_
    refine r_last (S1 := mx SC2 SM (vp_updL w 0 v.toInt64)) (L := 1) hx (by rw [hK9]; exact KL_O) rfl (show ¬ ((0 : Int32) < 0 ∨ 1 ≤ (0 : Int32).toNatClampNeg) by decide) sL_mx.symm dL_name_11 ?_
    refine r_goto (tgt := 23) hx dL_name_12 (by decide) ?_
    refine r_iconst (v := 0) hx dL_name_23 (by decide) ?_
    exact r_wret hE (by decide) (by decide) (by rw [oW_0]) (by decide) dL_name_24
theorem dL_term_0 : decode cL_term 0 = .ok (.aload 4, 2) := by decide +kernel
theorem dL_term_2 : decode cL_term 2 = .ok (.iconst 0, 1) := by decide +kernel
theorem dL_term_3 : decode cL_term 3 = .ok (.aload_n 0, 1) := by decide +kernel
theorem dL_term_4 : decode cL_term 4 = .ok (.iload_n 1, 1) := by decide +kernel
theorem dL_term_5 : decode cL_term 5 = .ok (.iload_n 2, 1) := by decide +kernel
theorem dL_term_6 : decode cL_term 6 = .ok (.iload_n 3, 1) := by decide +kernel
theorem dL_term_7 : decode cL_term 7 = .ok (.invokevirtual 37, 3) := by decide +kernel
theorem dL_term_10 : decode cL_term 10 = .ok (.i2l, 1) := by decide +kernel
theorem dL_term_11 : decode cL_term 11 = .ok (.lastore, 1) := by decide +kernel
theorem dL_term_12 : decode cL_term 12 = .ok (.goto 15, 3) := by decide +kernel
theorem dL_term_15 : decode cL_term 15 = .ok (.astore 5, 2) := by decide +kernel
theorem dL_term_17 : decode cL_term 17 = .ok (.iconst 1, 1) := by decide +kernel
theorem dL_term_18 : decode cL_term 18 = .ok (.ireturn, 1) := by decide +kernel
theorem dL_term_19 : decode cL_term 19 = .ok (.astore 5, 2) := by decide +kernel
theorem dL_term_21 : decode cL_term 21 = .ok (.iconst 2, 1) := by decide +kernel
theorem dL_term_22 : decode cL_term 22 = .ok (.ireturn, 1) := by decide +kernel
theorem dL_term_23 : decode cL_term 23 = .ok (.astore 5, 2) := by decide +kernel
theorem dL_term_25 : decode cL_term 25 = .ok (.iconst 3, 1) := by decide +kernel
theorem dL_term_26 : decode cL_term 26 = .ok (.ireturn, 1) := by decide +kernel
theorem dL_term_27 : decode cL_term 27 = .ok (.iconst 0, 1) := by decide +kernel
theorem dL_term_28 : decode cL_term 28 = .ok (.ireturn, 1) := by decide +kernel
abbrev hh_term : HH := [(0, 12, 15, 13), (0, 12, 19, 15), (0, 12, 23, 17)]
theorem ww_term : Cond.codeWith yL_term cL_term 6 (some .int) hh_term ∈ TB := tb3 (List.mem_of_getElem? (i := 47) rfl) rfl
set_option maxRecDepth 100000 in
set_option maxHeartbeats 4000000 in
theorem L_term {n : Nat} {c : YC} (hK : c.2.2.2.2 = KLw) (hst : c.1.stackTraces = false) {SC SM SC2 : St} {w : Nat → Int64} {a1 a2 a3 code v : Int32} (h : f_X7_term n SC a1 a2 a3 = some (SC2, code, v)) (hc : code = 0 ∨ code = 1 ∨ code = 2 ∨ code = 3) : MW c yL_term cL_term 6 hh_term rmW 4 24 (mx SC SM w) (mx SC2 SM (oW w code v.toInt64)) [.ref (c.2.2.1 0 6 0), .int a1, .int a2, .int a3, .ref (c.2.2.1 2 900 0)] (if code = 1 then 1 else if code = 2 then 2 else if code = 3 then 3 else 0) := by
  refine mk_W (own := RL) (by decide +kernel) rfl (Nat.le_of_ble_eq_true rfl) (fun x hx hR hy htab hE => ?_)
  subst hy
  have hK9 : x_K x = KLw := hK
  have hs : SPL (x_ad x) (x_K x) KK (KM ++ [(2, 900, 0)]) := by rw [hK9]; exact spl_C (by rw [← hK9]; exact hx.2.2.2.2.2.2.1)
  show WX x 6 0 0 (mx SC SM w) 0 [(0, .ref (x_ad x 0 6 0)), (1, .int a1), (2, .int a2), (3, .int a3), (4, .ref (x_ad x 2 900 0))] []
  refine r_aload (k0 := 4) hx dL_term_0 rfl ?_
  refine r_iconst (v := 0) hx dL_term_2 (by decide) ?_
  refine r_aload_n (k0 := 0) hx dL_term_3 rfl rfl ?_
  refine r_iload_n (k0 := 1) hx dL_term_4 rfl rfl ?_
  refine r_iload_n (k0 := 2) hx dL_term_5 rfl rfl ?_
  refine r_iload_n (k0 := 3) hx dL_term_6 rfl rfl ?_
  refine p_XC (S1 := mx SC2 SM w) (C := RX7) (T := TX7) (N := 7) (As := [.int a1, .int a2, .int a3]) (rest := [.int 0, .ref (x_ad x 2 900 0)]) (n := 3) hx hs eC0 (C_X7_term (c := x_yA x KK) (fun _ hk => hk) hst h) eC0 eC2 (by rw [hK9]; exact KL_C (k_0_6 (fun _ hk => hk))) rfl wl_L_37 wi_X7_term we_X7_term wn_X7 wc_X7_term (by decide +kernel) rfl (by rw [hR]; decide +kernel) rfl (Nat.le_of_ble_eq_true rfl) dL_term_7 (fun ht => ?_) (fun ht => ?_)
  · rw [htab]
    rcases hc with rfl | rfl | rfl | rfl
    · exact absurd rfl ht
    · refine ⟨[], ⟨0, 12, 15, 13⟩, [⟨0, 12, 19, 15⟩, ⟨0, 12, 23, 17⟩], rfl, (fun z hz => absurd hz List.not_mem_nil), by decide, by decide, by rw [exn_1]; exact wa_L_13, by decide +kernel, fun q9 => ?_⟩
      show WX x 6 _ _ _ 15 _ _
      refine r_astore (lv' := [(5, .ref q9), (0, .ref (x_ad x 0 6 0)), (1, .int a1), (2, .int a2), (3, .int a3), (4, .ref (x_ad x 2 900 0))]) hx dL_term_15 (by decide) rfl ?_
      refine r_iconst (v := 1) hx dL_term_17 (by decide) ?_
      exact r_wret hE (by decide) (by decide) (by rw [oW_n (by decide)]) (by decide) dL_term_18
    · refine ⟨[⟨0, 12, 15, 13⟩], ⟨0, 12, 19, 15⟩, [⟨0, 12, 23, 17⟩], rfl, (List.forall_mem_cons.mpr ⟨Or.inr ⟨by decide, exn 1, by rw [exn_1]; exact wa_L_13, by decide +kernel⟩, fun z hz => absurd hz List.not_mem_nil⟩), by decide, by decide, by rw [exn_2]; exact wa_L_15, by decide +kernel, fun q9 => ?_⟩
      show WX x 6 _ _ _ 19 _ _
      refine r_astore (lv' := [(5, .ref q9), (0, .ref (x_ad x 0 6 0)), (1, .int a1), (2, .int a2), (3, .int a3), (4, .ref (x_ad x 2 900 0))]) hx dL_term_19 (by decide) rfl ?_
      refine r_iconst (v := 2) hx dL_term_21 (by decide) ?_
      exact r_wret hE (by decide) (by decide) (by rw [oW_n (by decide)]) (by decide) dL_term_22
    · refine ⟨[⟨0, 12, 15, 13⟩, ⟨0, 12, 19, 15⟩], ⟨0, 12, 23, 17⟩, [], rfl, (List.forall_mem_cons.mpr ⟨Or.inr ⟨by decide, exn 1, by rw [exn_1]; exact wa_L_13, by decide +kernel⟩, List.forall_mem_cons.mpr ⟨Or.inr ⟨by decide, exn 2, by rw [exn_2]; exact wa_L_15, by decide +kernel⟩, fun z hz => absurd hz List.not_mem_nil⟩⟩), by decide, by decide, by rw [exn_3]; exact wa_L_17, by decide +kernel, fun q9 => ?_⟩
      show WX x 6 _ _ _ 23 _ _
      refine r_astore (lv' := [(5, .ref q9), (0, .ref (x_ad x 0 6 0)), (1, .int a1), (2, .int a2), (3, .int a3), (4, .ref (x_ad x 2 900 0))]) hx dL_term_23 (by decide) rfl ?_
      refine r_iconst (v := 3) hx dL_term_25 (by decide) ?_
      exact r_wret hE (by decide) (by decide) (by rw [oW_n (by decide)]) (by decide) dL_term_26
  · subst ht
    refine r_i2l hx dL_term_10 ?_
    refine r_last (S1 := mx SC2 SM (vp_updL w 0 v.toInt64)) (L := 1) hx (by rw [hK9]; exact KL_O) rfl (show ¬ ((0 : Int32) < 0 ∨ 1 ≤ (0 : Int32).toNatClampNeg) by decide) sL_mx.symm dL_term_11 ?_
    refine r_goto (tgt := 27) hx dL_term_12 (by decide) ?_
    refine r_iconst (v := 0) hx dL_term_27 (by decide) ?_
    exact r_wret hE (by decide) (by decide) (by rw [oW_0]) (by decide) dL_term_28
theorem dL_let_0 : decode cL_let 0 = .ok (.aload 4, 2) := by decide +kernel
theorem dL_let_2 : decode cL_let 2 = .ok (.iconst 0, 1) := by decide +kernel
theorem dL_let_3 : decode cL_let 3 = .ok (.aload_n 0, 1) := by decide +kernel
theorem dL_let_4 : decode cL_let 4 = .ok (.iload_n 1, 1) := by decide +kernel
theorem dL_let_5 : decode cL_let 5 = .ok (.iload_n 2, 1) := by decide +kernel
theorem dL_let_6 : decode cL_let 6 = .ok (.iload_n 3, 1) := by decide +kernel
theorem dL_let_7 : decode cL_let 7 = .ok (.invokevirtual 40, 3) := by decide +kernel
theorem dL_let_10 : decode cL_let 10 = .ok (.i2l, 1) := by decide +kernel
theorem dL_let_11 : decode cL_let 11 = .ok (.lastore, 1) := by decide +kernel
theorem dL_let_12 : decode cL_let 12 = .ok (.goto 11, 3) := by decide +kernel
theorem dL_let_15 : decode cL_let 15 = .ok (.astore 5, 2) := by decide +kernel
theorem dL_let_17 : decode cL_let 17 = .ok (.iconst 1, 1) := by decide +kernel
theorem dL_let_18 : decode cL_let 18 = .ok (.ireturn, 1) := by decide +kernel
theorem dL_let_19 : decode cL_let 19 = .ok (.astore 5, 2) := by decide +kernel
theorem dL_let_21 : decode cL_let 21 = .ok (.iconst 2, 1) := by decide +kernel
theorem dL_let_22 : decode cL_let 22 = .ok (.ireturn, 1) := by decide +kernel
theorem dL_let_23 : decode cL_let 23 = .ok (.iconst 0, 1) := by decide +kernel
theorem dL_let_24 : decode cL_let 24 = .ok (.ireturn, 1) := by decide +kernel
abbrev hh_let : HH := [(0, 12, 15, 15), (0, 12, 19, 17)]
theorem ww_let : Cond.codeWith yL_let cL_let 6 (some .int) hh_let ∈ TB := tb3 (List.mem_of_getElem? (i := 60) rfl) rfl
set_option maxRecDepth 100000 in
set_option maxHeartbeats 4000000 in
theorem L_let {n : Nat} {c : YC} (hK : c.2.2.2.2 = KLw) (hst : c.1.stackTraces = false) {SC SM SC2 : St} {w : Nat → Int64} {a1 a2 a3 code v : Int32} (h : f_X7_let n SC a1 a2 a3 = some (SC2, code, v)) (hc : code = 0 ∨ code = 2 ∨ code = 3) : MW c yL_let cL_let 6 hh_let rmW 4 24 (mx SC SM w) (mx SC2 SM (oW w code v.toInt64)) [.ref (c.2.2.1 0 6 0), .int a1, .int a2, .int a3, .ref (c.2.2.1 2 900 0)] (if code = 2 then 1 else if code = 3 then 2 else 0) := by
  refine mk_W (own := RL) (by decide +kernel) rfl (Nat.le_of_ble_eq_true rfl) (fun x hx hR hy htab hE => ?_)
  subst hy
  have hK9 : x_K x = KLw := hK
  have hs : SPL (x_ad x) (x_K x) KK (KM ++ [(2, 900, 0)]) := by rw [hK9]; exact spl_C (by rw [← hK9]; exact hx.2.2.2.2.2.2.1)
  show WX x 6 0 0 (mx SC SM w) 0 [(0, .ref (x_ad x 0 6 0)), (1, .int a1), (2, .int a2), (3, .int a3), (4, .ref (x_ad x 2 900 0))] []
  refine r_aload (k0 := 4) hx dL_let_0 rfl ?_
  refine r_iconst (v := 0) hx dL_let_2 (by decide) ?_
  refine r_aload_n (k0 := 0) hx dL_let_3 rfl rfl ?_
  refine r_iload_n (k0 := 1) hx dL_let_4 rfl rfl ?_
  refine r_iload_n (k0 := 2) hx dL_let_5 rfl rfl ?_
  refine r_iload_n (k0 := 3) hx dL_let_6 rfl rfl ?_
  refine p_XC (S1 := mx SC2 SM w) (C := RX7) (T := TX7) (N := 7) (As := [.int a1, .int a2, .int a3]) (rest := [.int 0, .ref (x_ad x 2 900 0)]) (n := 3) hx hs eC0 (C_X7_let (c := x_yA x KK) (fun _ hk => hk) hst h) eC0 eC2 (by rw [hK9]; exact KL_C (k_0_6 (fun _ hk => hk))) rfl wl_L_40 wi_X7_let we_X7_let wn_X7 wc_X7_let (by decide +kernel) rfl (by rw [hR]; decide +kernel) rfl (Nat.le_of_ble_eq_true rfl) dL_let_7 (fun ht => ?_) (fun ht => ?_)
  · rw [htab]
    rcases hc with rfl | rfl | rfl
    · exact absurd rfl ht
    · refine ⟨[], ⟨0, 12, 15, 15⟩, [⟨0, 12, 19, 17⟩], rfl, (fun z hz => absurd hz List.not_mem_nil), by decide, by decide, by rw [exn_2]; exact wa_L_15, by decide +kernel, fun q9 => ?_⟩
      show WX x 6 _ _ _ 15 _ _
      refine r_astore (lv' := [(5, .ref q9), (0, .ref (x_ad x 0 6 0)), (1, .int a1), (2, .int a2), (3, .int a3), (4, .ref (x_ad x 2 900 0))]) hx dL_let_15 (by decide) rfl ?_
      refine r_iconst (v := 1) hx dL_let_17 (by decide) ?_
      exact r_wret hE (by decide) (by decide) (by rw [oW_n (by decide)]) (by decide) dL_let_18
    · refine ⟨[⟨0, 12, 15, 15⟩], ⟨0, 12, 19, 17⟩, [], rfl, (List.forall_mem_cons.mpr ⟨Or.inr ⟨by decide, exn 2, by rw [exn_2]; exact wa_L_15, by decide +kernel⟩, fun z hz => absurd hz List.not_mem_nil⟩), by decide, by decide, by rw [exn_3]; exact wa_L_17, by decide +kernel, fun q9 => ?_⟩
      show WX x 6 _ _ _ 19 _ _
      refine r_astore (lv' := [(5, .ref q9), (0, .ref (x_ad x 0 6 0)), (1, .int a1), (2, .int a2), (3, .int a3), (4, .ref (x_ad x 2 900 0))]) hx dL_let_19 (by decide) rfl ?_
      refine r_iconst (v := 2) hx dL_let_21 (by decide) ?_
      exact r_wret hE (by decide) (by decide) (by rw [oW_n (by decide)]) (by decide) dL_let_22
  · subst ht
    refine r_i2l hx dL_let_10 ?_
    refine r_last (S1 := mx SC2 SM (vp_updL w 0 v.toInt64)) (L := 1) hx (by rw [hK9]; exact KL_O) rfl (show ¬ ((0 : Int32) < 0 ∨ 1 ≤ (0 : Int32).toNatClampNeg) by decide) sL_mx.symm dL_let_11 ?_
    refine r_goto (tgt := 23) hx dL_let_12 (by decide) ?_
    refine r_iconst (v := 0) hx dL_let_23 (by decide) ?_
    exact r_wret hE (by decide) (by decide) (by rw [oW_0]) (by decide) dL_let_24
theorem dL_type_0 : decode cL_type 0 = .ok (.aload_n 2, 1) := by decide +kernel
theorem dL_type_1 : decode cL_type 1 = .ok (.iconst 0, 1) := by decide +kernel
theorem dL_type_2 : decode cL_type 2 = .ok (.aload_n 0, 1) := by decide +kernel
theorem dL_type_3 : decode cL_type 3 = .ok (.iload_n 1, 1) := by decide +kernel
theorem dL_type_4 : decode cL_type 4 = .ok (.invokevirtual 43, 3) := by decide +kernel
theorem dL_type_7 : decode cL_type 7 = .ok (.i2l, 1) := by decide +kernel
theorem dL_type_8 : decode cL_type 8 = .ok (.lastore, 1) := by decide +kernel
theorem dL_type_9 : decode cL_type 9 = .ok (.goto 9, 3) := by decide +kernel
theorem dL_type_12 : decode cL_type 12 = .ok (.astore_n 3, 1) := by decide +kernel
theorem dL_type_13 : decode cL_type 13 = .ok (.iconst 1, 1) := by decide +kernel
theorem dL_type_14 : decode cL_type 14 = .ok (.ireturn, 1) := by decide +kernel
theorem dL_type_15 : decode cL_type 15 = .ok (.astore_n 3, 1) := by decide +kernel
theorem dL_type_16 : decode cL_type 16 = .ok (.iconst 2, 1) := by decide +kernel
theorem dL_type_17 : decode cL_type 17 = .ok (.ireturn, 1) := by decide +kernel
theorem dL_type_18 : decode cL_type 18 = .ok (.iconst 0, 1) := by decide +kernel
theorem dL_type_19 : decode cL_type 19 = .ok (.ireturn, 1) := by decide +kernel
abbrev hh_type : HH := [(0, 9, 12, 15), (0, 9, 15, 17)]
theorem ww_type : Cond.codeWith yL_type cL_type 4 (some .int) hh_type ∈ TB := tb3 (List.mem_of_getElem? (i := 67) rfl) rfl
set_option maxRecDepth 100000 in
set_option maxHeartbeats 4000000 in
theorem L_type {n : Nat} {c : YC} (hK : c.2.2.2.2 = KLw) (hst : c.1.stackTraces = false) {SC SM SC2 : St} {w : Nat → Int64} {a1 code v : Int32} (h : f_X7_type n SC a1 = some (SC2, code, v)) (hc : code = 0 ∨ code = 2 ∨ code = 3) : MW c yL_type cL_type 4 hh_type rmW 4 24 (mx SC SM w) (mx SC2 SM (oW w code v.toInt64)) [.ref (c.2.2.1 0 6 0), .int a1, .ref (c.2.2.1 2 900 0)] (if code = 2 then 1 else if code = 3 then 2 else 0) := by
  refine mk_W (own := RL) (by decide +kernel) rfl (Nat.le_of_ble_eq_true rfl) (fun x hx hR hy htab hE => ?_)
  subst hy
  have hK9 : x_K x = KLw := hK
  have hs : SPL (x_ad x) (x_K x) KK (KM ++ [(2, 900, 0)]) := by rw [hK9]; exact spl_C (by rw [← hK9]; exact hx.2.2.2.2.2.2.1)
  show WX x 4 0 0 (mx SC SM w) 0 [(0, .ref (x_ad x 0 6 0)), (1, .int a1), (2, .ref (x_ad x 2 900 0))] []
  refine r_aload_n (k0 := 2) hx dL_type_0 rfl rfl ?_
  refine r_iconst (v := 0) hx dL_type_1 (by decide) ?_
  refine r_aload_n (k0 := 0) hx dL_type_2 rfl rfl ?_
  refine r_iload_n (k0 := 1) hx dL_type_3 rfl rfl ?_
  refine p_XC (S1 := mx SC2 SM w) (C := RX7) (T := TX7) (N := 7) (As := [.int a1]) (rest := [.int 0, .ref (x_ad x 2 900 0)]) (n := 1) hx hs eC0 (C_X7_type (c := x_yA x KK) (fun _ hk => hk) hst h) eC0 eC2 (by rw [hK9]; exact KL_C (k_0_6 (fun _ hk => hk))) rfl wl_L_43 wi_X7_type we_X7_type wn_X7 wc_X7_type (by decide +kernel) rfl (by rw [hR]; decide +kernel) rfl (Nat.le_of_ble_eq_true rfl) dL_type_4 (fun ht => ?_) (fun ht => ?_)
  · rw [htab]
    rcases hc with rfl | rfl | rfl
    · exact absurd rfl ht
    · refine ⟨[], ⟨0, 9, 12, 15⟩, [⟨0, 9, 15, 17⟩], rfl, (fun z hz => absurd hz List.not_mem_nil), by decide, by decide, by rw [exn_2]; exact wa_L_15, by decide +kernel, fun q9 => ?_⟩
      show WX x 4 _ _ _ 12 _ _
      refine r_astore_n (lv' := [(3, .ref q9), (0, .ref (x_ad x 0 6 0)), (1, .int a1), (2, .ref (x_ad x 2 900 0))]) hx dL_type_12 rfl (by decide) rfl ?_
      refine r_iconst (v := 1) hx dL_type_13 (by decide) ?_
      exact r_wret hE (by decide) (by decide) (by rw [oW_n (by decide)]) (by decide) dL_type_14
    · refine ⟨[⟨0, 9, 12, 15⟩], ⟨0, 9, 15, 17⟩, [], rfl, (List.forall_mem_cons.mpr ⟨Or.inr ⟨by decide, exn 2, by rw [exn_2]; exact wa_L_15, by decide +kernel⟩, fun z hz => absurd hz List.not_mem_nil⟩), by decide, by decide, by rw [exn_3]; exact wa_L_17, by decide +kernel, fun q9 => ?_⟩
      show WX x 4 _ _ _ 15 _ _
      refine r_astore_n (lv' := [(3, .ref q9), (0, .ref (x_ad x 0 6 0)), (1, .int a1), (2, .ref (x_ad x 2 900 0))]) hx dL_type_15 rfl (by decide) rfl ?_
      refine r_iconst (v := 2) hx dL_type_16 (by decide) ?_
      exact r_wret hE (by decide) (by decide) (by rw [oW_n (by decide)]) (by decide) dL_type_17
  · subst ht
    refine r_i2l hx dL_type_7 ?_
    refine r_last (S1 := mx SC2 SM (vp_updL w 0 v.toInt64)) (L := 1) hx (by rw [hK9]; exact KL_O) rfl (show ¬ ((0 : Int32) < 0 ∨ 1 ≤ (0 : Int32).toNatClampNeg) by decide) sL_mx.symm dL_type_8 ?_
    refine r_goto (tgt := 18) hx dL_type_9 (by decide) ?_
    refine r_iconst (v := 0) hx dL_type_18 (by decide) ?_
    exact r_wret hE (by decide) (by decide) (by rw [oW_0]) (by decide) dL_type_19
theorem dL_normal_0 : decode cL_normal 0 = .ok (.aload_n 2, 1) := by decide +kernel
theorem dL_normal_1 : decode cL_normal 1 = .ok (.iconst 0, 1) := by decide +kernel
theorem dL_normal_2 : decode cL_normal 2 = .ok (.aload_n 0, 1) := by decide +kernel
theorem dL_normal_3 : decode cL_normal 3 = .ok (.iload_n 1, 1) := by decide +kernel
theorem dL_normal_4 : decode cL_normal 4 = .ok (.invokevirtual 46, 3) := by decide +kernel
theorem dL_normal_7 : decode cL_normal 7 = .ok (.i2l, 1) := by decide +kernel
theorem dL_normal_8 : decode cL_normal 8 = .ok (.lastore, 1) := by decide +kernel
theorem dL_normal_9 : decode cL_normal 9 = .ok (.goto 9, 3) := by decide +kernel
theorem dL_normal_12 : decode cL_normal 12 = .ok (.astore_n 3, 1) := by decide +kernel
theorem dL_normal_13 : decode cL_normal 13 = .ok (.iconst 1, 1) := by decide +kernel
theorem dL_normal_14 : decode cL_normal 14 = .ok (.ireturn, 1) := by decide +kernel
theorem dL_normal_15 : decode cL_normal 15 = .ok (.astore_n 3, 1) := by decide +kernel
theorem dL_normal_16 : decode cL_normal 16 = .ok (.iconst 2, 1) := by decide +kernel
theorem dL_normal_17 : decode cL_normal 17 = .ok (.ireturn, 1) := by decide +kernel
theorem dL_normal_18 : decode cL_normal 18 = .ok (.iconst 0, 1) := by decide +kernel
theorem dL_normal_19 : decode cL_normal 19 = .ok (.ireturn, 1) := by decide +kernel
abbrev hh_normal : HH := [(0, 9, 12, 15), (0, 9, 15, 17)]
theorem ww_normal : Cond.codeWith yL_normal cL_normal 4 (some .int) hh_normal ∈ TB := tb4 (List.mem_of_getElem? (i := 8) rfl) rfl
set_option maxRecDepth 100000 in
set_option maxHeartbeats 4000000 in
theorem L_normal {n : Nat} {c : YC} (hK : c.2.2.2.2 = KLw) (hst : c.1.stackTraces = false) {SC SM SC2 : St} {w : Nat → Int64} {a1 code v : Int32} (h : f_X7_normal n SC a1 = some (SC2, code, v)) (hc : code = 0 ∨ code = 2 ∨ code = 3) : MW c yL_normal cL_normal 4 hh_normal rmW 4 24 (mx SC SM w) (mx SC2 SM (oW w code v.toInt64)) [.ref (c.2.2.1 0 6 0), .int a1, .ref (c.2.2.1 2 900 0)] (if code = 2 then 1 else if code = 3 then 2 else 0) := by
  refine mk_W (own := RL) (by decide +kernel) rfl (Nat.le_of_ble_eq_true rfl) (fun x hx hR hy htab hE => ?_)
  subst hy
  have hK9 : x_K x = KLw := hK
  have hs : SPL (x_ad x) (x_K x) KK (KM ++ [(2, 900, 0)]) := by rw [hK9]; exact spl_C (by rw [← hK9]; exact hx.2.2.2.2.2.2.1)
  show WX x 4 0 0 (mx SC SM w) 0 [(0, .ref (x_ad x 0 6 0)), (1, .int a1), (2, .ref (x_ad x 2 900 0))] []
  refine r_aload_n (k0 := 2) hx dL_normal_0 rfl rfl ?_
  refine r_iconst (v := 0) hx dL_normal_1 (by decide) ?_
  refine r_aload_n (k0 := 0) hx dL_normal_2 rfl rfl ?_
  refine r_iload_n (k0 := 1) hx dL_normal_3 rfl rfl ?_
  refine p_XC (S1 := mx SC2 SM w) (C := RX7) (T := TX7) (N := 7) (As := [.int a1]) (rest := [.int 0, .ref (x_ad x 2 900 0)]) (n := 1) hx hs eC0 (C_X7_normal (c := x_yA x KK) (fun _ hk => hk) hst h) eC0 eC2 (by rw [hK9]; exact KL_C (k_0_6 (fun _ hk => hk))) rfl wl_L_46 wi_X7_normal we_X7_normal wn_X7 wc_X7_normal (by decide +kernel) rfl (by rw [hR]; decide +kernel) rfl (Nat.le_of_ble_eq_true rfl) dL_normal_4 (fun ht => ?_) (fun ht => ?_)
  · rw [htab]
    rcases hc with rfl | rfl | rfl
    · exact absurd rfl ht
    · refine ⟨[], ⟨0, 9, 12, 15⟩, [⟨0, 9, 15, 17⟩], rfl, (fun z hz => absurd hz List.not_mem_nil), by decide, by decide, by rw [exn_2]; exact wa_L_15, by decide +kernel, fun q9 => ?_⟩
      show WX x 4 _ _ _ 12 _ _
      refine r_astore_n (lv' := [(3, .ref q9), (0, .ref (x_ad x 0 6 0)), (1, .int a1), (2, .ref (x_ad x 2 900 0))]) hx dL_normal_12 rfl (by decide) rfl ?_
      refine r_iconst (v := 1) hx dL_normal_13 (by decide) ?_
      exact r_wret hE (by decide) (by decide) (by rw [oW_n (by decide)]) (by decide) dL_normal_14
    · refine ⟨[⟨0, 9, 12, 15⟩], ⟨0, 9, 15, 17⟩, [], rfl, (List.forall_mem_cons.mpr ⟨Or.inr ⟨by decide, exn 2, by rw [exn_2]; exact wa_L_15, by decide +kernel⟩, fun z hz => absurd hz List.not_mem_nil⟩), by decide, by decide, by rw [exn_3]; exact wa_L_17, by decide +kernel, fun q9 => ?_⟩
      show WX x 4 _ _ _ 15 _ _
      refine r_astore_n (lv' := [(3, .ref q9), (0, .ref (x_ad x 0 6 0)), (1, .int a1), (2, .ref (x_ad x 2 900 0))]) hx dL_normal_15 rfl (by decide) rfl ?_
      refine r_iconst (v := 2) hx dL_normal_16 (by decide) ?_
      exact r_wret hE (by decide) (by decide) (by rw [oW_n (by decide)]) (by decide) dL_normal_17
  · subst ht
    refine r_i2l hx dL_normal_7 ?_
    refine r_last (S1 := mx SC2 SM (vp_updL w 0 v.toInt64)) (L := 1) hx (by rw [hK9]; exact KL_O) rfl (show ¬ ((0 : Int32) < 0 ∨ 1 ≤ (0 : Int32).toNatClampNeg) by decide) sL_mx.symm dL_normal_8 ?_
    refine r_goto (tgt := 18) hx dL_normal_9 (by decide) ?_
    refine r_iconst (v := 0) hx dL_normal_18 (by decide) ?_
    exact r_wret hE (by decide) (by decide) (by rw [oW_0]) (by decide) dL_normal_19
theorem dL_steps_0 : decode cL_steps 0 = .ok (.aload_n 2, 1) := by decide +kernel
theorem dL_steps_1 : decode cL_steps 1 = .ok (.iconst 0, 1) := by decide +kernel
theorem dL_steps_2 : decode cL_steps 2 = .ok (.aload_n 0, 1) := by decide +kernel
theorem dL_steps_3 : decode cL_steps 3 = .ok (.iload_n 1, 1) := by decide +kernel
theorem dL_steps_4 : decode cL_steps 4 = .ok (.invokevirtual 49, 3) := by decide +kernel
theorem dL_steps_7 : decode cL_steps 7 = .ok (.i2l, 1) := by decide +kernel
theorem dL_steps_8 : decode cL_steps 8 = .ok (.lastore, 1) := by decide +kernel
theorem dL_steps_9 : decode cL_steps 9 = .ok (.goto 6, 3) := by decide +kernel
theorem dL_steps_12 : decode cL_steps 12 = .ok (.astore_n 3, 1) := by decide +kernel
theorem dL_steps_13 : decode cL_steps 13 = .ok (.iconst 1, 1) := by decide +kernel
theorem dL_steps_14 : decode cL_steps 14 = .ok (.ireturn, 1) := by decide +kernel
theorem dL_steps_15 : decode cL_steps 15 = .ok (.iconst 0, 1) := by decide +kernel
theorem dL_steps_16 : decode cL_steps 16 = .ok (.ireturn, 1) := by decide +kernel
abbrev hh_steps : HH := [(0, 9, 12, 15)]
theorem ww_steps : Cond.codeWith yL_steps cL_steps 4 (some .int) hh_steps ∈ TB := tb4 (List.mem_of_getElem? (i := 17) rfl) rfl
set_option maxRecDepth 100000 in
set_option maxHeartbeats 4000000 in
theorem L_steps {n : Nat} {c : YC} (hK : c.2.2.2.2 = KLw) (hst : c.1.stackTraces = false) {SC SM SC2 : St} {w : Nat → Int64} {a1 code v : Int32} (h : f_X7_steps n SC a1 = some (SC2, code, v)) (hc : code = 0 ∨ code = 2) : MW c yL_steps cL_steps 4 hh_steps rmW 4 24 (mx SC SM w) (mx SC2 SM (oW w code v.toInt64)) [.ref (c.2.2.1 0 6 0), .int a1, .ref (c.2.2.1 2 900 0)] (if code = 2 then 1 else 0) := by
  refine mk_W (own := RL) (by decide +kernel) rfl (Nat.le_of_ble_eq_true rfl) (fun x hx hR hy htab hE => ?_)
  subst hy
  have hK9 : x_K x = KLw := hK
  have hs : SPL (x_ad x) (x_K x) KK (KM ++ [(2, 900, 0)]) := by rw [hK9]; exact spl_C (by rw [← hK9]; exact hx.2.2.2.2.2.2.1)
  show WX x 4 0 0 (mx SC SM w) 0 [(0, .ref (x_ad x 0 6 0)), (1, .int a1), (2, .ref (x_ad x 2 900 0))] []
  refine r_aload_n (k0 := 2) hx dL_steps_0 rfl rfl ?_
  refine r_iconst (v := 0) hx dL_steps_1 (by decide) ?_
  refine r_aload_n (k0 := 0) hx dL_steps_2 rfl rfl ?_
  refine r_iload_n (k0 := 1) hx dL_steps_3 rfl rfl ?_
  refine p_XC (S1 := mx SC2 SM w) (C := RX7) (T := TX7) (N := 7) (As := [.int a1]) (rest := [.int 0, .ref (x_ad x 2 900 0)]) (n := 1) hx hs eC0 (C_X7_steps (c := x_yA x KK) (fun _ hk => hk) hst h) eC0 eC2 (by rw [hK9]; exact KL_C (k_0_6 (fun _ hk => hk))) rfl wl_L_49 wi_X7_steps we_X7_steps wn_X7 wc_X7_steps (by decide +kernel) rfl (by rw [hR]; decide +kernel) rfl (Nat.le_of_ble_eq_true rfl) dL_steps_4 (fun ht => ?_) (fun ht => ?_)
  · rw [htab]
    rcases hc with rfl | rfl
    · exact absurd rfl ht
    · refine ⟨[], ⟨0, 9, 12, 15⟩, [], rfl, (fun z hz => absurd hz List.not_mem_nil), by decide, by decide, by rw [exn_2]; exact wa_L_15, by decide +kernel, fun q9 => ?_⟩
      show WX x 4 _ _ _ 12 _ _
      refine r_astore_n (lv' := [(3, .ref q9), (0, .ref (x_ad x 0 6 0)), (1, .int a1), (2, .ref (x_ad x 2 900 0))]) hx dL_steps_12 rfl (by decide) rfl ?_
      refine r_iconst (v := 1) hx dL_steps_13 (by decide) ?_
      exact r_wret hE (by decide) (by decide) (by rw [oW_n (by decide)]) (by decide) dL_steps_14
  · subst ht
    refine r_i2l hx dL_steps_7 ?_
    refine r_last (S1 := mx SC2 SM (vp_updL w 0 v.toInt64)) (L := 1) hx (by rw [hK9]; exact KL_O) rfl (show ¬ ((0 : Int32) < 0 ∨ 1 ≤ (0 : Int32).toNatClampNeg) by decide) sL_mx.symm dL_steps_8 ?_
    refine r_goto (tgt := 15) hx dL_steps_9 (by decide) ?_
    refine r_iconst (v := 0) hx dL_steps_15 (by decide) ?_
    exact r_wret hE (by decide) (by decide) (by rw [oW_0]) (by decide) dL_steps_16
theorem dL_same_0 : decode cL_same 0 = .ok (.aload_n 3, 1) := by decide +kernel
theorem dL_same_1 : decode cL_same 1 = .ok (.iconst 0, 1) := by decide +kernel
theorem dL_same_2 : decode cL_same 2 = .ok (.aload_n 0, 1) := by decide +kernel
theorem dL_same_3 : decode cL_same 3 = .ok (.iload_n 1, 1) := by decide +kernel
theorem dL_same_4 : decode cL_same 4 = .ok (.iload_n 2, 1) := by decide +kernel
theorem dL_same_5 : decode cL_same 5 = .ok (.invokevirtual 52, 3) := by decide +kernel
theorem dL_same_8 : decode cL_same 8 = .ok (.i2l, 1) := by decide +kernel
theorem dL_same_9 : decode cL_same 9 = .ok (.lastore, 1) := by decide +kernel
theorem dL_same_10 : decode cL_same 10 = .ok (.goto 7, 3) := by decide +kernel
theorem dL_same_13 : decode cL_same 13 = .ok (.astore 4, 2) := by decide +kernel
theorem dL_same_15 : decode cL_same 15 = .ok (.iconst 1, 1) := by decide +kernel
theorem dL_same_16 : decode cL_same 16 = .ok (.ireturn, 1) := by decide +kernel
theorem dL_same_17 : decode cL_same 17 = .ok (.iconst 0, 1) := by decide +kernel
theorem dL_same_18 : decode cL_same 18 = .ok (.ireturn, 1) := by decide +kernel
abbrev hh_same : HH := [(0, 10, 13, 15)]
theorem ww_same : Cond.codeWith yL_same cL_same 5 (some .int) hh_same ∈ TB := tb4 (List.mem_of_getElem? (i := 24) rfl) rfl
set_option maxRecDepth 100000 in
set_option maxHeartbeats 4000000 in
theorem L_same {n : Nat} {c : YC} (hK : c.2.2.2.2 = KLw) (hst : c.1.stackTraces = false) {SC SM SC2 : St} {w : Nat → Int64} {a1 a2 code v : Int32} (h : f_X7_same n SC a1 a2 = some (SC2, code, v)) (hc : code = 0 ∨ code = 2) : MW c yL_same cL_same 5 hh_same rmW 4 24 (mx SC SM w) (mx SC2 SM (oW w code v.toInt64)) [.ref (c.2.2.1 0 6 0), .int a1, .int a2, .ref (c.2.2.1 2 900 0)] (if code = 2 then 1 else 0) := by
  refine mk_W (own := RL) (by decide +kernel) rfl (Nat.le_of_ble_eq_true rfl) (fun x hx hR hy htab hE => ?_)
  subst hy
  have hK9 : x_K x = KLw := hK
  have hs : SPL (x_ad x) (x_K x) KK (KM ++ [(2, 900, 0)]) := by rw [hK9]; exact spl_C (by rw [← hK9]; exact hx.2.2.2.2.2.2.1)
  show WX x 5 0 0 (mx SC SM w) 0 [(0, .ref (x_ad x 0 6 0)), (1, .int a1), (2, .int a2), (3, .ref (x_ad x 2 900 0))] []
  refine r_aload_n (k0 := 3) hx dL_same_0 rfl rfl ?_
  refine r_iconst (v := 0) hx dL_same_1 (by decide) ?_
  refine r_aload_n (k0 := 0) hx dL_same_2 rfl rfl ?_
  refine r_iload_n (k0 := 1) hx dL_same_3 rfl rfl ?_
  refine r_iload_n (k0 := 2) hx dL_same_4 rfl rfl ?_
  refine p_XC (S1 := mx SC2 SM w) (C := RX7) (T := TX7) (N := 7) (As := [.int a1, .int a2]) (rest := [.int 0, .ref (x_ad x 2 900 0)]) (n := 2) hx hs eC0 (C_X7_same (c := x_yA x KK) (fun _ hk => hk) hst h) eC0 eC2 (by rw [hK9]; exact KL_C (k_0_6 (fun _ hk => hk))) rfl wl_L_52 wi_X7_same we_X7_same wn_X7 wc_X7_same (by decide +kernel) rfl (by rw [hR]; decide +kernel) rfl (Nat.le_of_ble_eq_true rfl) dL_same_5 (fun ht => ?_) (fun ht => ?_)
  · rw [htab]
    rcases hc with rfl | rfl
    · exact absurd rfl ht
    · refine ⟨[], ⟨0, 10, 13, 15⟩, [], rfl, (fun z hz => absurd hz List.not_mem_nil), by decide, by decide, by rw [exn_2]; exact wa_L_15, by decide +kernel, fun q9 => ?_⟩
      show WX x 5 _ _ _ 13 _ _
      refine r_astore (lv' := [(4, .ref q9), (0, .ref (x_ad x 0 6 0)), (1, .int a1), (2, .int a2), (3, .ref (x_ad x 2 900 0))]) hx dL_same_13 (by decide) rfl ?_
      refine r_iconst (v := 1) hx dL_same_15 (by decide) ?_
      exact r_wret hE (by decide) (by decide) (by rw [oW_n (by decide)]) (by decide) dL_same_16
  · subst ht
    refine r_i2l hx dL_same_8 ?_
    refine r_last (S1 := mx SC2 SM (vp_updL w 0 v.toInt64)) (L := 1) hx (by rw [hK9]; exact KL_O) rfl (show ¬ ((0 : Int32) < 0 ∨ 1 ≤ (0 : Int32).toNatClampNeg) by decide) sL_mx.symm dL_same_9 ?_
    refine r_goto (tgt := 17) hx dL_same_10 (by decide) ?_
    refine r_iconst (v := 0) hx dL_same_17 (by decide) ?_
    exact r_wret hE (by decide) (by decide) (by rw [oW_0]) (by decide) dL_same_18
theorem dL_declare_0 : decode cL_declare 0 = .ok (.aload 4, 2) := by decide +kernel
theorem dL_declare_2 : decode cL_declare 2 = .ok (.iconst 0, 1) := by decide +kernel
theorem dL_declare_3 : decode cL_declare 3 = .ok (.aload_n 0, 1) := by decide +kernel
theorem dL_declare_4 : decode cL_declare 4 = .ok (.iload_n 1, 1) := by decide +kernel
theorem dL_declare_5 : decode cL_declare 5 = .ok (.iload_n 2, 1) := by decide +kernel
theorem dL_declare_6 : decode cL_declare 6 = .ok (.iload_n 3, 1) := by decide +kernel
theorem dL_declare_7 : decode cL_declare 7 = .ok (.invokevirtual 56, 3) := by decide +kernel
theorem dL_declare_10 : decode cL_declare 10 = .ok (.i2l, 1) := by decide +kernel
theorem dL_declare_11 : decode cL_declare 11 = .ok (.lastore, 1) := by decide +kernel
theorem dL_declare_12 : decode cL_declare 12 = .ok (.goto 15, 3) := by decide +kernel
theorem dL_declare_15 : decode cL_declare 15 = .ok (.astore 5, 2) := by decide +kernel
theorem dL_declare_17 : decode cL_declare 17 = .ok (.iconst 1, 1) := by decide +kernel
theorem dL_declare_18 : decode cL_declare 18 = .ok (.ireturn, 1) := by decide +kernel
theorem dL_declare_19 : decode cL_declare 19 = .ok (.astore 5, 2) := by decide +kernel
theorem dL_declare_21 : decode cL_declare 21 = .ok (.iconst 2, 1) := by decide +kernel
theorem dL_declare_22 : decode cL_declare 22 = .ok (.ireturn, 1) := by decide +kernel
theorem dL_declare_23 : decode cL_declare 23 = .ok (.astore 5, 2) := by decide +kernel
theorem dL_declare_25 : decode cL_declare 25 = .ok (.iconst 3, 1) := by decide +kernel
theorem dL_declare_26 : decode cL_declare 26 = .ok (.ireturn, 1) := by decide +kernel
theorem dL_declare_27 : decode cL_declare 27 = .ok (.iconst 0, 1) := by decide +kernel
theorem dL_declare_28 : decode cL_declare 28 = .ok (.ireturn, 1) := by decide +kernel
abbrev hh_declare : HH := [(0, 12, 15, 13), (0, 12, 19, 15), (0, 12, 23, 17)]
theorem ww_declare : Cond.codeWith yL_declare cL_declare 6 (some .int) hh_declare ∈ TB := tb4 (List.mem_of_getElem? (i := 32) rfl) rfl
set_option maxRecDepth 100000 in
set_option maxHeartbeats 4000000 in
theorem L_declare {n : Nat} {c : YC} (hK : c.2.2.2.2 = KLw) (hst : c.1.stackTraces = false) {SC SM SC2 : St} {w : Nat → Int64} {a1 a2 a3 code v : Int32} (h : f_X7_declare n SC a1 a2 a3 = some (SC2, code, v)) (hc : code = 0 ∨ code = 1 ∨ code = 2 ∨ code = 3) : MW c yL_declare cL_declare 6 hh_declare rmW 4 24 (mx SC SM w) (mx SC2 SM (oW w code v.toInt64)) [.ref (c.2.2.1 0 6 0), .int a1, .int a2, .int a3, .ref (c.2.2.1 2 900 0)] (if code = 1 then 1 else if code = 2 then 2 else if code = 3 then 3 else 0) := by
  refine mk_W (own := RL) (by decide +kernel) rfl (Nat.le_of_ble_eq_true rfl) (fun x hx hR hy htab hE => ?_)
  subst hy
  have hK9 : x_K x = KLw := hK
  have hs : SPL (x_ad x) (x_K x) KK (KM ++ [(2, 900, 0)]) := by rw [hK9]; exact spl_C (by rw [← hK9]; exact hx.2.2.2.2.2.2.1)
  show WX x 6 0 0 (mx SC SM w) 0 [(0, .ref (x_ad x 0 6 0)), (1, .int a1), (2, .int a2), (3, .int a3), (4, .ref (x_ad x 2 900 0))] []
  refine r_aload (k0 := 4) hx dL_declare_0 rfl ?_
  refine r_iconst (v := 0) hx dL_declare_2 (by decide) ?_
  refine r_aload_n (k0 := 0) hx dL_declare_3 rfl rfl ?_
  refine r_iload_n (k0 := 1) hx dL_declare_4 rfl rfl ?_
  refine r_iload_n (k0 := 2) hx dL_declare_5 rfl rfl ?_
  refine r_iload_n (k0 := 3) hx dL_declare_6 rfl rfl ?_
  refine p_XC (S1 := mx SC2 SM w) (C := RX7) (T := TX7) (N := 7) (As := [.int a1, .int a2, .int a3]) (rest := [.int 0, .ref (x_ad x 2 900 0)]) (n := 3) hx hs eC0 (C_X7_declare (c := x_yA x KK) (fun _ hk => hk) hst h) eC0 eC2 (by rw [hK9]; exact KL_C (k_0_6 (fun _ hk => hk))) rfl wl_L_56 wi_X7_declare we_X7_declare wn_X7 wc_X7_declare (by decide +kernel) rfl (by rw [hR]; decide +kernel) rfl (Nat.le_of_ble_eq_true rfl) dL_declare_7 (fun ht => ?_) (fun ht => ?_)
  · rw [htab]
    rcases hc with rfl | rfl | rfl | rfl
    · exact absurd rfl ht
    · refine ⟨[], ⟨0, 12, 15, 13⟩, [⟨0, 12, 19, 15⟩, ⟨0, 12, 23, 17⟩], rfl, (fun z hz => absurd hz List.not_mem_nil), by decide, by decide, by rw [exn_1]; exact wa_L_13, by decide +kernel, fun q9 => ?_⟩
      show WX x 6 _ _ _ 15 _ _
      refine r_astore (lv' := [(5, .ref q9), (0, .ref (x_ad x 0 6 0)), (1, .int a1), (2, .int a2), (3, .int a3), (4, .ref (x_ad x 2 900 0))]) hx dL_declare_15 (by decide) rfl ?_
      refine r_iconst (v := 1) hx dL_declare_17 (by decide) ?_
      exact r_wret hE (by decide) (by decide) (by rw [oW_n (by decide)]) (by decide) dL_declare_18
    · refine ⟨[⟨0, 12, 15, 13⟩], ⟨0, 12, 19, 15⟩, [⟨0, 12, 23, 17⟩], rfl, (List.forall_mem_cons.mpr ⟨Or.inr ⟨by decide, exn 1, by rw [exn_1]; exact wa_L_13, by decide +kernel⟩, fun z hz => absurd hz List.not_mem_nil⟩), by decide, by decide, by rw [exn_2]; exact wa_L_15, by decide +kernel, fun q9 => ?_⟩
      show WX x 6 _ _ _ 19 _ _
      refine r_astore (lv' := [(5, .ref q9), (0, .ref (x_ad x 0 6 0)), (1, .int a1), (2, .int a2), (3, .int a3), (4, .ref (x_ad x 2 900 0))]) hx dL_declare_19 (by decide) rfl ?_
      refine r_iconst (v := 2) hx dL_declare_21 (by decide) ?_
      exact r_wret hE (by decide) (by decide) (by rw [oW_n (by decide)]) (by decide) dL_declare_22
    · refine ⟨[⟨0, 12, 15, 13⟩, ⟨0, 12, 19, 15⟩], ⟨0, 12, 23, 17⟩, [], rfl, (List.forall_mem_cons.mpr ⟨Or.inr ⟨by decide, exn 1, by rw [exn_1]; exact wa_L_13, by decide +kernel⟩, List.forall_mem_cons.mpr ⟨Or.inr ⟨by decide, exn 2, by rw [exn_2]; exact wa_L_15, by decide +kernel⟩, fun z hz => absurd hz List.not_mem_nil⟩⟩), by decide, by decide, by rw [exn_3]; exact wa_L_17, by decide +kernel, fun q9 => ?_⟩
      show WX x 6 _ _ _ 23 _ _
      refine r_astore (lv' := [(5, .ref q9), (0, .ref (x_ad x 0 6 0)), (1, .int a1), (2, .int a2), (3, .int a3), (4, .ref (x_ad x 2 900 0))]) hx dL_declare_23 (by decide) rfl ?_
      refine r_iconst (v := 3) hx dL_declare_25 (by decide) ?_
      exact r_wret hE (by decide) (by decide) (by rw [oW_n (by decide)]) (by decide) dL_declare_26
  · subst ht
    refine r_i2l hx dL_declare_10 ?_
    refine r_last (S1 := mx SC2 SM (vp_updL w 0 v.toInt64)) (L := 1) hx (by rw [hK9]; exact KL_O) rfl (show ¬ ((0 : Int32) < 0 ∨ 1 ≤ (0 : Int32).toNatClampNeg) by decide) sL_mx.symm dL_declare_11 ?_
    refine r_goto (tgt := 27) hx dL_declare_12 (by decide) ?_
    refine r_iconst (v := 0) hx dL_declare_27 (by decide) ?_
    exact r_wret hE (by decide) (by decide) (by rw [oW_0]) (by decide) dL_declare_28
theorem dL_part_0 : decode cL_part 0 = .ok (.aload_n 3, 1) := by decide +kernel
theorem dL_part_1 : decode cL_part 1 = .ok (.iconst 0, 1) := by decide +kernel
theorem dL_part_2 : decode cL_part 2 = .ok (.aload_n 0, 1) := by decide +kernel
theorem dL_part_3 : decode cL_part 3 = .ok (.iload_n 1, 1) := by decide +kernel
theorem dL_part_4 : decode cL_part 4 = .ok (.iload_n 2, 1) := by decide +kernel
theorem dL_part_5 : decode cL_part 5 = .ok (.invokevirtual 59, 3) := by decide +kernel
theorem dL_part_8 : decode cL_part 8 = .ok (.i2l, 1) := by decide +kernel
theorem dL_part_9 : decode cL_part 9 = .ok (.lastore, 1) := by decide +kernel
theorem dL_part_10 : decode cL_part 10 = .ok (.goto 11, 3) := by decide +kernel
theorem dL_part_13 : decode cL_part 13 = .ok (.astore 4, 2) := by decide +kernel
theorem dL_part_15 : decode cL_part 15 = .ok (.iconst 1, 1) := by decide +kernel
theorem dL_part_16 : decode cL_part 16 = .ok (.ireturn, 1) := by decide +kernel
theorem dL_part_17 : decode cL_part 17 = .ok (.astore 4, 2) := by decide +kernel
theorem dL_part_19 : decode cL_part 19 = .ok (.iconst 2, 1) := by decide +kernel
theorem dL_part_20 : decode cL_part 20 = .ok (.ireturn, 1) := by decide +kernel
theorem dL_part_21 : decode cL_part 21 = .ok (.iconst 0, 1) := by decide +kernel
theorem dL_part_22 : decode cL_part 22 = .ok (.ireturn, 1) := by decide +kernel
abbrev hh_part : HH := [(0, 10, 13, 15), (0, 10, 17, 13)]
theorem ww_part : Cond.codeWith yL_part cL_part 5 (some .int) hh_part ∈ TB := tb4 (List.mem_of_getElem? (i := 61) rfl) rfl
set_option maxRecDepth 100000 in
set_option maxHeartbeats 4000000 in
theorem L_part {n : Nat} {c : YC} (hK : c.2.2.2.2 = KLw) (hst : c.1.stackTraces = false) {SC SM SC2 : St} {w : Nat → Int64} {a1 a2 code v : Int32} (h : f_X7_part n SC a1 a2 = some (SC2, code, v)) (hc : code = 0 ∨ code = 2 ∨ code = 1) : MW c yL_part cL_part 5 hh_part rmW 4 24 (mx SC SM w) (mx SC2 SM (oW w code v.toInt64)) [.ref (c.2.2.1 0 6 0), .int a1, .int a2, .ref (c.2.2.1 2 900 0)] (if code = 2 then 1 else if code = 1 then 2 else 0) := by
  refine mk_W (own := RL) (by decide +kernel) rfl (Nat.le_of_ble_eq_true rfl) (fun x hx hR hy htab hE => ?_)
  subst hy
  have hK9 : x_K x = KLw := hK
  have hs : SPL (x_ad x) (x_K x) KK (KM ++ [(2, 900, 0)]) := by rw [hK9]; exact spl_C (by rw [← hK9]; exact hx.2.2.2.2.2.2.1)
  show WX x 5 0 0 (mx SC SM w) 0 [(0, .ref (x_ad x 0 6 0)), (1, .int a1), (2, .int a2), (3, .ref (x_ad x 2 900 0))] []
  refine r_aload_n (k0 := 3) hx dL_part_0 rfl rfl ?_
  refine r_iconst (v := 0) hx dL_part_1 (by decide) ?_
  refine r_aload_n (k0 := 0) hx dL_part_2 rfl rfl ?_
  refine r_iload_n (k0 := 1) hx dL_part_3 rfl rfl ?_
  refine r_iload_n (k0 := 2) hx dL_part_4 rfl rfl ?_
  refine p_XC (S1 := mx SC2 SM w) (C := RX7) (T := TX7) (N := 7) (As := [.int a1, .int a2]) (rest := [.int 0, .ref (x_ad x 2 900 0)]) (n := 2) hx hs eC0 (C_X7_part (c := x_yA x KK) (fun _ hk => hk) hst h) eC0 eC2 (by rw [hK9]; exact KL_C (k_0_6 (fun _ hk => hk))) rfl wl_L_59 wi_X7_part we_X7_part wn_X7 wc_X7_part (by decide +kernel) rfl (by rw [hR]; decide +kernel) rfl (Nat.le_of_ble_eq_true rfl) dL_part_5 (fun ht => ?_) (fun ht => ?_)
  · rw [htab]
    rcases hc with rfl | rfl | rfl
    · exact absurd rfl ht
    · refine ⟨[], ⟨0, 10, 13, 15⟩, [⟨0, 10, 17, 13⟩], rfl, (fun z hz => absurd hz List.not_mem_nil), by decide, by decide, by rw [exn_2]; exact wa_L_15, by decide +kernel, fun q9 => ?_⟩
      show WX x 5 _ _ _ 13 _ _
      refine r_astore (lv' := [(4, .ref q9), (0, .ref (x_ad x 0 6 0)), (1, .int a1), (2, .int a2), (3, .ref (x_ad x 2 900 0))]) hx dL_part_13 (by decide) rfl ?_
      refine r_iconst (v := 1) hx dL_part_15 (by decide) ?_
      exact r_wret hE (by decide) (by decide) (by rw [oW_n (by decide)]) (by decide) dL_part_16
    · refine ⟨[⟨0, 10, 13, 15⟩], ⟨0, 10, 17, 13⟩, [], rfl, (List.forall_mem_cons.mpr ⟨Or.inr ⟨by decide, exn 2, by rw [exn_2]; exact wa_L_15, by decide +kernel⟩, fun z hz => absurd hz List.not_mem_nil⟩), by decide, by decide, by rw [exn_1]; exact wa_L_13, by decide +kernel, fun q9 => ?_⟩
      show WX x 5 _ _ _ 17 _ _
      refine r_astore (lv' := [(4, .ref q9), (0, .ref (x_ad x 0 6 0)), (1, .int a1), (2, .int a2), (3, .ref (x_ad x 2 900 0))]) hx dL_part_17 (by decide) rfl ?_
      refine r_iconst (v := 2) hx dL_part_19 (by decide) ?_
      exact r_wret hE (by decide) (by decide) (by rw [oW_n (by decide)]) (by decide) dL_part_20
  · subst ht
    refine r_i2l hx dL_part_8 ?_
    refine r_last (S1 := mx SC2 SM (vp_updL w 0 v.toInt64)) (L := 1) hx (by rw [hK9]; exact KL_O) rfl (show ¬ ((0 : Int32) < 0 ∨ 1 ≤ (0 : Int32).toNatClampNeg) by decide) sL_mx.symm dL_part_9 ?_
    refine r_goto (tgt := 21) hx dL_part_10 (by decide) ?_
    refine r_iconst (v := 0) hx dL_part_21 (by decide) ?_
    exact r_wret hE (by decide) (by decide) (by rw [oW_0]) (by decide) dL_part_22
theorem dL_levelPart_0 : decode cL_levelPart 0 = .ok (.aload_n 3, 1) := by decide +kernel
theorem dL_levelPart_1 : decode cL_levelPart 1 = .ok (.iconst 0, 1) := by decide +kernel
theorem dL_levelPart_2 : decode cL_levelPart 2 = .ok (.aload_n 0, 1) := by decide +kernel
theorem dL_levelPart_3 : decode cL_levelPart 3 = .ok (.iload_n 1, 1) := by decide +kernel
theorem dL_levelPart_4 : decode cL_levelPart 4 = .ok (.iload_n 2, 1) := by decide +kernel
theorem dL_levelPart_5 : decode cL_levelPart 5 = .ok (.invokevirtual 62, 3) := by decide +kernel
theorem dL_levelPart_8 : decode cL_levelPart 8 = .ok (.i2l, 1) := by decide +kernel
theorem dL_levelPart_9 : decode cL_levelPart 9 = .ok (.lastore, 1) := by decide +kernel
theorem dL_levelPart_10 : decode cL_levelPart 10 = .ok (.goto 11, 3) := by decide +kernel
theorem dL_levelPart_13 : decode cL_levelPart 13 = .ok (.astore 4, 2) := by decide +kernel
theorem dL_levelPart_15 : decode cL_levelPart 15 = .ok (.iconst 1, 1) := by decide +kernel
theorem dL_levelPart_16 : decode cL_levelPart 16 = .ok (.ireturn, 1) := by decide +kernel
theorem dL_levelPart_17 : decode cL_levelPart 17 = .ok (.astore 4, 2) := by decide +kernel
theorem dL_levelPart_19 : decode cL_levelPart 19 = .ok (.iconst 2, 1) := by decide +kernel
theorem dL_levelPart_20 : decode cL_levelPart 20 = .ok (.ireturn, 1) := by decide +kernel
theorem dL_levelPart_21 : decode cL_levelPart 21 = .ok (.iconst 0, 1) := by decide +kernel
theorem dL_levelPart_22 : decode cL_levelPart 22 = .ok (.ireturn, 1) := by decide +kernel
abbrev hh_levelPart : HH := [(0, 10, 13, 15), (0, 10, 17, 13)]
theorem ww_levelPart : Cond.codeWith yL_levelPart cL_levelPart 5 (some .int) hh_levelPart ∈ TB := tb4 (List.mem_of_getElem? (i := 69) rfl) rfl
set_option maxRecDepth 100000 in
set_option maxHeartbeats 4000000 in
theorem L_levelPart {n : Nat} {c : YC} (hK : c.2.2.2.2 = KLw) (hst : c.1.stackTraces = false) {SC SM SC2 : St} {w : Nat → Int64} {a1 a2 code v : Int32} (h : f_X7_levelPart n SC a1 a2 = some (SC2, code, v)) (hc : code = 0 ∨ code = 2 ∨ code = 1) : MW c yL_levelPart cL_levelPart 5 hh_levelPart rmW 4 24 (mx SC SM w) (mx SC2 SM (oW w code v.toInt64)) [.ref (c.2.2.1 0 6 0), .int a1, .int a2, .ref (c.2.2.1 2 900 0)] (if code = 2 then 1 else if code = 1 then 2 else 0) := by
  refine mk_W (own := RL) (by decide +kernel) rfl (Nat.le_of_ble_eq_true rfl) (fun x hx hR hy htab hE => ?_)
  subst hy
  have hK9 : x_K x = KLw := hK
  have hs : SPL (x_ad x) (x_K x) KK (KM ++ [(2, 900, 0)]) := by rw [hK9]; exact spl_C (by rw [← hK9]; exact hx.2.2.2.2.2.2.1)
  show WX x 5 0 0 (mx SC SM w) 0 [(0, .ref (x_ad x 0 6 0)), (1, .int a1), (2, .int a2), (3, .ref (x_ad x 2 900 0))] []
  refine r_aload_n (k0 := 3) hx dL_levelPart_0 rfl rfl ?_
  refine r_iconst (v := 0) hx dL_levelPart_1 (by decide) ?_
  refine r_aload_n (k0 := 0) hx dL_levelPart_2 rfl rfl ?_
  refine r_iload_n (k0 := 1) hx dL_levelPart_3 rfl rfl ?_
  refine r_iload_n (k0 := 2) hx dL_levelPart_4 rfl rfl ?_
  refine p_XC (S1 := mx SC2 SM w) (C := RX7) (T := TX7) (N := 7) (As := [.int a1, .int a2]) (rest := [.int 0, .ref (x_ad x 2 900 0)]) (n := 2) hx hs eC0 (C_X7_levelPart (c := x_yA x KK) (fun _ hk => hk) hst h) eC0 eC2 (by rw [hK9]; exact KL_C (k_0_6 (fun _ hk => hk))) rfl wl_L_62 wi_X7_levelPart we_X7_levelPart wn_X7 wc_X7_levelPart (by decide +kernel) rfl (by rw [hR]; decide +kernel) rfl (Nat.le_of_ble_eq_true rfl) dL_levelPart_5 (fun ht => ?_) (fun ht => ?_)
  · rw [htab]
    rcases hc with rfl | rfl | rfl
    · exact absurd rfl ht
    · refine ⟨[], ⟨0, 10, 13, 15⟩, [⟨0, 10, 17, 13⟩], rfl, (fun z hz => absurd hz List.not_mem_nil), by decide, by decide, by rw [exn_2]; exact wa_L_15, by decide +kernel, fun q9 => ?_⟩
      show WX x 5 _ _ _ 13 _ _
      refine r_astore (lv' := [(4, .ref q9), (0, .ref (x_ad x 0 6 0)), (1, .int a1), (2, .int a2), (3, .ref (x_ad x 2 900 0))]) hx dL_levelPart_13 (by decide) rfl ?_
      refine r_iconst (v := 1) hx dL_levelPart_15 (by decide) ?_
      exact r_wret hE (by decide) (by decide) (by rw [oW_n (by decide)]) (by decide) dL_levelPart_16
    · refine ⟨[⟨0, 10, 13, 15⟩], ⟨0, 10, 17, 13⟩, [], rfl, (List.forall_mem_cons.mpr ⟨Or.inr ⟨by decide, exn 2, by rw [exn_2]; exact wa_L_15, by decide +kernel⟩, fun z hz => absurd hz List.not_mem_nil⟩), by decide, by decide, by rw [exn_1]; exact wa_L_13, by decide +kernel, fun q9 => ?_⟩
      show WX x 5 _ _ _ 17 _ _
      refine r_astore (lv' := [(4, .ref q9), (0, .ref (x_ad x 0 6 0)), (1, .int a1), (2, .int a2), (3, .ref (x_ad x 2 900 0))]) hx dL_levelPart_17 (by decide) rfl ?_
      refine r_iconst (v := 2) hx dL_levelPart_19 (by decide) ?_
      exact r_wret hE (by decide) (by decide) (by rw [oW_n (by decide)]) (by decide) dL_levelPart_20
  · subst ht
    refine r_i2l hx dL_levelPart_8 ?_
    refine r_last (S1 := mx SC2 SM (vp_updL w 0 v.toInt64)) (L := 1) hx (by rw [hK9]; exact KL_O) rfl (show ¬ ((0 : Int32) < 0 ∨ 1 ≤ (0 : Int32).toNatClampNeg) by decide) sL_mx.symm dL_levelPart_9 ?_
    refine r_goto (tgt := 21) hx dL_levelPart_10 (by decide) ?_
    refine r_iconst (v := 0) hx dL_levelPart_21 (by decide) ?_
    exact r_wret hE (by decide) (by decide) (by rw [oW_0]) (by decide) dL_levelPart_22
theorem dL_declared_0 : decode cL_declared 0 = .ok (.aload_n 3, 1) := by decide +kernel
theorem dL_declared_1 : decode cL_declared 1 = .ok (.iconst 0, 1) := by decide +kernel
theorem dL_declared_2 : decode cL_declared 2 = .ok (.aload_n 0, 1) := by decide +kernel
theorem dL_declared_3 : decode cL_declared 3 = .ok (.iload_n 1, 1) := by decide +kernel
theorem dL_declared_4 : decode cL_declared 4 = .ok (.iload_n 2, 1) := by decide +kernel
theorem dL_declared_5 : decode cL_declared 5 = .ok (.invokevirtual 65, 3) := by decide +kernel
theorem dL_declared_8 : decode cL_declared 8 = .ok (.i2l, 1) := by decide +kernel
theorem dL_declared_9 : decode cL_declared 9 = .ok (.lastore, 1) := by decide +kernel
theorem dL_declared_10 : decode cL_declared 10 = .ok (.goto 11, 3) := by decide +kernel
theorem dL_declared_13 : decode cL_declared 13 = .ok (.astore 4, 2) := by decide +kernel
theorem dL_declared_15 : decode cL_declared 15 = .ok (.iconst 1, 1) := by decide +kernel
theorem dL_declared_16 : decode cL_declared 16 = .ok (.ireturn, 1) := by decide +kernel
theorem dL_declared_17 : decode cL_declared 17 = .ok (.astore 4, 2) := by decide +kernel
theorem dL_declared_19 : decode cL_declared 19 = .ok (.iconst 2, 1) := by decide +kernel
theorem dL_declared_20 : decode cL_declared 20 = .ok (.ireturn, 1) := by decide +kernel
theorem dL_declared_21 : decode cL_declared 21 = .ok (.iconst 0, 1) := by decide +kernel
theorem dL_declared_22 : decode cL_declared 22 = .ok (.ireturn, 1) := by decide +kernel
abbrev hh_declared : HH := [(0, 10, 13, 15), (0, 10, 17, 13)]
theorem ww_declared : Cond.codeWith yL_declared cL_declared 5 (some .int) hh_declared ∈ TB := tb4 (List.mem_of_getElem? (i := 83) rfl) rfl
set_option maxRecDepth 100000 in
set_option maxHeartbeats 4000000 in
theorem L_declared {n : Nat} {c : YC} (hK : c.2.2.2.2 = KLw) (hst : c.1.stackTraces = false) {SC SM SC2 : St} {w : Nat → Int64} {a1 a2 code v : Int32} (h : f_X7_declared n SC a1 a2 = some (SC2, code, v)) (hc : code = 0 ∨ code = 2 ∨ code = 1) : MW c yL_declared cL_declared 5 hh_declared rmW 4 24 (mx SC SM w) (mx SC2 SM (oW w code v.toInt64)) [.ref (c.2.2.1 0 6 0), .int a1, .int a2, .ref (c.2.2.1 2 900 0)] (if code = 2 then 1 else if code = 1 then 2 else 0) := by
  refine mk_W (own := RL) (by decide +kernel) rfl (Nat.le_of_ble_eq_true rfl) (fun x hx hR hy htab hE => ?_)
  subst hy
  have hK9 : x_K x = KLw := hK
  have hs : SPL (x_ad x) (x_K x) KK (KM ++ [(2, 900, 0)]) := by rw [hK9]; exact spl_C (by rw [← hK9]; exact hx.2.2.2.2.2.2.1)
  show WX x 5 0 0 (mx SC SM w) 0 [(0, .ref (x_ad x 0 6 0)), (1, .int a1), (2, .int a2), (3, .ref (x_ad x 2 900 0))] []
  refine r_aload_n (k0 := 3) hx dL_declared_0 rfl rfl ?_
  refine r_iconst (v := 0) hx dL_declared_1 (by decide) ?_
  refine r_aload_n (k0 := 0) hx dL_declared_2 rfl rfl ?_
  refine r_iload_n (k0 := 1) hx dL_declared_3 rfl rfl ?_
  refine r_iload_n (k0 := 2) hx dL_declared_4 rfl rfl ?_
  refine p_XC (S1 := mx SC2 SM w) (C := RX7) (T := TX7) (N := 7) (As := [.int a1, .int a2]) (rest := [.int 0, .ref (x_ad x 2 900 0)]) (n := 2) hx hs eC0 (C_X7_declared (c := x_yA x KK) (fun _ hk => hk) hst h) eC0 eC2 (by rw [hK9]; exact KL_C (k_0_6 (fun _ hk => hk))) rfl wl_L_65 wi_X7_declared we_X7_declared wn_X7 wc_X7_declared (by decide +kernel) rfl (by rw [hR]; decide +kernel) rfl (Nat.le_of_ble_eq_true rfl) dL_declared_5 (fun ht => ?_) (fun ht => ?_)
  · rw [htab]
    rcases hc with rfl | rfl | rfl
    · exact absurd rfl ht
    · refine ⟨[], ⟨0, 10, 13, 15⟩, [⟨0, 10, 17, 13⟩], rfl, (fun z hz => absurd hz List.not_mem_nil), by decide, by decide, by rw [exn_2]; exact wa_L_15, by decide +kernel, fun q9 => ?_⟩
      show WX x 5 _ _ _ 13 _ _
      refine r_astore (lv' := [(4, .ref q9), (0, .ref (x_ad x 0 6 0)), (1, .int a1), (2, .int a2), (3, .ref (x_ad x 2 900 0))]) hx dL_declared_13 (by decide) rfl ?_
      refine r_iconst (v := 1) hx dL_declared_15 (by decide) ?_
      exact r_wret hE (by decide) (by decide) (by rw [oW_n (by decide)]) (by decide) dL_declared_16
    · refine ⟨[⟨0, 10, 13, 15⟩], ⟨0, 10, 17, 13⟩, [], rfl, (List.forall_mem_cons.mpr ⟨Or.inr ⟨by decide, exn 2, by rw [exn_2]; exact wa_L_15, by decide +kernel⟩, fun z hz => absurd hz List.not_mem_nil⟩), by decide, by decide, by rw [exn_1]; exact wa_L_13, by decide +kernel, fun q9 => ?_⟩
      show WX x 5 _ _ _ 17 _ _
      refine r_astore (lv' := [(4, .ref q9), (0, .ref (x_ad x 0 6 0)), (1, .int a1), (2, .int a2), (3, .ref (x_ad x 2 900 0))]) hx dL_declared_17 (by decide) rfl ?_
      refine r_iconst (v := 2) hx dL_declared_19 (by decide) ?_
      exact r_wret hE (by decide) (by decide) (by rw [oW_n (by decide)]) (by decide) dL_declared_20
  · subst ht
    refine r_i2l hx dL_declared_8 ?_
    refine r_last (S1 := mx SC2 SM (vp_updL w 0 v.toInt64)) (L := 1) hx (by rw [hK9]; exact KL_O) rfl (show ¬ ((0 : Int32) < 0 ∨ 1 ≤ (0 : Int32).toNatClampNeg) by decide) sL_mx.symm dL_declared_9 ?_
    refine r_goto (tgt := 21) hx dL_declared_10 (by decide) ?_
    refine r_iconst (v := 0) hx dL_declared_21 (by decide) ?_
    exact r_wret hE (by decide) (by decide) (by rw [oW_0]) (by decide) dL_declared_22
