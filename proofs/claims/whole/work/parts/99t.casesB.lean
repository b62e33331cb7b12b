theorem dL_law_723 : decode code 723 = .ok (.aload_n 1, 1) := by decide +kernel
theorem dL_law_724 : decode code 724 = .ok (.aload_n 0, 1) := by decide +kernel
theorem dL_law_725 : decode code 725 = .ok (.iload 4, 2) := by decide +kernel
theorem dL_law_727 : decode code 727 = .ok (.iconst 1, 1) := by decide +kernel
theorem dL_law_728 : decode code 728 = .ok (.iadd, 1) := by decide +kernel
theorem dL_law_729 : decode code 729 = .ok (.iaload, 1) := by decide +kernel
theorem dL_law_730 : decode code 730 = .ok (.aload_n 3, 1) := by decide +kernel
theorem dL_law_731 : decode code 731 = .ok (.invokestatic 106, 3) := by decide +kernel
theorem dL_law_734 : decode code 734 = .ok (.istore 5, 2) := by decide +kernel
theorem dL_law_736 : decode code 736 = .ok (.aload_n 2, 1) := by decide +kernel
theorem dL_law_737 : decode code 737 = .ok (.aload_n 0, 1) := by decide +kernel
theorem dL_law_738 : decode code 738 = .ok (.iload 4, 2) := by decide +kernel
theorem dL_law_740 : decode code 740 = .ok (.iconst 1, 1) := by decide +kernel
theorem dL_law_741 : decode code 741 = .ok (.iadd, 1) := by decide +kernel
theorem dL_law_742 : decode code 742 = .ok (.iaload, 1) := by decide +kernel
theorem dL_law_743 : decode code 743 = .ok (.invokevirtual 108, 3) := by decide +kernel
theorem dL_law_746 : decode code 746 = .ok (.istore 6, 2) := by decide +kernel
theorem dL_law_748 : decode code 748 = .ok (.aload_n 2, 1) := by decide +kernel
theorem dL_law_749 : decode code 749 = .ok (.invokevirtual 78, 3) := by decide +kernel
theorem dL_law_752 : decode code 752 = .ok (.iload 5, 2) := by decide +kernel
theorem dL_law_754 : decode code 754 = .ok (.if_icmp .eq 5, 3) := by decide +kernel
theorem dL_law_757 : decode code 757 = .ok (.iconst 0, 1) := by decide +kernel
theorem dL_law_758 : decode code 758 = .ok (.ireturn, 1) := by decide +kernel
theorem dL_law_759 : decode code 759 = .ok (.iload 5, 2) := by decide +kernel
theorem dL_law_761 : decode code 761 = .ok (.ifCond .ne 15, 3) := by decide +kernel
theorem dL_law_764 : decode code 764 = .ok (.aload_n 3, 1) := by decide +kernel
theorem dL_law_765 : decode code 765 = .ok (.iconst 0, 1) := by decide +kernel
theorem dL_law_766 : decode code 766 = .ok (.laload, 1) := by decide +kernel
theorem dL_law_767 : decode code 767 = .ok (.iload 6, 2) := by decide +kernel
theorem dL_law_769 : decode code 769 = .ok (.i2l, 1) := by decide +kernel
theorem dL_law_770 : decode code 770 = .ok (.lcmp, 1) := by decide +kernel
theorem dL_law_771 : decode code 771 = .ok (.ifCond .eq 5, 3) := by decide +kernel
theorem dL_law_774 : decode code 774 = .ok (.iconst 0, 1) := by decide +kernel
theorem dL_law_775 : decode code 775 = .ok (.ireturn, 1) := by decide +kernel
theorem dL_law_776 : decode code 776 = .ok (.goto 503, 3) := by decide +kernel
set_option maxRecDepth 100000 in
set_option maxHeartbeats 4000000 in
theorem w_type {x : XC} {b L : Nat} {xs : Nat → Int32} (h : LX x b L xs) {t kc ks : Nat} (ht : 5 * t + 5 ≤ L) (hk : kc + 4 ≤ 601024 ∧ ks + 24 ≤ 7293034) {SC SM : St} {w : Nat → Int64} {P : PT} {Ns : List Nme} (hI : INV SC SM P Ns) (kk : LK x b t (kc + 4) (ks + 24)) : WX x 7 kc ks (mx SC SM w) 723 (LV x b t) [] := by
  obtain ⟨hx, hR, hK9, hst, -⟩ := id h
  have hD : KD (x_ad x) KLw := by rw [← hK9]; exact hx.2.2.2.2.2.2.1
  have hs8 : SPL (x_ad x) (x_K x) KM (KK ++ [(2, 900, 0)]) := by rw [hK9]; exact spl_M hD
  obtain ⟨SC2, SM2, code, v, bv, P2, Ns2, h1, h2, hI2, h350, hcode, hv⟩ := k_type (n := 10000) (Nat.le_refl _) hI (xs (5 * t + 1))
  have hc : code = 0 ∨ code = 2 ∨ code = 3 := by have h9 := oc_type _ h1; simpa using h9
  have hk5 : (if code = 2 then 1 else if code = 3 then 2 else 0 : Int32) = SM2.1 350 0 := by rw [h350]; rcases hc with rfl | rfl | rfl <;> decide
  show WX x 7 kc ks (mx SC SM w) 723 [(0, .ref b), (1, .ref (x_ad x 0 6 0)), (2, .ref (x_ad x 0 7 0)), (3, .ref (x_ad x 2 900 0)), (4, .int (nI (5 * t)))] []
  refine r_aload_n (k0 := 1) hx dL_law_723 rfl rfl ?_
  refine r_cell h (j := 1) (k0 := 0) (k4 := 4) (by omega) (by decide) rfl rfl dL_law_724 dL_law_725 dL_law_727 dL_law_728 dL_law_729 ?_
  refine r_aload_n (k0 := 3) hx dL_law_730 rfl rfl ?_
  refine r_SW (As := [.ref (x_ad x 0 6 0), .int (xs (5 * t + 1)), .ref (x_ad x 2 900 0)]) (rest := []) (n := 3) hx (L_type (c := x_y x) hK9 hst h1 hc) wl_L_106 wt_L_type wn_L ww_type (by decide +kernel) rfl (by rw [hR]; exact ⟨by decide +kernel, rfl, rfl, hk.1, hk.2⟩) rfl (Nat.le_of_ble_eq_true rfl) dL_law_731 ?_
  rw [hk5]
  refine r_istore (lv' := [(5, .int (SM2.1 350 0)), (0, .ref b), (1, .ref (x_ad x 0 6 0)), (2, .ref (x_ad x 0 7 0)), (3, .ref (x_ad x 2 900 0)), (4, .int (nI (5 * t)))]) hx dL_law_734 (by decide) rfl ?_
  refine r_aload_n (k0 := 3) hx dL_law_736 rfl rfl ?_
  refine r_cell h (j := 1) (k0 := 1) (k4 := 5) (by omega) (by decide) rfl rfl dL_law_737 dL_law_738 dL_law_740 dL_law_741 dL_law_742 ?_
  refine p_Vi (S1 := mx SC2 SM2 (oW w code v.toInt64)) (C := RX8) (T := TX8) (N := 40) (As := [.int (xs (5 * t + 1))]) (rest := []) (n := 1) hx hs8 eM0 (C_X8_type (c := x_yA x KM) (fun _ hk => hk) h2) eM0 eM2 (by rw [hK9]; exact KL_M (k_0_7 (fun _ hk => hk))) rfl wl_L_108 wi_X8_type we_X8_type wn_X8 wc_X8_type (by decide +kernel) rfl (by rw [hR]; exact ⟨by decide +kernel, rfl, rfl, Nat.le_trans (Nat.le_refl _) hk.1, Nat.le_trans (Nat.le_refl _) hk.2⟩) rfl (Nat.le_of_ble_eq_true rfl) dL_law_743 ?_
  refine r_istore (lv' := [(6, .int bv), (5, .int (SM2.1 350 0)), (0, .ref b), (1, .ref (x_ad x 0 6 0)), (2, .ref (x_ad x 0 7 0)), (3, .ref (x_ad x 2 900 0)), (4, .int (nI (5 * t)))]) hx dL_law_746 (by decide) rfl ?_
  refine r_aload_n (k0 := 4) hx dL_law_748 rfl rfl ?_
  refine p_Vi (S1 := mx SC2 SM2 (oW w code v.toInt64)) (C := RX8) (T := TX8) (N := 40) (As := []) (rest := []) (n := 0) (out := (SM2, SM2.1 350 0)) hx hs8 eM0 (C_X8_thrown (n := 10000) (c := x_yA x KM) (fun _ hk => hk) rfl) eM0 eM2 (by rw [hK9]; exact KL_M (k_0_7 (fun _ hk => hk))) rfl wl_L_78 wi_X8_thrown we_X8_thrown wn_X8 wc_X8_thrown (by decide +kernel) rfl (by rw [hR]; exact ⟨by decide +kernel, rfl, rfl, Nat.le_trans (Nat.le_refl _) hk.1, Nat.le_trans (Nat.le_refl _) hk.2⟩) rfl (Nat.le_of_ble_eq_true rfl) dL_law_749 ?_
  refine r_iload (k0 := 1) hx dL_law_752 rfl ?_
  refine r_icmp_eq (tgt := 759) hx dL_law_754 (by decide) (fun _ => ?_) (fun hn => absurd rfl hn)
  refine r_iload (k0 := 1) hx dL_law_759 rfl ?_
  have fin : WX x 7 (kc + 4) (ks + 24) (mx SC2 SM2 (oW w code v.toInt64)) 776 [(6, .int bv), (5, .int (SM2.1 350 0)), (0, .ref b), (1, .ref (x_ad x 0 6 0)), (2, .ref (x_ad x 0 7 0)), (3, .ref (x_ad x 2 900 0)), (4, .int (nI (5 * t)))] [] := by
    refine r_goto (tgt := 1279) hx dL_law_776 (by decide) ?_
    exact WX.sub (kk SC2 SM2 _ P2 Ns2 hI2) [2, 3, 4, 5, 6] rfl
  refine r_if_ne (tgt := 776) hx dL_law_761 (by decide) (fun _ => fin) (fun h0 => ?_)
  have hc0 : code = 0 := by
    rw [h0] at h350
    rcases hc with rfl | rfl | rfl
    · rfl
    · exact absurd h350 (by decide)
    · exact absurd h350 (by decide)
  have hv0 := hv hc0
  refine r_aload_n (k0 := 5) hx dL_law_764 rfl rfl ?_
  refine r_iconst (v := 0) hx dL_law_765 (by decide) ?_
  refine r_lald (v := v.toInt64) (f := 900) (j := 0) (L := 1) hx (by rw [hK9]; exact KL_O) rfl (show ¬ ((0 : Int32) < 0 ∨ 1 ≤ (0 : Int32).toNatClampNeg) by decide) (by rw [mx_out, hc0, oW_0]; exact vp_u0.symm) dL_law_766 ?_
  refine r_iload (k0 := 0) hx dL_law_767 rfl ?_
  refine r_i2l hx dL_law_769 ?_
  refine r_lcmp hx dL_law_770 ?_
  exact r_if_eq (tgt := 776) hx dL_law_771 (by decide) (fun _ => fin) (fun hn => absurd ((cmp_eq _ _).mpr (by rw [hv0])) hn)
theorem dL_law_779 : decode code 779 = .ok (.aload_n 1, 1) := by decide +kernel
theorem dL_law_780 : decode code 780 = .ok (.aload_n 0, 1) := by decide +kernel
theorem dL_law_781 : decode code 781 = .ok (.iload 4, 2) := by decide +kernel
theorem dL_law_783 : decode code 783 = .ok (.iconst 1, 1) := by decide +kernel
theorem dL_law_784 : decode code 784 = .ok (.iadd, 1) := by decide +kernel
theorem dL_law_785 : decode code 785 = .ok (.iaload, 1) := by decide +kernel
theorem dL_law_786 : decode code 786 = .ok (.aload_n 3, 1) := by decide +kernel
theorem dL_law_787 : decode code 787 = .ok (.invokestatic 109, 3) := by decide +kernel
theorem dL_law_790 : decode code 790 = .ok (.istore 5, 2) := by decide +kernel
theorem dL_law_792 : decode code 792 = .ok (.aload_n 2, 1) := by decide +kernel
theorem dL_law_793 : decode code 793 = .ok (.aload_n 0, 1) := by decide +kernel
theorem dL_law_794 : decode code 794 = .ok (.iload 4, 2) := by decide +kernel
theorem dL_law_796 : decode code 796 = .ok (.iconst 1, 1) := by decide +kernel
theorem dL_law_797 : decode code 797 = .ok (.iadd, 1) := by decide +kernel
theorem dL_law_798 : decode code 798 = .ok (.iaload, 1) := by decide +kernel
theorem dL_law_799 : decode code 799 = .ok (.invokevirtual 111, 3) := by decide +kernel
theorem dL_law_802 : decode code 802 = .ok (.istore 6, 2) := by decide +kernel
theorem dL_law_804 : decode code 804 = .ok (.aload_n 2, 1) := by decide +kernel
theorem dL_law_805 : decode code 805 = .ok (.invokevirtual 78, 3) := by decide +kernel
theorem dL_law_808 : decode code 808 = .ok (.iload 5, 2) := by decide +kernel
theorem dL_law_810 : decode code 810 = .ok (.if_icmp .eq 5, 3) := by decide +kernel
theorem dL_law_813 : decode code 813 = .ok (.iconst 0, 1) := by decide +kernel
theorem dL_law_814 : decode code 814 = .ok (.ireturn, 1) := by decide +kernel
theorem dL_law_815 : decode code 815 = .ok (.iload 5, 2) := by decide +kernel
theorem dL_law_817 : decode code 817 = .ok (.ifCond .ne 15, 3) := by decide +kernel
theorem dL_law_820 : decode code 820 = .ok (.aload_n 3, 1) := by decide +kernel
theorem dL_law_821 : decode code 821 = .ok (.iconst 0, 1) := by decide +kernel
theorem dL_law_822 : decode code 822 = .ok (.laload, 1) := by decide +kernel
theorem dL_law_823 : decode code 823 = .ok (.iload 6, 2) := by decide +kernel
theorem dL_law_825 : decode code 825 = .ok (.i2l, 1) := by decide +kernel
theorem dL_law_826 : decode code 826 = .ok (.lcmp, 1) := by decide +kernel
theorem dL_law_827 : decode code 827 = .ok (.ifCond .eq 5, 3) := by decide +kernel
theorem dL_law_830 : decode code 830 = .ok (.iconst 0, 1) := by decide +kernel
theorem dL_law_831 : decode code 831 = .ok (.ireturn, 1) := by decide +kernel
theorem dL_law_832 : decode code 832 = .ok (.goto 447, 3) := by decide +kernel
set_option maxRecDepth 100000 in
set_option maxHeartbeats 4000000 in
theorem w_normal {x : XC} {b L : Nat} {xs : Nat → Int32} (h : LX x b L xs) {t kc ks : Nat} (ht : 5 * t + 5 ≤ L) (hk : kc + 4 ≤ 601024 ∧ ks + 24 ≤ 7293034) {SC SM : St} {w : Nat → Int64} {P : PT} {Ns : List Nme} (hI : INV SC SM P Ns) (kk : LK x b t (kc + 4) (ks + 24)) : WX x 7 kc ks (mx SC SM w) 779 (LV x b t) [] := by
  obtain ⟨hx, hR, hK9, hst, -⟩ := id h
  have hD : KD (x_ad x) KLw := by rw [← hK9]; exact hx.2.2.2.2.2.2.1
  have hs8 : SPL (x_ad x) (x_K x) KM (KK ++ [(2, 900, 0)]) := by rw [hK9]; exact spl_M hD
  obtain ⟨SC2, SM2, code, v, bv, P2, Ns2, h1, h2, hI2, h350, hcode, hv⟩ := k_normal (n := 10000) (Nat.le_refl _) hI (xs (5 * t + 1))
  have hc : code = 0 ∨ code = 2 ∨ code = 3 := by have h9 := oc_normal _ h1; simpa using h9
  have hk5 : (if code = 2 then 1 else if code = 3 then 2 else 0 : Int32) = SM2.1 350 0 := by rw [h350]; rcases hc with rfl | rfl | rfl <;> decide
  show WX x 7 kc ks (mx SC SM w) 779 [(0, .ref b), (1, .ref (x_ad x 0 6 0)), (2, .ref (x_ad x 0 7 0)), (3, .ref (x_ad x 2 900 0)), (4, .int (nI (5 * t)))] []
  refine r_aload_n (k0 := 1) hx dL_law_779 rfl rfl ?_
  refine r_cell h (j := 1) (k0 := 0) (k4 := 4) (by omega) (by decide) rfl rfl dL_law_780 dL_law_781 dL_law_783 dL_law_784 dL_law_785 ?_
  refine r_aload_n (k0 := 3) hx dL_law_786 rfl rfl ?_
  refine r_SW (As := [.ref (x_ad x 0 6 0), .int (xs (5 * t + 1)), .ref (x_ad x 2 900 0)]) (rest := []) (n := 3) hx (L_normal (c := x_y x) hK9 hst h1 hc) wl_L_109 wt_L_normal wn_L ww_normal (by decide +kernel) rfl (by rw [hR]; exact ⟨by decide +kernel, rfl, rfl, hk.1, hk.2⟩) rfl (Nat.le_of_ble_eq_true rfl) dL_law_787 ?_
  rw [hk5]
  refine r_istore (lv' := [(5, .int (SM2.1 350 0)), (0, .ref b), (1, .ref (x_ad x 0 6 0)), (2, .ref (x_ad x 0 7 0)), (3, .ref (x_ad x 2 900 0)), (4, .int (nI (5 * t)))]) hx dL_law_790 (by decide) rfl ?_
  refine r_aload_n (k0 := 3) hx dL_law_792 rfl rfl ?_
  refine r_cell h (j := 1) (k0 := 1) (k4 := 5) (by omega) (by decide) rfl rfl dL_law_793 dL_law_794 dL_law_796 dL_law_797 dL_law_798 ?_
  refine p_Vi (S1 := mx SC2 SM2 (oW w code v.toInt64)) (C := RX8) (T := TX8) (N := 40) (As := [.int (xs (5 * t + 1))]) (rest := []) (n := 1) hx hs8 eM0 (C_X8_normal (c := x_yA x KM) (fun _ hk => hk) h2) eM0 eM2 (by rw [hK9]; exact KL_M (k_0_7 (fun _ hk => hk))) rfl wl_L_111 wi_X8_normal we_X8_normal wn_X8 wc_X8_normal (by decide +kernel) rfl (by rw [hR]; exact ⟨by decide +kernel, rfl, rfl, Nat.le_trans (Nat.le_refl _) hk.1, Nat.le_trans (Nat.le_refl _) hk.2⟩) rfl (Nat.le_of_ble_eq_true rfl) dL_law_799 ?_
  refine r_istore (lv' := [(6, .int bv), (5, .int (SM2.1 350 0)), (0, .ref b), (1, .ref (x_ad x 0 6 0)), (2, .ref (x_ad x 0 7 0)), (3, .ref (x_ad x 2 900 0)), (4, .int (nI (5 * t)))]) hx dL_law_802 (by decide) rfl ?_
  refine r_aload_n (k0 := 4) hx dL_law_804 rfl rfl ?_
  refine p_Vi (S1 := mx SC2 SM2 (oW w code v.toInt64)) (C := RX8) (T := TX8) (N := 40) (As := []) (rest := []) (n := 0) (out := (SM2, SM2.1 350 0)) hx hs8 eM0 (C_X8_thrown (n := 10000) (c := x_yA x KM) (fun _ hk => hk) rfl) eM0 eM2 (by rw [hK9]; exact KL_M (k_0_7 (fun _ hk => hk))) rfl wl_L_78 wi_X8_thrown we_X8_thrown wn_X8 wc_X8_thrown (by decide +kernel) rfl (by rw [hR]; exact ⟨by decide +kernel, rfl, rfl, Nat.le_trans (Nat.le_refl _) hk.1, Nat.le_trans (Nat.le_refl _) hk.2⟩) rfl (Nat.le_of_ble_eq_true rfl) dL_law_805 ?_
  refine r_iload (k0 := 1) hx dL_law_808 rfl ?_
  refine r_icmp_eq (tgt := 815) hx dL_law_810 (by decide) (fun _ => ?_) (fun hn => absurd rfl hn)
  refine r_iload (k0 := 1) hx dL_law_815 rfl ?_
  have fin : WX x 7 (kc + 4) (ks + 24) (mx SC2 SM2 (oW w code v.toInt64)) 832 [(6, .int bv), (5, .int (SM2.1 350 0)), (0, .ref b), (1, .ref (x_ad x 0 6 0)), (2, .ref (x_ad x 0 7 0)), (3, .ref (x_ad x 2 900 0)), (4, .int (nI (5 * t)))] [] := by
    refine r_goto (tgt := 1279) hx dL_law_832 (by decide) ?_
    exact WX.sub (kk SC2 SM2 _ P2 Ns2 hI2) [2, 3, 4, 5, 6] rfl
  refine r_if_ne (tgt := 832) hx dL_law_817 (by decide) (fun _ => fin) (fun h0 => ?_)
  have hc0 : code = 0 := by
    rw [h0] at h350
    rcases hc with rfl | rfl | rfl
    · rfl
    · exact absurd h350 (by decide)
    · exact absurd h350 (by decide)
  have hv0 := hv hc0
  refine r_aload_n (k0 := 5) hx dL_law_820 rfl rfl ?_
  refine r_iconst (v := 0) hx dL_law_821 (by decide) ?_
  refine r_lald (v := v.toInt64) (f := 900) (j := 0) (L := 1) hx (by rw [hK9]; exact KL_O) rfl (show ¬ ((0 : Int32) < 0 ∨ 1 ≤ (0 : Int32).toNatClampNeg) by decide) (by rw [mx_out, hc0, oW_0]; exact vp_u0.symm) dL_law_822 ?_
  refine r_iload (k0 := 0) hx dL_law_823 rfl ?_
  refine r_i2l hx dL_law_825 ?_
  refine r_lcmp hx dL_law_826 ?_
  exact r_if_eq (tgt := 832) hx dL_law_827 (by decide) (fun _ => fin) (fun hn => absurd ((cmp_eq _ _).mpr (by rw [hv0])) hn)
theorem dL_law_835 : decode code 835 = .ok (.aload_n 1, 1) := by decide +kernel
theorem dL_law_836 : decode code 836 = .ok (.aload_n 0, 1) := by decide +kernel
theorem dL_law_837 : decode code 837 = .ok (.iload 4, 2) := by decide +kernel
theorem dL_law_839 : decode code 839 = .ok (.iconst 1, 1) := by decide +kernel
theorem dL_law_840 : decode code 840 = .ok (.iadd, 1) := by decide +kernel
theorem dL_law_841 : decode code 841 = .ok (.iaload, 1) := by decide +kernel
theorem dL_law_842 : decode code 842 = .ok (.aload_n 3, 1) := by decide +kernel
theorem dL_law_843 : decode code 843 = .ok (.invokestatic 112, 3) := by decide +kernel
theorem dL_law_846 : decode code 846 = .ok (.istore 5, 2) := by decide +kernel
theorem dL_law_848 : decode code 848 = .ok (.aload_n 2, 1) := by decide +kernel
theorem dL_law_849 : decode code 849 = .ok (.aload_n 0, 1) := by decide +kernel
theorem dL_law_850 : decode code 850 = .ok (.iload 4, 2) := by decide +kernel
theorem dL_law_852 : decode code 852 = .ok (.iconst 1, 1) := by decide +kernel
theorem dL_law_853 : decode code 853 = .ok (.iadd, 1) := by decide +kernel
theorem dL_law_854 : decode code 854 = .ok (.iaload, 1) := by decide +kernel
theorem dL_law_855 : decode code 855 = .ok (.invokevirtual 114, 3) := by decide +kernel
theorem dL_law_858 : decode code 858 = .ok (.istore 6, 2) := by decide +kernel
theorem dL_law_860 : decode code 860 = .ok (.aload_n 2, 1) := by decide +kernel
theorem dL_law_861 : decode code 861 = .ok (.invokevirtual 78, 3) := by decide +kernel
theorem dL_law_864 : decode code 864 = .ok (.iload 5, 2) := by decide +kernel
theorem dL_law_866 : decode code 866 = .ok (.if_icmp .eq 5, 3) := by decide +kernel
theorem dL_law_869 : decode code 869 = .ok (.iconst 0, 1) := by decide +kernel
theorem dL_law_870 : decode code 870 = .ok (.ireturn, 1) := by decide +kernel
theorem dL_law_871 : decode code 871 = .ok (.iload 5, 2) := by decide +kernel
theorem dL_law_873 : decode code 873 = .ok (.ifCond .ne 15, 3) := by decide +kernel
theorem dL_law_876 : decode code 876 = .ok (.aload_n 3, 1) := by decide +kernel
theorem dL_law_877 : decode code 877 = .ok (.iconst 0, 1) := by decide +kernel
theorem dL_law_878 : decode code 878 = .ok (.laload, 1) := by decide +kernel
theorem dL_law_879 : decode code 879 = .ok (.iload 6, 2) := by decide +kernel
theorem dL_law_881 : decode code 881 = .ok (.i2l, 1) := by decide +kernel
theorem dL_law_882 : decode code 882 = .ok (.lcmp, 1) := by decide +kernel
theorem dL_law_883 : decode code 883 = .ok (.ifCond .eq 5, 3) := by decide +kernel
theorem dL_law_886 : decode code 886 = .ok (.iconst 0, 1) := by decide +kernel
theorem dL_law_887 : decode code 887 = .ok (.ireturn, 1) := by decide +kernel
theorem dL_law_888 : decode code 888 = .ok (.goto 391, 3) := by decide +kernel
set_option maxRecDepth 100000 in
set_option maxHeartbeats 4000000 in
theorem w_steps {x : XC} {b L : Nat} {xs : Nat → Int32} (h : LX x b L xs) {t kc ks : Nat} (ht : 5 * t + 5 ≤ L) (hk : kc + 4 ≤ 601024 ∧ ks + 24 ≤ 7293034) {SC SM : St} {w : Nat → Int64} {P : PT} {Ns : List Nme} (hI : INV SC SM P Ns) (kk : LK x b t (kc + 4) (ks + 24)) : WX x 7 kc ks (mx SC SM w) 835 (LV x b t) [] := by
  obtain ⟨hx, hR, hK9, hst, -⟩ := id h
  have hD : KD (x_ad x) KLw := by rw [← hK9]; exact hx.2.2.2.2.2.2.1
  have hs8 : SPL (x_ad x) (x_K x) KM (KK ++ [(2, 900, 0)]) := by rw [hK9]; exact spl_M hD
  obtain ⟨SC2, SM2, code, v, bv, P2, Ns2, h1, h2, hI2, h350, hcode, hv⟩ := k_steps (n := 10000) (Nat.le_refl _) hI (xs (5 * t + 1))
  have hc : code = 0 ∨ code = 2 := by have h9 := oc_steps _ h1; simpa using h9
  have hk5 : (if code = 2 then 1 else 0 : Int32) = SM2.1 350 0 := by rw [h350]; rcases hc with rfl | rfl <;> decide
  show WX x 7 kc ks (mx SC SM w) 835 [(0, .ref b), (1, .ref (x_ad x 0 6 0)), (2, .ref (x_ad x 0 7 0)), (3, .ref (x_ad x 2 900 0)), (4, .int (nI (5 * t)))] []
  refine r_aload_n (k0 := 1) hx dL_law_835 rfl rfl ?_
  refine r_cell h (j := 1) (k0 := 0) (k4 := 4) (by omega) (by decide) rfl rfl dL_law_836 dL_law_837 dL_law_839 dL_law_840 dL_law_841 ?_
  refine r_aload_n (k0 := 3) hx dL_law_842 rfl rfl ?_
  refine r_SW (As := [.ref (x_ad x 0 6 0), .int (xs (5 * t + 1)), .ref (x_ad x 2 900 0)]) (rest := []) (n := 3) hx (L_steps (c := x_y x) hK9 hst h1 hc) wl_L_112 wt_L_steps wn_L ww_steps (by decide +kernel) rfl (by rw [hR]; exact ⟨by decide +kernel, rfl, rfl, hk.1, hk.2⟩) rfl (Nat.le_of_ble_eq_true rfl) dL_law_843 ?_
  rw [hk5]
  refine r_istore (lv' := [(5, .int (SM2.1 350 0)), (0, .ref b), (1, .ref (x_ad x 0 6 0)), (2, .ref (x_ad x 0 7 0)), (3, .ref (x_ad x 2 900 0)), (4, .int (nI (5 * t)))]) hx dL_law_846 (by decide) rfl ?_
  refine r_aload_n (k0 := 3) hx dL_law_848 rfl rfl ?_
  refine r_cell h (j := 1) (k0 := 1) (k4 := 5) (by omega) (by decide) rfl rfl dL_law_849 dL_law_850 dL_law_852 dL_law_853 dL_law_854 ?_
  refine p_Vi (S1 := mx SC2 SM2 (oW w code v.toInt64)) (C := RX8) (T := TX8) (N := 40) (As := [.int (xs (5 * t + 1))]) (rest := []) (n := 1) hx hs8 eM0 (C_X8_steps (c := x_yA x KM) (fun _ hk => hk) h2) eM0 eM2 (by rw [hK9]; exact KL_M (k_0_7 (fun _ hk => hk))) rfl wl_L_114 wi_X8_steps we_X8_steps wn_X8 wc_X8_steps (by decide +kernel) rfl (by rw [hR]; exact ⟨by decide +kernel, rfl, rfl, Nat.le_trans (Nat.le_refl _) hk.1, Nat.le_trans (Nat.le_refl _) hk.2⟩) rfl (Nat.le_of_ble_eq_true rfl) dL_law_855 ?_
  refine r_istore (lv' := [(6, .int bv), (5, .int (SM2.1 350 0)), (0, .ref b), (1, .ref (x_ad x 0 6 0)), (2, .ref (x_ad x 0 7 0)), (3, .ref (x_ad x 2 900 0)), (4, .int (nI (5 * t)))]) hx dL_law_858 (by decide) rfl ?_
  refine r_aload_n (k0 := 4) hx dL_law_860 rfl rfl ?_
  refine p_Vi (S1 := mx SC2 SM2 (oW w code v.toInt64)) (C := RX8) (T := TX8) (N := 40) (As := []) (rest := []) (n := 0) (out := (SM2, SM2.1 350 0)) hx hs8 eM0 (C_X8_thrown (n := 10000) (c := x_yA x KM) (fun _ hk => hk) rfl) eM0 eM2 (by rw [hK9]; exact KL_M (k_0_7 (fun _ hk => hk))) rfl wl_L_78 wi_X8_thrown we_X8_thrown wn_X8 wc_X8_thrown (by decide +kernel) rfl (by rw [hR]; exact ⟨by decide +kernel, rfl, rfl, Nat.le_trans (Nat.le_refl _) hk.1, Nat.le_trans (Nat.le_refl _) hk.2⟩) rfl (Nat.le_of_ble_eq_true rfl) dL_law_861 ?_
  refine r_iload (k0 := 1) hx dL_law_864 rfl ?_
  refine r_icmp_eq (tgt := 871) hx dL_law_866 (by decide) (fun _ => ?_) (fun hn => absurd rfl hn)
  refine r_iload (k0 := 1) hx dL_law_871 rfl ?_
  have fin : WX x 7 (kc + 4) (ks + 24) (mx SC2 SM2 (oW w code v.toInt64)) 888 [(6, .int bv), (5, .int (SM2.1 350 0)), (0, .ref b), (1, .ref (x_ad x 0 6 0)), (2, .ref (x_ad x 0 7 0)), (3, .ref (x_ad x 2 900 0)), (4, .int (nI (5 * t)))] [] := by
    refine r_goto (tgt := 1279) hx dL_law_888 (by decide) ?_
    exact WX.sub (kk SC2 SM2 _ P2 Ns2 hI2) [2, 3, 4, 5, 6] rfl
  refine r_if_ne (tgt := 888) hx dL_law_873 (by decide) (fun _ => fin) (fun h0 => ?_)
  have hc0 : code = 0 := by
    rw [h0] at h350
    rcases hc with rfl | rfl
    · rfl
    · exact absurd h350 (by decide)
  have hv0 := hv hc0
  refine r_aload_n (k0 := 5) hx dL_law_876 rfl rfl ?_
  refine r_iconst (v := 0) hx dL_law_877 (by decide) ?_
  refine r_lald (v := v.toInt64) (f := 900) (j := 0) (L := 1) hx (by rw [hK9]; exact KL_O) rfl (show ¬ ((0 : Int32) < 0 ∨ 1 ≤ (0 : Int32).toNatClampNeg) by decide) (by rw [mx_out, hc0, oW_0]; exact vp_u0.symm) dL_law_878 ?_
  refine r_iload (k0 := 0) hx dL_law_879 rfl ?_
  refine r_i2l hx dL_law_881 ?_
  refine r_lcmp hx dL_law_882 ?_
  exact r_if_eq (tgt := 888) hx dL_law_883 (by decide) (fun _ => fin) (fun hn => absurd ((cmp_eq _ _).mpr (by rw [hv0])) hn)
theorem dL_law_891 : decode code 891 = .ok (.aload_n 1, 1) := by decide +kernel
theorem dL_law_892 : decode code 892 = .ok (.aload_n 0, 1) := by decide +kernel
theorem dL_law_893 : decode code 893 = .ok (.iload 4, 2) := by decide +kernel
theorem dL_law_895 : decode code 895 = .ok (.iconst 1, 1) := by decide +kernel
theorem dL_law_896 : decode code 896 = .ok (.iadd, 1) := by decide +kernel
theorem dL_law_897 : decode code 897 = .ok (.iaload, 1) := by decide +kernel
theorem dL_law_898 : decode code 898 = .ok (.aload_n 0, 1) := by decide +kernel
theorem dL_law_899 : decode code 899 = .ok (.iload 4, 2) := by decide +kernel
theorem dL_law_901 : decode code 901 = .ok (.iconst 2, 1) := by decide +kernel
theorem dL_law_902 : decode code 902 = .ok (.iadd, 1) := by decide +kernel
theorem dL_law_903 : decode code 903 = .ok (.iaload, 1) := by decide +kernel
theorem dL_law_904 : decode code 904 = .ok (.aload_n 3, 1) := by decide +kernel
theorem dL_law_905 : decode code 905 = .ok (.invokestatic 115, 3) := by decide +kernel
theorem dL_law_908 : decode code 908 = .ok (.istore 5, 2) := by decide +kernel
theorem dL_law_910 : decode code 910 = .ok (.aload_n 2, 1) := by decide +kernel
theorem dL_law_911 : decode code 911 = .ok (.aload_n 0, 1) := by decide +kernel
theorem dL_law_912 : decode code 912 = .ok (.iload 4, 2) := by decide +kernel
theorem dL_law_914 : decode code 914 = .ok (.iconst 1, 1) := by decide +kernel
theorem dL_law_915 : decode code 915 = .ok (.iadd, 1) := by decide +kernel
theorem dL_law_916 : decode code 916 = .ok (.iaload, 1) := by decide +kernel
theorem dL_law_917 : decode code 917 = .ok (.aload_n 0, 1) := by decide +kernel
theorem dL_law_918 : decode code 918 = .ok (.iload 4, 2) := by decide +kernel
theorem dL_law_920 : decode code 920 = .ok (.iconst 2, 1) := by decide +kernel
theorem dL_law_921 : decode code 921 = .ok (.iadd, 1) := by decide +kernel
theorem dL_law_922 : decode code 922 = .ok (.iaload, 1) := by decide +kernel
theorem dL_law_923 : decode code 923 = .ok (.invokevirtual 117, 3) := by decide +kernel
theorem dL_law_926 : decode code 926 = .ok (.istore 6, 2) := by decide +kernel
theorem dL_law_928 : decode code 928 = .ok (.aload_n 2, 1) := by decide +kernel
theorem dL_law_929 : decode code 929 = .ok (.invokevirtual 78, 3) := by decide +kernel
theorem dL_law_932 : decode code 932 = .ok (.iload 5, 2) := by decide +kernel
theorem dL_law_934 : decode code 934 = .ok (.if_icmp .eq 5, 3) := by decide +kernel
theorem dL_law_937 : decode code 937 = .ok (.iconst 0, 1) := by decide +kernel
theorem dL_law_938 : decode code 938 = .ok (.ireturn, 1) := by decide +kernel
theorem dL_law_939 : decode code 939 = .ok (.iload 5, 2) := by decide +kernel
theorem dL_law_941 : decode code 941 = .ok (.ifCond .ne 15, 3) := by decide +kernel
theorem dL_law_944 : decode code 944 = .ok (.aload_n 3, 1) := by decide +kernel
theorem dL_law_945 : decode code 945 = .ok (.iconst 0, 1) := by decide +kernel
theorem dL_law_946 : decode code 946 = .ok (.laload, 1) := by decide +kernel
theorem dL_law_947 : decode code 947 = .ok (.iload 6, 2) := by decide +kernel
theorem dL_law_949 : decode code 949 = .ok (.i2l, 1) := by decide +kernel
theorem dL_law_950 : decode code 950 = .ok (.lcmp, 1) := by decide +kernel
theorem dL_law_951 : decode code 951 = .ok (.ifCond .eq 5, 3) := by decide +kernel
theorem dL_law_954 : decode code 954 = .ok (.iconst 0, 1) := by decide +kernel
theorem dL_law_955 : decode code 955 = .ok (.ireturn, 1) := by decide +kernel
theorem dL_law_956 : decode code 956 = .ok (.goto 323, 3) := by decide +kernel
set_option maxRecDepth 100000 in
set_option maxHeartbeats 4000000 in
theorem w_same {x : XC} {b L : Nat} {xs : Nat → Int32} (h : LX x b L xs) {t kc ks : Nat} (ht : 5 * t + 5 ≤ L) (hk : kc + 4 ≤ 601024 ∧ ks + 24 ≤ 7293034) {SC SM : St} {w : Nat → Int64} {P : PT} {Ns : List Nme} (hI : INV SC SM P Ns) (kk : LK x b t (kc + 4) (ks + 24)) : WX x 7 kc ks (mx SC SM w) 891 (LV x b t) [] := by
  obtain ⟨hx, hR, hK9, hst, -⟩ := id h
  have hD : KD (x_ad x) KLw := by rw [← hK9]; exact hx.2.2.2.2.2.2.1
  have hs8 : SPL (x_ad x) (x_K x) KM (KK ++ [(2, 900, 0)]) := by rw [hK9]; exact spl_M hD
  obtain ⟨SC2, SM2, code, v, bv, P2, Ns2, h1, h2, hI2, h350, hcode, hv⟩ := k_same (n := 10000) (Nat.le_refl _) hI (xs (5 * t + 1)) (xs (5 * t + 2))
  have hc : code = 0 ∨ code = 2 := by have h9 := oc_same _ h1; simpa using h9
  have hk5 : (if code = 2 then 1 else 0 : Int32) = SM2.1 350 0 := by rw [h350]; rcases hc with rfl | rfl <;> decide
  show WX x 7 kc ks (mx SC SM w) 891 [(0, .ref b), (1, .ref (x_ad x 0 6 0)), (2, .ref (x_ad x 0 7 0)), (3, .ref (x_ad x 2 900 0)), (4, .int (nI (5 * t)))] []
  refine r_aload_n (k0 := 1) hx dL_law_891 rfl rfl ?_
  refine r_cell h (j := 1) (k0 := 0) (k4 := 4) (by omega) (by decide) rfl rfl dL_law_892 dL_law_893 dL_law_895 dL_law_896 dL_law_897 ?_
  refine r_cell h (j := 2) (k0 := 0) (k4 := 4) (by omega) (by decide) rfl rfl dL_law_898 dL_law_899 dL_law_901 dL_law_902 dL_law_903 ?_
  refine r_aload_n (k0 := 3) hx dL_law_904 rfl rfl ?_
  refine r_SW (As := [.ref (x_ad x 0 6 0), .int (xs (5 * t + 1)), .int (xs (5 * t + 2)), .ref (x_ad x 2 900 0)]) (rest := []) (n := 4) hx (L_same (c := x_y x) hK9 hst h1 hc) wl_L_115 wt_L_same wn_L ww_same (by decide +kernel) rfl (by rw [hR]; exact ⟨by decide +kernel, rfl, rfl, hk.1, hk.2⟩) rfl (Nat.le_of_ble_eq_true rfl) dL_law_905 ?_
  rw [hk5]
  refine r_istore (lv' := [(5, .int (SM2.1 350 0)), (0, .ref b), (1, .ref (x_ad x 0 6 0)), (2, .ref (x_ad x 0 7 0)), (3, .ref (x_ad x 2 900 0)), (4, .int (nI (5 * t)))]) hx dL_law_908 (by decide) rfl ?_
  refine r_aload_n (k0 := 3) hx dL_law_910 rfl rfl ?_
  refine r_cell h (j := 1) (k0 := 1) (k4 := 5) (by omega) (by decide) rfl rfl dL_law_911 dL_law_912 dL_law_914 dL_law_915 dL_law_916 ?_
  refine r_cell h (j := 2) (k0 := 1) (k4 := 5) (by omega) (by decide) rfl rfl dL_law_917 dL_law_918 dL_law_920 dL_law_921 dL_law_922 ?_
  refine p_Vi (S1 := mx SC2 SM2 (oW w code v.toInt64)) (C := RX8) (T := TX8) (N := 40) (As := [.int (xs (5 * t + 1)), .int (xs (5 * t + 2))]) (rest := []) (n := 2) hx hs8 eM0 (C_X8_same (c := x_yA x KM) (fun _ hk => hk) h2) eM0 eM2 (by rw [hK9]; exact KL_M (k_0_7 (fun _ hk => hk))) rfl wl_L_117 wi_X8_same we_X8_same wn_X8 wc_X8_same (by decide +kernel) rfl (by rw [hR]; exact ⟨by decide +kernel, rfl, rfl, Nat.le_trans (Nat.le_refl _) hk.1, Nat.le_trans (Nat.le_refl _) hk.2⟩) rfl (Nat.le_of_ble_eq_true rfl) dL_law_923 ?_
  refine r_istore (lv' := [(6, .int bv), (5, .int (SM2.1 350 0)), (0, .ref b), (1, .ref (x_ad x 0 6 0)), (2, .ref (x_ad x 0 7 0)), (3, .ref (x_ad x 2 900 0)), (4, .int (nI (5 * t)))]) hx dL_law_926 (by decide) rfl ?_
  refine r_aload_n (k0 := 4) hx dL_law_928 rfl rfl ?_
  refine p_Vi (S1 := mx SC2 SM2 (oW w code v.toInt64)) (C := RX8) (T := TX8) (N := 40) (As := []) (rest := []) (n := 0) (out := (SM2, SM2.1 350 0)) hx hs8 eM0 (C_X8_thrown (n := 10000) (c := x_yA x KM) (fun _ hk => hk) rfl) eM0 eM2 (by rw [hK9]; exact KL_M (k_0_7 (fun _ hk => hk))) rfl wl_L_78 wi_X8_thrown we_X8_thrown wn_X8 wc_X8_thrown (by decide +kernel) rfl (by rw [hR]; exact ⟨by decide +kernel, rfl, rfl, Nat.le_trans (Nat.le_refl _) hk.1, Nat.le_trans (Nat.le_refl _) hk.2⟩) rfl (Nat.le_of_ble_eq_true rfl) dL_law_929 ?_
  refine r_iload (k0 := 1) hx dL_law_932 rfl ?_
  refine r_icmp_eq (tgt := 939) hx dL_law_934 (by decide) (fun _ => ?_) (fun hn => absurd rfl hn)
  refine r_iload (k0 := 1) hx dL_law_939 rfl ?_
  have fin : WX x 7 (kc + 4) (ks + 24) (mx SC2 SM2 (oW w code v.toInt64)) 956 [(6, .int bv), (5, .int (SM2.1 350 0)), (0, .ref b), (1, .ref (x_ad x 0 6 0)), (2, .ref (x_ad x 0 7 0)), (3, .ref (x_ad x 2 900 0)), (4, .int (nI (5 * t)))] [] := by
    refine r_goto (tgt := 1279) hx dL_law_956 (by decide) ?_
    exact WX.sub (kk SC2 SM2 _ P2 Ns2 hI2) [2, 3, 4, 5, 6] rfl
  refine r_if_ne (tgt := 956) hx dL_law_941 (by decide) (fun _ => fin) (fun h0 => ?_)
  have hc0 : code = 0 := by
    rw [h0] at h350
    rcases hc with rfl | rfl
    · rfl
    · exact absurd h350 (by decide)
  have hv0 := hv hc0
  refine r_aload_n (k0 := 5) hx dL_law_944 rfl rfl ?_
  refine r_iconst (v := 0) hx dL_law_945 (by decide) ?_
  refine r_lald (v := v.toInt64) (f := 900) (j := 0) (L := 1) hx (by rw [hK9]; exact KL_O) rfl (show ¬ ((0 : Int32) < 0 ∨ 1 ≤ (0 : Int32).toNatClampNeg) by decide) (by rw [mx_out, hc0, oW_0]; exact vp_u0.symm) dL_law_946 ?_
  refine r_iload (k0 := 0) hx dL_law_947 rfl ?_
  refine r_i2l hx dL_law_949 ?_
  refine r_lcmp hx dL_law_950 ?_
  exact r_if_eq (tgt := 956) hx dL_law_951 (by decide) (fun _ => fin) (fun hn => absurd ((cmp_eq _ _).mpr (by rw [hv0])) hn)
theorem dL_law_959 : decode code 959 = .ok (.aload_n 1, 1) := by decide +kernel
theorem dL_law_960 : decode code 960 = .ok (.aload_n 0, 1) := by decide +kernel
theorem dL_law_961 : decode code 961 = .ok (.iload 4, 2) := by decide +kernel
theorem dL_law_963 : decode code 963 = .ok (.iconst 1, 1) := by decide +kernel
theorem dL_law_964 : decode code 964 = .ok (.iadd, 1) := by decide +kernel
theorem dL_law_965 : decode code 965 = .ok (.iaload, 1) := by decide +kernel
theorem dL_law_966 : decode code 966 = .ok (.aload_n 0, 1) := by decide +kernel
theorem dL_law_967 : decode code 967 = .ok (.iload 4, 2) := by decide +kernel
theorem dL_law_969 : decode code 969 = .ok (.iconst 2, 1) := by decide +kernel
theorem dL_law_970 : decode code 970 = .ok (.iadd, 1) := by decide +kernel
theorem dL_law_971 : decode code 971 = .ok (.iaload, 1) := by decide +kernel
theorem dL_law_972 : decode code 972 = .ok (.aload_n 0, 1) := by decide +kernel
theorem dL_law_973 : decode code 973 = .ok (.iload 4, 2) := by decide +kernel
theorem dL_law_975 : decode code 975 = .ok (.iconst 3, 1) := by decide +kernel
theorem dL_law_976 : decode code 976 = .ok (.iadd, 1) := by decide +kernel
theorem dL_law_977 : decode code 977 = .ok (.iaload, 1) := by decide +kernel
theorem dL_law_978 : decode code 978 = .ok (.aload_n 3, 1) := by decide +kernel
theorem dL_law_979 : decode code 979 = .ok (.invokestatic 118, 3) := by decide +kernel
theorem dL_law_982 : decode code 982 = .ok (.istore 5, 2) := by decide +kernel
theorem dL_law_984 : decode code 984 = .ok (.aload_n 2, 1) := by decide +kernel
theorem dL_law_985 : decode code 985 = .ok (.aload_n 0, 1) := by decide +kernel
theorem dL_law_986 : decode code 986 = .ok (.iload 4, 2) := by decide +kernel
theorem dL_law_988 : decode code 988 = .ok (.iconst 1, 1) := by decide +kernel
theorem dL_law_989 : decode code 989 = .ok (.iadd, 1) := by decide +kernel
theorem dL_law_990 : decode code 990 = .ok (.iaload, 1) := by decide +kernel
theorem dL_law_991 : decode code 991 = .ok (.aload_n 0, 1) := by decide +kernel
theorem dL_law_992 : decode code 992 = .ok (.iload 4, 2) := by decide +kernel
theorem dL_law_994 : decode code 994 = .ok (.iconst 2, 1) := by decide +kernel
theorem dL_law_995 : decode code 995 = .ok (.iadd, 1) := by decide +kernel
theorem dL_law_996 : decode code 996 = .ok (.iaload, 1) := by decide +kernel
theorem dL_law_997 : decode code 997 = .ok (.aload_n 0, 1) := by decide +kernel
theorem dL_law_998 : decode code 998 = .ok (.iload 4, 2) := by decide +kernel
theorem dL_law_1000 : decode code 1000 = .ok (.iconst 3, 1) := by decide +kernel
theorem dL_law_1001 : decode code 1001 = .ok (.iadd, 1) := by decide +kernel
theorem dL_law_1002 : decode code 1002 = .ok (.iaload, 1) := by decide +kernel
theorem dL_law_1003 : decode code 1003 = .ok (.invokevirtual 120, 3) := by decide +kernel
theorem dL_law_1006 : decode code 1006 = .ok (.istore 6, 2) := by decide +kernel
theorem dL_law_1008 : decode code 1008 = .ok (.aload_n 2, 1) := by decide +kernel
theorem dL_law_1009 : decode code 1009 = .ok (.invokevirtual 78, 3) := by decide +kernel
theorem dL_law_1012 : decode code 1012 = .ok (.iload 5, 2) := by decide +kernel
theorem dL_law_1014 : decode code 1014 = .ok (.if_icmp .eq 5, 3) := by decide +kernel
theorem dL_law_1017 : decode code 1017 = .ok (.iconst 0, 1) := by decide +kernel
theorem dL_law_1018 : decode code 1018 = .ok (.ireturn, 1) := by decide +kernel
theorem dL_law_1019 : decode code 1019 = .ok (.iload 5, 2) := by decide +kernel
theorem dL_law_1021 : decode code 1021 = .ok (.ifCond .ne 15, 3) := by decide +kernel
theorem dL_law_1024 : decode code 1024 = .ok (.aload_n 3, 1) := by decide +kernel
theorem dL_law_1025 : decode code 1025 = .ok (.iconst 0, 1) := by decide +kernel
theorem dL_law_1026 : decode code 1026 = .ok (.laload, 1) := by decide +kernel
theorem dL_law_1027 : decode code 1027 = .ok (.iload 6, 2) := by decide +kernel
theorem dL_law_1029 : decode code 1029 = .ok (.i2l, 1) := by decide +kernel
theorem dL_law_1030 : decode code 1030 = .ok (.lcmp, 1) := by decide +kernel
theorem dL_law_1031 : decode code 1031 = .ok (.ifCond .eq 5, 3) := by decide +kernel
theorem dL_law_1034 : decode code 1034 = .ok (.iconst 0, 1) := by decide +kernel
theorem dL_law_1035 : decode code 1035 = .ok (.ireturn, 1) := by decide +kernel
theorem dL_law_1036 : decode code 1036 = .ok (.goto 243, 3) := by decide +kernel
set_option maxRecDepth 100000 in
set_option maxHeartbeats 4000000 in
theorem w_declare {x : XC} {b L : Nat} {xs : Nat → Int32} (h : LX x b L xs) {t kc ks : Nat} (ht : 5 * t + 5 ≤ L) (hk : kc + 4 ≤ 601024 ∧ ks + 24 ≤ 7293034) {SC SM : St} {w : Nat → Int64} {P : PT} {Ns : List Nme} (hI : INV SC SM P Ns) (kk : LK x b t (kc + 4) (ks + 24)) : WX x 7 kc ks (mx SC SM w) 959 (LV x b t) [] := by
  obtain ⟨hx, hR, hK9, hst, -⟩ := id h
  have hD : KD (x_ad x) KLw := by rw [← hK9]; exact hx.2.2.2.2.2.2.1
  have hs8 : SPL (x_ad x) (x_K x) KM (KK ++ [(2, 900, 0)]) := by rw [hK9]; exact spl_M hD
  obtain ⟨SC2, SM2, code, v, bv, P2, Ns2, h1, h2, hI2, h350, hcode, hv⟩ := k_declare (n := 10000) (Nat.le_refl _) hI (xs (5 * t + 1)) (xs (5 * t + 2)) (xs (5 * t + 3))
  have hc : code = 0 ∨ code = 1 ∨ code = 2 ∨ code = 3 := hcode
  have hk5 : (if code = 1 then 1 else if code = 2 then 2 else if code = 3 then 3 else 0 : Int32) = SM2.1 350 0 := by rw [h350]; rcases hc with rfl | rfl | rfl | rfl <;> decide
  show WX x 7 kc ks (mx SC SM w) 959 [(0, .ref b), (1, .ref (x_ad x 0 6 0)), (2, .ref (x_ad x 0 7 0)), (3, .ref (x_ad x 2 900 0)), (4, .int (nI (5 * t)))] []
  refine r_aload_n (k0 := 1) hx dL_law_959 rfl rfl ?_
  refine r_cell h (j := 1) (k0 := 0) (k4 := 4) (by omega) (by decide) rfl rfl dL_law_960 dL_law_961 dL_law_963 dL_law_964 dL_law_965 ?_
  refine r_cell h (j := 2) (k0 := 0) (k4 := 4) (by omega) (by decide) rfl rfl dL_law_966 dL_law_967 dL_law_969 dL_law_970 dL_law_971 ?_
  refine r_cell h (j := 3) (k0 := 0) (k4 := 4) (by omega) (by decide) rfl rfl dL_law_972 dL_law_973 dL_law_975 dL_law_976 dL_law_977 ?_
  refine r_aload_n (k0 := 3) hx dL_law_978 rfl rfl ?_
  refine r_SW (As := [.ref (x_ad x 0 6 0), .int (xs (5 * t + 1)), .int (xs (5 * t + 2)), .int (xs (5 * t + 3)), .ref (x_ad x 2 900 0)]) (rest := []) (n := 5) hx (L_declare (c := x_y x) hK9 hst h1 hc) wl_L_118 wt_L_declare wn_L ww_declare (by decide +kernel) rfl (by rw [hR]; exact ⟨by decide +kernel, rfl, rfl, hk.1, hk.2⟩) rfl (Nat.le_of_ble_eq_true rfl) dL_law_979 ?_
  rw [hk5]
  refine r_istore (lv' := [(5, .int (SM2.1 350 0)), (0, .ref b), (1, .ref (x_ad x 0 6 0)), (2, .ref (x_ad x 0 7 0)), (3, .ref (x_ad x 2 900 0)), (4, .int (nI (5 * t)))]) hx dL_law_982 (by decide) rfl ?_
  refine r_aload_n (k0 := 3) hx dL_law_984 rfl rfl ?_
  refine r_cell h (j := 1) (k0 := 1) (k4 := 5) (by omega) (by decide) rfl rfl dL_law_985 dL_law_986 dL_law_988 dL_law_989 dL_law_990 ?_
  refine r_cell h (j := 2) (k0 := 1) (k4 := 5) (by omega) (by decide) rfl rfl dL_law_991 dL_law_992 dL_law_994 dL_law_995 dL_law_996 ?_
  refine r_cell h (j := 3) (k0 := 1) (k4 := 5) (by omega) (by decide) rfl rfl dL_law_997 dL_law_998 dL_law_1000 dL_law_1001 dL_law_1002 ?_
  refine p_Vi (S1 := mx SC2 SM2 (oW w code v.toInt64)) (C := RX8) (T := TX8) (N := 40) (As := [.int (xs (5 * t + 1)), .int (xs (5 * t + 2)), .int (xs (5 * t + 3))]) (rest := []) (n := 3) hx hs8 eM0 (C_X8_declare (c := x_yA x KM) (fun _ hk => hk) h2) eM0 eM2 (by rw [hK9]; exact KL_M (k_0_7 (fun _ hk => hk))) rfl wl_L_120 wi_X8_declare we_X8_declare wn_X8 wc_X8_declare (by decide +kernel) rfl (by rw [hR]; exact ⟨by decide +kernel, rfl, rfl, Nat.le_trans (Nat.le_refl _) hk.1, Nat.le_trans (Nat.le_refl _) hk.2⟩) rfl (Nat.le_of_ble_eq_true rfl) dL_law_1003 ?_
  refine r_istore (lv' := [(6, .int bv), (5, .int (SM2.1 350 0)), (0, .ref b), (1, .ref (x_ad x 0 6 0)), (2, .ref (x_ad x 0 7 0)), (3, .ref (x_ad x 2 900 0)), (4, .int (nI (5 * t)))]) hx dL_law_1006 (by decide) rfl ?_
  refine r_aload_n (k0 := 4) hx dL_law_1008 rfl rfl ?_
  refine p_Vi (S1 := mx SC2 SM2 (oW w code v.toInt64)) (C := RX8) (T := TX8) (N := 40) (As := []) (rest := []) (n := 0) (out := (SM2, SM2.1 350 0)) hx hs8 eM0 (C_X8_thrown (n := 10000) (c := x_yA x KM) (fun _ hk => hk) rfl) eM0 eM2 (by rw [hK9]; exact KL_M (k_0_7 (fun _ hk => hk))) rfl wl_L_78 wi_X8_thrown we_X8_thrown wn_X8 wc_X8_thrown (by decide +kernel) rfl (by rw [hR]; exact ⟨by decide +kernel, rfl, rfl, Nat.le_trans (Nat.le_refl _) hk.1, Nat.le_trans (Nat.le_refl _) hk.2⟩) rfl (Nat.le_of_ble_eq_true rfl) dL_law_1009 ?_
  refine r_iload (k0 := 1) hx dL_law_1012 rfl ?_
  refine r_icmp_eq (tgt := 1019) hx dL_law_1014 (by decide) (fun _ => ?_) (fun hn => absurd rfl hn)
  refine r_iload (k0 := 1) hx dL_law_1019 rfl ?_
  have fin : WX x 7 (kc + 4) (ks + 24) (mx SC2 SM2 (oW w code v.toInt64)) 1036 [(6, .int bv), (5, .int (SM2.1 350 0)), (0, .ref b), (1, .ref (x_ad x 0 6 0)), (2, .ref (x_ad x 0 7 0)), (3, .ref (x_ad x 2 900 0)), (4, .int (nI (5 * t)))] [] := by
    refine r_goto (tgt := 1279) hx dL_law_1036 (by decide) ?_
    exact WX.sub (kk SC2 SM2 _ P2 Ns2 hI2) [2, 3, 4, 5, 6] rfl
  refine r_if_ne (tgt := 1036) hx dL_law_1021 (by decide) (fun _ => fin) (fun h0 => ?_)
  have hc0 : code = 0 := by
    rw [h0] at h350
    rcases hc with rfl | rfl | rfl | rfl
    · rfl
    · exact absurd h350 (by decide)
    · exact absurd h350 (by decide)
    · exact absurd h350 (by decide)
  have hv0 := hv hc0
  refine r_aload_n (k0 := 5) hx dL_law_1024 rfl rfl ?_
  refine r_iconst (v := 0) hx dL_law_1025 (by decide) ?_
  refine r_lald (v := v.toInt64) (f := 900) (j := 0) (L := 1) hx (by rw [hK9]; exact KL_O) rfl (show ¬ ((0 : Int32) < 0 ∨ 1 ≤ (0 : Int32).toNatClampNeg) by decide) (by rw [mx_out, hc0, oW_0]; exact vp_u0.symm) dL_law_1026 ?_
  refine r_iload (k0 := 0) hx dL_law_1027 rfl ?_
  refine r_i2l hx dL_law_1029 ?_
  refine r_lcmp hx dL_law_1030 ?_
  exact r_if_eq (tgt := 1036) hx dL_law_1031 (by decide) (fun _ => fin) (fun hn => absurd ((cmp_eq _ _).mpr (by rw [hv0])) hn)
theorem dL_law_1039 : decode code 1039 = .ok (.aload_n 1, 1) := by decide +kernel
theorem dL_law_1040 : decode code 1040 = .ok (.aload_n 0, 1) := by decide +kernel
theorem dL_law_1041 : decode code 1041 = .ok (.iload 4, 2) := by decide +kernel
theorem dL_law_1043 : decode code 1043 = .ok (.iconst 1, 1) := by decide +kernel
theorem dL_law_1044 : decode code 1044 = .ok (.iadd, 1) := by decide +kernel
theorem dL_law_1045 : decode code 1045 = .ok (.iaload, 1) := by decide +kernel
theorem dL_law_1046 : decode code 1046 = .ok (.aload_n 0, 1) := by decide +kernel
theorem dL_law_1047 : decode code 1047 = .ok (.iload 4, 2) := by decide +kernel
theorem dL_law_1049 : decode code 1049 = .ok (.iconst 2, 1) := by decide +kernel
theorem dL_law_1050 : decode code 1050 = .ok (.iadd, 1) := by decide +kernel
theorem dL_law_1051 : decode code 1051 = .ok (.iaload, 1) := by decide +kernel
theorem dL_law_1052 : decode code 1052 = .ok (.aload_n 3, 1) := by decide +kernel
theorem dL_law_1053 : decode code 1053 = .ok (.invokestatic 121, 3) := by decide +kernel
theorem dL_law_1056 : decode code 1056 = .ok (.istore 5, 2) := by decide +kernel
theorem dL_law_1058 : decode code 1058 = .ok (.aload_n 2, 1) := by decide +kernel
theorem dL_law_1059 : decode code 1059 = .ok (.aload_n 0, 1) := by decide +kernel
theorem dL_law_1060 : decode code 1060 = .ok (.iload 4, 2) := by decide +kernel
theorem dL_law_1062 : decode code 1062 = .ok (.iconst 1, 1) := by decide +kernel
theorem dL_law_1063 : decode code 1063 = .ok (.iadd, 1) := by decide +kernel
theorem dL_law_1064 : decode code 1064 = .ok (.iaload, 1) := by decide +kernel
theorem dL_law_1065 : decode code 1065 = .ok (.aload_n 0, 1) := by decide +kernel
theorem dL_law_1066 : decode code 1066 = .ok (.iload 4, 2) := by decide +kernel
theorem dL_law_1068 : decode code 1068 = .ok (.iconst 2, 1) := by decide +kernel
theorem dL_law_1069 : decode code 1069 = .ok (.iadd, 1) := by decide +kernel
theorem dL_law_1070 : decode code 1070 = .ok (.iaload, 1) := by decide +kernel
theorem dL_law_1071 : decode code 1071 = .ok (.invokevirtual 123, 3) := by decide +kernel
theorem dL_law_1074 : decode code 1074 = .ok (.istore 6, 2) := by decide +kernel
theorem dL_law_1076 : decode code 1076 = .ok (.aload_n 2, 1) := by decide +kernel
theorem dL_law_1077 : decode code 1077 = .ok (.invokevirtual 78, 3) := by decide +kernel
theorem dL_law_1080 : decode code 1080 = .ok (.iload 5, 2) := by decide +kernel
theorem dL_law_1082 : decode code 1082 = .ok (.if_icmp .eq 5, 3) := by decide +kernel
theorem dL_law_1085 : decode code 1085 = .ok (.iconst 0, 1) := by decide +kernel
theorem dL_law_1086 : decode code 1086 = .ok (.ireturn, 1) := by decide +kernel
theorem dL_law_1087 : decode code 1087 = .ok (.iload 5, 2) := by decide +kernel
theorem dL_law_1089 : decode code 1089 = .ok (.ifCond .ne 15, 3) := by decide +kernel
theorem dL_law_1092 : decode code 1092 = .ok (.aload_n 3, 1) := by decide +kernel
theorem dL_law_1093 : decode code 1093 = .ok (.iconst 0, 1) := by decide +kernel
theorem dL_law_1094 : decode code 1094 = .ok (.laload, 1) := by decide +kernel
theorem dL_law_1095 : decode code 1095 = .ok (.iload 6, 2) := by decide +kernel
theorem dL_law_1097 : decode code 1097 = .ok (.i2l, 1) := by decide +kernel
theorem dL_law_1098 : decode code 1098 = .ok (.lcmp, 1) := by decide +kernel
theorem dL_law_1099 : decode code 1099 = .ok (.ifCond .eq 5, 3) := by decide +kernel
theorem dL_law_1102 : decode code 1102 = .ok (.iconst 0, 1) := by decide +kernel
theorem dL_law_1103 : decode code 1103 = .ok (.ireturn, 1) := by decide +kernel
theorem dL_law_1104 : decode code 1104 = .ok (.goto 175, 3) := by decide +kernel
set_option maxRecDepth 100000 in
set_option maxHeartbeats 4000000 in
theorem w_part {x : XC} {b L : Nat} {xs : Nat → Int32} (h : LX x b L xs) {t kc ks : Nat} (ht : 5 * t + 5 ≤ L) (hk : kc + 4 ≤ 601024 ∧ ks + 24 ≤ 7293034) {SC SM : St} {w : Nat → Int64} {P : PT} {Ns : List Nme} (hI : INV SC SM P Ns) (kk : LK x b t (kc + 4) (ks + 24)) : WX x 7 kc ks (mx SC SM w) 1039 (LV x b t) [] := by
  obtain ⟨hx, hR, hK9, hst, -⟩ := id h
  have hD : KD (x_ad x) KLw := by rw [← hK9]; exact hx.2.2.2.2.2.2.1
  have hs8 : SPL (x_ad x) (x_K x) KM (KK ++ [(2, 900, 0)]) := by rw [hK9]; exact spl_M hD
  obtain ⟨SC2, SM2, code, v, bv, P2, Ns2, h1, h2, hI2, h350, hcode, hv⟩ := k_part (n := 10000) (Nat.le_refl _) hI (xs (5 * t + 1)) (xs (5 * t + 2))
  have hc : code = 0 ∨ code = 2 ∨ code = 1 := by have h9 := oc_part _ h1; simpa using h9
  have hk5 : (if code = 2 then 1 else if code = 1 then 2 else 0 : Int32) = SM2.1 350 0 := by rw [h350]; rcases hc with rfl | rfl | rfl <;> decide
  show WX x 7 kc ks (mx SC SM w) 1039 [(0, .ref b), (1, .ref (x_ad x 0 6 0)), (2, .ref (x_ad x 0 7 0)), (3, .ref (x_ad x 2 900 0)), (4, .int (nI (5 * t)))] []
  refine r_aload_n (k0 := 1) hx dL_law_1039 rfl rfl ?_
  refine r_cell h (j := 1) (k0 := 0) (k4 := 4) (by omega) (by decide) rfl rfl dL_law_1040 dL_law_1041 dL_law_1043 dL_law_1044 dL_law_1045 ?_
  refine r_cell h (j := 2) (k0 := 0) (k4 := 4) (by omega) (by decide) rfl rfl dL_law_1046 dL_law_1047 dL_law_1049 dL_law_1050 dL_law_1051 ?_
  refine r_aload_n (k0 := 3) hx dL_law_1052 rfl rfl ?_
  refine r_SW (As := [.ref (x_ad x 0 6 0), .int (xs (5 * t + 1)), .int (xs (5 * t + 2)), .ref (x_ad x 2 900 0)]) (rest := []) (n := 4) hx (L_part (c := x_y x) hK9 hst h1 hc) wl_L_121 wt_L_part wn_L ww_part (by decide +kernel) rfl (by rw [hR]; exact ⟨by decide +kernel, rfl, rfl, hk.1, hk.2⟩) rfl (Nat.le_of_ble_eq_true rfl) dL_law_1053 ?_
  rw [hk5]
  refine r_istore (lv' := [(5, .int (SM2.1 350 0)), (0, .ref b), (1, .ref (x_ad x 0 6 0)), (2, .ref (x_ad x 0 7 0)), (3, .ref (x_ad x 2 900 0)), (4, .int (nI (5 * t)))]) hx dL_law_1056 (by decide) rfl ?_
  refine r_aload_n (k0 := 3) hx dL_law_1058 rfl rfl ?_
  refine r_cell h (j := 1) (k0 := 1) (k4 := 5) (by omega) (by decide) rfl rfl dL_law_1059 dL_law_1060 dL_law_1062 dL_law_1063 dL_law_1064 ?_
  refine r_cell h (j := 2) (k0 := 1) (k4 := 5) (by omega) (by decide) rfl rfl dL_law_1065 dL_law_1066 dL_law_1068 dL_law_1069 dL_law_1070 ?_
  refine p_Vi (S1 := mx SC2 SM2 (oW w code v.toInt64)) (C := RX8) (T := TX8) (N := 40) (As := [.int (xs (5 * t + 1)), .int (xs (5 * t + 2))]) (rest := []) (n := 2) hx hs8 eM0 (C_X8_part (c := x_yA x KM) (fun _ hk => hk) h2) eM0 eM2 (by rw [hK9]; exact KL_M (k_0_7 (fun _ hk => hk))) rfl wl_L_123 wi_X8_part we_X8_part wn_X8 wc_X8_part (by decide +kernel) rfl (by rw [hR]; exact ⟨by decide +kernel, rfl, rfl, Nat.le_trans (Nat.le_refl _) hk.1, Nat.le_trans (Nat.le_refl _) hk.2⟩) rfl (Nat.le_of_ble_eq_true rfl) dL_law_1071 ?_
  refine r_istore (lv' := [(6, .int bv), (5, .int (SM2.1 350 0)), (0, .ref b), (1, .ref (x_ad x 0 6 0)), (2, .ref (x_ad x 0 7 0)), (3, .ref (x_ad x 2 900 0)), (4, .int (nI (5 * t)))]) hx dL_law_1074 (by decide) rfl ?_
  refine r_aload_n (k0 := 4) hx dL_law_1076 rfl rfl ?_
  refine p_Vi (S1 := mx SC2 SM2 (oW w code v.toInt64)) (C := RX8) (T := TX8) (N := 40) (As := []) (rest := []) (n := 0) (out := (SM2, SM2.1 350 0)) hx hs8 eM0 (C_X8_thrown (n := 10000) (c := x_yA x KM) (fun _ hk => hk) rfl) eM0 eM2 (by rw [hK9]; exact KL_M (k_0_7 (fun _ hk => hk))) rfl wl_L_78 wi_X8_thrown we_X8_thrown wn_X8 wc_X8_thrown (by decide +kernel) rfl (by rw [hR]; exact ⟨by decide +kernel, rfl, rfl, Nat.le_trans (Nat.le_refl _) hk.1, Nat.le_trans (Nat.le_refl _) hk.2⟩) rfl (Nat.le_of_ble_eq_true rfl) dL_law_1077 ?_
  refine r_iload (k0 := 1) hx dL_law_1080 rfl ?_
  refine r_icmp_eq (tgt := 1087) hx dL_law_1082 (by decide) (fun _ => ?_) (fun hn => absurd rfl hn)
  refine r_iload (k0 := 1) hx dL_law_1087 rfl ?_
  have fin : WX x 7 (kc + 4) (ks + 24) (mx SC2 SM2 (oW w code v.toInt64)) 1104 [(6, .int bv), (5, .int (SM2.1 350 0)), (0, .ref b), (1, .ref (x_ad x 0 6 0)), (2, .ref (x_ad x 0 7 0)), (3, .ref (x_ad x 2 900 0)), (4, .int (nI (5 * t)))] [] := by
    refine r_goto (tgt := 1279) hx dL_law_1104 (by decide) ?_
    exact WX.sub (kk SC2 SM2 _ P2 Ns2 hI2) [2, 3, 4, 5, 6] rfl
  refine r_if_ne (tgt := 1104) hx dL_law_1089 (by decide) (fun _ => fin) (fun h0 => ?_)
  have hc0 : code = 0 := by
    rw [h0] at h350
    rcases hc with rfl | rfl | rfl
    · rfl
    · exact absurd h350 (by decide)
    · exact absurd h350 (by decide)
  have hv0 := hv hc0
  refine r_aload_n (k0 := 5) hx dL_law_1092 rfl rfl ?_
  refine r_iconst (v := 0) hx dL_law_1093 (by decide) ?_
  refine r_lald (v := v.toInt64) (f := 900) (j := 0) (L := 1) hx (by rw [hK9]; exact KL_O) rfl (show ¬ ((0 : Int32) < 0 ∨ 1 ≤ (0 : Int32).toNatClampNeg) by decide) (by rw [mx_out, hc0, oW_0]; exact vp_u0.symm) dL_law_1094 ?_
  refine r_iload (k0 := 0) hx dL_law_1095 rfl ?_
  refine r_i2l hx dL_law_1097 ?_
  refine r_lcmp hx dL_law_1098 ?_
  exact r_if_eq (tgt := 1104) hx dL_law_1099 (by decide) (fun _ => fin) (fun hn => absurd ((cmp_eq _ _).mpr (by rw [hv0])) hn)
theorem dL_law_1107 : decode code 1107 = .ok (.aload_n 1, 1) := by decide +kernel
theorem dL_law_1108 : decode code 1108 = .ok (.aload_n 0, 1) := by decide +kernel
theorem dL_law_1109 : decode code 1109 = .ok (.iload 4, 2) := by decide +kernel
theorem dL_law_1111 : decode code 1111 = .ok (.iconst 1, 1) := by decide +kernel
theorem dL_law_1112 : decode code 1112 = .ok (.iadd, 1) := by decide +kernel
theorem dL_law_1113 : decode code 1113 = .ok (.iaload, 1) := by decide +kernel
theorem dL_law_1114 : decode code 1114 = .ok (.aload_n 0, 1) := by decide +kernel
theorem dL_law_1115 : decode code 1115 = .ok (.iload 4, 2) := by decide +kernel
theorem dL_law_1117 : decode code 1117 = .ok (.iconst 2, 1) := by decide +kernel
theorem dL_law_1118 : decode code 1118 = .ok (.iadd, 1) := by decide +kernel
theorem dL_law_1119 : decode code 1119 = .ok (.iaload, 1) := by decide +kernel
theorem dL_law_1120 : decode code 1120 = .ok (.aload_n 3, 1) := by decide +kernel
theorem dL_law_1121 : decode code 1121 = .ok (.invokestatic 124, 3) := by decide +kernel
theorem dL_law_1124 : decode code 1124 = .ok (.istore 5, 2) := by decide +kernel
theorem dL_law_1126 : decode code 1126 = .ok (.aload_n 2, 1) := by decide +kernel
theorem dL_law_1127 : decode code 1127 = .ok (.aload_n 0, 1) := by decide +kernel
theorem dL_law_1128 : decode code 1128 = .ok (.iload 4, 2) := by decide +kernel
theorem dL_law_1130 : decode code 1130 = .ok (.iconst 1, 1) := by decide +kernel
theorem dL_law_1131 : decode code 1131 = .ok (.iadd, 1) := by decide +kernel
theorem dL_law_1132 : decode code 1132 = .ok (.iaload, 1) := by decide +kernel
theorem dL_law_1133 : decode code 1133 = .ok (.aload_n 0, 1) := by decide +kernel
theorem dL_law_1134 : decode code 1134 = .ok (.iload 4, 2) := by decide +kernel
theorem dL_law_1136 : decode code 1136 = .ok (.iconst 2, 1) := by decide +kernel
theorem dL_law_1137 : decode code 1137 = .ok (.iadd, 1) := by decide +kernel
theorem dL_law_1138 : decode code 1138 = .ok (.iaload, 1) := by decide +kernel
theorem dL_law_1139 : decode code 1139 = .ok (.invokevirtual 126, 3) := by decide +kernel
theorem dL_law_1142 : decode code 1142 = .ok (.istore 6, 2) := by decide +kernel
theorem dL_law_1144 : decode code 1144 = .ok (.aload_n 2, 1) := by decide +kernel
theorem dL_law_1145 : decode code 1145 = .ok (.invokevirtual 78, 3) := by decide +kernel
theorem dL_law_1148 : decode code 1148 = .ok (.iload 5, 2) := by decide +kernel
theorem dL_law_1150 : decode code 1150 = .ok (.if_icmp .eq 5, 3) := by decide +kernel
theorem dL_law_1153 : decode code 1153 = .ok (.iconst 0, 1) := by decide +kernel
theorem dL_law_1154 : decode code 1154 = .ok (.ireturn, 1) := by decide +kernel
theorem dL_law_1155 : decode code 1155 = .ok (.iload 5, 2) := by decide +kernel
theorem dL_law_1157 : decode code 1157 = .ok (.ifCond .ne 15, 3) := by decide +kernel
theorem dL_law_1160 : decode code 1160 = .ok (.aload_n 3, 1) := by decide +kernel
theorem dL_law_1161 : decode code 1161 = .ok (.iconst 0, 1) := by decide +kernel
theorem dL_law_1162 : decode code 1162 = .ok (.laload, 1) := by decide +kernel
theorem dL_law_1163 : decode code 1163 = .ok (.iload 6, 2) := by decide +kernel
theorem dL_law_1165 : decode code 1165 = .ok (.i2l, 1) := by decide +kernel
theorem dL_law_1166 : decode code 1166 = .ok (.lcmp, 1) := by decide +kernel
theorem dL_law_1167 : decode code 1167 = .ok (.ifCond .eq 5, 3) := by decide +kernel
theorem dL_law_1170 : decode code 1170 = .ok (.iconst 0, 1) := by decide +kernel
theorem dL_law_1171 : decode code 1171 = .ok (.ireturn, 1) := by decide +kernel
theorem dL_law_1172 : decode code 1172 = .ok (.goto 107, 3) := by decide +kernel
set_option maxRecDepth 100000 in
set_option maxHeartbeats 4000000 in
theorem w_levelPart {x : XC} {b L : Nat} {xs : Nat → Int32} (h : LX x b L xs) {t kc ks : Nat} (ht : 5 * t + 5 ≤ L) (hk : kc + 4 ≤ 601024 ∧ ks + 24 ≤ 7293034) {SC SM : St} {w : Nat → Int64} {P : PT} {Ns : List Nme} (hI : INV SC SM P Ns) (kk : LK x b t (kc + 4) (ks + 24)) : WX x 7 kc ks (mx SC SM w) 1107 (LV x b t) [] := by
  obtain ⟨hx, hR, hK9, hst, -⟩ := id h
  have hD : KD (x_ad x) KLw := by rw [← hK9]; exact hx.2.2.2.2.2.2.1
  have hs8 : SPL (x_ad x) (x_K x) KM (KK ++ [(2, 900, 0)]) := by rw [hK9]; exact spl_M hD
  obtain ⟨SC2, SM2, code, v, bv, P2, Ns2, h1, h2, hI2, h350, hcode, hv⟩ := k_levelPart (n := 10000) (Nat.le_refl _) hI (xs (5 * t + 1)) (xs (5 * t + 2))
  have hc : code = 0 ∨ code = 2 ∨ code = 1 := by have h9 := oc_levelPart _ h1; simpa using h9
  have hk5 : (if code = 2 then 1 else if code = 1 then 2 else 0 : Int32) = SM2.1 350 0 := by rw [h350]; rcases hc with rfl | rfl | rfl <;> decide
  show WX x 7 kc ks (mx SC SM w) 1107 [(0, .ref b), (1, .ref (x_ad x 0 6 0)), (2, .ref (x_ad x 0 7 0)), (3, .ref (x_ad x 2 900 0)), (4, .int (nI (5 * t)))] []
  refine r_aload_n (k0 := 1) hx dL_law_1107 rfl rfl ?_
  refine r_cell h (j := 1) (k0 := 0) (k4 := 4) (by omega) (by decide) rfl rfl dL_law_1108 dL_law_1109 dL_law_1111 dL_law_1112 dL_law_1113 ?_
  refine r_cell h (j := 2) (k0 := 0) (k4 := 4) (by omega) (by decide) rfl rfl dL_law_1114 dL_law_1115 dL_law_1117 dL_law_1118 dL_law_1119 ?_
  refine r_aload_n (k0 := 3) hx dL_law_1120 rfl rfl ?_
  refine r_SW (As := [.ref (x_ad x 0 6 0), .int (xs (5 * t + 1)), .int (xs (5 * t + 2)), .ref (x_ad x 2 900 0)]) (rest := []) (n := 4) hx (L_levelPart (c := x_y x) hK9 hst h1 hc) wl_L_124 wt_L_levelPart wn_L ww_levelPart (by decide +kernel) rfl (by rw [hR]; exact ⟨by decide +kernel, rfl, rfl, hk.1, hk.2⟩) rfl (Nat.le_of_ble_eq_true rfl) dL_law_1121 ?_
  rw [hk5]
  refine r_istore (lv' := [(5, .int (SM2.1 350 0)), (0, .ref b), (1, .ref (x_ad x 0 6 0)), (2, .ref (x_ad x 0 7 0)), (3, .ref (x_ad x 2 900 0)), (4, .int (nI (5 * t)))]) hx dL_law_1124 (by decide) rfl ?_
  refine r_aload_n (k0 := 3) hx dL_law_1126 rfl rfl ?_
  refine r_cell h (j := 1) (k0 := 1) (k4 := 5) (by omega) (by decide) rfl rfl dL_law_1127 dL_law_1128 dL_law_1130 dL_law_1131 dL_law_1132 ?_
  refine r_cell h (j := 2) (k0 := 1) (k4 := 5) (by omega) (by decide) rfl rfl dL_law_1133 dL_law_1134 dL_law_1136 dL_law_1137 dL_law_1138 ?_
  refine p_Vi (S1 := mx SC2 SM2 (oW w code v.toInt64)) (C := RX8) (T := TX8) (N := 40) (As := [.int (xs (5 * t + 1)), .int (xs (5 * t + 2))]) (rest := []) (n := 2) hx hs8 eM0 (C_X8_levelPart (c := x_yA x KM) (fun _ hk => hk) h2) eM0 eM2 (by rw [hK9]; exact KL_M (k_0_7 (fun _ hk => hk))) rfl wl_L_126 wi_X8_levelPart we_X8_levelPart wn_X8 wc_X8_levelPart (by decide +kernel) rfl (by rw [hR]; exact ⟨by decide +kernel, rfl, rfl, Nat.le_trans (Nat.le_refl _) hk.1, Nat.le_trans (Nat.le_refl _) hk.2⟩) rfl (Nat.le_of_ble_eq_true rfl) dL_law_1139 ?_
  refine r_istore (lv' := [(6, .int bv), (5, .int (SM2.1 350 0)), (0, .ref b), (1, .ref (x_ad x 0 6 0)), (2, .ref (x_ad x 0 7 0)), (3, .ref (x_ad x 2 900 0)), (4, .int (nI (5 * t)))]) hx dL_law_1142 (by decide) rfl ?_
  refine r_aload_n (k0 := 4) hx dL_law_1144 rfl rfl ?_
  refine p_Vi (S1 := mx SC2 SM2 (oW w code v.toInt64)) (C := RX8) (T := TX8) (N := 40) (As := []) (rest := []) (n := 0) (out := (SM2, SM2.1 350 0)) hx hs8 eM0 (C_X8_thrown (n := 10000) (c := x_yA x KM) (fun _ hk => hk) rfl) eM0 eM2 (by rw [hK9]; exact KL_M (k_0_7 (fun _ hk => hk))) rfl wl_L_78 wi_X8_thrown we_X8_thrown wn_X8 wc_X8_thrown (by decide +kernel) rfl (by rw [hR]; exact ⟨by decide +kernel, rfl, rfl, Nat.le_trans (Nat.le_refl _) hk.1, Nat.le_trans (Nat.le_refl _) hk.2⟩) rfl (Nat.le_of_ble_eq_true rfl) dL_law_1145 ?_
  refine r_iload (k0 := 1) hx dL_law_1148 rfl ?_
  refine r_icmp_eq (tgt := 1155) hx dL_law_1150 (by decide) (fun _ => ?_) (fun hn => absurd rfl hn)
  refine r_iload (k0 := 1) hx dL_law_1155 rfl ?_
  have fin : WX x 7 (kc + 4) (ks + 24) (mx SC2 SM2 (oW w code v.toInt64)) 1172 [(6, .int bv), (5, .int (SM2.1 350 0)), (0, .ref b), (1, .ref (x_ad x 0 6 0)), (2, .ref (x_ad x 0 7 0)), (3, .ref (x_ad x 2 900 0)), (4, .int (nI (5 * t)))] [] := by
    refine r_goto (tgt := 1279) hx dL_law_1172 (by decide) ?_
    exact WX.sub (kk SC2 SM2 _ P2 Ns2 hI2) [2, 3, 4, 5, 6] rfl
  refine r_if_ne (tgt := 1172) hx dL_law_1157 (by decide) (fun _ => fin) (fun h0 => ?_)
  have hc0 : code = 0 := by
    rw [h0] at h350
    rcases hc with rfl | rfl | rfl
    · rfl
    · exact absurd h350 (by decide)
    · exact absurd h350 (by decide)
  have hv0 := hv hc0
  refine r_aload_n (k0 := 5) hx dL_law_1160 rfl rfl ?_
  refine r_iconst (v := 0) hx dL_law_1161 (by decide) ?_
  refine r_lald (v := v.toInt64) (f := 900) (j := 0) (L := 1) hx (by rw [hK9]; exact KL_O) rfl (show ¬ ((0 : Int32) < 0 ∨ 1 ≤ (0 : Int32).toNatClampNeg) by decide) (by rw [mx_out, hc0, oW_0]; exact vp_u0.symm) dL_law_1162 ?_
  refine r_iload (k0 := 0) hx dL_law_1163 rfl ?_
  refine r_i2l hx dL_law_1165 ?_
  refine r_lcmp hx dL_law_1166 ?_
  exact r_if_eq (tgt := 1172) hx dL_law_1167 (by decide) (fun _ => fin) (fun hn => absurd ((cmp_eq _ _).mpr (by rw [hv0])) hn)
theorem dL_law_1175 : decode code 1175 = .ok (.aload_n 1, 1) := by decide +kernel
theorem dL_law_1176 : decode code 1176 = .ok (.aload_n 0, 1) := by decide +kernel
theorem dL_law_1177 : decode code 1177 = .ok (.iload 4, 2) := by decide +kernel
theorem dL_law_1179 : decode code 1179 = .ok (.iconst 1, 1) := by decide +kernel
theorem dL_law_1180 : decode code 1180 = .ok (.iadd, 1) := by decide +kernel
theorem dL_law_1181 : decode code 1181 = .ok (.iaload, 1) := by decide +kernel
theorem dL_law_1182 : decode code 1182 = .ok (.aload_n 0, 1) := by decide +kernel
theorem dL_law_1183 : decode code 1183 = .ok (.iload 4, 2) := by decide +kernel
theorem dL_law_1185 : decode code 1185 = .ok (.iconst 2, 1) := by decide +kernel
theorem dL_law_1186 : decode code 1186 = .ok (.iadd, 1) := by decide +kernel
theorem dL_law_1187 : decode code 1187 = .ok (.iaload, 1) := by decide +kernel
theorem dL_law_1188 : decode code 1188 = .ok (.aload_n 3, 1) := by decide +kernel
theorem dL_law_1189 : decode code 1189 = .ok (.invokestatic 127, 3) := by decide +kernel
theorem dL_law_1192 : decode code 1192 = .ok (.istore 5, 2) := by decide +kernel
theorem dL_law_1194 : decode code 1194 = .ok (.aload_n 2, 1) := by decide +kernel
theorem dL_law_1195 : decode code 1195 = .ok (.aload_n 0, 1) := by decide +kernel
theorem dL_law_1196 : decode code 1196 = .ok (.iload 4, 2) := by decide +kernel
theorem dL_law_1198 : decode code 1198 = .ok (.iconst 1, 1) := by decide +kernel
theorem dL_law_1199 : decode code 1199 = .ok (.iadd, 1) := by decide +kernel
theorem dL_law_1200 : decode code 1200 = .ok (.iaload, 1) := by decide +kernel
theorem dL_law_1201 : decode code 1201 = .ok (.aload_n 0, 1) := by decide +kernel
theorem dL_law_1202 : decode code 1202 = .ok (.iload 4, 2) := by decide +kernel
theorem dL_law_1204 : decode code 1204 = .ok (.iconst 2, 1) := by decide +kernel
theorem dL_law_1205 : decode code 1205 = .ok (.iadd, 1) := by decide +kernel
theorem dL_law_1206 : decode code 1206 = .ok (.iaload, 1) := by decide +kernel
theorem dL_law_1207 : decode code 1207 = .ok (.invokevirtual 129, 3) := by decide +kernel
theorem dL_law_1210 : decode code 1210 = .ok (.istore 6, 2) := by decide +kernel
theorem dL_law_1212 : decode code 1212 = .ok (.aload_n 2, 1) := by decide +kernel
theorem dL_law_1213 : decode code 1213 = .ok (.invokevirtual 78, 3) := by decide +kernel
theorem dL_law_1216 : decode code 1216 = .ok (.iload 5, 2) := by decide +kernel
theorem dL_law_1218 : decode code 1218 = .ok (.if_icmp .eq 5, 3) := by decide +kernel
theorem dL_law_1221 : decode code 1221 = .ok (.iconst 0, 1) := by decide +kernel
theorem dL_law_1222 : decode code 1222 = .ok (.ireturn, 1) := by decide +kernel
theorem dL_law_1223 : decode code 1223 = .ok (.iload 5, 2) := by decide +kernel
theorem dL_law_1225 : decode code 1225 = .ok (.ifCond .ne 15, 3) := by decide +kernel
theorem dL_law_1228 : decode code 1228 = .ok (.aload_n 3, 1) := by decide +kernel
theorem dL_law_1229 : decode code 1229 = .ok (.iconst 0, 1) := by decide +kernel
theorem dL_law_1230 : decode code 1230 = .ok (.laload, 1) := by decide +kernel
theorem dL_law_1231 : decode code 1231 = .ok (.iload 6, 2) := by decide +kernel
theorem dL_law_1233 : decode code 1233 = .ok (.i2l, 1) := by decide +kernel
theorem dL_law_1234 : decode code 1234 = .ok (.lcmp, 1) := by decide +kernel
theorem dL_law_1235 : decode code 1235 = .ok (.ifCond .eq 5, 3) := by decide +kernel
theorem dL_law_1238 : decode code 1238 = .ok (.iconst 0, 1) := by decide +kernel
theorem dL_law_1239 : decode code 1239 = .ok (.ireturn, 1) := by decide +kernel
theorem dL_law_1240 : decode code 1240 = .ok (.goto 39, 3) := by decide +kernel
set_option maxRecDepth 100000 in
set_option maxHeartbeats 4000000 in
theorem w_declared {x : XC} {b L : Nat} {xs : Nat → Int32} (h : LX x b L xs) {t kc ks : Nat} (ht : 5 * t + 5 ≤ L) (hk : kc + 4 ≤ 601024 ∧ ks + 24 ≤ 7293034) {SC SM : St} {w : Nat → Int64} {P : PT} {Ns : List Nme} (hI : INV SC SM P Ns) (kk : LK x b t (kc + 4) (ks + 24)) : WX x 7 kc ks (mx SC SM w) 1175 (LV x b t) [] := by
  obtain ⟨hx, hR, hK9, hst, -⟩ := id h
  have hD : KD (x_ad x) KLw := by rw [← hK9]; exact hx.2.2.2.2.2.2.1
  have hs8 : SPL (x_ad x) (x_K x) KM (KK ++ [(2, 900, 0)]) := by rw [hK9]; exact spl_M hD
  obtain ⟨SC2, SM2, code, v, bv, P2, Ns2, h1, h2, hI2, h350, hcode, hv⟩ := k_declared (n := 10000) (Nat.le_refl _) hI (xs (5 * t + 1)) (xs (5 * t + 2))
  have hc : code = 0 ∨ code = 2 ∨ code = 1 := by have h9 := oc_declared _ h1; simpa using h9
  have hk5 : (if code = 2 then 1 else if code = 1 then 2 else 0 : Int32) = SM2.1 350 0 := by rw [h350]; rcases hc with rfl | rfl | rfl <;> decide
  show WX x 7 kc ks (mx SC SM w) 1175 [(0, .ref b), (1, .ref (x_ad x 0 6 0)), (2, .ref (x_ad x 0 7 0)), (3, .ref (x_ad x 2 900 0)), (4, .int (nI (5 * t)))] []
  refine r_aload_n (k0 := 1) hx dL_law_1175 rfl rfl ?_
  refine r_cell h (j := 1) (k0 := 0) (k4 := 4) (by omega) (by decide) rfl rfl dL_law_1176 dL_law_1177 dL_law_1179 dL_law_1180 dL_law_1181 ?_
  refine r_cell h (j := 2) (k0 := 0) (k4 := 4) (by omega) (by decide) rfl rfl dL_law_1182 dL_law_1183 dL_law_1185 dL_law_1186 dL_law_1187 ?_
  refine r_aload_n (k0 := 3) hx dL_law_1188 rfl rfl ?_
  refine r_SW (As := [.ref (x_ad x 0 6 0), .int (xs (5 * t + 1)), .int (xs (5 * t + 2)), .ref (x_ad x 2 900 0)]) (rest := []) (n := 4) hx (L_declared (c := x_y x) hK9 hst h1 hc) wl_L_127 wt_L_declared wn_L ww_declared (by decide +kernel) rfl (by rw [hR]; exact ⟨by decide +kernel, rfl, rfl, hk.1, hk.2⟩) rfl (Nat.le_of_ble_eq_true rfl) dL_law_1189 ?_
  rw [hk5]
  refine r_istore (lv' := [(5, .int (SM2.1 350 0)), (0, .ref b), (1, .ref (x_ad x 0 6 0)), (2, .ref (x_ad x 0 7 0)), (3, .ref (x_ad x 2 900 0)), (4, .int (nI (5 * t)))]) hx dL_law_1192 (by decide) rfl ?_
  refine r_aload_n (k0 := 3) hx dL_law_1194 rfl rfl ?_
  refine r_cell h (j := 1) (k0 := 1) (k4 := 5) (by omega) (by decide) rfl rfl dL_law_1195 dL_law_1196 dL_law_1198 dL_law_1199 dL_law_1200 ?_
  refine r_cell h (j := 2) (k0 := 1) (k4 := 5) (by omega) (by decide) rfl rfl dL_law_1201 dL_law_1202 dL_law_1204 dL_law_1205 dL_law_1206 ?_
  refine p_Vi (S1 := mx SC2 SM2 (oW w code v.toInt64)) (C := RX8) (T := TX8) (N := 40) (As := [.int (xs (5 * t + 1)), .int (xs (5 * t + 2))]) (rest := []) (n := 2) hx hs8 eM0 (C_X8_declared (c := x_yA x KM) (fun _ hk => hk) h2) eM0 eM2 (by rw [hK9]; exact KL_M (k_0_7 (fun _ hk => hk))) rfl wl_L_129 wi_X8_declared we_X8_declared wn_X8 wc_X8_declared (by decide +kernel) rfl (by rw [hR]; exact ⟨by decide +kernel, rfl, rfl, Nat.le_trans (Nat.le_refl _) hk.1, Nat.le_trans (Nat.le_refl _) hk.2⟩) rfl (Nat.le_of_ble_eq_true rfl) dL_law_1207 ?_
  refine r_istore (lv' := [(6, .int bv), (5, .int (SM2.1 350 0)), (0, .ref b), (1, .ref (x_ad x 0 6 0)), (2, .ref (x_ad x 0 7 0)), (3, .ref (x_ad x 2 900 0)), (4, .int (nI (5 * t)))]) hx dL_law_1210 (by decide) rfl ?_
  refine r_aload_n (k0 := 4) hx dL_law_1212 rfl rfl ?_
  refine p_Vi (S1 := mx SC2 SM2 (oW w code v.toInt64)) (C := RX8) (T := TX8) (N := 40) (As := []) (rest := []) (n := 0) (out := (SM2, SM2.1 350 0)) hx hs8 eM0 (C_X8_thrown (n := 10000) (c := x_yA x KM) (fun _ hk => hk) rfl) eM0 eM2 (by rw [hK9]; exact KL_M (k_0_7 (fun _ hk => hk))) rfl wl_L_78 wi_X8_thrown we_X8_thrown wn_X8 wc_X8_thrown (by decide +kernel) rfl (by rw [hR]; exact ⟨by decide +kernel, rfl, rfl, Nat.le_trans (Nat.le_refl _) hk.1, Nat.le_trans (Nat.le_refl _) hk.2⟩) rfl (Nat.le_of_ble_eq_true rfl) dL_law_1213 ?_
  refine r_iload (k0 := 1) hx dL_law_1216 rfl ?_
  refine r_icmp_eq (tgt := 1223) hx dL_law_1218 (by decide) (fun _ => ?_) (fun hn => absurd rfl hn)
  refine r_iload (k0 := 1) hx dL_law_1223 rfl ?_
  have fin : WX x 7 (kc + 4) (ks + 24) (mx SC2 SM2 (oW w code v.toInt64)) 1240 [(6, .int bv), (5, .int (SM2.1 350 0)), (0, .ref b), (1, .ref (x_ad x 0 6 0)), (2, .ref (x_ad x 0 7 0)), (3, .ref (x_ad x 2 900 0)), (4, .int (nI (5 * t)))] [] := by
    refine r_goto (tgt := 1279) hx dL_law_1240 (by decide) ?_
    exact WX.sub (kk SC2 SM2 _ P2 Ns2 hI2) [2, 3, 4, 5, 6] rfl
  refine r_if_ne (tgt := 1240) hx dL_law_1225 (by decide) (fun _ => fin) (fun h0 => ?_)
  have hc0 : code = 0 := by
    rw [h0] at h350
    rcases hc with rfl | rfl | rfl
    · rfl
    · exact absurd h350 (by decide)
    · exact absurd h350 (by decide)
  have hv0 := hv hc0
  refine r_aload_n (k0 := 5) hx dL_law_1228 rfl rfl ?_
  refine r_iconst (v := 0) hx dL_law_1229 (by decide) ?_
  refine r_lald (v := v.toInt64) (f := 900) (j := 0) (L := 1) hx (by rw [hK9]; exact KL_O) rfl (show ¬ ((0 : Int32) < 0 ∨ 1 ≤ (0 : Int32).toNatClampNeg) by decide) (by rw [mx_out, hc0, oW_0]; exact vp_u0.symm) dL_law_1230 ?_
  refine r_iload (k0 := 0) hx dL_law_1231 rfl ?_
  refine r_i2l hx dL_law_1233 ?_
  refine r_lcmp hx dL_law_1234 ?_
  exact r_if_eq (tgt := 1240) hx dL_law_1235 (by decide) (fun _ => fin) (fun hn => absurd ((cmp_eq _ _).mpr (by rw [hv0])) hn)
theorem dL_law_1243 : decode code 1243 = .ok (.aload_n 1, 1) := by decide +kernel
theorem dL_law_1244 : decode code 1244 = .ok (.aload_n 0, 1) := by decide +kernel
theorem dL_law_1245 : decode code 1245 = .ok (.iload 4, 2) := by decide +kernel
theorem dL_law_1247 : decode code 1247 = .ok (.iconst 1, 1) := by decide +kernel
theorem dL_law_1248 : decode code 1248 = .ok (.iadd, 1) := by decide +kernel
theorem dL_law_1249 : decode code 1249 = .ok (.iaload, 1) := by decide +kernel
theorem dL_law_1250 : decode code 1250 = .ok (.invokevirtual 130, 3) := by decide +kernel
theorem dL_law_1253 : decode code 1253 = .ok (.aload_n 2, 1) := by decide +kernel
theorem dL_law_1254 : decode code 1254 = .ok (.aload_n 0, 1) := by decide +kernel
theorem dL_law_1255 : decode code 1255 = .ok (.iload 4, 2) := by decide +kernel
theorem dL_law_1257 : decode code 1257 = .ok (.iconst 1, 1) := by decide +kernel
theorem dL_law_1258 : decode code 1258 = .ok (.iadd, 1) := by decide +kernel
theorem dL_law_1259 : decode code 1259 = .ok (.iaload, 1) := by decide +kernel
theorem dL_law_1260 : decode code 1260 = .ok (.invokevirtual 133, 3) := by decide +kernel
theorem dL_law_1263 : decode code 1263 = .ok (.if_icmp .eq 16, 3) := by decide +kernel
theorem dL_law_1266 : decode code 1266 = .ok (.iconst 0, 1) := by decide +kernel
theorem dL_law_1267 : decode code 1267 = .ok (.ireturn, 1) := by decide +kernel
theorem dL_law_1268 : decode code 1268 = .ok (.aload_n 1, 1) := by decide +kernel
theorem dL_law_1269 : decode code 1269 = .ok (.invokevirtual 134, 3) := by decide +kernel
theorem dL_law_1272 : decode code 1272 = .ok (.aload_n 2, 1) := by decide +kernel
theorem dL_law_1273 : decode code 1273 = .ok (.invokevirtual 137, 3) := by decide +kernel
theorem dL_law_1276 : decode code 1276 = .ok (.goto 3, 3) := by decide +kernel
theorem dL_law_1279 : decode code 1279 = .ok (.iinc 4 5, 3) := by decide +kernel
theorem dL_law_1282 : decode code 1282 = .ok (.goto (-1259), 3) := by decide +kernel
theorem dL_law_1285 : decode code 1285 = .ok (.iconst 1, 1) := by decide +kernel
theorem dL_law_1286 : decode code 1286 = .ok (.ireturn, 1) := by decide +kernel
set_option maxRecDepth 100000 in
set_option maxHeartbeats 4000000 in
theorem w_told {x : XC} {b L : Nat} {xs : Nat → Int32} (h : LX x b L xs) {t kc ks : Nat} (ht : 5 * t + 5 ≤ L) (hk : kc + 4 ≤ 601024 ∧ ks + 24 ≤ 7293034) {SC SM : St} {w : Nat → Int64} {P : PT} {Ns : List Nme} (hI : INV SC SM P Ns) (kk : LK x b t (kc + 4) (ks + 24)) : WX x 7 kc ks (mx SC SM w) 1243 (LV x b t) [] := by
  obtain ⟨hx, hR, hK9, hst, -⟩ := id h
  have hD : KD (x_ad x) KLw := by rw [← hK9]; exact hx.2.2.2.2.2.2.1
  have hs8 : SPL (x_ad x) (x_K x) KM (KK ++ [(2, 900, 0)]) := by rw [hK9]; exact spl_M hD
  have hs7 : SPL (x_ad x) (x_K x) KK (KM ++ [(2, 900, 0)]) := by rw [hK9]; exact spl_C hD
  obtain ⟨SM2, v, h1, h2, hI2⟩ := k_told (n := 10000) hI (xs (5 * t + 1))
  show WX x 7 kc ks (mx SC SM w) 1243 [(0, .ref b), (1, .ref (x_ad x 0 6 0)), (2, .ref (x_ad x 0 7 0)), (3, .ref (x_ad x 2 900 0)), (4, .int (nI (5 * t)))] []
  refine r_aload_n (k0 := 1) hx dL_law_1243 rfl rfl ?_
  refine r_cell h (j := 1) (k0 := 0) (k4 := 4) (by omega) (by decide) rfl rfl dL_law_1244 dL_law_1245 dL_law_1247 dL_law_1248 dL_law_1249 ?_
  refine p_Vi (S1 := mx SC SM w) (C := RX7) (T := TX7) (N := 7) (As := [.int (xs (5 * t + 1))]) (rest := []) (n := 1) hx hs7 eC0 (C_X7_told (c := x_yA x KK) (fun _ hk => hk) h1) eC0 eC2 (by rw [hK9]; exact KL_C (k_0_6 (fun _ hk => hk))) rfl wl_L_130 wi_X7_told we_X7_told wn_X7 wc_X7_told (by decide +kernel) rfl (by rw [hR]; exact ⟨by decide +kernel, rfl, rfl, Nat.le_trans (Nat.le_add_right kc 4) hk.1, Nat.le_trans (Nat.le_add_right ks 24) hk.2⟩) rfl (Nat.le_of_ble_eq_true rfl) dL_law_1250 ?_
  refine r_aload_n (k0 := 2) hx dL_law_1253 rfl rfl ?_
  refine r_cell h (j := 1) (k0 := 0) (k4 := 4) (by omega) (by decide) rfl rfl dL_law_1254 dL_law_1255 dL_law_1257 dL_law_1258 dL_law_1259 ?_
  refine p_Vi (S1 := mx SC SM2 w) (C := RX8) (T := TX8) (N := 40) (As := [.int (xs (5 * t + 1))]) (rest := [.int v]) (n := 1) hx hs8 eM0 (C_X8_told (c := x_yA x KM) (fun _ hk => hk) h2) eM0 eM2 (by rw [hK9]; exact KL_M (k_0_7 (fun _ hk => hk))) rfl wl_L_133 wi_X8_told we_X8_told wn_X8 wc_X8_told (by decide +kernel) rfl (by rw [hR]; exact ⟨by decide +kernel, rfl, rfl, Nat.le_trans (Nat.le_add_right kc 4) hk.1, Nat.le_trans (Nat.le_add_right ks 24) hk.2⟩) rfl (Nat.le_of_ble_eq_true rfl) dL_law_1260 ?_
  exact r_icmp_eq (tgt := 1279) hx dL_law_1263 (by decide) (fun _ => WX.widen (Nat.le_add_right kc 4) (Nat.le_add_right ks 24) (kk SC SM2 _ P Ns hI2)) (fun hn => absurd rfl hn)
set_option maxRecDepth 100000 in
set_option maxHeartbeats 4000000 in
theorem w_clear {x : XC} {b L : Nat} {xs : Nat → Int32} (h : LX x b L xs) {t kc ks : Nat} (ht : 5 * t + 5 ≤ L) (hk : kc + 4 ≤ 601024 ∧ ks + 24 ≤ 7293034) {SC SM : St} {w : Nat → Int64} {P : PT} {Ns : List Nme} (hI : INV SC SM P Ns) (kk : LK x b t (kc + 4) (ks + 24)) : WX x 7 kc ks (mx SC SM w) 1268 (LV x b t) [] := by
  obtain ⟨hx, hR, hK9, hst, -⟩ := id h
  have hD : KD (x_ad x) KLw := by rw [← hK9]; exact hx.2.2.2.2.2.2.1
  have hs8 : SPL (x_ad x) (x_K x) KM (KK ++ [(2, 900, 0)]) := by rw [hK9]; exact spl_M hD
  have hs7 : SPL (x_ad x) (x_K x) KK (KM ++ [(2, 900, 0)]) := by rw [hK9]; exact spl_C hD
  obtain ⟨SC2, SM2, h1, h2, hI2⟩ := k_clear (n := 10000) hI
  show WX x 7 kc ks (mx SC SM w) 1268 [(0, .ref b), (1, .ref (x_ad x 0 6 0)), (2, .ref (x_ad x 0 7 0)), (3, .ref (x_ad x 2 900 0)), (4, .int (nI (5 * t)))] []
  refine r_aload_n (k0 := 1) hx dL_law_1268 rfl rfl ?_
  refine p_Vv (S1 := mx SC2 SM w) (C := RX7) (T := TX7) (N := 7) (As := []) (rest := []) (n := 0) hx hs7 eC0 (C_X7_clear (c := x_yA x KK) (fun _ hk => hk) h1) eC0 eC2 (by rw [hK9]; exact KL_C (k_0_6 (fun _ hk => hk))) rfl wl_L_134 wi_X7_clear we_X7_clear wn_X7 wc_X7_clear (by decide +kernel) rfl (by rw [hR]; exact ⟨by decide +kernel, rfl, rfl, Nat.le_trans (Nat.le_add_right kc 4) hk.1, Nat.le_trans (Nat.le_add_right ks 24) hk.2⟩) rfl (Nat.le_of_ble_eq_true rfl) dL_law_1269 ?_
  refine r_aload_n (k0 := 2) hx dL_law_1272 rfl rfl ?_
  refine p_Vv (S1 := mx SC2 SM2 w) (C := RX8) (T := TX8) (N := 40) (As := []) (rest := []) (n := 0) hx hs8 eM0 (C_X8_clear (c := x_yA x KM) (fun _ hk => hk) h2) eM0 eM2 (by rw [hK9]; exact KL_M (k_0_7 (fun _ hk => hk))) rfl wl_L_137 wi_X8_clear we_X8_clear wn_X8 wc_X8_clear (by decide +kernel) rfl (by rw [hR]; exact ⟨by decide +kernel, rfl, rfl, Nat.le_trans (Nat.le_add_right kc 4) hk.1, Nat.le_trans (Nat.le_add_right ks 24) hk.2⟩) rfl (Nat.le_of_ble_eq_true rfl) dL_law_1273 ?_
  refine r_goto (tgt := 1279) hx dL_law_1276 (by decide) ?_
  exact WX.widen (Nat.le_add_right kc 4) (Nat.le_add_right ks 24) (kk SC2 SM2 _ _ _ hI2)
