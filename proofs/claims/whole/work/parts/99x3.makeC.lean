/-! the constructor of TypeKernel -/
def X7W (t : Ty3) (h : Nat) (r : Nat → Nat) (ra : Nat → Nat → Nat) : va_W := (h, .inr (6, [.ref (r 2000), .ref (r 2004), .ref (r 2001), .ref (r 2002), .ref (r 2005), .ref (r 1000), .ref (r 1010)])) :: ([] ++ X1W t (r 2000) r ++ X5W t (r 2004) r (r 2000) ++ X2W t (r 2001) r ++ X3W t (r 2002) r (r 2004) (r 2001) ++ X6W t (r 2005) r ra (r 2000) (r 2004) (r 2001) (r 2002) ++ X4W t (r 1000) (fun m => r (1000 + m)) ++ X4W t (r 1010) (fun m => r (1010 + m)))
theorem dX7_init_0 : decode cX7_init 0 = .ok (.aload_n 0, 1) := by decide +kernel
theorem dX7_init_1 : decode cX7_init 1 = .ok (.invokespecial 1, 3) := by decide +kernel
theorem dX7_init_4 : decode cX7_init 4 = .ok (.aload_n 0, 1) := by decide +kernel
theorem dX7_init_5 : decode cX7_init 5 = .ok (.new 7, 3) := by decide +kernel
theorem dX7_init_8 : decode cX7_init 8 = .ok (.dup, 1) := by decide +kernel
theorem dX7_init_9 : decode cX7_init 9 = .ok (.invokespecial 9, 3) := by decide +kernel
theorem dX7_init_12 : decode cX7_init 12 = .ok (.putfield 10, 3) := by decide +kernel
theorem dX7_init_15 : decode cX7_init 15 = .ok (.aload_n 0, 1) := by decide +kernel
theorem dX7_init_16 : decode cX7_init 16 = .ok (.new 16, 3) := by decide +kernel
theorem dX7_init_19 : decode cX7_init 19 = .ok (.dup, 1) := by decide +kernel
theorem dX7_init_20 : decode cX7_init 20 = .ok (.aload_n 0, 1) := by decide +kernel
theorem dX7_init_21 : decode cX7_init 21 = .ok (.getfield 10, 3) := by decide +kernel
theorem dX7_init_24 : decode cX7_init 24 = .ok (.invokespecial 18, 3) := by decide +kernel
theorem dX7_init_27 : decode cX7_init 27 = .ok (.putfield 21, 3) := by decide +kernel
theorem dX7_init_30 : decode cX7_init 30 = .ok (.aload_n 0, 1) := by decide +kernel
theorem dX7_init_31 : decode cX7_init 31 = .ok (.new 25, 3) := by decide +kernel
theorem dX7_init_34 : decode cX7_init 34 = .ok (.dup, 1) := by decide +kernel
theorem dX7_init_35 : decode cX7_init 35 = .ok (.invokespecial 27, 3) := by decide +kernel
theorem dX7_init_38 : decode cX7_init 38 = .ok (.putfield 28, 3) := by decide +kernel
theorem dX7_init_41 : decode cX7_init 41 = .ok (.aload_n 0, 1) := by decide +kernel
theorem dX7_init_42 : decode cX7_init 42 = .ok (.new 32, 3) := by decide +kernel
theorem dX7_init_45 : decode cX7_init 45 = .ok (.dup, 1) := by decide +kernel
theorem dX7_init_46 : decode cX7_init 46 = .ok (.aload_n 0, 1) := by decide +kernel
theorem dX7_init_47 : decode cX7_init 47 = .ok (.getfield 21, 3) := by decide +kernel
theorem dX7_init_50 : decode cX7_init 50 = .ok (.aload_n 0, 1) := by decide +kernel
theorem dX7_init_51 : decode cX7_init 51 = .ok (.getfield 28, 3) := by decide +kernel
theorem dX7_init_54 : decode cX7_init 54 = .ok (.invokespecial 34, 3) := by decide +kernel
theorem dX7_init_57 : decode cX7_init 57 = .ok (.putfield 37, 3) := by decide +kernel
theorem dX7_init_60 : decode cX7_init 60 = .ok (.aload_n 0, 1) := by decide +kernel
theorem dX7_init_61 : decode cX7_init 61 = .ok (.new 41, 3) := by decide +kernel
theorem dX7_init_64 : decode cX7_init 64 = .ok (.dup, 1) := by decide +kernel
theorem dX7_init_65 : decode cX7_init 65 = .ok (.aload_n 0, 1) := by decide +kernel
theorem dX7_init_66 : decode cX7_init 66 = .ok (.getfield 10, 3) := by decide +kernel
theorem dX7_init_69 : decode cX7_init 69 = .ok (.aload_n 0, 1) := by decide +kernel
theorem dX7_init_70 : decode cX7_init 70 = .ok (.getfield 21, 3) := by decide +kernel
theorem dX7_init_73 : decode cX7_init 73 = .ok (.aload_n 0, 1) := by decide +kernel
theorem dX7_init_74 : decode cX7_init 74 = .ok (.getfield 28, 3) := by decide +kernel
theorem dX7_init_77 : decode cX7_init 77 = .ok (.aload_n 0, 1) := by decide +kernel
theorem dX7_init_78 : decode cX7_init 78 = .ok (.getfield 37, 3) := by decide +kernel
theorem dX7_init_81 : decode cX7_init 81 = .ok (.invokespecial 43, 3) := by decide +kernel
theorem dX7_init_84 : decode cX7_init 84 = .ok (.putfield 46, 3) := by decide +kernel
theorem dX7_init_87 : decode cX7_init 87 = .ok (.aload_n 0, 1) := by decide +kernel
theorem dX7_init_88 : decode cX7_init 88 = .ok (.new 50, 3) := by decide +kernel
theorem dX7_init_91 : decode cX7_init 91 = .ok (.dup, 1) := by decide +kernel
theorem dX7_init_92 : decode cX7_init 92 = .ok (.invokespecial 52, 3) := by decide +kernel
theorem dX7_init_95 : decode cX7_init 95 = .ok (.putfield 53, 3) := by decide +kernel
theorem dX7_init_98 : decode cX7_init 98 = .ok (.aload_n 0, 1) := by decide +kernel
theorem dX7_init_99 : decode cX7_init 99 = .ok (.new 50, 3) := by decide +kernel
theorem dX7_init_102 : decode cX7_init 102 = .ok (.dup, 1) := by decide +kernel
theorem dX7_init_103 : decode cX7_init 103 = .ok (.invokespecial 52, 3) := by decide +kernel
theorem dX7_init_106 : decode cX7_init 106 = .ok (.putfield 57, 3) := by decide +kernel
theorem dX7_init_109 : decode cX7_init 109 = .ok (.return_, 1) := by decide +kernel
theorem df_X7 : ∀ j, j < 7 → defaultValue (tyX7 j) = vp_V [.null, .null, .null, .null, .null, .null, .null] j := by
  intro j hj
  match j, hj with
  | 0, _ => rfl
  | 1, _ => rfl
  | 2, _ => rfl
  | 3, _ => rfl
  | 4, _ => rfl
  | 5, _ => rfl
  | 6, _ => rfl
  | j + 7, hj => exact absurd hj (by omega)
abbrev rmN_X7 : Room := { frames := 3, cells := 664, slots := 118316, locals := 100 }
set_option maxRecDepth 100000 in
set_option maxHeartbeats 4000000 in
theorem N_X7 {l : Launch} {D : va_G} {t : Ty3} {h : Nat} : MN l D t yX7_init cX7_init 1 rmN_X7 664 118316 h (.inr (6, [.null, .null, .null, .null, .null, .null, .null])) [.ref h] (fun a => X7W t h a.1 a.2) := by
  refine mk_N (own := RX7) (by decide +kernel) rfl (Nat.le_of_ble_eq_true rfl) rfl (fun x hx hR hl hDD htt hi hE => ?_)
  subst hl
  subst hDD
  subst htt
  show WN x h 1 0 0 ((h, .inr (6, [.null, .null, .null, .null, .null, .null, .null])) :: ([] : va_W)) 0 [(0, .ref h)] []
  refine n_aload_n (k0 := 0) hx dX7_init_0 rfl rfl ?_
  refine n_obj hx wl_X7_1 dX7_init_1 (by rw [hR]; decide) (by rw [hR]; decide) ?_
  refine n_aload_n (k0 := 0) hx dX7_init_4 rfl rfl ?_
  refine n_new (C := RX1) (T := TX1) (N := 5) (ci := 0) (fs := [.int 0, .null, .null, .null, .null]) (ty := tyX1) hx rfl in_X1 tyX1_ok wa_X7_7 wb_X1 wn_X1 df_X1 (by rw [hR]; decide) (by rw [hR]; decide) dX7_init_5 (fun q1 => ?_)
  show WN x h 1 1 5 ((h, .inr (6, [.null, .null, .null, .null, .null, .null, .null])) :: ([] ++ [(q1, .inr (0, [.int 0, .null, .null, .null, .null]))] : va_W)) 8 [(0, .ref h)] [.ref q1, .ref h]
  refine n_dup hx dX7_init_8 ?_
  show WN x h 1 1 5 (((h, .inr (6, [.null, .null, .null, .null, .null, .null, .null])) :: ([] : va_W)) ++ [(q1, .inr (0, [.int 0, .null, .null, .null, .null]))]) 9 [(0, .ref h)] [.ref q1, .ref q1, .ref h]
  refine n_call (q := q1) (As := []) (rest := [.ref q1, .ref h]) (n := 0) hx (N_X1) wl_X7_9 wi_X1_init wn_X1 wc_X1_init rfl (by decide +kernel) rfl (by rw [hR]; exact ⟨by decide +kernel, rfl, rfl, by decide +kernel, by decide +kernel⟩) rfl (Nat.le_of_ble_eq_true rfl) dX7_init_9 (fun b1 => ?_)
  show WN x h 1 5 921 ((h, .inr (6, [.null, .null, .null, .null, .null, .null, .null])) :: ([] ++ X1W (x_t x) q1 b1.1 : va_W)) 12 [(0, .ref h)] [.ref q1, .ref h]
  refine n_putF (C := RX7) (T := TX7) (N := 7) (ci := 6) (k := 0) (ty := .object "TypeKernel$Levels") hx hi rfl (by decide) in_X7 tyX7_ok nmX7 rfl rfl (by decide +kernel) rfl rfl (Nat.le_of_ble_eq_true rfl) rfl wf_X7_10 dX7_init_12 ?_
  show WN x h 1 5 921 ((h, .inr (6, [.ref q1, .null, .null, .null, .null, .null, .null])) :: ([] ++ X1W (x_t x) q1 b1.1 : va_W)) 15 [(0, .ref h)] []
  refine n_aload_n (k0 := 0) hx dX7_init_15 rfl rfl ?_
  refine n_new (C := RX5) (T := TX5) (N := 12) (ci := 4) (fs := [.int 0, .null, .null, .null, .null, .null, .null, .null, .null, .null, .int 0, .int 0]) (ty := tyX5) hx rfl in_X5 tyX5_ok wa_X7_16 wb_X5 wn_X5 df_X5 (by rw [hR]; decide) (by rw [hR]; decide) dX7_init_16 (fun q2 => ?_)
  show WN x h 1 6 933 ((h, .inr (6, [.ref q1, .null, .null, .null, .null, .null, .null])) :: ([] ++ X1W (x_t x) q1 b1.1 ++ [(q2, .inr (4, [.int 0, .null, .null, .null, .null, .null, .null, .null, .null, .null, .int 0, .int 0]))] : va_W)) 19 [(0, .ref h)] [.ref q2, .ref h]
  refine n_dup hx dX7_init_19 ?_
  refine n_aload_n (k0 := 0) hx dX7_init_20 rfl rfl ?_
  refine n_get (C := RX7) (T := TX7) (N := 7) (ci := 6) (k := 0) hx rfl (by decide) rfl in_X7 wf_X7_10 dX7_init_21 ?_
  show WN x h 1 6 933 (((h, .inr (6, [.ref q1, .null, .null, .null, .null, .null, .null])) :: ([] ++ X1W (x_t x) q1 b1.1 : va_W)) ++ [(q2, .inr (4, [.int 0, .null, .null, .null, .null, .null, .null, .null, .null, .null, .int 0, .int 0]))]) 24 [(0, .ref h)] [.ref q1, .ref q2, .ref q2, .ref h]
  refine n_call (q := q2) (As := [.ref q1]) (rest := [.ref q2, .ref h]) (n := 1) hx (N_X5) wl_X7_18 wi_X5_init wn_X5 wc_X5_init rfl (by decide +kernel) rfl (by rw [hR]; exact ⟨by decide +kernel, rfl, rfl, by decide +kernel, by decide +kernel⟩) rfl (Nat.le_of_ble_eq_true rfl) dX7_init_24 (fun b2 => ?_)
  show WN x h 1 14 10335 ((h, .inr (6, [.ref q1, .null, .null, .null, .null, .null, .null])) :: ([] ++ X1W (x_t x) q1 b1.1 ++ X5W (x_t x) q2 b2.1 q1 : va_W)) 27 [(0, .ref h)] [.ref q2, .ref h]
  refine n_putF (C := RX7) (T := TX7) (N := 7) (ci := 6) (k := 1) (ty := .object "TypeKernel$Terms") hx hi rfl (by decide) in_X7 tyX7_ok nmX7 rfl rfl (by decide +kernel) rfl rfl (Nat.le_of_ble_eq_true rfl) rfl wf_X7_21 dX7_init_27 ?_
  show WN x h 1 14 10335 ((h, .inr (6, [.ref q1, .ref q2, .null, .null, .null, .null, .null])) :: ([] ++ X1W (x_t x) q1 b1.1 ++ X5W (x_t x) q2 b2.1 q1 : va_W)) 30 [(0, .ref h)] []
  refine n_aload_n (k0 := 0) hx dX7_init_30 rfl rfl ?_
  refine n_new (C := RX2) (T := TX2) (N := 4) (ci := 1) (fs := [.int 0, .null, .null, .null]) (ty := tyX2) hx rfl in_X2 tyX2_ok wa_X7_25 wb_X2 wn_X2 df_X2 (by rw [hR]; decide) (by rw [hR]; decide) dX7_init_31 (fun q3 => ?_)
  show WN x h 1 15 10339 ((h, .inr (6, [.ref q1, .ref q2, .null, .null, .null, .null, .null])) :: ([] ++ X1W (x_t x) q1 b1.1 ++ X5W (x_t x) q2 b2.1 q1 ++ [(q3, .inr (1, [.int 0, .null, .null, .null]))] : va_W)) 34 [(0, .ref h)] [.ref q3, .ref h]
  refine n_dup hx dX7_init_34 ?_
  show WN x h 1 15 10339 (((h, .inr (6, [.ref q1, .ref q2, .null, .null, .null, .null, .null])) :: ([] ++ X1W (x_t x) q1 b1.1 ++ X5W (x_t x) q2 b2.1 q1 : va_W)) ++ [(q3, .inr (1, [.int 0, .null, .null, .null]))]) 35 [(0, .ref h)] [.ref q3, .ref q3, .ref h]
  refine n_call (q := q3) (As := []) (rest := [.ref q3, .ref h]) (n := 0) hx (N_X2) wl_X7_27 wi_X2_init wn_X2 wc_X2_init rfl (by decide +kernel) rfl (by rw [hR]; exact ⟨by decide +kernel, rfl, rfl, by decide +kernel, by decide +kernel⟩) rfl (Nat.le_of_ble_eq_true rfl) dX7_init_35 (fun b3 => ?_)
  show WN x h 1 18 10459 ((h, .inr (6, [.ref q1, .ref q2, .null, .null, .null, .null, .null])) :: ([] ++ X1W (x_t x) q1 b1.1 ++ X5W (x_t x) q2 b2.1 q1 ++ X2W (x_t x) q3 b3.1 : va_W)) 38 [(0, .ref h)] [.ref q3, .ref h]
  refine n_putF (C := RX7) (T := TX7) (N := 7) (ci := 6) (k := 2) (ty := .object "TypeKernel$Names") hx hi rfl (by decide) in_X7 tyX7_ok nmX7 rfl rfl (by decide +kernel) rfl rfl (Nat.le_of_ble_eq_true rfl) rfl wf_X7_28 dX7_init_38 ?_
  show WN x h 1 18 10459 ((h, .inr (6, [.ref q1, .ref q2, .ref q3, .null, .null, .null, .null])) :: ([] ++ X1W (x_t x) q1 b1.1 ++ X5W (x_t x) q2 b2.1 q1 ++ X2W (x_t x) q3 b3.1 : va_W)) 41 [(0, .ref h)] []
  refine n_aload_n (k0 := 0) hx dX7_init_41 rfl rfl ?_
  refine n_new (C := RX3) (T := TX3) (N := 5) (ci := 2) (fs := [.null, .null, .null, .null, .null]) (ty := tyX3) hx rfl in_X3 tyX3_ok wa_X7_32 wb_X3 wn_X3 df_X3 (by rw [hR]; decide) (by rw [hR]; decide) dX7_init_42 (fun q4 => ?_)
  show WN x h 1 19 10464 ((h, .inr (6, [.ref q1, .ref q2, .ref q3, .null, .null, .null, .null])) :: ([] ++ X1W (x_t x) q1 b1.1 ++ X5W (x_t x) q2 b2.1 q1 ++ X2W (x_t x) q3 b3.1 ++ [(q4, .inr (2, [.null, .null, .null, .null, .null]))] : va_W)) 45 [(0, .ref h)] [.ref q4, .ref h]
  refine n_dup hx dX7_init_45 ?_
  refine n_aload_n (k0 := 0) hx dX7_init_46 rfl rfl ?_
  refine n_get (C := RX7) (T := TX7) (N := 7) (ci := 6) (k := 1) hx rfl (by decide) rfl in_X7 wf_X7_21 dX7_init_47 ?_
  refine n_aload_n (k0 := 0) hx dX7_init_50 rfl rfl ?_
  refine n_get (C := RX7) (T := TX7) (N := 7) (ci := 6) (k := 2) hx rfl (by decide) rfl in_X7 wf_X7_28 dX7_init_51 ?_
  show WN x h 1 19 10464 (((h, .inr (6, [.ref q1, .ref q2, .ref q3, .null, .null, .null, .null])) :: ([] ++ X1W (x_t x) q1 b1.1 ++ X5W (x_t x) q2 b2.1 q1 ++ X2W (x_t x) q3 b3.1 : va_W)) ++ [(q4, .inr (2, [.null, .null, .null, .null, .null]))]) 54 [(0, .ref h)] [.ref q3, .ref q2, .ref q4, .ref q4, .ref h]
  refine n_call (q := q4) (As := [.ref q2, .ref q3]) (rest := [.ref q4, .ref h]) (n := 2) hx (N_X3) wl_X7_34 wi_X3_init wn_X3 wc_X3_init rfl (by decide +kernel) rfl (by rw [hR]; exact ⟨by decide +kernel, rfl, rfl, by decide +kernel, by decide +kernel⟩) rfl (Nat.le_of_ble_eq_true rfl) dX7_init_54 (fun b4 => ?_)
  show WN x h 1 37 13482 ((h, .inr (6, [.ref q1, .ref q2, .ref q3, .null, .null, .null, .null])) :: ([] ++ X1W (x_t x) q1 b1.1 ++ X5W (x_t x) q2 b2.1 q1 ++ X2W (x_t x) q3 b3.1 ++ X3W (x_t x) q4 b4.1 q2 q3 : va_W)) 57 [(0, .ref h)] [.ref q4, .ref h]
  refine n_putF (C := RX7) (T := TX7) (N := 7) (ci := 6) (k := 3) (ty := .object "TypeKernel$Reducer") hx hi rfl (by decide) in_X7 tyX7_ok nmX7 rfl rfl (by decide +kernel) rfl rfl (Nat.le_of_ble_eq_true rfl) rfl wf_X7_37 dX7_init_57 ?_
  show WN x h 1 37 13482 ((h, .inr (6, [.ref q1, .ref q2, .ref q3, .ref q4, .null, .null, .null])) :: ([] ++ X1W (x_t x) q1 b1.1 ++ X5W (x_t x) q2 b2.1 q1 ++ X2W (x_t x) q3 b3.1 ++ X3W (x_t x) q4 b4.1 q2 q3 : va_W)) 60 [(0, .ref h)] []
  refine n_aload_n (k0 := 0) hx dX7_init_60 rfl rfl ?_
  refine n_new (C := RX6) (T := TX6) (N := 8) (ci := 5) (fs := [.null, .null, .null, .null, .null, .null, .null, .null]) (ty := tyX6) hx rfl in_X6 tyX6_ok wa_X7_41 wb_X6 wn_X6 df_X6 (by rw [hR]; decide) (by rw [hR]; decide) dX7_init_61 (fun q5 => ?_)
  show WN x h 1 38 13490 ((h, .inr (6, [.ref q1, .ref q2, .ref q3, .ref q4, .null, .null, .null])) :: ([] ++ X1W (x_t x) q1 b1.1 ++ X5W (x_t x) q2 b2.1 q1 ++ X2W (x_t x) q3 b3.1 ++ X3W (x_t x) q4 b4.1 q2 q3 ++ [(q5, .inr (5, [.null, .null, .null, .null, .null, .null, .null, .null]))] : va_W)) 64 [(0, .ref h)] [.ref q5, .ref h]
  refine n_dup hx dX7_init_64 ?_
  refine n_aload_n (k0 := 0) hx dX7_init_65 rfl rfl ?_
  refine n_get (C := RX7) (T := TX7) (N := 7) (ci := 6) (k := 0) hx rfl (by decide) rfl in_X7 wf_X7_10 dX7_init_66 ?_
  refine n_aload_n (k0 := 0) hx dX7_init_69 rfl rfl ?_
  refine n_get (C := RX7) (T := TX7) (N := 7) (ci := 6) (k := 1) hx rfl (by decide) rfl in_X7 wf_X7_21 dX7_init_70 ?_
  refine n_aload_n (k0 := 0) hx dX7_init_73 rfl rfl ?_
  refine n_get (C := RX7) (T := TX7) (N := 7) (ci := 6) (k := 2) hx rfl (by decide) rfl in_X7 wf_X7_28 dX7_init_74 ?_
  refine n_aload_n (k0 := 0) hx dX7_init_77 rfl rfl ?_
  refine n_get (C := RX7) (T := TX7) (N := 7) (ci := 6) (k := 3) hx rfl (by decide) rfl in_X7 wf_X7_37 dX7_init_78 ?_
  show WN x h 1 38 13490 (((h, .inr (6, [.ref q1, .ref q2, .ref q3, .ref q4, .null, .null, .null])) :: ([] ++ X1W (x_t x) q1 b1.1 ++ X5W (x_t x) q2 b2.1 q1 ++ X2W (x_t x) q3 b3.1 ++ X3W (x_t x) q4 b4.1 q2 q3 : va_W)) ++ [(q5, .inr (5, [.null, .null, .null, .null, .null, .null, .null, .null]))]) 81 [(0, .ref h)] [.ref q4, .ref q3, .ref q2, .ref q1, .ref q5, .ref q5, .ref h]
  refine n_call (q := q5) (As := [.ref q1, .ref q2, .ref q3, .ref q4]) (rest := [.ref q5, .ref h]) (n := 4) hx (N_X6) wl_X7_43 wi_X6_init wn_X6 wc_X6_init rfl (by decide +kernel) rfl (by rw [hR]; exact ⟨by decide +kernel, rfl, rfl, by decide +kernel, by decide +kernel⟩) rfl (Nat.le_of_ble_eq_true rfl) dX7_init_81 (fun b5 => ?_)
  show WN x h 1 652 116304 ((h, .inr (6, [.ref q1, .ref q2, .ref q3, .ref q4, .null, .null, .null])) :: ([] ++ X1W (x_t x) q1 b1.1 ++ X5W (x_t x) q2 b2.1 q1 ++ X2W (x_t x) q3 b3.1 ++ X3W (x_t x) q4 b4.1 q2 q3 ++ X6W (x_t x) q5 b5.1 b5.2 q1 q2 q3 q4 : va_W)) 84 [(0, .ref h)] [.ref q5, .ref h]
  refine n_putF (C := RX7) (T := TX7) (N := 7) (ci := 6) (k := 4) (ty := .object "TypeKernel$Typer") hx hi rfl (by decide) in_X7 tyX7_ok nmX7 rfl rfl (by decide +kernel) rfl rfl (Nat.le_of_ble_eq_true rfl) rfl wf_X7_46 dX7_init_84 ?_
  show WN x h 1 652 116304 ((h, .inr (6, [.ref q1, .ref q2, .ref q3, .ref q4, .ref q5, .null, .null])) :: ([] ++ X1W (x_t x) q1 b1.1 ++ X5W (x_t x) q2 b2.1 q1 ++ X2W (x_t x) q3 b3.1 ++ X3W (x_t x) q4 b4.1 q2 q3 ++ X6W (x_t x) q5 b5.1 b5.2 q1 q2 q3 q4 : va_W)) 87 [(0, .ref h)] []
  refine n_aload_n (k0 := 0) hx dX7_init_87 rfl rfl ?_
  refine n_new (C := RX4) (T := TX4) (N := 6) (ci := 3) (fs := [.int 0, .null, .null, .null, .null, .null]) (ty := tyX4) hx rfl in_X4 tyX4_ok wa_X7_50 wb_X4 wn_X4 df_X4 (by rw [hR]; decide) (by rw [hR]; decide) dX7_init_88 (fun q6 => ?_)
  show WN x h 1 653 116310 ((h, .inr (6, [.ref q1, .ref q2, .ref q3, .ref q4, .ref q5, .null, .null])) :: ([] ++ X1W (x_t x) q1 b1.1 ++ X5W (x_t x) q2 b2.1 q1 ++ X2W (x_t x) q3 b3.1 ++ X3W (x_t x) q4 b4.1 q2 q3 ++ X6W (x_t x) q5 b5.1 b5.2 q1 q2 q3 q4 ++ [(q6, .inr (3, [.int 0, .null, .null, .null, .null, .null]))] : va_W)) 91 [(0, .ref h)] [.ref q6, .ref h]
  refine n_dup hx dX7_init_91 ?_
  show WN x h 1 653 116310 (((h, .inr (6, [.ref q1, .ref q2, .ref q3, .ref q4, .ref q5, .null, .null])) :: ([] ++ X1W (x_t x) q1 b1.1 ++ X5W (x_t x) q2 b2.1 q1 ++ X2W (x_t x) q3 b3.1 ++ X3W (x_t x) q4 b4.1 q2 q3 ++ X6W (x_t x) q5 b5.1 b5.2 q1 q2 q3 q4 : va_W)) ++ [(q6, .inr (3, [.int 0, .null, .null, .null, .null, .null]))]) 92 [(0, .ref h)] [.ref q6, .ref q6, .ref h]
  refine n_call (q := q6) (As := []) (rest := [.ref q6, .ref h]) (n := 0) hx (N_X4) wl_X7_52 wi_X4_init wn_X4 wc_X4_init rfl (by decide +kernel) rfl (by rw [hR]; exact ⟨by decide +kernel, rfl, rfl, by decide +kernel, by decide +kernel⟩) rfl (Nat.le_of_ble_eq_true rfl) dX7_init_92 (fun b6 => ?_)
  show WN x h 1 658 117310 ((h, .inr (6, [.ref q1, .ref q2, .ref q3, .ref q4, .ref q5, .null, .null])) :: ([] ++ X1W (x_t x) q1 b1.1 ++ X5W (x_t x) q2 b2.1 q1 ++ X2W (x_t x) q3 b3.1 ++ X3W (x_t x) q4 b4.1 q2 q3 ++ X6W (x_t x) q5 b5.1 b5.2 q1 q2 q3 q4 ++ X4W (x_t x) q6 b6.1 : va_W)) 95 [(0, .ref h)] [.ref q6, .ref h]
  refine n_putF (C := RX7) (T := TX7) (N := 7) (ci := 6) (k := 5) (ty := .object "TypeKernel$Row") hx hi rfl (by decide) in_X7 tyX7_ok nmX7 rfl rfl (by decide +kernel) rfl rfl (Nat.le_of_ble_eq_true rfl) rfl wf_X7_53 dX7_init_95 ?_
  show WN x h 1 658 117310 ((h, .inr (6, [.ref q1, .ref q2, .ref q3, .ref q4, .ref q5, .ref q6, .null])) :: ([] ++ X1W (x_t x) q1 b1.1 ++ X5W (x_t x) q2 b2.1 q1 ++ X2W (x_t x) q3 b3.1 ++ X3W (x_t x) q4 b4.1 q2 q3 ++ X6W (x_t x) q5 b5.1 b5.2 q1 q2 q3 q4 ++ X4W (x_t x) q6 b6.1 : va_W)) 98 [(0, .ref h)] []
  refine n_aload_n (k0 := 0) hx dX7_init_98 rfl rfl ?_
  refine n_new (C := RX4) (T := TX4) (N := 6) (ci := 3) (fs := [.int 0, .null, .null, .null, .null, .null]) (ty := tyX4) hx rfl in_X4 tyX4_ok wa_X7_50 wb_X4 wn_X4 df_X4 (by rw [hR]; decide) (by rw [hR]; decide) dX7_init_99 (fun q7 => ?_)
  show WN x h 1 659 117316 ((h, .inr (6, [.ref q1, .ref q2, .ref q3, .ref q4, .ref q5, .ref q6, .null])) :: ([] ++ X1W (x_t x) q1 b1.1 ++ X5W (x_t x) q2 b2.1 q1 ++ X2W (x_t x) q3 b3.1 ++ X3W (x_t x) q4 b4.1 q2 q3 ++ X6W (x_t x) q5 b5.1 b5.2 q1 q2 q3 q4 ++ X4W (x_t x) q6 b6.1 ++ [(q7, .inr (3, [.int 0, .null, .null, .null, .null, .null]))] : va_W)) 102 [(0, .ref h)] [.ref q7, .ref h]
  refine n_dup hx dX7_init_102 ?_
  show WN x h 1 659 117316 (((h, .inr (6, [.ref q1, .ref q2, .ref q3, .ref q4, .ref q5, .ref q6, .null])) :: ([] ++ X1W (x_t x) q1 b1.1 ++ X5W (x_t x) q2 b2.1 q1 ++ X2W (x_t x) q3 b3.1 ++ X3W (x_t x) q4 b4.1 q2 q3 ++ X6W (x_t x) q5 b5.1 b5.2 q1 q2 q3 q4 ++ X4W (x_t x) q6 b6.1 : va_W)) ++ [(q7, .inr (3, [.int 0, .null, .null, .null, .null, .null]))]) 103 [(0, .ref h)] [.ref q7, .ref q7, .ref h]
  refine n_call (q := q7) (As := []) (rest := [.ref q7, .ref h]) (n := 0) hx (N_X4) wl_X7_52 wi_X4_init wn_X4 wc_X4_init rfl (by decide +kernel) rfl (by rw [hR]; exact ⟨by decide +kernel, rfl, rfl, by decide +kernel, by decide +kernel⟩) rfl (Nat.le_of_ble_eq_true rfl) dX7_init_103 (fun b7 => ?_)
  show WN x h 1 664 118316 ((h, .inr (6, [.ref q1, .ref q2, .ref q3, .ref q4, .ref q5, .ref q6, .null])) :: ([] ++ X1W (x_t x) q1 b1.1 ++ X5W (x_t x) q2 b2.1 q1 ++ X2W (x_t x) q3 b3.1 ++ X3W (x_t x) q4 b4.1 q2 q3 ++ X6W (x_t x) q5 b5.1 b5.2 q1 q2 q3 q4 ++ X4W (x_t x) q6 b6.1 ++ X4W (x_t x) q7 b7.1 : va_W)) 106 [(0, .ref h)] [.ref q7, .ref h]
  refine n_putF (C := RX7) (T := TX7) (N := 7) (ci := 6) (k := 6) (ty := .object "TypeKernel$Row") hx hi rfl (by decide) in_X7 tyX7_ok nmX7 rfl rfl (by decide +kernel) rfl rfl (Nat.le_of_ble_eq_true rfl) rfl wf_X7_57 dX7_init_106 ?_
  show WN x h 1 664 118316 ((h, .inr (6, [.ref q1, .ref q2, .ref q3, .ref q4, .ref q5, .ref q6, .ref q7])) :: ([] ++ X1W (x_t x) q1 b1.1 ++ X5W (x_t x) q2 b2.1 q1 ++ X2W (x_t x) q3 b3.1 ++ X3W (x_t x) q4 b4.1 q2 q3 ++ X6W (x_t x) q5 b5.1 b5.2 q1 q2 q3 q4 ++ X4W (x_t x) q6 b6.1 ++ X4W (x_t x) q7 b7.1 : va_W)) 109 [(0, .ref h)] []
  exact n_ret hE (fun f => if f < 50 then b1.1 f else if f < 100 then b3.1 f else if f < 250 then b2.1 f else if f < 350 then b5.1 f else if f = 1000 then q6 else if f < 1010 then b6.1 (f - 1000) else if f = 1010 then q7 else if f < 1020 then b7.1 (f - 1010) else if f < 1050 then b4.1 f else if f < 1060 then b5.1 f else if f = 2000 then q1 else if f = 2004 then q2 else if f = 2001 then q3 else if f = 2002 then q4 else q5, b5.2) (by decide) (by decide) rfl dX7_init_109
