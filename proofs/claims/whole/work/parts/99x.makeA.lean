/-! the constructors: Row, Levels, Names, Terms, Reducer -/
def X4W (t : Ty3) (h : Nat) (r : Nat → Nat) : va_W := (h, .inr (3, [.int 0, .ref (r 1), .ref (r 2), .ref (r 3), .ref (r 4), .ref (r 5)])) :: [(r 1, eI t 200 (fun _ => 0)), (r 2, eI t 200 (fun _ => 0)), (r 3, eI t 200 (fun _ => 0)), (r 4, eL t 200 (fun _ => 0)), (r 5, eL t 200 (fun _ => 0))]
def X1W (t : Ty3) (h : Nat) (r : Nat → Nat) : va_W := (h, .inr (0, [.int 1, .ref (r 1), .ref (r 2), .ref (r 3), .ref (r 4)])) :: [(r 1, eL t 300 (vp_updL (fun _ => 0) 0 1)), (r 2, eI t 300 (upd (fun _ => 0) 0 (-1))), (r 3, eI t 300 (upd (fun _ => 0) 0 (-1))), (r 4, eI t 16 (fun _ => 0))]
def X2W (t : Ty3) (h : Nat) (r : Nat → Nat) : va_W := (h, .inr (1, [.int 0, .ref (r 51), .ref (r 52), .ref (r 53)])) :: [(r 51, eI t 40 (fun _ => 0)), (r 52, eI t 40 (fun _ => 0)), (r 53, eI t 40 (fun _ => 0))]
def X5W (t : Ty3) (h : Nat) (r : Nat → Nat) (v0 : Nat) : va_W := (h, .inr (4, [.int 0, .ref (r 201), .ref (r 202), .ref (r 203), .ref (r 204), .ref (r 205), .ref (r 206), .ref v0, .ref (r 208), .ref (r 209), .int 0, .int 0])) :: [(r 201, eI t 1500 (fun _ => 0)), (r 202, eI t 1500 (fun _ => 0)), (r 203, eI t 1500 (fun _ => 0)), (r 204, eI t 1500 (fun _ => 0)), (r 205, eI t 1500 (fun _ => 0)), (r 206, eI t 1500 (fun _ => 0)), (r 208, eI t 201 (fun _ => 0)), (r 209, eI t 201 (fun _ => 0))]
def X3W (t : Ty3) (h : Nat) (r : Nat → Nat) (v4 v1 : Nat) : va_W := (h, .inr (2, [.ref v4, .ref v1, .ref (r 1020), .ref (r 1030), .ref (r 1040)])) :: ([] ++ X4W t (r 1020) (fun m => r (1020 + m)) ++ X4W t (r 1030) (fun m => r (1030 + m)) ++ X4W t (r 1040) (fun m => r (1040 + m)))
theorem dX4_init_0 : decode cX4_init 0 = .ok (.aload_n 0, 1) := by decide +kernel
theorem dX4_init_1 : decode cX4_init 1 = .ok (.invokespecial 3, 3) := by decide +kernel
theorem dX4_init_4 : decode cX4_init 4 = .ok (.aload_n 0, 1) := by decide +kernel
theorem dX4_init_5 : decode cX4_init 5 = .ok (.sipush 200, 3) := by decide +kernel
theorem dX4_init_8 : decode cX4_init 8 = .ok (.newarray .int, 2) := by decide +kernel
theorem dX4_init_10 : decode cX4_init 10 = .ok (.putfield 9, 3) := by decide +kernel
theorem dX4_init_13 : decode cX4_init 13 = .ok (.aload_n 0, 1) := by decide +kernel
theorem dX4_init_14 : decode cX4_init 14 = .ok (.sipush 200, 3) := by decide +kernel
theorem dX4_init_17 : decode cX4_init 17 = .ok (.newarray .int, 2) := by decide +kernel
theorem dX4_init_19 : decode cX4_init 19 = .ok (.putfield 15, 3) := by decide +kernel
theorem dX4_init_22 : decode cX4_init 22 = .ok (.aload_n 0, 1) := by decide +kernel
theorem dX4_init_23 : decode cX4_init 23 = .ok (.sipush 200, 3) := by decide +kernel
theorem dX4_init_26 : decode cX4_init 26 = .ok (.newarray .int, 2) := by decide +kernel
theorem dX4_init_28 : decode cX4_init 28 = .ok (.putfield 18, 3) := by decide +kernel
theorem dX4_init_31 : decode cX4_init 31 = .ok (.aload_n 0, 1) := by decide +kernel
theorem dX4_init_32 : decode cX4_init 32 = .ok (.sipush 200, 3) := by decide +kernel
theorem dX4_init_35 : decode cX4_init 35 = .ok (.newarray .long, 2) := by decide +kernel
theorem dX4_init_37 : decode cX4_init 37 = .ok (.putfield 21, 3) := by decide +kernel
theorem dX4_init_40 : decode cX4_init 40 = .ok (.aload_n 0, 1) := by decide +kernel
theorem dX4_init_41 : decode cX4_init 41 = .ok (.sipush 200, 3) := by decide +kernel
theorem dX4_init_44 : decode cX4_init 44 = .ok (.newarray .long, 2) := by decide +kernel
theorem dX4_init_46 : decode cX4_init 46 = .ok (.putfield 25, 3) := by decide +kernel
theorem dX4_init_49 : decode cX4_init 49 = .ok (.return_, 1) := by decide +kernel
theorem df_X4 : ∀ j, j < 6 → defaultValue (tyX4 j) = vp_V [.int 0, .null, .null, .null, .null, .null] j := by
  intro j hj
  match j, hj with
  | 0, _ => rfl
  | 1, _ => rfl
  | 2, _ => rfl
  | 3, _ => rfl
  | 4, _ => rfl
  | 5, _ => rfl
  | j + 6, hj => exact absurd hj (by omega)
abbrev rmN_X4 : Room := { frames := 1, cells := 5, slots := 1000, locals := 20 }
theorem dX1_init_0 : decode cX1_init 0 = .ok (.aload_n 0, 1) := by decide +kernel
theorem dX1_init_1 : decode cX1_init 1 = .ok (.invokespecial 3, 3) := by decide +kernel
theorem dX1_init_4 : decode cX1_init 4 = .ok (.aload_n 0, 1) := by decide +kernel
theorem dX1_init_5 : decode cX1_init 5 = .ok (.sipush 300, 3) := by decide +kernel
theorem dX1_init_8 : decode cX1_init 8 = .ok (.newarray .long, 2) := by decide +kernel
theorem dX1_init_10 : decode cX1_init 10 = .ok (.putfield 9, 3) := by decide +kernel
theorem dX1_init_13 : decode cX1_init 13 = .ok (.aload_n 0, 1) := by decide +kernel
theorem dX1_init_14 : decode cX1_init 14 = .ok (.sipush 300, 3) := by decide +kernel
theorem dX1_init_17 : decode cX1_init 17 = .ok (.newarray .int, 2) := by decide +kernel
theorem dX1_init_19 : decode cX1_init 19 = .ok (.putfield 15, 3) := by decide +kernel
theorem dX1_init_22 : decode cX1_init 22 = .ok (.aload_n 0, 1) := by decide +kernel
theorem dX1_init_23 : decode cX1_init 23 = .ok (.sipush 300, 3) := by decide +kernel
theorem dX1_init_26 : decode cX1_init 26 = .ok (.newarray .int, 2) := by decide +kernel
theorem dX1_init_28 : decode cX1_init 28 = .ok (.putfield 19, 3) := by decide +kernel
theorem dX1_init_31 : decode cX1_init 31 = .ok (.aload_n 0, 1) := by decide +kernel
theorem dX1_init_32 : decode cX1_init 32 = .ok (.bipush 16, 2) := by decide +kernel
theorem dX1_init_34 : decode cX1_init 34 = .ok (.newarray .int, 2) := by decide +kernel
theorem dX1_init_36 : decode cX1_init 36 = .ok (.putfield 22, 3) := by decide +kernel
theorem dX1_init_39 : decode cX1_init 39 = .ok (.aload_n 0, 1) := by decide +kernel
theorem dX1_init_40 : decode cX1_init 40 = .ok (.getfield 9, 3) := by decide +kernel
theorem dX1_init_43 : decode cX1_init 43 = .ok (.iconst 0, 1) := by decide +kernel
theorem dX1_init_44 : decode cX1_init 44 = .ok (.lconst 1, 1) := by decide +kernel
theorem dX1_init_45 : decode cX1_init 45 = .ok (.lastore, 1) := by decide +kernel
theorem dX1_init_46 : decode cX1_init 46 = .ok (.aload_n 0, 1) := by decide +kernel
theorem dX1_init_47 : decode cX1_init 47 = .ok (.getfield 15, 3) := by decide +kernel
theorem dX1_init_50 : decode cX1_init 50 = .ok (.iconst 0, 1) := by decide +kernel
theorem dX1_init_51 : decode cX1_init 51 = .ok (.iconst (-1), 1) := by decide +kernel
theorem dX1_init_52 : decode cX1_init 52 = .ok (.iastore, 1) := by decide +kernel
theorem dX1_init_53 : decode cX1_init 53 = .ok (.aload_n 0, 1) := by decide +kernel
theorem dX1_init_54 : decode cX1_init 54 = .ok (.getfield 19, 3) := by decide +kernel
theorem dX1_init_57 : decode cX1_init 57 = .ok (.iconst 0, 1) := by decide +kernel
theorem dX1_init_58 : decode cX1_init 58 = .ok (.iconst (-1), 1) := by decide +kernel
theorem dX1_init_59 : decode cX1_init 59 = .ok (.iastore, 1) := by decide +kernel
theorem dX1_init_60 : decode cX1_init 60 = .ok (.aload_n 0, 1) := by decide +kernel
theorem dX1_init_61 : decode cX1_init 61 = .ok (.iconst 1, 1) := by decide +kernel
theorem dX1_init_62 : decode cX1_init 62 = .ok (.putfield 27, 3) := by decide +kernel
theorem dX1_init_65 : decode cX1_init 65 = .ok (.return_, 1) := by decide +kernel
theorem df_X1 : ∀ j, j < 5 → defaultValue (tyX1 j) = vp_V [.int 0, .null, .null, .null, .null] j := by
  intro j hj
  match j, hj with
  | 0, _ => rfl
  | 1, _ => rfl
  | 2, _ => rfl
  | 3, _ => rfl
  | 4, _ => rfl
  | j + 5, hj => exact absurd hj (by omega)
abbrev rmN_X1 : Room := { frames := 1, cells := 4, slots := 916, locals := 20 }
theorem dX2_init_0 : decode cX2_init 0 = .ok (.aload_n 0, 1) := by decide +kernel
theorem dX2_init_1 : decode cX2_init 1 = .ok (.invokespecial 3, 3) := by decide +kernel
theorem dX2_init_4 : decode cX2_init 4 = .ok (.aload_n 0, 1) := by decide +kernel
theorem dX2_init_5 : decode cX2_init 5 = .ok (.bipush 40, 2) := by decide +kernel
theorem dX2_init_7 : decode cX2_init 7 = .ok (.newarray .int, 2) := by decide +kernel
theorem dX2_init_9 : decode cX2_init 9 = .ok (.putfield 9, 3) := by decide +kernel
theorem dX2_init_12 : decode cX2_init 12 = .ok (.aload_n 0, 1) := by decide +kernel
theorem dX2_init_13 : decode cX2_init 13 = .ok (.bipush 40, 2) := by decide +kernel
theorem dX2_init_15 : decode cX2_init 15 = .ok (.newarray .int, 2) := by decide +kernel
theorem dX2_init_17 : decode cX2_init 17 = .ok (.putfield 15, 3) := by decide +kernel
theorem dX2_init_20 : decode cX2_init 20 = .ok (.aload_n 0, 1) := by decide +kernel
theorem dX2_init_21 : decode cX2_init 21 = .ok (.bipush 40, 2) := by decide +kernel
theorem dX2_init_23 : decode cX2_init 23 = .ok (.newarray .int, 2) := by decide +kernel
theorem dX2_init_25 : decode cX2_init 25 = .ok (.putfield 18, 3) := by decide +kernel
theorem dX2_init_28 : decode cX2_init 28 = .ok (.return_, 1) := by decide +kernel
theorem df_X2 : ∀ j, j < 4 → defaultValue (tyX2 j) = vp_V [.int 0, .null, .null, .null] j := by
  intro j hj
  match j, hj with
  | 0, _ => rfl
  | 1, _ => rfl
  | 2, _ => rfl
  | 3, _ => rfl
  | j + 4, hj => exact absurd hj (by omega)
abbrev rmN_X2 : Room := { frames := 1, cells := 3, slots := 120, locals := 20 }
theorem dX5_init_0 : decode cX5_init 0 = .ok (.aload_n 0, 1) := by decide +kernel
theorem dX5_init_1 : decode cX5_init 1 = .ok (.invokespecial 3, 3) := by decide +kernel
theorem dX5_init_4 : decode cX5_init 4 = .ok (.aload_n 0, 1) := by decide +kernel
theorem dX5_init_5 : decode cX5_init 5 = .ok (.aload_n 1, 1) := by decide +kernel
theorem dX5_init_6 : decode cX5_init 6 = .ok (.putfield 9, 3) := by decide +kernel
theorem dX5_init_9 : decode cX5_init 9 = .ok (.aload_n 0, 1) := by decide +kernel
theorem dX5_init_10 : decode cX5_init 10 = .ok (.sipush 1500, 3) := by decide +kernel
theorem dX5_init_13 : decode cX5_init 13 = .ok (.newarray .int, 2) := by decide +kernel
theorem dX5_init_15 : decode cX5_init 15 = .ok (.putfield 15, 3) := by decide +kernel
theorem dX5_init_18 : decode cX5_init 18 = .ok (.aload_n 0, 1) := by decide +kernel
theorem dX5_init_19 : decode cX5_init 19 = .ok (.sipush 1500, 3) := by decide +kernel
theorem dX5_init_22 : decode cX5_init 22 = .ok (.newarray .int, 2) := by decide +kernel
theorem dX5_init_24 : decode cX5_init 24 = .ok (.putfield 19, 3) := by decide +kernel
theorem dX5_init_27 : decode cX5_init 27 = .ok (.aload_n 0, 1) := by decide +kernel
theorem dX5_init_28 : decode cX5_init 28 = .ok (.sipush 1500, 3) := by decide +kernel
theorem dX5_init_31 : decode cX5_init 31 = .ok (.newarray .int, 2) := by decide +kernel
theorem dX5_init_33 : decode cX5_init 33 = .ok (.putfield 22, 3) := by decide +kernel
theorem dX5_init_36 : decode cX5_init 36 = .ok (.aload_n 0, 1) := by decide +kernel
theorem dX5_init_37 : decode cX5_init 37 = .ok (.sipush 1500, 3) := by decide +kernel
theorem dX5_init_40 : decode cX5_init 40 = .ok (.newarray .int, 2) := by decide +kernel
theorem dX5_init_42 : decode cX5_init 42 = .ok (.putfield 25, 3) := by decide +kernel
theorem dX5_init_45 : decode cX5_init 45 = .ok (.aload_n 0, 1) := by decide +kernel
theorem dX5_init_46 : decode cX5_init 46 = .ok (.sipush 1500, 3) := by decide +kernel
theorem dX5_init_49 : decode cX5_init 49 = .ok (.newarray .int, 2) := by decide +kernel
theorem dX5_init_51 : decode cX5_init 51 = .ok (.putfield 28, 3) := by decide +kernel
theorem dX5_init_54 : decode cX5_init 54 = .ok (.aload_n 0, 1) := by decide +kernel
theorem dX5_init_55 : decode cX5_init 55 = .ok (.sipush 1500, 3) := by decide +kernel
theorem dX5_init_58 : decode cX5_init 58 = .ok (.newarray .int, 2) := by decide +kernel
theorem dX5_init_60 : decode cX5_init 60 = .ok (.putfield 31, 3) := by decide +kernel
theorem dX5_init_63 : decode cX5_init 63 = .ok (.aload_n 0, 1) := by decide +kernel
theorem dX5_init_64 : decode cX5_init 64 = .ok (.sipush 201, 3) := by decide +kernel
theorem dX5_init_67 : decode cX5_init 67 = .ok (.newarray .int, 2) := by decide +kernel
theorem dX5_init_69 : decode cX5_init 69 = .ok (.putfield 34, 3) := by decide +kernel
theorem dX5_init_72 : decode cX5_init 72 = .ok (.aload_n 0, 1) := by decide +kernel
theorem dX5_init_73 : decode cX5_init 73 = .ok (.sipush 201, 3) := by decide +kernel
theorem dX5_init_76 : decode cX5_init 76 = .ok (.newarray .int, 2) := by decide +kernel
theorem dX5_init_78 : decode cX5_init 78 = .ok (.putfield 37, 3) := by decide +kernel
theorem dX5_init_81 : decode cX5_init 81 = .ok (.return_, 1) := by decide +kernel
theorem df_X5 : ∀ j, j < 12 → defaultValue (tyX5 j) = vp_V [.int 0, .null, .null, .null, .null, .null, .null, .null, .null, .null, .int 0, .int 0] j := by
  intro j hj
  match j, hj with
  | 0, _ => rfl
  | 1, _ => rfl
  | 2, _ => rfl
  | 3, _ => rfl
  | 4, _ => rfl
  | 5, _ => rfl
  | 6, _ => rfl
  | 7, _ => rfl
  | 8, _ => rfl
  | 9, _ => rfl
  | 10, _ => rfl
  | 11, _ => rfl
  | j + 12, hj => exact absurd hj (by omega)
abbrev rmN_X5 : Room := { frames := 1, cells := 8, slots := 9402, locals := 20 }
theorem dX3_init_0 : decode cX3_init 0 = .ok (.aload_n 0, 1) := by decide +kernel
theorem dX3_init_1 : decode cX3_init 1 = .ok (.invokespecial 3, 3) := by decide +kernel
theorem dX3_init_4 : decode cX3_init 4 = .ok (.aload_n 0, 1) := by decide +kernel
theorem dX3_init_5 : decode cX3_init 5 = .ok (.aload_n 1, 1) := by decide +kernel
theorem dX3_init_6 : decode cX3_init 6 = .ok (.putfield 9, 3) := by decide +kernel
theorem dX3_init_9 : decode cX3_init 9 = .ok (.aload_n 0, 1) := by decide +kernel
theorem dX3_init_10 : decode cX3_init 10 = .ok (.aload_n 2, 1) := by decide +kernel
theorem dX3_init_11 : decode cX3_init 11 = .ok (.putfield 15, 3) := by decide +kernel
theorem dX3_init_14 : decode cX3_init 14 = .ok (.aload_n 0, 1) := by decide +kernel
theorem dX3_init_15 : decode cX3_init 15 = .ok (.new 19, 3) := by decide +kernel
theorem dX3_init_18 : decode cX3_init 18 = .ok (.dup, 1) := by decide +kernel
theorem dX3_init_19 : decode cX3_init 19 = .ok (.invokespecial 21, 3) := by decide +kernel
theorem dX3_init_22 : decode cX3_init 22 = .ok (.putfield 22, 3) := by decide +kernel
theorem dX3_init_25 : decode cX3_init 25 = .ok (.aload_n 0, 1) := by decide +kernel
theorem dX3_init_26 : decode cX3_init 26 = .ok (.new 19, 3) := by decide +kernel
theorem dX3_init_29 : decode cX3_init 29 = .ok (.dup, 1) := by decide +kernel
theorem dX3_init_30 : decode cX3_init 30 = .ok (.invokespecial 21, 3) := by decide +kernel
theorem dX3_init_33 : decode cX3_init 33 = .ok (.putfield 26, 3) := by decide +kernel
theorem dX3_init_36 : decode cX3_init 36 = .ok (.aload_n 0, 1) := by decide +kernel
theorem dX3_init_37 : decode cX3_init 37 = .ok (.new 19, 3) := by decide +kernel
theorem dX3_init_40 : decode cX3_init 40 = .ok (.dup, 1) := by decide +kernel
theorem dX3_init_41 : decode cX3_init 41 = .ok (.invokespecial 21, 3) := by decide +kernel
theorem dX3_init_44 : decode cX3_init 44 = .ok (.putfield 29, 3) := by decide +kernel
theorem dX3_init_47 : decode cX3_init 47 = .ok (.return_, 1) := by decide +kernel
theorem df_X3 : ∀ j, j < 5 → defaultValue (tyX3 j) = vp_V [.null, .null, .null, .null, .null] j := by
  intro j hj
  match j, hj with
  | 0, _ => rfl
  | 1, _ => rfl
  | 2, _ => rfl
  | 3, _ => rfl
  | 4, _ => rfl
  | j + 5, hj => exact absurd hj (by omega)
abbrev rmN_X3 : Room := { frames := 2, cells := 18, slots := 3018, locals := 60 }
set_option maxRecDepth 100000 in
set_option maxHeartbeats 4000000 in
theorem N_X4 {l : Launch} {D : va_G} {t : Ty3} {h : Nat} : MN l D t yX4_init cX4_init 1 rmN_X4 5 1000 h (.inr (3, [.int 0, .null, .null, .null, .null, .null])) [.ref h] (fun a => X4W t h a.1) := by
  refine mk_N (own := RX4) (by decide +kernel) rfl (Nat.le_of_ble_eq_true rfl) rfl (fun x hx hR hl hDD htt hi hE => ?_)
  subst hl
  subst hDD
  subst htt
  show WN x h 1 0 0 ((h, .inr (3, [.int 0, .null, .null, .null, .null, .null])) :: ([] : va_W)) 0 [(0, .ref h)] []
  refine n_aload_n (k0 := 0) hx dX4_init_0 rfl rfl ?_
  refine n_obj hx wl_X4_3 dX4_init_1 (by rw [hR]; decide) (by rw [hR]; decide) ?_
  refine n_aload_n (k0 := 0) hx dX4_init_4 rfl rfl ?_
  refine n_sipush (v := 200) hx dX4_init_5 (by decide) ?_
  refine n_newi (N := 200) hx (by decide) (by decide +kernel) (by decide +kernel) (by rw [hR]; decide) (by rw [hR]; decide) dX4_init_8 (fun q1 => ?_)
  show WN x h 1 1 200 ((h, .inr (3, [.int 0, .null, .null, .null, .null, .null])) :: ([] ++ [(q1, eI (x_t x) 200 (fun _ => 0))] : va_W)) 10 [(0, .ref h)] [.ref q1, .ref h]
  refine n_putF (C := RX4) (T := TX4) (N := 6) (ci := 3) (k := 1) (ty := .array .int) hx hi rfl (by decide) in_X4 tyX4_ok nmX4 rfl rfl (by decide +kernel) rfl rfl (Nat.le_of_ble_eq_true rfl) rfl wf_X4_9 dX4_init_10 ?_
  show WN x h 1 1 200 ((h, .inr (3, [.int 0, .ref q1, .null, .null, .null, .null])) :: ([] ++ [(q1, eI (x_t x) 200 (fun _ => 0))] : va_W)) 13 [(0, .ref h)] []
  refine n_aload_n (k0 := 0) hx dX4_init_13 rfl rfl ?_
  refine n_sipush (v := 200) hx dX4_init_14 (by decide) ?_
  refine n_newi (N := 200) hx (by decide) (by decide +kernel) (by decide +kernel) (by rw [hR]; decide) (by rw [hR]; decide) dX4_init_17 (fun q2 => ?_)
  show WN x h 1 2 400 ((h, .inr (3, [.int 0, .ref q1, .null, .null, .null, .null])) :: ([] ++ [(q1, eI (x_t x) 200 (fun _ => 0))] ++ [(q2, eI (x_t x) 200 (fun _ => 0))] : va_W)) 19 [(0, .ref h)] [.ref q2, .ref h]
  refine n_putF (C := RX4) (T := TX4) (N := 6) (ci := 3) (k := 2) (ty := .array .int) hx hi rfl (by decide) in_X4 tyX4_ok nmX4 rfl rfl (by decide +kernel) rfl rfl (Nat.le_of_ble_eq_true rfl) rfl wf_X4_15 dX4_init_19 ?_
  show WN x h 1 2 400 ((h, .inr (3, [.int 0, .ref q1, .ref q2, .null, .null, .null])) :: ([] ++ [(q1, eI (x_t x) 200 (fun _ => 0))] ++ [(q2, eI (x_t x) 200 (fun _ => 0))] : va_W)) 22 [(0, .ref h)] []
  refine n_aload_n (k0 := 0) hx dX4_init_22 rfl rfl ?_
  refine n_sipush (v := 200) hx dX4_init_23 (by decide) ?_
  refine n_newi (N := 200) hx (by decide) (by decide +kernel) (by decide +kernel) (by rw [hR]; decide) (by rw [hR]; decide) dX4_init_26 (fun q3 => ?_)
  show WN x h 1 3 600 ((h, .inr (3, [.int 0, .ref q1, .ref q2, .null, .null, .null])) :: ([] ++ [(q1, eI (x_t x) 200 (fun _ => 0))] ++ [(q2, eI (x_t x) 200 (fun _ => 0))] ++ [(q3, eI (x_t x) 200 (fun _ => 0))] : va_W)) 28 [(0, .ref h)] [.ref q3, .ref h]
  refine n_putF (C := RX4) (T := TX4) (N := 6) (ci := 3) (k := 3) (ty := .array .int) hx hi rfl (by decide) in_X4 tyX4_ok nmX4 rfl rfl (by decide +kernel) rfl rfl (Nat.le_of_ble_eq_true rfl) rfl wf_X4_18 dX4_init_28 ?_
  show WN x h 1 3 600 ((h, .inr (3, [.int 0, .ref q1, .ref q2, .ref q3, .null, .null])) :: ([] ++ [(q1, eI (x_t x) 200 (fun _ => 0))] ++ [(q2, eI (x_t x) 200 (fun _ => 0))] ++ [(q3, eI (x_t x) 200 (fun _ => 0))] : va_W)) 31 [(0, .ref h)] []
  refine n_aload_n (k0 := 0) hx dX4_init_31 rfl rfl ?_
  refine n_sipush (v := 200) hx dX4_init_32 (by decide) ?_
  refine n_newl (N := 200) hx (by decide) (by decide +kernel) (by decide +kernel) (by rw [hR]; decide) (by rw [hR]; decide) dX4_init_35 (fun q4 => ?_)
  show WN x h 1 4 800 ((h, .inr (3, [.int 0, .ref q1, .ref q2, .ref q3, .null, .null])) :: ([] ++ [(q1, eI (x_t x) 200 (fun _ => 0))] ++ [(q2, eI (x_t x) 200 (fun _ => 0))] ++ [(q3, eI (x_t x) 200 (fun _ => 0))] ++ [(q4, eL (x_t x) 200 (fun _ => 0))] : va_W)) 37 [(0, .ref h)] [.ref q4, .ref h]
  refine n_putF (C := RX4) (T := TX4) (N := 6) (ci := 3) (k := 4) (ty := .array .long) hx hi rfl (by decide) in_X4 tyX4_ok nmX4 rfl rfl (by decide +kernel) rfl rfl (Nat.le_of_ble_eq_true rfl) rfl wf_X4_21 dX4_init_37 ?_
  show WN x h 1 4 800 ((h, .inr (3, [.int 0, .ref q1, .ref q2, .ref q3, .ref q4, .null])) :: ([] ++ [(q1, eI (x_t x) 200 (fun _ => 0))] ++ [(q2, eI (x_t x) 200 (fun _ => 0))] ++ [(q3, eI (x_t x) 200 (fun _ => 0))] ++ [(q4, eL (x_t x) 200 (fun _ => 0))] : va_W)) 40 [(0, .ref h)] []
  refine n_aload_n (k0 := 0) hx dX4_init_40 rfl rfl ?_
  refine n_sipush (v := 200) hx dX4_init_41 (by decide) ?_
  refine n_newl (N := 200) hx (by decide) (by decide +kernel) (by decide +kernel) (by rw [hR]; decide) (by rw [hR]; decide) dX4_init_44 (fun q5 => ?_)
  show WN x h 1 5 1000 ((h, .inr (3, [.int 0, .ref q1, .ref q2, .ref q3, .ref q4, .null])) :: ([] ++ [(q1, eI (x_t x) 200 (fun _ => 0))] ++ [(q2, eI (x_t x) 200 (fun _ => 0))] ++ [(q3, eI (x_t x) 200 (fun _ => 0))] ++ [(q4, eL (x_t x) 200 (fun _ => 0))] ++ [(q5, eL (x_t x) 200 (fun _ => 0))] : va_W)) 46 [(0, .ref h)] [.ref q5, .ref h]
  refine n_putF (C := RX4) (T := TX4) (N := 6) (ci := 3) (k := 5) (ty := .array .long) hx hi rfl (by decide) in_X4 tyX4_ok nmX4 rfl rfl (by decide +kernel) rfl rfl (Nat.le_of_ble_eq_true rfl) rfl wf_X4_25 dX4_init_46 ?_
  show WN x h 1 5 1000 ((h, .inr (3, [.int 0, .ref q1, .ref q2, .ref q3, .ref q4, .ref q5])) :: ([] ++ [(q1, eI (x_t x) 200 (fun _ => 0))] ++ [(q2, eI (x_t x) 200 (fun _ => 0))] ++ [(q3, eI (x_t x) 200 (fun _ => 0))] ++ [(q4, eL (x_t x) 200 (fun _ => 0))] ++ [(q5, eL (x_t x) 200 (fun _ => 0))] : va_W)) 49 [(0, .ref h)] []
  exact n_ret hE (fun f => if f = 1 then q1 else if f = 2 then q2 else if f = 3 then q3 else if f = 4 then q4 else if f = 5 then q5 else 0, fun _ _ => 0) (by decide) (by decide) rfl dX4_init_49
set_option maxRecDepth 100000 in
set_option maxHeartbeats 4000000 in
theorem N_X1 {l : Launch} {D : va_G} {t : Ty3} {h : Nat} : MN l D t yX1_init cX1_init 1 rmN_X1 4 916 h (.inr (0, [.int 0, .null, .null, .null, .null])) [.ref h] (fun a => X1W t h a.1) := by
  refine mk_N (own := RX1) (by decide +kernel) rfl (Nat.le_of_ble_eq_true rfl) rfl (fun x hx hR hl hDD htt hi hE => ?_)
  subst hl
  subst hDD
  subst htt
  show WN x h 1 0 0 ((h, .inr (0, [.int 0, .null, .null, .null, .null])) :: ([] : va_W)) 0 [(0, .ref h)] []
  refine n_aload_n (k0 := 0) hx dX1_init_0 rfl rfl ?_
  refine n_obj hx wl_X1_3 dX1_init_1 (by rw [hR]; decide) (by rw [hR]; decide) ?_
  refine n_aload_n (k0 := 0) hx dX1_init_4 rfl rfl ?_
  refine n_sipush (v := 300) hx dX1_init_5 (by decide) ?_
  refine n_newl (N := 300) hx (by decide) (by decide +kernel) (by decide +kernel) (by rw [hR]; decide) (by rw [hR]; decide) dX1_init_8 (fun q1 => ?_)
  show WN x h 1 1 300 ((h, .inr (0, [.int 0, .null, .null, .null, .null])) :: ([] ++ [(q1, eL (x_t x) 300 (fun _ => 0))] : va_W)) 10 [(0, .ref h)] [.ref q1, .ref h]
  refine n_putF (C := RX1) (T := TX1) (N := 5) (ci := 0) (k := 1) (ty := .array .long) hx hi rfl (by decide) in_X1 tyX1_ok nmX1 rfl rfl (by decide +kernel) rfl rfl (Nat.le_of_ble_eq_true rfl) rfl wf_X1_9 dX1_init_10 ?_
  show WN x h 1 1 300 ((h, .inr (0, [.int 0, .ref q1, .null, .null, .null])) :: ([] ++ [(q1, eL (x_t x) 300 (fun _ => 0))] : va_W)) 13 [(0, .ref h)] []
  refine n_aload_n (k0 := 0) hx dX1_init_13 rfl rfl ?_
  refine n_sipush (v := 300) hx dX1_init_14 (by decide) ?_
  refine n_newi (N := 300) hx (by decide) (by decide +kernel) (by decide +kernel) (by rw [hR]; decide) (by rw [hR]; decide) dX1_init_17 (fun q2 => ?_)
  show WN x h 1 2 600 ((h, .inr (0, [.int 0, .ref q1, .null, .null, .null])) :: ([] ++ [(q1, eL (x_t x) 300 (fun _ => 0))] ++ [(q2, eI (x_t x) 300 (fun _ => 0))] : va_W)) 19 [(0, .ref h)] [.ref q2, .ref h]
  refine n_putF (C := RX1) (T := TX1) (N := 5) (ci := 0) (k := 2) (ty := .array .int) hx hi rfl (by decide) in_X1 tyX1_ok nmX1 rfl rfl (by decide +kernel) rfl rfl (Nat.le_of_ble_eq_true rfl) rfl wf_X1_15 dX1_init_19 ?_
  show WN x h 1 2 600 ((h, .inr (0, [.int 0, .ref q1, .ref q2, .null, .null])) :: ([] ++ [(q1, eL (x_t x) 300 (fun _ => 0))] ++ [(q2, eI (x_t x) 300 (fun _ => 0))] : va_W)) 22 [(0, .ref h)] []
  refine n_aload_n (k0 := 0) hx dX1_init_22 rfl rfl ?_
  refine n_sipush (v := 300) hx dX1_init_23 (by decide) ?_
  refine n_newi (N := 300) hx (by decide) (by decide +kernel) (by decide +kernel) (by rw [hR]; decide) (by rw [hR]; decide) dX1_init_26 (fun q3 => ?_)
  show WN x h 1 3 900 ((h, .inr (0, [.int 0, .ref q1, .ref q2, .null, .null])) :: ([] ++ [(q1, eL (x_t x) 300 (fun _ => 0))] ++ [(q2, eI (x_t x) 300 (fun _ => 0))] ++ [(q3, eI (x_t x) 300 (fun _ => 0))] : va_W)) 28 [(0, .ref h)] [.ref q3, .ref h]
  refine n_putF (C := RX1) (T := TX1) (N := 5) (ci := 0) (k := 3) (ty := .array .int) hx hi rfl (by decide) in_X1 tyX1_ok nmX1 rfl rfl (by decide +kernel) rfl rfl (Nat.le_of_ble_eq_true rfl) rfl wf_X1_19 dX1_init_28 ?_
  show WN x h 1 3 900 ((h, .inr (0, [.int 0, .ref q1, .ref q2, .ref q3, .null])) :: ([] ++ [(q1, eL (x_t x) 300 (fun _ => 0))] ++ [(q2, eI (x_t x) 300 (fun _ => 0))] ++ [(q3, eI (x_t x) 300 (fun _ => 0))] : va_W)) 31 [(0, .ref h)] []
  refine n_aload_n (k0 := 0) hx dX1_init_31 rfl rfl ?_
  refine n_bipush (v := 16) hx dX1_init_32 (by decide) ?_
  refine n_newi (N := 16) hx (by decide) (by decide +kernel) (by decide +kernel) (by rw [hR]; decide) (by rw [hR]; decide) dX1_init_34 (fun q4 => ?_)
  show WN x h 1 4 916 ((h, .inr (0, [.int 0, .ref q1, .ref q2, .ref q3, .null])) :: ([] ++ [(q1, eL (x_t x) 300 (fun _ => 0))] ++ [(q2, eI (x_t x) 300 (fun _ => 0))] ++ [(q3, eI (x_t x) 300 (fun _ => 0))] ++ [(q4, eI (x_t x) 16 (fun _ => 0))] : va_W)) 36 [(0, .ref h)] [.ref q4, .ref h]
  refine n_putF (C := RX1) (T := TX1) (N := 5) (ci := 0) (k := 4) (ty := .array .int) hx hi rfl (by decide) in_X1 tyX1_ok nmX1 rfl rfl (by decide +kernel) rfl rfl (Nat.le_of_ble_eq_true rfl) rfl wf_X1_22 dX1_init_36 ?_
  show WN x h 1 4 916 ((h, .inr (0, [.int 0, .ref q1, .ref q2, .ref q3, .ref q4])) :: ([] ++ [(q1, eL (x_t x) 300 (fun _ => 0))] ++ [(q2, eI (x_t x) 300 (fun _ => 0))] ++ [(q3, eI (x_t x) 300 (fun _ => 0))] ++ [(q4, eI (x_t x) 16 (fun _ => 0))] : va_W)) 39 [(0, .ref h)] []
  refine n_aload_n (k0 := 0) hx dX1_init_39 rfl rfl ?_
  refine n_get (C := RX1) (T := TX1) (N := 5) (ci := 0) (k := 1) hx rfl (by decide) rfl in_X1 wf_X1_9 dX1_init_40 ?_
  refine n_iconst (v := 0) hx dX1_init_43 (by decide) ?_
  refine n_lconst (v := 1) hx dX1_init_44 (by decide) ?_
  refine n_last hx 1 rfl (by unfold vp_in; decide) rfl dX1_init_45 ?_
  show WN x h 1 4 916 ((h, .inr (0, [.int 0, .ref q1, .ref q2, .ref q3, .ref q4])) :: ([] ++ [(q1, eL (x_t x) 300 (vp_updL (fun _ => 0) 0 1))] ++ [(q2, eI (x_t x) 300 (fun _ => 0))] ++ [(q3, eI (x_t x) 300 (fun _ => 0))] ++ [(q4, eI (x_t x) 16 (fun _ => 0))] : va_W)) 46 [(0, .ref h)] []
  refine n_aload_n (k0 := 0) hx dX1_init_46 rfl rfl ?_
  refine n_get (C := RX1) (T := TX1) (N := 5) (ci := 0) (k := 2) hx rfl (by decide) rfl in_X1 wf_X1_15 dX1_init_47 ?_
  refine n_iconst (v := 0) hx dX1_init_50 (by decide) ?_
  refine n_iconst (v := (-1)) hx dX1_init_51 (by decide) ?_
  refine n_iast hx 2 rfl (by unfold vp_in; decide) rfl dX1_init_52 ?_
  show WN x h 1 4 916 ((h, .inr (0, [.int 0, .ref q1, .ref q2, .ref q3, .ref q4])) :: ([] ++ [(q1, eL (x_t x) 300 (vp_updL (fun _ => 0) 0 1))] ++ [(q2, eI (x_t x) 300 (upd (fun _ => 0) 0 (-1)))] ++ [(q3, eI (x_t x) 300 (fun _ => 0))] ++ [(q4, eI (x_t x) 16 (fun _ => 0))] : va_W)) 53 [(0, .ref h)] []
  refine n_aload_n (k0 := 0) hx dX1_init_53 rfl rfl ?_
  refine n_get (C := RX1) (T := TX1) (N := 5) (ci := 0) (k := 3) hx rfl (by decide) rfl in_X1 wf_X1_19 dX1_init_54 ?_
  refine n_iconst (v := 0) hx dX1_init_57 (by decide) ?_
  refine n_iconst (v := (-1)) hx dX1_init_58 (by decide) ?_
  refine n_iast hx 3 rfl (by unfold vp_in; decide) rfl dX1_init_59 ?_
  show WN x h 1 4 916 ((h, .inr (0, [.int 0, .ref q1, .ref q2, .ref q3, .ref q4])) :: ([] ++ [(q1, eL (x_t x) 300 (vp_updL (fun _ => 0) 0 1))] ++ [(q2, eI (x_t x) 300 (upd (fun _ => 0) 0 (-1)))] ++ [(q3, eI (x_t x) 300 (upd (fun _ => 0) 0 (-1)))] ++ [(q4, eI (x_t x) 16 (fun _ => 0))] : va_W)) 60 [(0, .ref h)] []
  refine n_aload_n (k0 := 0) hx dX1_init_60 rfl rfl ?_
  refine n_iconst (v := 1) hx dX1_init_61 (by decide) ?_
  refine n_put (C := RX1) (T := TX1) (N := 5) (ci := 0) (k := 0) (ty := .int) hx rfl (by decide) in_X1 tyX1_ok nmX1 rfl (by decide +kernel) rfl rfl (Nat.le_of_ble_eq_true rfl) rfl wf_X1_27 dX1_init_62 ?_
  show WN x h 1 4 916 ((h, .inr (0, [.int 1, .ref q1, .ref q2, .ref q3, .ref q4])) :: ([] ++ [(q1, eL (x_t x) 300 (vp_updL (fun _ => 0) 0 1))] ++ [(q2, eI (x_t x) 300 (upd (fun _ => 0) 0 (-1)))] ++ [(q3, eI (x_t x) 300 (upd (fun _ => 0) 0 (-1)))] ++ [(q4, eI (x_t x) 16 (fun _ => 0))] : va_W)) 65 [(0, .ref h)] []
  exact n_ret hE (fun f => if f = 1 then q1 else if f = 2 then q2 else if f = 3 then q3 else if f = 4 then q4 else 0, fun _ _ => 0) (by decide) (by decide) rfl dX1_init_65
set_option maxRecDepth 100000 in
set_option maxHeartbeats 4000000 in
theorem N_X2 {l : Launch} {D : va_G} {t : Ty3} {h : Nat} : MN l D t yX2_init cX2_init 1 rmN_X2 3 120 h (.inr (1, [.int 0, .null, .null, .null])) [.ref h] (fun a => X2W t h a.1) := by
  refine mk_N (own := RX2) (by decide +kernel) rfl (Nat.le_of_ble_eq_true rfl) rfl (fun x hx hR hl hDD htt hi hE => ?_)
  subst hl
  subst hDD
  subst htt
  show WN x h 1 0 0 ((h, .inr (1, [.int 0, .null, .null, .null])) :: ([] : va_W)) 0 [(0, .ref h)] []
  refine n_aload_n (k0 := 0) hx dX2_init_0 rfl rfl ?_
  refine n_obj hx wl_X2_3 dX2_init_1 (by rw [hR]; decide) (by rw [hR]; decide) ?_
  refine n_aload_n (k0 := 0) hx dX2_init_4 rfl rfl ?_
  refine n_bipush (v := 40) hx dX2_init_5 (by decide) ?_
  refine n_newi (N := 40) hx (by decide) (by decide +kernel) (by decide +kernel) (by rw [hR]; decide) (by rw [hR]; decide) dX2_init_7 (fun q1 => ?_)
  show WN x h 1 1 40 ((h, .inr (1, [.int 0, .null, .null, .null])) :: ([] ++ [(q1, eI (x_t x) 40 (fun _ => 0))] : va_W)) 9 [(0, .ref h)] [.ref q1, .ref h]
  refine n_putF (C := RX2) (T := TX2) (N := 4) (ci := 1) (k := 1) (ty := .array .int) hx hi rfl (by decide) in_X2 tyX2_ok nmX2 rfl rfl (by decide +kernel) rfl rfl (Nat.le_of_ble_eq_true rfl) rfl wf_X2_9 dX2_init_9 ?_
  show WN x h 1 1 40 ((h, .inr (1, [.int 0, .ref q1, .null, .null])) :: ([] ++ [(q1, eI (x_t x) 40 (fun _ => 0))] : va_W)) 12 [(0, .ref h)] []
  refine n_aload_n (k0 := 0) hx dX2_init_12 rfl rfl ?_
  refine n_bipush (v := 40) hx dX2_init_13 (by decide) ?_
  refine n_newi (N := 40) hx (by decide) (by decide +kernel) (by decide +kernel) (by rw [hR]; decide) (by rw [hR]; decide) dX2_init_15 (fun q2 => ?_)
  show WN x h 1 2 80 ((h, .inr (1, [.int 0, .ref q1, .null, .null])) :: ([] ++ [(q1, eI (x_t x) 40 (fun _ => 0))] ++ [(q2, eI (x_t x) 40 (fun _ => 0))] : va_W)) 17 [(0, .ref h)] [.ref q2, .ref h]
  refine n_putF (C := RX2) (T := TX2) (N := 4) (ci := 1) (k := 2) (ty := .array .int) hx hi rfl (by decide) in_X2 tyX2_ok nmX2 rfl rfl (by decide +kernel) rfl rfl (Nat.le_of_ble_eq_true rfl) rfl wf_X2_15 dX2_init_17 ?_
  show WN x h 1 2 80 ((h, .inr (1, [.int 0, .ref q1, .ref q2, .null])) :: ([] ++ [(q1, eI (x_t x) 40 (fun _ => 0))] ++ [(q2, eI (x_t x) 40 (fun _ => 0))] : va_W)) 20 [(0, .ref h)] []
  refine n_aload_n (k0 := 0) hx dX2_init_20 rfl rfl ?_
  refine n_bipush (v := 40) hx dX2_init_21 (by decide) ?_
  refine n_newi (N := 40) hx (by decide) (by decide +kernel) (by decide +kernel) (by rw [hR]; decide) (by rw [hR]; decide) dX2_init_23 (fun q3 => ?_)
  show WN x h 1 3 120 ((h, .inr (1, [.int 0, .ref q1, .ref q2, .null])) :: ([] ++ [(q1, eI (x_t x) 40 (fun _ => 0))] ++ [(q2, eI (x_t x) 40 (fun _ => 0))] ++ [(q3, eI (x_t x) 40 (fun _ => 0))] : va_W)) 25 [(0, .ref h)] [.ref q3, .ref h]
  refine n_putF (C := RX2) (T := TX2) (N := 4) (ci := 1) (k := 3) (ty := .array .int) hx hi rfl (by decide) in_X2 tyX2_ok nmX2 rfl rfl (by decide +kernel) rfl rfl (Nat.le_of_ble_eq_true rfl) rfl wf_X2_18 dX2_init_25 ?_
  show WN x h 1 3 120 ((h, .inr (1, [.int 0, .ref q1, .ref q2, .ref q3])) :: ([] ++ [(q1, eI (x_t x) 40 (fun _ => 0))] ++ [(q2, eI (x_t x) 40 (fun _ => 0))] ++ [(q3, eI (x_t x) 40 (fun _ => 0))] : va_W)) 28 [(0, .ref h)] []
  exact n_ret hE (fun f => if f = 51 then q1 else if f = 52 then q2 else if f = 53 then q3 else 0, fun _ _ => 0) (by decide) (by decide) rfl dX2_init_28
set_option maxRecDepth 100000 in
set_option maxHeartbeats 4000000 in
theorem N_X5 {l : Launch} {D : va_G} {t : Ty3} {h v0 : Nat} : MN l D t yX5_init cX5_init 2 rmN_X5 8 9402 h (.inr (4, [.int 0, .null, .null, .null, .null, .null, .null, .null, .null, .null, .int 0, .int 0])) [.ref h, .ref v0] (fun a => X5W t h a.1 v0) := by
  refine mk_N (own := RX5) (by decide +kernel) rfl (Nat.le_of_ble_eq_true rfl) rfl (fun x hx hR hl hDD htt hi hE => ?_)
  subst hl
  subst hDD
  subst htt
  show WN x h 2 0 0 ((h, .inr (4, [.int 0, .null, .null, .null, .null, .null, .null, .null, .null, .null, .int 0, .int 0])) :: ([] : va_W)) 0 [(0, .ref h), (1, .ref v0)] []
  refine n_aload_n (k0 := 0) hx dX5_init_0 rfl rfl ?_
  refine n_obj hx wl_X5_3 dX5_init_1 (by rw [hR]; decide) (by rw [hR]; decide) ?_
  refine n_aload_n (k0 := 0) hx dX5_init_4 rfl rfl ?_
  refine n_aload_n (k0 := 1) hx dX5_init_5 rfl rfl ?_
  refine n_putF (C := RX5) (T := TX5) (N := 12) (ci := 4) (k := 7) (ty := .object "TypeKernel$Levels") hx hi rfl (by decide) in_X5 tyX5_ok nmX5 rfl rfl (by decide +kernel) rfl rfl (Nat.le_of_ble_eq_true rfl) rfl wf_X5_9 dX5_init_6 ?_
  show WN x h 2 0 0 ((h, .inr (4, [.int 0, .null, .null, .null, .null, .null, .null, .ref v0, .null, .null, .int 0, .int 0])) :: ([] : va_W)) 9 [(0, .ref h), (1, .ref v0)] []
  refine n_aload_n (k0 := 0) hx dX5_init_9 rfl rfl ?_
  refine n_sipush (v := 1500) hx dX5_init_10 (by decide) ?_
  refine n_newi (N := 1500) hx (by decide) (by decide +kernel) (by decide +kernel) (by rw [hR]; decide) (by rw [hR]; decide) dX5_init_13 (fun q1 => ?_)
  show WN x h 2 1 1500 ((h, .inr (4, [.int 0, .null, .null, .null, .null, .null, .null, .ref v0, .null, .null, .int 0, .int 0])) :: ([] ++ [(q1, eI (x_t x) 1500 (fun _ => 0))] : va_W)) 15 [(0, .ref h), (1, .ref v0)] [.ref q1, .ref h]
  refine n_putF (C := RX5) (T := TX5) (N := 12) (ci := 4) (k := 1) (ty := .array .int) hx hi rfl (by decide) in_X5 tyX5_ok nmX5 rfl rfl (by decide +kernel) rfl rfl (Nat.le_of_ble_eq_true rfl) rfl wf_X5_15 dX5_init_15 ?_
  show WN x h 2 1 1500 ((h, .inr (4, [.int 0, .ref q1, .null, .null, .null, .null, .null, .ref v0, .null, .null, .int 0, .int 0])) :: ([] ++ [(q1, eI (x_t x) 1500 (fun _ => 0))] : va_W)) 18 [(0, .ref h), (1, .ref v0)] []
  refine n_aload_n (k0 := 0) hx dX5_init_18 rfl rfl ?_
  refine n_sipush (v := 1500) hx dX5_init_19 (by decide) ?_
  refine n_newi (N := 1500) hx (by decide) (by decide +kernel) (by decide +kernel) (by rw [hR]; decide) (by rw [hR]; decide) dX5_init_22 (fun q2 => ?_)
  show WN x h 2 2 3000 ((h, .inr (4, [.int 0, .ref q1, .null, .null, .null, .null, .null, .ref v0, .null, .null, .int 0, .int 0])) :: ([] ++ [(q1, eI (x_t x) 1500 (fun _ => 0))] ++ [(q2, eI (x_t x) 1500 (fun _ => 0))] : va_W)) 24 [(0, .ref h), (1, .ref v0)] [.ref q2, .ref h]
  refine n_putF (C := RX5) (T := TX5) (N := 12) (ci := 4) (k := 2) (ty := .array .int) hx hi rfl (by decide) in_X5 tyX5_ok nmX5 rfl rfl (by decide +kernel) rfl rfl (Nat.le_of_ble_eq_true rfl) rfl wf_X5_19 dX5_init_24 ?_
  show WN x h 2 2 3000 ((h, .inr (4, [.int 0, .ref q1, .ref q2, .null, .null, .null, .null, .ref v0, .null, .null, .int 0, .int 0])) :: ([] ++ [(q1, eI (x_t x) 1500 (fun _ => 0))] ++ [(q2, eI (x_t x) 1500 (fun _ => 0))] : va_W)) 27 [(0, .ref h), (1, .ref v0)] []
  refine n_aload_n (k0 := 0) hx dX5_init_27 rfl rfl ?_
  refine n_sipush (v := 1500) hx dX5_init_28 (by decide) ?_
  refine n_newi (N := 1500) hx (by decide) (by decide +kernel) (by decide +kernel) (by rw [hR]; decide) (by rw [hR]; decide) dX5_init_31 (fun q3 => ?_)
  show WN x h 2 3 4500 ((h, .inr (4, [.int 0, .ref q1, .ref q2, .null, .null, .null, .null, .ref v0, .null, .null, .int 0, .int 0])) :: ([] ++ [(q1, eI (x_t x) 1500 (fun _ => 0))] ++ [(q2, eI (x_t x) 1500 (fun _ => 0))] ++ [(q3, eI (x_t x) 1500 (fun _ => 0))] : va_W)) 33 [(0, .ref h), (1, .ref v0)] [.ref q3, .ref h]
  refine n_putF (C := RX5) (T := TX5) (N := 12) (ci := 4) (k := 3) (ty := .array .int) hx hi rfl (by decide) in_X5 tyX5_ok nmX5 rfl rfl (by decide +kernel) rfl rfl (Nat.le_of_ble_eq_true rfl) rfl wf_X5_22 dX5_init_33 ?_
  show WN x h 2 3 4500 ((h, .inr (4, [.int 0, .ref q1, .ref q2, .ref q3, .null, .null, .null, .ref v0, .null, .null, .int 0, .int 0])) :: ([] ++ [(q1, eI (x_t x) 1500 (fun _ => 0))] ++ [(q2, eI (x_t x) 1500 (fun _ => 0))] ++ [(q3, eI (x_t x) 1500 (fun _ => 0))] : va_W)) 36 [(0, .ref h), (1, .ref v0)] []
  refine n_aload_n (k0 := 0) hx dX5_init_36 rfl rfl ?_
  refine n_sipush (v := 1500) hx dX5_init_37 (by decide) ?_
  refine n_newi (N := 1500) hx (by decide) (by decide +kernel) (by decide +kernel) (by rw [hR]; decide) (by rw [hR]; decide) dX5_init_40 (fun q4 => ?_)
  show WN x h 2 4 6000 ((h, .inr (4, [.int 0, .ref q1, .ref q2, .ref q3, .null, .null, .null, .ref v0, .null, .null, .int 0, .int 0])) :: ([] ++ [(q1, eI (x_t x) 1500 (fun _ => 0))] ++ [(q2, eI (x_t x) 1500 (fun _ => 0))] ++ [(q3, eI (x_t x) 1500 (fun _ => 0))] ++ [(q4, eI (x_t x) 1500 (fun _ => 0))] : va_W)) 42 [(0, .ref h), (1, .ref v0)] [.ref q4, .ref h]
  refine n_putF (C := RX5) (T := TX5) (N := 12) (ci := 4) (k := 4) (ty := .array .int) hx hi rfl (by decide) in_X5 tyX5_ok nmX5 rfl rfl (by decide +kernel) rfl rfl (Nat.le_of_ble_eq_true rfl) rfl wf_X5_25 dX5_init_42 ?_
  show WN x h 2 4 6000 ((h, .inr (4, [.int 0, .ref q1, .ref q2, .ref q3, .ref q4, .null, .null, .ref v0, .null, .null, .int 0, .int 0])) :: ([] ++ [(q1, eI (x_t x) 1500 (fun _ => 0))] ++ [(q2, eI (x_t x) 1500 (fun _ => 0))] ++ [(q3, eI (x_t x) 1500 (fun _ => 0))] ++ [(q4, eI (x_t x) 1500 (fun _ => 0))] : va_W)) 45 [(0, .ref h), (1, .ref v0)] []
  refine n_aload_n (k0 := 0) hx dX5_init_45 rfl rfl ?_
  refine n_sipush (v := 1500) hx dX5_init_46 (by decide) ?_
  refine n_newi (N := 1500) hx (by decide) (by decide +kernel) (by decide +kernel) (by rw [hR]; decide) (by rw [hR]; decide) dX5_init_49 (fun q5 => ?_)
  show WN x h 2 5 7500 ((h, .inr (4, [.int 0, .ref q1, .ref q2, .ref q3, .ref q4, .null, .null, .ref v0, .null, .null, .int 0, .int 0])) :: ([] ++ [(q1, eI (x_t x) 1500 (fun _ => 0))] ++ [(q2, eI (x_t x) 1500 (fun _ => 0))] ++ [(q3, eI (x_t x) 1500 (fun _ => 0))] ++ [(q4, eI (x_t x) 1500 (fun _ => 0))] ++ [(q5, eI (x_t x) 1500 (fun _ => 0))] : va_W)) 51 [(0, .ref h), (1, .ref v0)] [.ref q5, .ref h]
  refine n_putF (C := RX5) (T := TX5) (N := 12) (ci := 4) (k := 5) (ty := .array .int) hx hi rfl (by decide) in_X5 tyX5_ok nmX5 rfl rfl (by decide +kernel) rfl rfl (Nat.le_of_ble_eq_true rfl) rfl wf_X5_28 dX5_init_51 ?_
  show WN x h 2 5 7500 ((h, .inr (4, [.int 0, .ref q1, .ref q2, .ref q3, .ref q4, .ref q5, .null, .ref v0, .null, .null, .int 0, .int 0])) :: ([] ++ [(q1, eI (x_t x) 1500 (fun _ => 0))] ++ [(q2, eI (x_t x) 1500 (fun _ => 0))] ++ [(q3, eI (x_t x) 1500 (fun _ => 0))] ++ [(q4, eI (x_t x) 1500 (fun _ => 0))] ++ [(q5, eI (x_t x) 1500 (fun _ => 0))] : va_W)) 54 [(0, .ref h), (1, .ref v0)] []
  refine n_aload_n (k0 := 0) hx dX5_init_54 rfl rfl ?_
  refine n_sipush (v := 1500) hx dX5_init_55 (by decide) ?_
  refine n_newi (N := 1500) hx (by decide) (by decide +kernel) (by decide +kernel) (by rw [hR]; decide) (by rw [hR]; decide) dX5_init_58 (fun q6 => ?_)
  show WN x h 2 6 9000 ((h, .inr (4, [.int 0, .ref q1, .ref q2, .ref q3, .ref q4, .ref q5, .null, .ref v0, .null, .null, .int 0, .int 0])) :: ([] ++ [(q1, eI (x_t x) 1500 (fun _ => 0))] ++ [(q2, eI (x_t x) 1500 (fun _ => 0))] ++ [(q3, eI (x_t x) 1500 (fun _ => 0))] ++ [(q4, eI (x_t x) 1500 (fun _ => 0))] ++ [(q5, eI (x_t x) 1500 (fun _ => 0))] ++ [(q6, eI (x_t x) 1500 (fun _ => 0))] : va_W)) 60 [(0, .ref h), (1, .ref v0)] [.ref q6, .ref h]
  refine n_putF (C := RX5) (T := TX5) (N := 12) (ci := 4) (k := 6) (ty := .array .int) hx hi rfl (by decide) in_X5 tyX5_ok nmX5 rfl rfl (by decide +kernel) rfl rfl (Nat.le_of_ble_eq_true rfl) rfl wf_X5_31 dX5_init_60 ?_
  show WN x h 2 6 9000 ((h, .inr (4, [.int 0, .ref q1, .ref q2, .ref q3, .ref q4, .ref q5, .ref q6, .ref v0, .null, .null, .int 0, .int 0])) :: ([] ++ [(q1, eI (x_t x) 1500 (fun _ => 0))] ++ [(q2, eI (x_t x) 1500 (fun _ => 0))] ++ [(q3, eI (x_t x) 1500 (fun _ => 0))] ++ [(q4, eI (x_t x) 1500 (fun _ => 0))] ++ [(q5, eI (x_t x) 1500 (fun _ => 0))] ++ [(q6, eI (x_t x) 1500 (fun _ => 0))] : va_W)) 63 [(0, .ref h), (1, .ref v0)] []
  refine n_aload_n (k0 := 0) hx dX5_init_63 rfl rfl ?_
  refine n_sipush (v := 201) hx dX5_init_64 (by decide) ?_
  refine n_newi (N := 201) hx (by decide) (by decide +kernel) (by decide +kernel) (by rw [hR]; decide) (by rw [hR]; decide) dX5_init_67 (fun q7 => ?_)
  show WN x h 2 7 9201 ((h, .inr (4, [.int 0, .ref q1, .ref q2, .ref q3, .ref q4, .ref q5, .ref q6, .ref v0, .null, .null, .int 0, .int 0])) :: ([] ++ [(q1, eI (x_t x) 1500 (fun _ => 0))] ++ [(q2, eI (x_t x) 1500 (fun _ => 0))] ++ [(q3, eI (x_t x) 1500 (fun _ => 0))] ++ [(q4, eI (x_t x) 1500 (fun _ => 0))] ++ [(q5, eI (x_t x) 1500 (fun _ => 0))] ++ [(q6, eI (x_t x) 1500 (fun _ => 0))] ++ [(q7, eI (x_t x) 201 (fun _ => 0))] : va_W)) 69 [(0, .ref h), (1, .ref v0)] [.ref q7, .ref h]
  refine n_putF (C := RX5) (T := TX5) (N := 12) (ci := 4) (k := 8) (ty := .array .int) hx hi rfl (by decide) in_X5 tyX5_ok nmX5 rfl rfl (by decide +kernel) rfl rfl (Nat.le_of_ble_eq_true rfl) rfl wf_X5_34 dX5_init_69 ?_
  show WN x h 2 7 9201 ((h, .inr (4, [.int 0, .ref q1, .ref q2, .ref q3, .ref q4, .ref q5, .ref q6, .ref v0, .ref q7, .null, .int 0, .int 0])) :: ([] ++ [(q1, eI (x_t x) 1500 (fun _ => 0))] ++ [(q2, eI (x_t x) 1500 (fun _ => 0))] ++ [(q3, eI (x_t x) 1500 (fun _ => 0))] ++ [(q4, eI (x_t x) 1500 (fun _ => 0))] ++ [(q5, eI (x_t x) 1500 (fun _ => 0))] ++ [(q6, eI (x_t x) 1500 (fun _ => 0))] ++ [(q7, eI (x_t x) 201 (fun _ => 0))] : va_W)) 72 [(0, .ref h), (1, .ref v0)] []
  refine n_aload_n (k0 := 0) hx dX5_init_72 rfl rfl ?_
  refine n_sipush (v := 201) hx dX5_init_73 (by decide) ?_
  refine n_newi (N := 201) hx (by decide) (by decide +kernel) (by decide +kernel) (by rw [hR]; decide) (by rw [hR]; decide) dX5_init_76 (fun q8 => ?_)
  show WN x h 2 8 9402 ((h, .inr (4, [.int 0, .ref q1, .ref q2, .ref q3, .ref q4, .ref q5, .ref q6, .ref v0, .ref q7, .null, .int 0, .int 0])) :: ([] ++ [(q1, eI (x_t x) 1500 (fun _ => 0))] ++ [(q2, eI (x_t x) 1500 (fun _ => 0))] ++ [(q3, eI (x_t x) 1500 (fun _ => 0))] ++ [(q4, eI (x_t x) 1500 (fun _ => 0))] ++ [(q5, eI (x_t x) 1500 (fun _ => 0))] ++ [(q6, eI (x_t x) 1500 (fun _ => 0))] ++ [(q7, eI (x_t x) 201 (fun _ => 0))] ++ [(q8, eI (x_t x) 201 (fun _ => 0))] : va_W)) 78 [(0, .ref h), (1, .ref v0)] [.ref q8, .ref h]
  refine n_putF (C := RX5) (T := TX5) (N := 12) (ci := 4) (k := 9) (ty := .array .int) hx hi rfl (by decide) in_X5 tyX5_ok nmX5 rfl rfl (by decide +kernel) rfl rfl (Nat.le_of_ble_eq_true rfl) rfl wf_X5_37 dX5_init_78 ?_
  show WN x h 2 8 9402 ((h, .inr (4, [.int 0, .ref q1, .ref q2, .ref q3, .ref q4, .ref q5, .ref q6, .ref v0, .ref q7, .ref q8, .int 0, .int 0])) :: ([] ++ [(q1, eI (x_t x) 1500 (fun _ => 0))] ++ [(q2, eI (x_t x) 1500 (fun _ => 0))] ++ [(q3, eI (x_t x) 1500 (fun _ => 0))] ++ [(q4, eI (x_t x) 1500 (fun _ => 0))] ++ [(q5, eI (x_t x) 1500 (fun _ => 0))] ++ [(q6, eI (x_t x) 1500 (fun _ => 0))] ++ [(q7, eI (x_t x) 201 (fun _ => 0))] ++ [(q8, eI (x_t x) 201 (fun _ => 0))] : va_W)) 81 [(0, .ref h), (1, .ref v0)] []
  exact n_ret hE (fun f => if f = 201 then q1 else if f = 202 then q2 else if f = 203 then q3 else if f = 204 then q4 else if f = 205 then q5 else if f = 206 then q6 else if f = 208 then q7 else if f = 209 then q8 else 0, fun _ _ => 0) (by decide) (by decide) rfl dX5_init_81
set_option maxRecDepth 100000 in
set_option maxHeartbeats 4000000 in
theorem N_X3 {l : Launch} {D : va_G} {t : Ty3} {h v4 v1 : Nat} : MN l D t yX3_init cX3_init 3 rmN_X3 18 3018 h (.inr (2, [.null, .null, .null, .null, .null])) [.ref h, .ref v4, .ref v1] (fun a => X3W t h a.1 v4 v1) := by
  refine mk_N (own := RX3) (by decide +kernel) rfl (Nat.le_of_ble_eq_true rfl) rfl (fun x hx hR hl hDD htt hi hE => ?_)
  subst hl
  subst hDD
  subst htt
  show WN x h 3 0 0 ((h, .inr (2, [.null, .null, .null, .null, .null])) :: ([] : va_W)) 0 [(0, .ref h), (1, .ref v4), (2, .ref v1)] []
  refine n_aload_n (k0 := 0) hx dX3_init_0 rfl rfl ?_
  refine n_obj hx wl_X3_3 dX3_init_1 (by rw [hR]; decide) (by rw [hR]; decide) ?_
  refine n_aload_n (k0 := 0) hx dX3_init_4 rfl rfl ?_
  refine n_aload_n (k0 := 1) hx dX3_init_5 rfl rfl ?_
  refine n_putF (C := RX3) (T := TX3) (N := 5) (ci := 2) (k := 0) (ty := .object "TypeKernel$Terms") hx hi rfl (by decide) in_X3 tyX3_ok nmX3 rfl rfl (by decide +kernel) rfl rfl (Nat.le_of_ble_eq_true rfl) rfl wf_X3_9 dX3_init_6 ?_
  show WN x h 3 0 0 ((h, .inr (2, [.ref v4, .null, .null, .null, .null])) :: ([] : va_W)) 9 [(0, .ref h), (1, .ref v4), (2, .ref v1)] []
  refine n_aload_n (k0 := 0) hx dX3_init_9 rfl rfl ?_
  refine n_aload_n (k0 := 2) hx dX3_init_10 rfl rfl ?_
  refine n_putF (C := RX3) (T := TX3) (N := 5) (ci := 2) (k := 1) (ty := .object "TypeKernel$Names") hx hi rfl (by decide) in_X3 tyX3_ok nmX3 rfl rfl (by decide +kernel) rfl rfl (Nat.le_of_ble_eq_true rfl) rfl wf_X3_15 dX3_init_11 ?_
  show WN x h 3 0 0 ((h, .inr (2, [.ref v4, .ref v1, .null, .null, .null])) :: ([] : va_W)) 14 [(0, .ref h), (1, .ref v4), (2, .ref v1)] []
  refine n_aload_n (k0 := 0) hx dX3_init_14 rfl rfl ?_
  refine n_new (C := RX4) (T := TX4) (N := 6) (ci := 3) (fs := [.int 0, .null, .null, .null, .null, .null]) (ty := tyX4) hx rfl in_X4 tyX4_ok wa_X3_19 wb_X4 wn_X4 df_X4 (by rw [hR]; decide) (by rw [hR]; decide) dX3_init_15 (fun q1 => ?_)
  show WN x h 3 1 6 ((h, .inr (2, [.ref v4, .ref v1, .null, .null, .null])) :: ([] ++ [(q1, .inr (3, [.int 0, .null, .null, .null, .null, .null]))] : va_W)) 18 [(0, .ref h), (1, .ref v4), (2, .ref v1)] [.ref q1, .ref h]
  refine n_dup hx dX3_init_18 ?_
  show WN x h 3 1 6 (((h, .inr (2, [.ref v4, .ref v1, .null, .null, .null])) :: ([] : va_W)) ++ [(q1, .inr (3, [.int 0, .null, .null, .null, .null, .null]))]) 19 [(0, .ref h), (1, .ref v4), (2, .ref v1)] [.ref q1, .ref q1, .ref h]
  refine n_call (q := q1) (As := []) (rest := [.ref q1, .ref h]) (n := 0) hx (N_X4) wl_X3_21 wi_X4_init wn_X4 wc_X4_init rfl (by decide +kernel) rfl (by rw [hR]; exact ⟨by decide +kernel, rfl, rfl, by decide +kernel, by decide +kernel⟩) rfl (Nat.le_of_ble_eq_true rfl) dX3_init_19 (fun b1 => ?_)
  show WN x h 3 6 1006 ((h, .inr (2, [.ref v4, .ref v1, .null, .null, .null])) :: ([] ++ X4W (x_t x) q1 b1.1 : va_W)) 22 [(0, .ref h), (1, .ref v4), (2, .ref v1)] [.ref q1, .ref h]
  refine n_putF (C := RX3) (T := TX3) (N := 5) (ci := 2) (k := 2) (ty := .object "TypeKernel$Row") hx hi rfl (by decide) in_X3 tyX3_ok nmX3 rfl rfl (by decide +kernel) rfl rfl (Nat.le_of_ble_eq_true rfl) rfl wf_X3_22 dX3_init_22 ?_
  show WN x h 3 6 1006 ((h, .inr (2, [.ref v4, .ref v1, .ref q1, .null, .null])) :: ([] ++ X4W (x_t x) q1 b1.1 : va_W)) 25 [(0, .ref h), (1, .ref v4), (2, .ref v1)] []
  refine n_aload_n (k0 := 0) hx dX3_init_25 rfl rfl ?_
  refine n_new (C := RX4) (T := TX4) (N := 6) (ci := 3) (fs := [.int 0, .null, .null, .null, .null, .null]) (ty := tyX4) hx rfl in_X4 tyX4_ok wa_X3_19 wb_X4 wn_X4 df_X4 (by rw [hR]; decide) (by rw [hR]; decide) dX3_init_26 (fun q2 => ?_)
  show WN x h 3 7 1012 ((h, .inr (2, [.ref v4, .ref v1, .ref q1, .null, .null])) :: ([] ++ X4W (x_t x) q1 b1.1 ++ [(q2, .inr (3, [.int 0, .null, .null, .null, .null, .null]))] : va_W)) 29 [(0, .ref h), (1, .ref v4), (2, .ref v1)] [.ref q2, .ref h]
  refine n_dup hx dX3_init_29 ?_
  show WN x h 3 7 1012 (((h, .inr (2, [.ref v4, .ref v1, .ref q1, .null, .null])) :: ([] ++ X4W (x_t x) q1 b1.1 : va_W)) ++ [(q2, .inr (3, [.int 0, .null, .null, .null, .null, .null]))]) 30 [(0, .ref h), (1, .ref v4), (2, .ref v1)] [.ref q2, .ref q2, .ref h]
  refine n_call (q := q2) (As := []) (rest := [.ref q2, .ref h]) (n := 0) hx (N_X4) wl_X3_21 wi_X4_init wn_X4 wc_X4_init rfl (by decide +kernel) rfl (by rw [hR]; exact ⟨by decide +kernel, rfl, rfl, by decide +kernel, by decide +kernel⟩) rfl (Nat.le_of_ble_eq_true rfl) dX3_init_30 (fun b2 => ?_)
  show WN x h 3 12 2012 ((h, .inr (2, [.ref v4, .ref v1, .ref q1, .null, .null])) :: ([] ++ X4W (x_t x) q1 b1.1 ++ X4W (x_t x) q2 b2.1 : va_W)) 33 [(0, .ref h), (1, .ref v4), (2, .ref v1)] [.ref q2, .ref h]
  refine n_putF (C := RX3) (T := TX3) (N := 5) (ci := 2) (k := 3) (ty := .object "TypeKernel$Row") hx hi rfl (by decide) in_X3 tyX3_ok nmX3 rfl rfl (by decide +kernel) rfl rfl (Nat.le_of_ble_eq_true rfl) rfl wf_X3_26 dX3_init_33 ?_
  show WN x h 3 12 2012 ((h, .inr (2, [.ref v4, .ref v1, .ref q1, .ref q2, .null])) :: ([] ++ X4W (x_t x) q1 b1.1 ++ X4W (x_t x) q2 b2.1 : va_W)) 36 [(0, .ref h), (1, .ref v4), (2, .ref v1)] []
  refine n_aload_n (k0 := 0) hx dX3_init_36 rfl rfl ?_
  refine n_new (C := RX4) (T := TX4) (N := 6) (ci := 3) (fs := [.int 0, .null, .null, .null, .null, .null]) (ty := tyX4) hx rfl in_X4 tyX4_ok wa_X3_19 wb_X4 wn_X4 df_X4 (by rw [hR]; decide) (by rw [hR]; decide) dX3_init_37 (fun q3 => ?_)
  show WN x h 3 13 2018 ((h, .inr (2, [.ref v4, .ref v1, .ref q1, .ref q2, .null])) :: ([] ++ X4W (x_t x) q1 b1.1 ++ X4W (x_t x) q2 b2.1 ++ [(q3, .inr (3, [.int 0, .null, .null, .null, .null, .null]))] : va_W)) 40 [(0, .ref h), (1, .ref v4), (2, .ref v1)] [.ref q3, .ref h]
  refine n_dup hx dX3_init_40 ?_
  show WN x h 3 13 2018 (((h, .inr (2, [.ref v4, .ref v1, .ref q1, .ref q2, .null])) :: ([] ++ X4W (x_t x) q1 b1.1 ++ X4W (x_t x) q2 b2.1 : va_W)) ++ [(q3, .inr (3, [.int 0, .null, .null, .null, .null, .null]))]) 41 [(0, .ref h), (1, .ref v4), (2, .ref v1)] [.ref q3, .ref q3, .ref h]
  refine n_call (q := q3) (As := []) (rest := [.ref q3, .ref h]) (n := 0) hx (N_X4) wl_X3_21 wi_X4_init wn_X4 wc_X4_init rfl (by decide +kernel) rfl (by rw [hR]; exact ⟨by decide +kernel, rfl, rfl, by decide +kernel, by decide +kernel⟩) rfl (Nat.le_of_ble_eq_true rfl) dX3_init_41 (fun b3 => ?_)
  show WN x h 3 18 3018 ((h, .inr (2, [.ref v4, .ref v1, .ref q1, .ref q2, .null])) :: ([] ++ X4W (x_t x) q1 b1.1 ++ X4W (x_t x) q2 b2.1 ++ X4W (x_t x) q3 b3.1 : va_W)) 44 [(0, .ref h), (1, .ref v4), (2, .ref v1)] [.ref q3, .ref h]
  refine n_putF (C := RX3) (T := TX3) (N := 5) (ci := 2) (k := 4) (ty := .object "TypeKernel$Row") hx hi rfl (by decide) in_X3 tyX3_ok nmX3 rfl rfl (by decide +kernel) rfl rfl (Nat.le_of_ble_eq_true rfl) rfl wf_X3_29 dX3_init_44 ?_
  show WN x h 3 18 3018 ((h, .inr (2, [.ref v4, .ref v1, .ref q1, .ref q2, .ref q3])) :: ([] ++ X4W (x_t x) q1 b1.1 ++ X4W (x_t x) q2 b2.1 ++ X4W (x_t x) q3 b3.1 : va_W)) 47 [(0, .ref h), (1, .ref v4), (2, .ref v1)] []
  exact n_ret hE (fun f => if f = 1020 then q1 else if f < 1030 then b1.1 (f - 1020) else if f = 1030 then q2 else if f < 1040 then b2.1 (f - 1030) else if f = 1040 then q3 else b3.1 (f - 1040), fun _ _ => 0) (by decide) (by decide) rfl dX3_init_47
