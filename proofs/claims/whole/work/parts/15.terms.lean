theorem dX5_has_0 : decode cX5_has 0 = .ok (.iload_n 1, 1) := by decide +kernel
theorem dX5_has_1 : decode cX5_has 1 = .ok (.ifCond .lt 15, 3) := by decide +kernel
theorem dX5_has_4 : decode cX5_has 4 = .ok (.iload_n 1, 1) := by decide +kernel
theorem dX5_has_5 : decode cX5_has 5 = .ok (.aload_n 0, 1) := by decide +kernel
theorem dX5_has_6 : decode cX5_has 6 = .ok (.getfield 40, 3) := by decide +kernel
theorem dX5_has_9 : decode cX5_has 9 = .ok (.if_icmp .ge 7, 3) := by decide +kernel
theorem dX5_has_12 : decode cX5_has 12 = .ok (.iconst 1, 1) := by decide +kernel
theorem dX5_has_13 : decode cX5_has 13 = .ok (.goto 4, 3) := by decide +kernel
theorem dX5_has_16 : decode cX5_has 16 = .ok (.iconst 0, 1) := by decide +kernel
theorem dX5_has_17 : decode cX5_has 17 = .ok (.ireturn, 1) := by decide +kernel
theorem dy_X5_has : DY yX5_has 1 := by decide +kernel
abbrev rm_X5_has : Room := { frames := 0, cells := 0, slots := 0, locals := 0 }
def g_X5_has (n : Nat) (S : St) (a1 : Int32) : Option (St × Int32) :=
  if a1 < 0 then
    some (S, 0)
  else
    if (S.1 200 0) ≤ a1 then
      some (S, 0)
    else
      some (S, 1)
set_option maxRecDepth 100000 in
set_option maxHeartbeats 4000000 in
theorem t_X5_has_0 {n : Nat} {x : XC} (hx : CX x cX5_has 2 RX5) (hR : x_R x = rm_X5_has) (hKS : ∀ k ∈ KK, k ∈ x_K x) {out : St × Int32} (hE : EI x cX5_has out) {S : St} {a1 : Int32} (h : g_X5_has n S a1 = some out) : WX x 2 0 0 S 0 [(0, .ref (x_ad x 0 4 0)), (1, .int a1)] [] := by
  unfold g_X5_has at h
  refine r_iload_n (k0 := 1) hx dX5_has_0 rfl rfl ?_
  refine r_if_lt (tgt := 16) hx dX5_has_1 (by decide) (fun c1 => ?_) (fun c1 => ?_)
  · have h := ite_t h c1
    refine r_iconst (v := 0) hx dX5_has_16 (by decide) ?_
    exact r_iret hE h dX5_has_17
  · have h := ite_f h c1
    refine r_iload_n (k0 := 1) hx dX5_has_4 rfl rfl ?_
    refine r_aload_n (k0 := 0) hx dX5_has_5 rfl rfl ?_
    refine g_200 hx (k_0_4 hKS) wf_X5_40 dX5_has_6 ?_
    refine r_icmp_ge (tgt := 16) hx dX5_has_9 (by decide) (fun c2 => ?_) (fun c2 => ?_)
    · have h := ite_t h c2
      refine r_iconst (v := 0) hx dX5_has_16 (by decide) ?_
      exact r_iret hE h dX5_has_17
    · have h := ite_f h c2
      refine r_iconst (v := 1) hx dX5_has_12 (by decide) ?_
      refine r_goto (tgt := 17) hx dX5_has_13 (by decide) ?_
      exact r_iret hE h dX5_has_17
def f_X5_has (n : Nat) (S : St) (a1 : Int32) : Option (St × Int32) := zW (g_X5_has n S a1)
set_option maxHeartbeats 4000000 in
theorem C_X5_has {n : Nat} {c : YC} (hKS : ∀ k ∈ KK, k ∈ c.2.2.2.2) {S : St} {a1 : Int32} {out : St × Int32} (h : f_X5_has n S a1 = some out) : MI c yX5_has cX5_has 2 (some .boolean) rm_X5_has S [.ref (c.2.2.1 0 4 0), .int a1] out := mk_Z (own := RX5) (by decide +kernel) rfl (Nat.le_of_ble_eq_true rfl) (zW_some h).2 (fun x hx hR hy hE => by subst hy; exact t_X5_has_0 hx hR hKS hE (zW_some h).1)
theorem dX5_sizeOf_0 : decode cX5_sizeOf 0 = .ok (.aload_n 0, 1) := by decide +kernel
theorem dX5_sizeOf_1 : decode cX5_sizeOf 1 = .ok (.iload_n 1, 1) := by decide +kernel
theorem dX5_sizeOf_2 : decode cX5_sizeOf 2 = .ok (.invokevirtual 44, 3) := by decide +kernel
theorem dX5_sizeOf_5 : decode cX5_sizeOf 5 = .ok (.ifCond .eq 12, 3) := by decide +kernel
theorem dX5_sizeOf_8 : decode cX5_sizeOf 8 = .ok (.aload_n 0, 1) := by decide +kernel
theorem dX5_sizeOf_9 : decode cX5_sizeOf 9 = .ok (.getfield 28, 3) := by decide +kernel
theorem dX5_sizeOf_12 : decode cX5_sizeOf 12 = .ok (.iload_n 1, 1) := by decide +kernel
theorem dX5_sizeOf_13 : decode cX5_sizeOf 13 = .ok (.iaload, 1) := by decide +kernel
theorem dX5_sizeOf_14 : decode cX5_sizeOf 14 = .ok (.goto 4, 3) := by decide +kernel
theorem dX5_sizeOf_17 : decode cX5_sizeOf 17 = .ok (.iconst 0, 1) := by decide +kernel
theorem dX5_sizeOf_18 : decode cX5_sizeOf 18 = .ok (.ireturn, 1) := by decide +kernel
theorem dy_X5_sizeOf : DY yX5_sizeOf 1 := by decide +kernel
abbrev rm_X5_sizeOf : Room := { frames := 1, cells := 0, slots := 0, locals := 21 }
def f_X5_sizeOf (n : Nat) (S : St) (a1 : Int32) : Option (St × Int32) :=
  bI (f_X5_has n S a1) fun S1 v3 =>
  if v3 = 0 then
    some (S1, 0)
  else
    gI S1 205 0 a1 1500 fun v5 =>
    some (S1, v5)
set_option maxRecDepth 100000 in
set_option maxHeartbeats 4000000 in
theorem t_X5_sizeOf_0 {n : Nat} {x : XC} (hx : CX x cX5_sizeOf 2 RX5) (hR : x_R x = rm_X5_sizeOf) (hKS : ∀ k ∈ KK, k ∈ x_K x) {out : St × Int32} (hE : EI x cX5_sizeOf out) {S : St} {a1 : Int32} (h : f_X5_sizeOf n S a1 = some out) : WX x 2 0 0 S 0 [(0, .ref (x_ad x 0 4 0)), (1, .int a1)] [] := by
  unfold f_X5_sizeOf at h
  refine r_aload_n (k0 := 0) hx dX5_sizeOf_0 rfl rfl ?_
  refine r_iload_n (k0 := 1) hx dX5_sizeOf_1 rfl rfl ?_
  obtain ⟨S1, v3, c2, h⟩ := bI_some h
  refine r_Vi (ci := 4) (As := [.int a1]) (rest := []) hx (C_X5_has (c := x_y x) hKS c2) (k_0_4 hKS) rfl wl_X5_44 wi_X5_has we_X5_has wn_X5 wc_X5_has dy_X5_has rfl (by rw [hR]; decide +kernel) rfl (Nat.le_of_ble_eq_true rfl) dX5_sizeOf_2 ?_
  refine r_if_eq (tgt := 17) hx dX5_sizeOf_5 (by decide) (fun c4 => ?_) (fun c4 => ?_)
  · have h := ite_t h c4
    refine r_iconst (v := 0) hx dX5_sizeOf_17 (by decide) ?_
    exact r_iret hE h dX5_sizeOf_18
  · have h := ite_f h c4
    refine r_aload_n (k0 := 0) hx dX5_sizeOf_8 rfl rfl ?_
    refine g_205 hx (k_0_4 hKS) wf_X5_28 dX5_sizeOf_9 ?_
    refine r_iload_n (k0 := 1) hx dX5_sizeOf_12 rfl rfl ?_
    obtain ⟨v5, e6, i7, h⟩ := gI_some h
    refine r_iald hx (k_1_205 hKS) rfl i7 e6 dX5_sizeOf_13 ?_
    refine r_goto (tgt := 18) hx dX5_sizeOf_14 (by decide) ?_
    exact r_iret hE h dX5_sizeOf_18
set_option maxHeartbeats 4000000 in
theorem C_X5_sizeOf {n : Nat} {c : YC} (hKS : ∀ k ∈ KK, k ∈ c.2.2.2.2) {S : St} {a1 : Int32} {out : St × Int32} (h : f_X5_sizeOf n S a1 = some out) : MI c yX5_sizeOf cX5_sizeOf 2 (some .int) rm_X5_sizeOf S [.ref (c.2.2.1 0 4 0), .int a1] out := mk_I (own := RX5) (by decide +kernel) rfl (Nat.le_of_ble_eq_true rfl) (fun x hx hR hy hE => by subst hy; exact t_X5_sizeOf_0 hx hR hKS hE h)
theorem dX5_openOf_0 : decode cX5_openOf 0 = .ok (.aload_n 0, 1) := by decide +kernel
theorem dX5_openOf_1 : decode cX5_openOf 1 = .ok (.iload_n 1, 1) := by decide +kernel
theorem dX5_openOf_2 : decode cX5_openOf 2 = .ok (.invokevirtual 44, 3) := by decide +kernel
theorem dX5_openOf_5 : decode cX5_openOf 5 = .ok (.ifCond .eq 12, 3) := by decide +kernel
theorem dX5_openOf_8 : decode cX5_openOf 8 = .ok (.aload_n 0, 1) := by decide +kernel
theorem dX5_openOf_9 : decode cX5_openOf 9 = .ok (.getfield 31, 3) := by decide +kernel
theorem dX5_openOf_12 : decode cX5_openOf 12 = .ok (.iload_n 1, 1) := by decide +kernel
theorem dX5_openOf_13 : decode cX5_openOf 13 = .ok (.iaload, 1) := by decide +kernel
theorem dX5_openOf_14 : decode cX5_openOf 14 = .ok (.goto 4, 3) := by decide +kernel
theorem dX5_openOf_17 : decode cX5_openOf 17 = .ok (.iconst 0, 1) := by decide +kernel
theorem dX5_openOf_18 : decode cX5_openOf 18 = .ok (.ireturn, 1) := by decide +kernel
theorem dy_X5_openOf : DY yX5_openOf 1 := by decide +kernel
abbrev rm_X5_openOf : Room := { frames := 1, cells := 0, slots := 0, locals := 21 }
def f_X5_openOf (n : Nat) (S : St) (a1 : Int32) : Option (St × Int32) :=
  bI (f_X5_has n S a1) fun S1 v3 =>
  if v3 = 0 then
    some (S1, 0)
  else
    gI S1 206 0 a1 1500 fun v5 =>
    some (S1, v5)
set_option maxRecDepth 100000 in
set_option maxHeartbeats 4000000 in
theorem t_X5_openOf_0 {n : Nat} {x : XC} (hx : CX x cX5_openOf 2 RX5) (hR : x_R x = rm_X5_openOf) (hKS : ∀ k ∈ KK, k ∈ x_K x) {out : St × Int32} (hE : EI x cX5_openOf out) {S : St} {a1 : Int32} (h : f_X5_openOf n S a1 = some out) : WX x 2 0 0 S 0 [(0, .ref (x_ad x 0 4 0)), (1, .int a1)] [] := by
  unfold f_X5_openOf at h
  refine r_aload_n (k0 := 0) hx dX5_openOf_0 rfl rfl ?_
  refine r_iload_n (k0 := 1) hx dX5_openOf_1 rfl rfl ?_
  obtain ⟨S1, v3, c2, h⟩ := bI_some h
  refine r_Vi (ci := 4) (As := [.int a1]) (rest := []) hx (C_X5_has (c := x_y x) hKS c2) (k_0_4 hKS) rfl wl_X5_44 wi_X5_has we_X5_has wn_X5 wc_X5_has dy_X5_has rfl (by rw [hR]; decide +kernel) rfl (Nat.le_of_ble_eq_true rfl) dX5_openOf_2 ?_
  refine r_if_eq (tgt := 17) hx dX5_openOf_5 (by decide) (fun c4 => ?_) (fun c4 => ?_)
  · have h := ite_t h c4
    refine r_iconst (v := 0) hx dX5_openOf_17 (by decide) ?_
    exact r_iret hE h dX5_openOf_18
  · have h := ite_f h c4
    refine r_aload_n (k0 := 0) hx dX5_openOf_8 rfl rfl ?_
    refine g_206 hx (k_0_4 hKS) wf_X5_31 dX5_openOf_9 ?_
    refine r_iload_n (k0 := 1) hx dX5_openOf_12 rfl rfl ?_
    obtain ⟨v5, e6, i7, h⟩ := gI_some h
    refine r_iald hx (k_1_206 hKS) rfl i7 e6 dX5_openOf_13 ?_
    refine r_goto (tgt := 18) hx dX5_openOf_14 (by decide) ?_
    exact r_iret hE h dX5_openOf_18
set_option maxHeartbeats 4000000 in
theorem C_X5_openOf {n : Nat} {c : YC} (hKS : ∀ k ∈ KK, k ∈ c.2.2.2.2) {S : St} {a1 : Int32} {out : St × Int32} (h : f_X5_openOf n S a1 = some out) : MI c yX5_openOf cX5_openOf 2 (some .int) rm_X5_openOf S [.ref (c.2.2.1 0 4 0), .int a1] out := mk_I (own := RX5) (by decide +kernel) rfl (Nat.le_of_ble_eq_true rfl) (fun x hx hR hy hE => by subst hy; exact t_X5_openOf_0 hx hR hKS hE h)
theorem dX5_sizeFor_0 : decode cX5_sizeFor 0 = .ok (.iload_n 1, 1) := by decide +kernel
theorem dX5_sizeFor_1 : decode cX5_sizeFor 1 = .ok (.invokestatic 48, 3) := by decide +kernel
theorem dX5_sizeFor_4 : decode cX5_sizeFor 4 = .ok (.lookupswitch 63 #[(2, 28), (3, 42)], 28) := by decide +kernel
theorem dX5_sizeFor_32 : decode cX5_sizeFor 32 = .ok (.iconst 1, 1) := by decide +kernel
theorem dX5_sizeFor_33 : decode cX5_sizeFor 33 = .ok (.aload_n 0, 1) := by decide +kernel
theorem dX5_sizeFor_34 : decode cX5_sizeFor 34 = .ok (.iload_n 2, 1) := by decide +kernel
theorem dX5_sizeFor_35 : decode cX5_sizeFor 35 = .ok (.invokevirtual 54, 3) := by decide +kernel
theorem dX5_sizeFor_38 : decode cX5_sizeFor 38 = .ok (.iadd, 1) := by decide +kernel
theorem dX5_sizeFor_39 : decode cX5_sizeFor 39 = .ok (.aload_n 0, 1) := by decide +kernel
theorem dX5_sizeFor_40 : decode cX5_sizeFor 40 = .ok (.iload_n 3, 1) := by decide +kernel
theorem dX5_sizeFor_41 : decode cX5_sizeFor 41 = .ok (.invokevirtual 54, 3) := by decide +kernel
theorem dX5_sizeFor_44 : decode cX5_sizeFor 44 = .ok (.iadd, 1) := by decide +kernel
theorem dX5_sizeFor_45 : decode cX5_sizeFor 45 = .ok (.ireturn, 1) := by decide +kernel
theorem dX5_sizeFor_46 : decode cX5_sizeFor 46 = .ok (.iconst 1, 1) := by decide +kernel
theorem dX5_sizeFor_47 : decode cX5_sizeFor 47 = .ok (.aload_n 0, 1) := by decide +kernel
theorem dX5_sizeFor_48 : decode cX5_sizeFor 48 = .ok (.iload_n 2, 1) := by decide +kernel
theorem dX5_sizeFor_49 : decode cX5_sizeFor 49 = .ok (.invokevirtual 54, 3) := by decide +kernel
theorem dX5_sizeFor_52 : decode cX5_sizeFor 52 = .ok (.iadd, 1) := by decide +kernel
theorem dX5_sizeFor_53 : decode cX5_sizeFor 53 = .ok (.aload_n 0, 1) := by decide +kernel
theorem dX5_sizeFor_54 : decode cX5_sizeFor 54 = .ok (.iload_n 3, 1) := by decide +kernel
theorem dX5_sizeFor_55 : decode cX5_sizeFor 55 = .ok (.invokevirtual 54, 3) := by decide +kernel
theorem dX5_sizeFor_58 : decode cX5_sizeFor 58 = .ok (.iadd, 1) := by decide +kernel
theorem dX5_sizeFor_59 : decode cX5_sizeFor 59 = .ok (.aload_n 0, 1) := by decide +kernel
theorem dX5_sizeFor_60 : decode cX5_sizeFor 60 = .ok (.iload 4, 2) := by decide +kernel
theorem dX5_sizeFor_62 : decode cX5_sizeFor 62 = .ok (.invokevirtual 54, 3) := by decide +kernel
theorem dX5_sizeFor_65 : decode cX5_sizeFor 65 = .ok (.iadd, 1) := by decide +kernel
theorem dX5_sizeFor_66 : decode cX5_sizeFor 66 = .ok (.ireturn, 1) := by decide +kernel
theorem dX5_sizeFor_67 : decode cX5_sizeFor 67 = .ok (.iconst 1, 1) := by decide +kernel
theorem dX5_sizeFor_68 : decode cX5_sizeFor 68 = .ok (.ireturn, 1) := by decide +kernel
theorem dy_X5_sizeFor : DY yX5_sizeFor 4 := by decide +kernel
abbrev rm_X5_sizeFor : Room := { frames := 2, cells := 0, slots := 0, locals := 42 }
def f_X5_sizeFor (n : Nat) (S : St) (a1 : Int32) (a2 : Int32) (a3 : Int32) (a4 : Int32) : Option (St × Int32) :=
  bI (f_X4_partsOf n S a1) fun S1 v3 =>
  if v3 = 2 then
    bI (f_X5_sizeOf n S1 a2) fun S5 v7 =>
    bI (f_X5_sizeOf n S5 a3) fun S8 v10 =>
    some (S8, ((1 + v7) + v10))
  else if v3 = 3 then
    bI (f_X5_sizeOf n S1 a2) fun S12 v14 =>
    bI (f_X5_sizeOf n S12 a3) fun S15 v17 =>
    bI (f_X5_sizeOf n S15 a4) fun S18 v20 =>
    some (S18, (((1 + v14) + v17) + v20))
  else some (S1, 1)
set_option maxRecDepth 100000 in
set_option maxHeartbeats 4000000 in
theorem t_X5_sizeFor_0 {n : Nat} {x : XC} (hx : CX x cX5_sizeFor 5 RX5) (hR : x_R x = rm_X5_sizeFor) (hKS : ∀ k ∈ KK, k ∈ x_K x) {out : St × Int32} (hE : EI x cX5_sizeFor out) {S : St} {a1 : Int32} {a2 : Int32} {a3 : Int32} {a4 : Int32} (h : f_X5_sizeFor n S a1 a2 a3 a4 = some out) : WX x 5 0 0 S 0 [(0, .ref (x_ad x 0 4 0)), (1, .int a1), (2, .int a2), (3, .int a3), (4, .int a4)] [] := by
  unfold f_X5_sizeFor at h
  refine r_iload_n (k0 := 1) hx dX5_sizeFor_0 rfl rfl ?_
  obtain ⟨S1, v3, c2, h⟩ := bI_some h
  refine r_Si (As := [.int a1]) (rest := []) hx (C_X4_partsOf (c := x_y x) hKS c2) wl_X5_48 wt_X4_partsOf wn_X4 wc_X4_partsOf dy_X4_partsOf rfl (by rw [hR]; decide +kernel) rfl (Nat.le_of_ble_eq_true rfl) dX5_sizeFor_1 ?_
  by_cases c4 : v3 = 2
  · have h := ite_t h c4
    refine r_lookI (c9 := 2) (tgt := 32) hx dX5_sizeFor_4 c4 (by decide +kernel) ?_
    refine r_iconst (v := 1) hx dX5_sizeFor_32 (by decide) ?_
    refine r_aload_n (k0 := 0) hx dX5_sizeFor_33 rfl rfl ?_
    refine r_iload_n (k0 := 2) hx dX5_sizeFor_34 rfl rfl ?_
    obtain ⟨S5, v7, c6, h⟩ := bI_some h
    refine r_Vi (ci := 4) (As := [.int a2]) (rest := [.int 1]) hx (C_X5_sizeOf (c := x_y x) hKS c6) (k_0_4 hKS) rfl wl_X5_54 wi_X5_sizeOf we_X5_sizeOf wn_X5 wc_X5_sizeOf dy_X5_sizeOf rfl (by rw [hR]; decide +kernel) rfl (Nat.le_of_ble_eq_true rfl) dX5_sizeFor_35 ?_
    refine r_iadd hx dX5_sizeFor_38 ?_
    refine r_aload_n (k0 := 0) hx dX5_sizeFor_39 rfl rfl ?_
    refine r_iload_n (k0 := 3) hx dX5_sizeFor_40 rfl rfl ?_
    obtain ⟨S8, v10, c9, h⟩ := bI_some h
    refine r_Vi (ci := 4) (As := [.int a3]) (rest := [.int (1 + v7)]) hx (C_X5_sizeOf (c := x_y x) hKS c9) (k_0_4 hKS) rfl wl_X5_54 wi_X5_sizeOf we_X5_sizeOf wn_X5 wc_X5_sizeOf dy_X5_sizeOf rfl (by rw [hR]; decide +kernel) rfl (Nat.le_of_ble_eq_true rfl) dX5_sizeFor_41 ?_
    refine r_iadd hx dX5_sizeFor_44 ?_
    exact r_iret hE h dX5_sizeFor_45
  have h := ite_f h c4
  by_cases c11 : v3 = 3
  · have h := ite_t h c11
    refine r_lookI (c9 := 3) (tgt := 46) hx dX5_sizeFor_4 c11 (by decide +kernel) ?_
    refine r_iconst (v := 1) hx dX5_sizeFor_46 (by decide) ?_
    refine r_aload_n (k0 := 0) hx dX5_sizeFor_47 rfl rfl ?_
    refine r_iload_n (k0 := 2) hx dX5_sizeFor_48 rfl rfl ?_
    obtain ⟨S12, v14, c13, h⟩ := bI_some h
    refine r_Vi (ci := 4) (As := [.int a2]) (rest := [.int 1]) hx (C_X5_sizeOf (c := x_y x) hKS c13) (k_0_4 hKS) rfl wl_X5_54 wi_X5_sizeOf we_X5_sizeOf wn_X5 wc_X5_sizeOf dy_X5_sizeOf rfl (by rw [hR]; decide +kernel) rfl (Nat.le_of_ble_eq_true rfl) dX5_sizeFor_49 ?_
    refine r_iadd hx dX5_sizeFor_52 ?_
    refine r_aload_n (k0 := 0) hx dX5_sizeFor_53 rfl rfl ?_
    refine r_iload_n (k0 := 3) hx dX5_sizeFor_54 rfl rfl ?_
    obtain ⟨S15, v17, c16, h⟩ := bI_some h
    refine r_Vi (ci := 4) (As := [.int a3]) (rest := [.int (1 + v14)]) hx (C_X5_sizeOf (c := x_y x) hKS c16) (k_0_4 hKS) rfl wl_X5_54 wi_X5_sizeOf we_X5_sizeOf wn_X5 wc_X5_sizeOf dy_X5_sizeOf rfl (by rw [hR]; decide +kernel) rfl (Nat.le_of_ble_eq_true rfl) dX5_sizeFor_55 ?_
    refine r_iadd hx dX5_sizeFor_58 ?_
    refine r_aload_n (k0 := 0) hx dX5_sizeFor_59 rfl rfl ?_
    refine r_iload (k0 := 4) hx dX5_sizeFor_60 rfl ?_
    obtain ⟨S18, v20, c19, h⟩ := bI_some h
    refine r_Vi (ci := 4) (As := [.int a4]) (rest := [.int ((1 + v14) + v17)]) hx (C_X5_sizeOf (c := x_y x) hKS c19) (k_0_4 hKS) rfl wl_X5_54 wi_X5_sizeOf we_X5_sizeOf wn_X5 wc_X5_sizeOf dy_X5_sizeOf rfl (by rw [hR]; decide +kernel) rfl (Nat.le_of_ble_eq_true rfl) dX5_sizeFor_62 ?_
    refine r_iadd hx dX5_sizeFor_65 ?_
    exact r_iret hE h dX5_sizeFor_66
  have h := ite_f h c11
  refine r_lookO_2_3 (tgt := 67) hx dX5_sizeFor_4 c4 c11 (by decide) (by decide) ?_
  refine r_iconst (v := 1) hx dX5_sizeFor_67 (by decide) ?_
  exact r_iret hE h dX5_sizeFor_68
set_option maxHeartbeats 4000000 in
theorem C_X5_sizeFor {n : Nat} {c : YC} (hKS : ∀ k ∈ KK, k ∈ c.2.2.2.2) {S : St} {a1 : Int32} {a2 : Int32} {a3 : Int32} {a4 : Int32} {out : St × Int32} (h : f_X5_sizeFor n S a1 a2 a3 a4 = some out) : MI c yX5_sizeFor cX5_sizeFor 5 (some .int) rm_X5_sizeFor S [.ref (c.2.2.1 0 4 0), .int a1, .int a2, .int a3, .int a4] out := mk_I (own := RX5) (by decide +kernel) rfl (Nat.le_of_ble_eq_true rfl) (fun x hx hR hy hE => by subst hy; exact t_X5_sizeFor_0 hx hR hKS hE h)
theorem dX5_openFor_0 : decode cX5_openFor 0 = .ok (.iload_n 1, 1) := by decide +kernel
theorem dX5_openFor_1 : decode cX5_openFor 1 = .ok (.tableswitch 98 1 6 #[39, 98, 43, 43, 59, 73], 39) := by decide +kernel
theorem dX5_openFor_40 : decode cX5_openFor 40 = .ok (.iload_n 2, 1) := by decide +kernel
theorem dX5_openFor_41 : decode cX5_openFor 41 = .ok (.iconst 1, 1) := by decide +kernel
theorem dX5_openFor_42 : decode cX5_openFor 42 = .ok (.iadd, 1) := by decide +kernel
theorem dX5_openFor_43 : decode cX5_openFor 43 = .ok (.ireturn, 1) := by decide +kernel
theorem dX5_openFor_44 : decode cX5_openFor 44 = .ok (.aload_n 0, 1) := by decide +kernel
theorem dX5_openFor_45 : decode cX5_openFor 45 = .ok (.iload_n 2, 1) := by decide +kernel
theorem dX5_openFor_46 : decode cX5_openFor 46 = .ok (.invokevirtual 57, 3) := by decide +kernel
theorem dX5_openFor_49 : decode cX5_openFor 49 = .ok (.aload_n 0, 1) := by decide +kernel
theorem dX5_openFor_50 : decode cX5_openFor 50 = .ok (.iload_n 3, 1) := by decide +kernel
theorem dX5_openFor_51 : decode cX5_openFor 51 = .ok (.invokevirtual 57, 3) := by decide +kernel
theorem dX5_openFor_54 : decode cX5_openFor 54 = .ok (.iconst 1, 1) := by decide +kernel
theorem dX5_openFor_55 : decode cX5_openFor 55 = .ok (.isub, 1) := by decide +kernel
theorem dX5_openFor_56 : decode cX5_openFor 56 = .ok (.invokestatic 60, 3) := by decide +kernel
theorem dX5_openFor_59 : decode cX5_openFor 59 = .ok (.ireturn, 1) := by decide +kernel
theorem dX5_openFor_60 : decode cX5_openFor 60 = .ok (.aload_n 0, 1) := by decide +kernel
theorem dX5_openFor_61 : decode cX5_openFor 61 = .ok (.iload_n 2, 1) := by decide +kernel
theorem dX5_openFor_62 : decode cX5_openFor 62 = .ok (.invokevirtual 57, 3) := by decide +kernel
theorem dX5_openFor_65 : decode cX5_openFor 65 = .ok (.aload_n 0, 1) := by decide +kernel
theorem dX5_openFor_66 : decode cX5_openFor 66 = .ok (.iload_n 3, 1) := by decide +kernel
theorem dX5_openFor_67 : decode cX5_openFor 67 = .ok (.invokevirtual 57, 3) := by decide +kernel
theorem dX5_openFor_70 : decode cX5_openFor 70 = .ok (.invokestatic 60, 3) := by decide +kernel
theorem dX5_openFor_73 : decode cX5_openFor 73 = .ok (.ireturn, 1) := by decide +kernel
theorem dX5_openFor_74 : decode cX5_openFor 74 = .ok (.aload_n 0, 1) := by decide +kernel
theorem dX5_openFor_75 : decode cX5_openFor 75 = .ok (.iload_n 2, 1) := by decide +kernel
theorem dX5_openFor_76 : decode cX5_openFor 76 = .ok (.invokevirtual 57, 3) := by decide +kernel
theorem dX5_openFor_79 : decode cX5_openFor 79 = .ok (.aload_n 0, 1) := by decide +kernel
theorem dX5_openFor_80 : decode cX5_openFor 80 = .ok (.iload_n 3, 1) := by decide +kernel
theorem dX5_openFor_81 : decode cX5_openFor 81 = .ok (.invokevirtual 57, 3) := by decide +kernel
theorem dX5_openFor_84 : decode cX5_openFor 84 = .ok (.invokestatic 60, 3) := by decide +kernel
theorem dX5_openFor_87 : decode cX5_openFor 87 = .ok (.aload_n 0, 1) := by decide +kernel
theorem dX5_openFor_88 : decode cX5_openFor 88 = .ok (.iload 4, 2) := by decide +kernel
theorem dX5_openFor_90 : decode cX5_openFor 90 = .ok (.invokevirtual 57, 3) := by decide +kernel
theorem dX5_openFor_93 : decode cX5_openFor 93 = .ok (.iconst 1, 1) := by decide +kernel
theorem dX5_openFor_94 : decode cX5_openFor 94 = .ok (.isub, 1) := by decide +kernel
theorem dX5_openFor_95 : decode cX5_openFor 95 = .ok (.invokestatic 60, 3) := by decide +kernel
theorem dX5_openFor_98 : decode cX5_openFor 98 = .ok (.ireturn, 1) := by decide +kernel
theorem dX5_openFor_99 : decode cX5_openFor 99 = .ok (.iconst 0, 1) := by decide +kernel
theorem dX5_openFor_100 : decode cX5_openFor 100 = .ok (.ireturn, 1) := by decide +kernel
theorem dy_X5_openFor : DY yX5_openFor 4 := by decide +kernel
abbrev rm_X5_openFor : Room := { frames := 2, cells := 0, slots := 0, locals := 42 }
def f_X5_openFor (n : Nat) (S : St) (a1 : Int32) (a2 : Int32) (a3 : Int32) (a4 : Int32) : Option (St × Int32) :=
  if a1 = 1 then
    some (S, (a2 + 1))
  else if a1 = 2 then
    some (S, 0)
  else if a1 = 3 then
    bI (f_X5_openOf n S a2) fun S4 v6 =>
    bI (f_X5_openOf n S4 a3) fun S7 v9 =>
    bV (if v6 < (v9 - 1) then (v9 - 1) else v6) fun v10 =>
    some (S7, v10)
  else if a1 = 4 then
    bI (f_X5_openOf n S a2) fun S13 v15 =>
    bI (f_X5_openOf n S13 a3) fun S16 v18 =>
    bV (if v15 < (v18 - 1) then (v18 - 1) else v15) fun v19 =>
    some (S16, v19)
  else if a1 = 5 then
    bI (f_X5_openOf n S a2) fun S22 v24 =>
    bI (f_X5_openOf n S22 a3) fun S25 v27 =>
    bV (if v24 < v27 then v27 else v24) fun v28 =>
    some (S25, v28)
  else if a1 = 6 then
    bI (f_X5_openOf n S a2) fun S31 v33 =>
    bI (f_X5_openOf n S31 a3) fun S34 v36 =>
    bV (if v33 < v36 then v36 else v33) fun v37 =>
    bI (f_X5_openOf n S34 a4) fun S39 v41 =>
    bV (if v37 < (v41 - 1) then (v41 - 1) else v37) fun v42 =>
    some (S39, v42)
  else some (S, 0)
set_option maxRecDepth 100000 in
set_option maxHeartbeats 4000000 in
theorem t_X5_openFor_0 {n : Nat} {x : XC} (hx : CX x cX5_openFor 5 RX5) (hR : x_R x = rm_X5_openFor) (hKS : ∀ k ∈ KK, k ∈ x_K x) {out : St × Int32} (hE : EI x cX5_openFor out) {S : St} {a1 : Int32} {a2 : Int32} {a3 : Int32} {a4 : Int32} (h : f_X5_openFor n S a1 a2 a3 a4 = some out) : WX x 5 0 0 S 0 [(0, .ref (x_ad x 0 4 0)), (1, .int a1), (2, .int a2), (3, .int a3), (4, .int a4)] [] := by
  unfold f_X5_openFor at h
  refine r_iload_n (k0 := 1) hx dX5_openFor_0 rfl rfl ?_
  by_cases c1 : a1 = 1
  · have h := ite_t h c1
    refine r_tabI (c9 := 1) (tgt := 40) hx dX5_openFor_1 c1 (by decide +kernel) ?_
    refine r_iload_n (k0 := 2) hx dX5_openFor_40 rfl rfl ?_
    refine r_iconst (v := 1) hx dX5_openFor_41 (by decide) ?_
    refine r_iadd hx dX5_openFor_42 ?_
    exact r_iret hE h dX5_openFor_43
  have h := ite_f h c1
  by_cases c2 : a1 = 2
  · have h := ite_t h c2
    refine r_tabI (c9 := 2) (tgt := 99) hx dX5_openFor_1 c2 (by decide +kernel) ?_
    refine r_iconst (v := 0) hx dX5_openFor_99 (by decide) ?_
    exact r_iret hE h dX5_openFor_100
  have h := ite_f h c2
  by_cases c3 : a1 = 3
  · have h := ite_t h c3
    refine r_tabI (c9 := 3) (tgt := 44) hx dX5_openFor_1 c3 (by decide +kernel) ?_
    refine r_aload_n (k0 := 0) hx dX5_openFor_44 rfl rfl ?_
    refine r_iload_n (k0 := 2) hx dX5_openFor_45 rfl rfl ?_
    obtain ⟨S4, v6, c5, h⟩ := bI_some h
    refine r_Vi (ci := 4) (As := [.int a2]) (rest := []) hx (C_X5_openOf (c := x_y x) hKS c5) (k_0_4 hKS) rfl wl_X5_57 wi_X5_openOf we_X5_openOf wn_X5 wc_X5_openOf dy_X5_openOf rfl (by rw [hR]; decide +kernel) rfl (Nat.le_of_ble_eq_true rfl) dX5_openFor_46 ?_
    refine r_aload_n (k0 := 0) hx dX5_openFor_49 rfl rfl ?_
    refine r_iload_n (k0 := 3) hx dX5_openFor_50 rfl rfl ?_
    obtain ⟨S7, v9, c8, h⟩ := bI_some h
    refine r_Vi (ci := 4) (As := [.int a3]) (rest := [.int v6]) hx (C_X5_openOf (c := x_y x) hKS c8) (k_0_4 hKS) rfl wl_X5_57 wi_X5_openOf we_X5_openOf wn_X5 wc_X5_openOf dy_X5_openOf rfl (by rw [hR]; decide +kernel) rfl (Nat.le_of_ble_eq_true rfl) dX5_openFor_51 ?_
    refine r_iconst (v := 1) hx dX5_openFor_54 (by decide) ?_
    refine r_isub hx dX5_openFor_55 ?_
    obtain ⟨v10, e11, h⟩ := bV_some h
    refine r_max hx wl_X5_60 (by rw [hR]; decide +kernel) (by rw [hR]; exact Nat.le_of_ble_eq_true rfl) (Nat.zero_le _) (Nat.zero_le _) dX5_openFor_56 ?_
    rw [← e11]
    exact r_iret hE h dX5_openFor_59
  have h := ite_f h c3
  by_cases c12 : a1 = 4
  · have h := ite_t h c12
    refine r_tabI (c9 := 4) (tgt := 44) hx dX5_openFor_1 c12 (by decide +kernel) ?_
    refine r_aload_n (k0 := 0) hx dX5_openFor_44 rfl rfl ?_
    refine r_iload_n (k0 := 2) hx dX5_openFor_45 rfl rfl ?_
    obtain ⟨S13, v15, c14, h⟩ := bI_some h
    refine r_Vi (ci := 4) (As := [.int a2]) (rest := []) hx (C_X5_openOf (c := x_y x) hKS c14) (k_0_4 hKS) rfl wl_X5_57 wi_X5_openOf we_X5_openOf wn_X5 wc_X5_openOf dy_X5_openOf rfl (by rw [hR]; decide +kernel) rfl (Nat.le_of_ble_eq_true rfl) dX5_openFor_46 ?_
    refine r_aload_n (k0 := 0) hx dX5_openFor_49 rfl rfl ?_
    refine r_iload_n (k0 := 3) hx dX5_openFor_50 rfl rfl ?_
    obtain ⟨S16, v18, c17, h⟩ := bI_some h
    refine r_Vi (ci := 4) (As := [.int a3]) (rest := [.int v15]) hx (C_X5_openOf (c := x_y x) hKS c17) (k_0_4 hKS) rfl wl_X5_57 wi_X5_openOf we_X5_openOf wn_X5 wc_X5_openOf dy_X5_openOf rfl (by rw [hR]; decide +kernel) rfl (Nat.le_of_ble_eq_true rfl) dX5_openFor_51 ?_
    refine r_iconst (v := 1) hx dX5_openFor_54 (by decide) ?_
    refine r_isub hx dX5_openFor_55 ?_
    obtain ⟨v19, e20, h⟩ := bV_some h
    refine r_max hx wl_X5_60 (by rw [hR]; decide +kernel) (by rw [hR]; exact Nat.le_of_ble_eq_true rfl) (Nat.zero_le _) (Nat.zero_le _) dX5_openFor_56 ?_
    rw [← e20]
    exact r_iret hE h dX5_openFor_59
  have h := ite_f h c12
  by_cases c21 : a1 = 5
  · have h := ite_t h c21
    refine r_tabI (c9 := 5) (tgt := 60) hx dX5_openFor_1 c21 (by decide +kernel) ?_
    refine r_aload_n (k0 := 0) hx dX5_openFor_60 rfl rfl ?_
    refine r_iload_n (k0 := 2) hx dX5_openFor_61 rfl rfl ?_
    obtain ⟨S22, v24, c23, h⟩ := bI_some h
    refine r_Vi (ci := 4) (As := [.int a2]) (rest := []) hx (C_X5_openOf (c := x_y x) hKS c23) (k_0_4 hKS) rfl wl_X5_57 wi_X5_openOf we_X5_openOf wn_X5 wc_X5_openOf dy_X5_openOf rfl (by rw [hR]; decide +kernel) rfl (Nat.le_of_ble_eq_true rfl) dX5_openFor_62 ?_
    refine r_aload_n (k0 := 0) hx dX5_openFor_65 rfl rfl ?_
    refine r_iload_n (k0 := 3) hx dX5_openFor_66 rfl rfl ?_
    obtain ⟨S25, v27, c26, h⟩ := bI_some h
    refine r_Vi (ci := 4) (As := [.int a3]) (rest := [.int v24]) hx (C_X5_openOf (c := x_y x) hKS c26) (k_0_4 hKS) rfl wl_X5_57 wi_X5_openOf we_X5_openOf wn_X5 wc_X5_openOf dy_X5_openOf rfl (by rw [hR]; decide +kernel) rfl (Nat.le_of_ble_eq_true rfl) dX5_openFor_67 ?_
    obtain ⟨v28, e29, h⟩ := bV_some h
    refine r_max hx wl_X5_60 (by rw [hR]; decide +kernel) (by rw [hR]; exact Nat.le_of_ble_eq_true rfl) (Nat.zero_le _) (Nat.zero_le _) dX5_openFor_70 ?_
    rw [← e29]
    exact r_iret hE h dX5_openFor_73
  have h := ite_f h c21
  by_cases c30 : a1 = 6
  · have h := ite_t h c30
    refine r_tabI (c9 := 6) (tgt := 74) hx dX5_openFor_1 c30 (by decide +kernel) ?_
    refine r_aload_n (k0 := 0) hx dX5_openFor_74 rfl rfl ?_
    refine r_iload_n (k0 := 2) hx dX5_openFor_75 rfl rfl ?_
    obtain ⟨S31, v33, c32, h⟩ := bI_some h
    refine r_Vi (ci := 4) (As := [.int a2]) (rest := []) hx (C_X5_openOf (c := x_y x) hKS c32) (k_0_4 hKS) rfl wl_X5_57 wi_X5_openOf we_X5_openOf wn_X5 wc_X5_openOf dy_X5_openOf rfl (by rw [hR]; decide +kernel) rfl (Nat.le_of_ble_eq_true rfl) dX5_openFor_76 ?_
    refine r_aload_n (k0 := 0) hx dX5_openFor_79 rfl rfl ?_
    refine r_iload_n (k0 := 3) hx dX5_openFor_80 rfl rfl ?_
    obtain ⟨S34, v36, c35, h⟩ := bI_some h
    refine r_Vi (ci := 4) (As := [.int a3]) (rest := [.int v33]) hx (C_X5_openOf (c := x_y x) hKS c35) (k_0_4 hKS) rfl wl_X5_57 wi_X5_openOf we_X5_openOf wn_X5 wc_X5_openOf dy_X5_openOf rfl (by rw [hR]; decide +kernel) rfl (Nat.le_of_ble_eq_true rfl) dX5_openFor_81 ?_
    obtain ⟨v37, e38, h⟩ := bV_some h
    refine r_max hx wl_X5_60 (by rw [hR]; decide +kernel) (by rw [hR]; exact Nat.le_of_ble_eq_true rfl) (Nat.zero_le _) (Nat.zero_le _) dX5_openFor_84 ?_
    rw [← e38]
    refine r_aload_n (k0 := 0) hx dX5_openFor_87 rfl rfl ?_
    refine r_iload (k0 := 4) hx dX5_openFor_88 rfl ?_
    obtain ⟨S39, v41, c40, h⟩ := bI_some h
    refine r_Vi (ci := 4) (As := [.int a4]) (rest := [.int v37]) hx (C_X5_openOf (c := x_y x) hKS c40) (k_0_4 hKS) rfl wl_X5_57 wi_X5_openOf we_X5_openOf wn_X5 wc_X5_openOf dy_X5_openOf rfl (by rw [hR]; decide +kernel) rfl (Nat.le_of_ble_eq_true rfl) dX5_openFor_90 ?_
    refine r_iconst (v := 1) hx dX5_openFor_93 (by decide) ?_
    refine r_isub hx dX5_openFor_94 ?_
    obtain ⟨v42, e43, h⟩ := bV_some h
    refine r_max hx wl_X5_60 (by rw [hR]; decide +kernel) (by rw [hR]; exact Nat.le_of_ble_eq_true rfl) (Nat.zero_le _) (Nat.zero_le _) dX5_openFor_95 ?_
    rw [← e43]
    exact r_iret hE h dX5_openFor_98
  have h := ite_f h c30
  refine r_tabO (tgt := 99) hx dX5_openFor_1 (tabo_1_6 c1 c2 c3 c12 c21 c30) (by decide) ?_
  refine r_iconst (v := 0) hx dX5_openFor_99 (by decide) ?_
  exact r_iret hE h dX5_openFor_100
set_option maxHeartbeats 4000000 in
theorem C_X5_openFor {n : Nat} {c : YC} (hKS : ∀ k ∈ KK, k ∈ c.2.2.2.2) {S : St} {a1 : Int32} {a2 : Int32} {a3 : Int32} {a4 : Int32} {out : St × Int32} (h : f_X5_openFor n S a1 a2 a3 a4 = some out) : MI c yX5_openFor cX5_openFor 5 (some .int) rm_X5_openFor S [.ref (c.2.2.1 0 4 0), .int a1, .int a2, .int a3, .int a4] out := mk_I (own := RX5) (by decide +kernel) rfl (Nat.le_of_ble_eq_true rfl) (fun x hx hR hy hE => by subst hy; exact t_X5_openFor_0 hx hR hKS hE h)
theorem dX5_find_0 : decode cX5_find 0 = .ok (.iconst 0, 1) := by decide +kernel
theorem dX5_find_1 : decode cX5_find 1 = .ok (.istore 5, 2) := by decide +kernel
theorem dX5_find_3 : decode cX5_find 3 = .ok (.iload 5, 2) := by decide +kernel
theorem dX5_find_5 : decode cX5_find 5 = .ok (.aload_n 0, 1) := by decide +kernel
theorem dX5_find_6 : decode cX5_find 6 = .ok (.getfield 40, 3) := by decide +kernel
theorem dX5_find_9 : decode cX5_find 9 = .ok (.if_icmp .ge 57, 3) := by decide +kernel
theorem dX5_find_12 : decode cX5_find 12 = .ok (.aload_n 0, 1) := by decide +kernel
theorem dX5_find_13 : decode cX5_find 13 = .ok (.getfield 19, 3) := by decide +kernel
theorem dX5_find_16 : decode cX5_find 16 = .ok (.iload 5, 2) := by decide +kernel
theorem dX5_find_18 : decode cX5_find 18 = .ok (.iaload, 1) := by decide +kernel
theorem dX5_find_19 : decode cX5_find 19 = .ok (.iload_n 2, 1) := by decide +kernel
theorem dX5_find_20 : decode cX5_find 20 = .ok (.if_icmp .ne 40, 3) := by decide +kernel
theorem dX5_find_23 : decode cX5_find 23 = .ok (.aload_n 0, 1) := by decide +kernel
theorem dX5_find_24 : decode cX5_find 24 = .ok (.getfield 22, 3) := by decide +kernel
theorem dX5_find_27 : decode cX5_find 27 = .ok (.iload 5, 2) := by decide +kernel
theorem dX5_find_29 : decode cX5_find 29 = .ok (.iaload, 1) := by decide +kernel
theorem dX5_find_30 : decode cX5_find 30 = .ok (.iload_n 3, 1) := by decide +kernel
theorem dX5_find_31 : decode cX5_find 31 = .ok (.if_icmp .ne 29, 3) := by decide +kernel
theorem dX5_find_34 : decode cX5_find 34 = .ok (.aload_n 0, 1) := by decide +kernel
theorem dX5_find_35 : decode cX5_find 35 = .ok (.getfield 25, 3) := by decide +kernel
theorem dX5_find_38 : decode cX5_find 38 = .ok (.iload 5, 2) := by decide +kernel
theorem dX5_find_40 : decode cX5_find 40 = .ok (.iaload, 1) := by decide +kernel
theorem dX5_find_41 : decode cX5_find 41 = .ok (.iload 4, 2) := by decide +kernel
theorem dX5_find_43 : decode cX5_find 43 = .ok (.if_icmp .ne 17, 3) := by decide +kernel
theorem dX5_find_46 : decode cX5_find 46 = .ok (.aload_n 0, 1) := by decide +kernel
theorem dX5_find_47 : decode cX5_find 47 = .ok (.getfield 15, 3) := by decide +kernel
theorem dX5_find_50 : decode cX5_find 50 = .ok (.iload 5, 2) := by decide +kernel
theorem dX5_find_52 : decode cX5_find 52 = .ok (.iaload, 1) := by decide +kernel
theorem dX5_find_53 : decode cX5_find 53 = .ok (.iload_n 1, 1) := by decide +kernel
theorem dX5_find_54 : decode cX5_find 54 = .ok (.if_icmp .ne 6, 3) := by decide +kernel
theorem dX5_find_57 : decode cX5_find 57 = .ok (.iload 5, 2) := by decide +kernel
theorem dX5_find_59 : decode cX5_find 59 = .ok (.ireturn, 1) := by decide +kernel
theorem dX5_find_60 : decode cX5_find 60 = .ok (.iinc 5 1, 3) := by decide +kernel
theorem dX5_find_63 : decode cX5_find 63 = .ok (.goto (-60), 3) := by decide +kernel
theorem dX5_find_66 : decode cX5_find 66 = .ok (.iconst (-1), 1) := by decide +kernel
theorem dX5_find_67 : decode cX5_find 67 = .ok (.ireturn, 1) := by decide +kernel
theorem dy_X5_find : DY yX5_find 4 := by decide +kernel
abbrev rm_X5_find : Room := { frames := 0, cells := 0, slots := 0, locals := 0 }
def j_X5_find_60 (n : Nat) (K3 : St → Int32 → Int32 → Int32 → Int32 → Int32 → Option (St × Int32)) (S : St) (l1 : Int32) (l2 : Int32) (l3 : Int32) (l4 : Int32) (l5 : Int32) : Option (St × Int32) :=
  bV (l5 + 1) fun v1 =>
  K3 S l1 l2 l3 l4 v1
def l_X5_find_3 (n : Nat) : Nat → St → Int32 → Int32 → Int32 → Int32 → Int32 → Option (St × Int32)
  | 0, _, _, _, _, _, _ => none
  | m + 1, S, l1, l2, l3, l4, l5 =>
    if (S.1 200 0) ≤ l5 then
      some (S, (-1))
    else
      gI S 202 0 l5 1500 fun v2 =>
      if v2 = l2 then
        gI S 203 0 l5 1500 fun v6 =>
        if v6 = l3 then
          gI S 204 0 l5 1500 fun v10 =>
          if v10 = l4 then
            gI S 201 0 l5 1500 fun v14 =>
            if v14 = l1 then
              some (S, l5)
            else
              j_X5_find_60 n (fun S l1 l2 l3 l4 l5 => l_X5_find_3 n m S l1 l2 l3 l4 l5) S l1 l2 l3 l4 l5
          else
            j_X5_find_60 n (fun S l1 l2 l3 l4 l5 => l_X5_find_3 n m S l1 l2 l3 l4 l5) S l1 l2 l3 l4 l5
        else
          j_X5_find_60 n (fun S l1 l2 l3 l4 l5 => l_X5_find_3 n m S l1 l2 l3 l4 l5) S l1 l2 l3 l4 l5
      else
        j_X5_find_60 n (fun S l1 l2 l3 l4 l5 => l_X5_find_3 n m S l1 l2 l3 l4 l5) S l1 l2 l3 l4 l5
def f_X5_find (n : Nat) (S : St) (a1 : Int32) (a2 : Int32) (a3 : Int32) (a4 : Int32) : Option (St × Int32) :=
  l_X5_find_3 n n S a1 a2 a3 a4 0
set_option maxRecDepth 100000 in
set_option maxHeartbeats 4000000 in
theorem t_X5_find_60 {n : Nat} {K3 : St → Int32 → Int32 → Int32 → Int32 → Int32 → Option (St × Int32)} {x : XC} (hx : CX x cX5_find 6 RX5) (hR : x_R x = rm_X5_find) (hKS : ∀ k ∈ KK, k ∈ x_K x) {out : St × Int32} (hE : EI x cX5_find out) (hK3 : ∀ {S : St} {l1 : Int32} {l2 : Int32} {l3 : Int32} {l4 : Int32} {l5 : Int32}, K3 S l1 l2 l3 l4 l5 = some out → WX x 6 0 0 S 3 [(0, .ref (x_ad x 0 4 0)), (1, .int l1), (2, .int l2), (3, .int l3), (4, .int l4), (5, .int l5)] []) {S : St} {l1 : Int32} {l2 : Int32} {l3 : Int32} {l4 : Int32} {l5 : Int32} (h : j_X5_find_60 n K3 S l1 l2 l3 l4 l5 = some out) : WX x 6 0 0 S 60 [(0, .ref (x_ad x 0 4 0)), (1, .int l1), (2, .int l2), (3, .int l3), (4, .int l4), (5, .int l5)] [] := by
  unfold j_X5_find_60 at h
  obtain ⟨v1, e2, h⟩ := bV_some h
  refine r_iinc (k := 5) (v := v1) (lv' := [(5, .int v1), (0, .ref (x_ad x 0 4 0)), (1, .int l1), (2, .int l2), (3, .int l3), (4, .int l4)]) hx dX5_find_60 rfl (by rw [e2]; rfl) (by decide) rfl ?_
  refine r_goto (tgt := 3) hx dX5_find_63 (by decide) ?_
  refine WX.sub (lv' := [(0, .ref (x_ad x 0 4 0)), (1, .int l1), (2, .int l2), (3, .int l3), (4, .int l4), (5, .int v1)]) ?_ [1, 2, 3, 4, 5, 0] rfl
  exact hK3  h
set_option maxRecDepth 100000 in
set_option maxHeartbeats 4000000 in
theorem t_X5_find_3 {n : Nat} {x : XC} (hx : CX x cX5_find 6 RX5) (hR : x_R x = rm_X5_find) (hKS : ∀ k ∈ KK, k ∈ x_K x) {out : St × Int32} (hE : EI x cX5_find out) : ∀ {m : Nat} {S : St} {l1 : Int32} {l2 : Int32} {l3 : Int32} {l4 : Int32} {l5 : Int32} (h : l_X5_find_3 n m S l1 l2 l3 l4 l5 = some out), WX x 6 0 0 S 3 [(0, .ref (x_ad x 0 4 0)), (1, .int l1), (2, .int l2), (3, .int l3), (4, .int l4), (5, .int l5)] [] := by
  intro m
  induction m with
  | zero => intro S l1 l2 l3 l4 l5 h; cases h
  | succ m ih =>
    intro S l1 l2 l3 l4 l5 h
    unfold l_X5_find_3 at h
    refine r_iload (k0 := 5) hx dX5_find_3 rfl ?_
    refine r_aload_n (k0 := 0) hx dX5_find_5 rfl rfl ?_
    refine g_200 hx (k_0_4 hKS) wf_X5_40 dX5_find_6 ?_
    refine r_icmp_ge (tgt := 66) hx dX5_find_9 (by decide) (fun c1 => ?_) (fun c1 => ?_)
    · have h := ite_t h c1
      refine r_iconst (v := -1) hx dX5_find_66 (by decide) ?_
      exact r_iret hE h dX5_find_67
    · have h := ite_f h c1
      refine r_aload_n (k0 := 0) hx dX5_find_12 rfl rfl ?_
      refine g_202 hx (k_0_4 hKS) wf_X5_19 dX5_find_13 ?_
      refine r_iload (k0 := 5) hx dX5_find_16 rfl ?_
      obtain ⟨v2, e3, i4, h⟩ := gI_some h
      refine r_iald hx (k_1_202 hKS) rfl i4 e3 dX5_find_18 ?_
      refine r_iload_n (k0 := 2) hx dX5_find_19 rfl rfl ?_
      refine r_icmp_ne (tgt := 60) hx dX5_find_20 (by decide) (fun c5 => ?_) (fun c5 => ?_)
      · have h := ite_f h c5
        exact t_X5_find_60 hx hR hKS hE ih h
      · have h := ite_t h c5
        refine r_aload_n (k0 := 0) hx dX5_find_23 rfl rfl ?_
        refine g_203 hx (k_0_4 hKS) wf_X5_22 dX5_find_24 ?_
        refine r_iload (k0 := 5) hx dX5_find_27 rfl ?_
        obtain ⟨v6, e7, i8, h⟩ := gI_some h
        refine r_iald hx (k_1_203 hKS) rfl i8 e7 dX5_find_29 ?_
        refine r_iload_n (k0 := 3) hx dX5_find_30 rfl rfl ?_
        refine r_icmp_ne (tgt := 60) hx dX5_find_31 (by decide) (fun c9 => ?_) (fun c9 => ?_)
        · have h := ite_f h c9
          exact t_X5_find_60 hx hR hKS hE ih h
        · have h := ite_t h c9
          refine r_aload_n (k0 := 0) hx dX5_find_34 rfl rfl ?_
          refine g_204 hx (k_0_4 hKS) wf_X5_25 dX5_find_35 ?_
          refine r_iload (k0 := 5) hx dX5_find_38 rfl ?_
          obtain ⟨v10, e11, i12, h⟩ := gI_some h
          refine r_iald hx (k_1_204 hKS) rfl i12 e11 dX5_find_40 ?_
          refine r_iload (k0 := 4) hx dX5_find_41 rfl ?_
          refine r_icmp_ne (tgt := 60) hx dX5_find_43 (by decide) (fun c13 => ?_) (fun c13 => ?_)
          · have h := ite_f h c13
            exact t_X5_find_60 hx hR hKS hE ih h
          · have h := ite_t h c13
            refine r_aload_n (k0 := 0) hx dX5_find_46 rfl rfl ?_
            refine g_201 hx (k_0_4 hKS) wf_X5_15 dX5_find_47 ?_
            refine r_iload (k0 := 5) hx dX5_find_50 rfl ?_
            obtain ⟨v14, e15, i16, h⟩ := gI_some h
            refine r_iald hx (k_1_201 hKS) rfl i16 e15 dX5_find_52 ?_
            refine r_iload_n (k0 := 1) hx dX5_find_53 rfl rfl ?_
            refine r_icmp_ne (tgt := 60) hx dX5_find_54 (by decide) (fun c17 => ?_) (fun c17 => ?_)
            · have h := ite_f h c17
              exact t_X5_find_60 hx hR hKS hE ih h
            · have h := ite_t h c17
              refine r_iload (k0 := 5) hx dX5_find_57 rfl ?_
              exact r_iret hE h dX5_find_59
set_option maxRecDepth 100000 in
set_option maxHeartbeats 4000000 in
theorem t_X5_find_0 {n : Nat} {x : XC} (hx : CX x cX5_find 6 RX5) (hR : x_R x = rm_X5_find) (hKS : ∀ k ∈ KK, k ∈ x_K x) {out : St × Int32} (hE : EI x cX5_find out) {S : St} {a1 : Int32} {a2 : Int32} {a3 : Int32} {a4 : Int32} (h : f_X5_find n S a1 a2 a3 a4 = some out) : WX x 6 0 0 S 0 [(0, .ref (x_ad x 0 4 0)), (1, .int a1), (2, .int a2), (3, .int a3), (4, .int a4)] [] := by
  unfold f_X5_find at h
  refine r_iconst (v := 0) hx dX5_find_0 (by decide) ?_
  refine r_istore (lv' := [(5, .int 0), (0, .ref (x_ad x 0 4 0)), (1, .int a1), (2, .int a2), (3, .int a3), (4, .int a4)]) hx dX5_find_1 (by decide) rfl ?_
  refine WX.sub (lv' := [(0, .ref (x_ad x 0 4 0)), (1, .int a1), (2, .int a2), (3, .int a3), (4, .int a4), (5, .int 0)]) ?_ [1, 2, 3, 4, 5, 0] rfl
  exact t_X5_find_3 hx hR hKS hE h
set_option maxHeartbeats 4000000 in
theorem C_X5_find {n : Nat} {c : YC} (hKS : ∀ k ∈ KK, k ∈ c.2.2.2.2) {S : St} {a1 : Int32} {a2 : Int32} {a3 : Int32} {a4 : Int32} {out : St × Int32} (h : f_X5_find n S a1 a2 a3 a4 = some out) : MI c yX5_find cX5_find 6 (some .int) rm_X5_find S [.ref (c.2.2.1 0 4 0), .int a1, .int a2, .int a3, .int a4] out := mk_I (own := RX5) (by decide +kernel) rfl (Nat.le_of_ble_eq_true rfl) (fun x hx hR hy hE => by subst hy; exact t_X5_find_0 hx hR hKS hE h)
theorem dX5_keep_0 : decode cX5_keep 0 = .ok (.aload_n 0, 1) := by decide +kernel
theorem dX5_keep_1 : decode cX5_keep 1 = .ok (.iload_n 1, 1) := by decide +kernel
theorem dX5_keep_2 : decode cX5_keep 2 = .ok (.iload_n 2, 1) := by decide +kernel
theorem dX5_keep_3 : decode cX5_keep 3 = .ok (.iload_n 3, 1) := by decide +kernel
theorem dX5_keep_4 : decode cX5_keep 4 = .ok (.iload 4, 2) := by decide +kernel
theorem dX5_keep_6 : decode cX5_keep 6 = .ok (.invokevirtual 66, 3) := by decide +kernel
theorem dX5_keep_9 : decode cX5_keep 9 = .ok (.istore 5, 2) := by decide +kernel
theorem dX5_keep_11 : decode cX5_keep 11 = .ok (.iload 5, 2) := by decide +kernel
theorem dX5_keep_13 : decode cX5_keep 13 = .ok (.iconst (-1), 1) := by decide +kernel
theorem dX5_keep_14 : decode cX5_keep 14 = .ok (.if_icmp .ne 13, 3) := by decide +kernel
theorem dX5_keep_17 : decode cX5_keep 17 = .ok (.aload_n 0, 1) := by decide +kernel
theorem dX5_keep_18 : decode cX5_keep 18 = .ok (.getfield 40, 3) := by decide +kernel
theorem dX5_keep_21 : decode cX5_keep 21 = .ok (.sipush 1500, 3) := by decide +kernel
theorem dX5_keep_24 : decode cX5_keep 24 = .ok (.if_icmp .lt 6, 3) := by decide +kernel
theorem dX5_keep_27 : decode cX5_keep 27 = .ok (.iload 5, 2) := by decide +kernel
theorem dX5_keep_29 : decode cX5_keep 29 = .ok (.ireturn, 1) := by decide +kernel
theorem dX5_keep_30 : decode cX5_keep 30 = .ok (.aload_n 0, 1) := by decide +kernel
theorem dX5_keep_31 : decode cX5_keep 31 = .ok (.getfield 15, 3) := by decide +kernel
theorem dX5_keep_34 : decode cX5_keep 34 = .ok (.aload_n 0, 1) := by decide +kernel
theorem dX5_keep_35 : decode cX5_keep 35 = .ok (.getfield 40, 3) := by decide +kernel
theorem dX5_keep_38 : decode cX5_keep 38 = .ok (.iload_n 1, 1) := by decide +kernel
theorem dX5_keep_39 : decode cX5_keep 39 = .ok (.iastore, 1) := by decide +kernel
theorem dX5_keep_40 : decode cX5_keep 40 = .ok (.aload_n 0, 1) := by decide +kernel
theorem dX5_keep_41 : decode cX5_keep 41 = .ok (.getfield 19, 3) := by decide +kernel
theorem dX5_keep_44 : decode cX5_keep 44 = .ok (.aload_n 0, 1) := by decide +kernel
theorem dX5_keep_45 : decode cX5_keep 45 = .ok (.getfield 40, 3) := by decide +kernel
theorem dX5_keep_48 : decode cX5_keep 48 = .ok (.iload_n 2, 1) := by decide +kernel
theorem dX5_keep_49 : decode cX5_keep 49 = .ok (.iastore, 1) := by decide +kernel
theorem dX5_keep_50 : decode cX5_keep 50 = .ok (.aload_n 0, 1) := by decide +kernel
theorem dX5_keep_51 : decode cX5_keep 51 = .ok (.getfield 22, 3) := by decide +kernel
theorem dX5_keep_54 : decode cX5_keep 54 = .ok (.aload_n 0, 1) := by decide +kernel
theorem dX5_keep_55 : decode cX5_keep 55 = .ok (.getfield 40, 3) := by decide +kernel
theorem dX5_keep_58 : decode cX5_keep 58 = .ok (.iload_n 3, 1) := by decide +kernel
theorem dX5_keep_59 : decode cX5_keep 59 = .ok (.iastore, 1) := by decide +kernel
theorem dX5_keep_60 : decode cX5_keep 60 = .ok (.aload_n 0, 1) := by decide +kernel
theorem dX5_keep_61 : decode cX5_keep 61 = .ok (.getfield 25, 3) := by decide +kernel
theorem dX5_keep_64 : decode cX5_keep 64 = .ok (.aload_n 0, 1) := by decide +kernel
theorem dX5_keep_65 : decode cX5_keep 65 = .ok (.getfield 40, 3) := by decide +kernel
theorem dX5_keep_68 : decode cX5_keep 68 = .ok (.iload 4, 2) := by decide +kernel
theorem dX5_keep_70 : decode cX5_keep 70 = .ok (.iastore, 1) := by decide +kernel
theorem dX5_keep_71 : decode cX5_keep 71 = .ok (.aload_n 0, 1) := by decide +kernel
theorem dX5_keep_72 : decode cX5_keep 72 = .ok (.getfield 28, 3) := by decide +kernel
theorem dX5_keep_75 : decode cX5_keep 75 = .ok (.aload_n 0, 1) := by decide +kernel
theorem dX5_keep_76 : decode cX5_keep 76 = .ok (.getfield 40, 3) := by decide +kernel
theorem dX5_keep_79 : decode cX5_keep 79 = .ok (.aload_n 0, 1) := by decide +kernel
theorem dX5_keep_80 : decode cX5_keep 80 = .ok (.iload_n 1, 1) := by decide +kernel
theorem dX5_keep_81 : decode cX5_keep 81 = .ok (.iload_n 2, 1) := by decide +kernel
theorem dX5_keep_82 : decode cX5_keep 82 = .ok (.iload_n 3, 1) := by decide +kernel
theorem dX5_keep_83 : decode cX5_keep 83 = .ok (.iload 4, 2) := by decide +kernel
theorem dX5_keep_85 : decode cX5_keep 85 = .ok (.invokevirtual 70, 3) := by decide +kernel
theorem dX5_keep_88 : decode cX5_keep 88 = .ok (.iastore, 1) := by decide +kernel
theorem dX5_keep_89 : decode cX5_keep 89 = .ok (.aload_n 0, 1) := by decide +kernel
theorem dX5_keep_90 : decode cX5_keep 90 = .ok (.getfield 31, 3) := by decide +kernel
theorem dX5_keep_93 : decode cX5_keep 93 = .ok (.aload_n 0, 1) := by decide +kernel
theorem dX5_keep_94 : decode cX5_keep 94 = .ok (.getfield 40, 3) := by decide +kernel
theorem dX5_keep_97 : decode cX5_keep 97 = .ok (.aload_n 0, 1) := by decide +kernel
theorem dX5_keep_98 : decode cX5_keep 98 = .ok (.iload_n 1, 1) := by decide +kernel
theorem dX5_keep_99 : decode cX5_keep 99 = .ok (.iload_n 2, 1) := by decide +kernel
theorem dX5_keep_100 : decode cX5_keep 100 = .ok (.iload_n 3, 1) := by decide +kernel
theorem dX5_keep_101 : decode cX5_keep 101 = .ok (.iload 4, 2) := by decide +kernel
theorem dX5_keep_103 : decode cX5_keep 103 = .ok (.invokevirtual 73, 3) := by decide +kernel
theorem dX5_keep_106 : decode cX5_keep 106 = .ok (.iastore, 1) := by decide +kernel
theorem dX5_keep_107 : decode cX5_keep 107 = .ok (.aload_n 0, 1) := by decide +kernel
theorem dX5_keep_108 : decode cX5_keep 108 = .ok (.dup, 1) := by decide +kernel
theorem dX5_keep_109 : decode cX5_keep 109 = .ok (.getfield 40, 3) := by decide +kernel
theorem dX5_keep_112 : decode cX5_keep 112 = .ok (.iconst 1, 1) := by decide +kernel
theorem dX5_keep_113 : decode cX5_keep 113 = .ok (.iadd, 1) := by decide +kernel
theorem dX5_keep_114 : decode cX5_keep 114 = .ok (.putfield 40, 3) := by decide +kernel
theorem dX5_keep_117 : decode cX5_keep 117 = .ok (.aload_n 0, 1) := by decide +kernel
theorem dX5_keep_118 : decode cX5_keep 118 = .ok (.getfield 40, 3) := by decide +kernel
theorem dX5_keep_121 : decode cX5_keep 121 = .ok (.iconst 1, 1) := by decide +kernel
theorem dX5_keep_122 : decode cX5_keep 122 = .ok (.isub, 1) := by decide +kernel
theorem dX5_keep_123 : decode cX5_keep 123 = .ok (.ireturn, 1) := by decide +kernel
theorem dy_X5_keep : DY yX5_keep 4 := by decide +kernel
abbrev rm_X5_keep : Room := { frames := 3, cells := 0, slots := 0, locals := 66 }
def f_X5_keep (n : Nat) (S : St) (a1 : Int32) (a2 : Int32) (a3 : Int32) (a4 : Int32) : Option (St × Int32) :=
  bI (f_X5_find n S a1 a2 a3 a4) fun S1 v3 =>
  if v3 = (-1) then
    if (S1.1 200 0) < 1500 then
      pI S1 201 0 (S1.1 200 0) 1500 a1 fun S6 =>
      pI S6 202 0 (S6.1 200 0) 1500 a2 fun S9 =>
      pI S9 203 0 (S9.1 200 0) 1500 a3 fun S12 =>
      pI S12 204 0 (S12.1 200 0) 1500 a4 fun S15 =>
      bI (f_X5_sizeFor n S15 a1 a2 a3 a4) fun S18 v20 =>
      pI S18 205 0 (S15.1 200 0) 1500 v20 fun S21 =>
      bI (f_X5_openFor n S21 a1 a2 a3 a4) fun S24 v26 =>
      pI S24 206 0 (S21.1 200 0) 1500 v26 fun S27 =>
      pS S27 200 0 ((S27.1 200 0) + 1) fun S30 =>
      some (S30, ((S30.1 200 0) - 1))
    else
      some (S1, v3)
  else
    some (S1, v3)
set_option maxRecDepth 100000 in
set_option maxHeartbeats 4000000 in
theorem t_X5_keep_0 {n : Nat} {x : XC} (hx : CX x cX5_keep 6 RX5) (hR : x_R x = rm_X5_keep) (hKS : ∀ k ∈ KK, k ∈ x_K x) {out : St × Int32} (hE : EI x cX5_keep out) {S : St} {a1 : Int32} {a2 : Int32} {a3 : Int32} {a4 : Int32} (h : f_X5_keep n S a1 a2 a3 a4 = some out) : WX x 6 0 0 S 0 [(0, .ref (x_ad x 0 4 0)), (1, .int a1), (2, .int a2), (3, .int a3), (4, .int a4)] [] := by
  unfold f_X5_keep at h
  refine r_aload_n (k0 := 0) hx dX5_keep_0 rfl rfl ?_
  refine r_iload_n (k0 := 1) hx dX5_keep_1 rfl rfl ?_
  refine r_iload_n (k0 := 2) hx dX5_keep_2 rfl rfl ?_
  refine r_iload_n (k0 := 3) hx dX5_keep_3 rfl rfl ?_
  refine r_iload (k0 := 4) hx dX5_keep_4 rfl ?_
  obtain ⟨S1, v3, c2, h⟩ := bI_some h
  refine r_Vi (ci := 4) (As := [.int a1, .int a2, .int a3, .int a4]) (rest := []) hx (C_X5_find (c := x_y x) hKS c2) (k_0_4 hKS) rfl wl_X5_66 wi_X5_find we_X5_find wn_X5 wc_X5_find dy_X5_find rfl (by rw [hR]; decide +kernel) rfl (Nat.le_of_ble_eq_true rfl) dX5_keep_6 ?_
  refine r_istore (lv' := [(5, .int v3), (0, .ref (x_ad x 0 4 0)), (1, .int a1), (2, .int a2), (3, .int a3), (4, .int a4)]) hx dX5_keep_9 (by decide) rfl ?_
  refine r_iload (k0 := 0) hx dX5_keep_11 rfl ?_
  refine r_iconst (v := -1) hx dX5_keep_13 (by decide) ?_
  refine r_icmp_ne (tgt := 27) hx dX5_keep_14 (by decide) (fun c4 => ?_) (fun c4 => ?_)
  · have h := ite_f h c4
    refine r_iload (k0 := 0) hx dX5_keep_27 rfl ?_
    exact r_iret hE h dX5_keep_29
  · have h := ite_t h c4
    refine r_aload_n (k0 := 1) hx dX5_keep_17 rfl rfl ?_
    refine g_200 hx (k_0_4 hKS) wf_X5_40 dX5_keep_18 ?_
    refine r_sipush (v := 1500) hx dX5_keep_21 (by decide) ?_
    refine r_icmp_lt (tgt := 30) hx dX5_keep_24 (by decide) (fun c5 => ?_) (fun c5 => ?_)
    · have h := ite_t h c5
      refine r_aload_n (k0 := 1) hx dX5_keep_30 rfl rfl ?_
      refine g_201 hx (k_0_4 hKS) wf_X5_15 dX5_keep_31 ?_
      refine r_aload_n (k0 := 1) hx dX5_keep_34 rfl rfl ?_
      refine g_200 hx (k_0_4 hKS) wf_X5_40 dX5_keep_35 ?_
      refine r_iload_n (k0 := 2) hx dX5_keep_38 rfl rfl ?_
      obtain ⟨S6, e7, i8, h⟩ := pI_some h
      refine r_iast hx (k_1_201 hKS) rfl i8 e7 dX5_keep_39 ?_
      refine r_aload_n (k0 := 1) hx dX5_keep_40 rfl rfl ?_
      refine g_202 hx (k_0_4 hKS) wf_X5_19 dX5_keep_41 ?_
      refine r_aload_n (k0 := 1) hx dX5_keep_44 rfl rfl ?_
      refine g_200 hx (k_0_4 hKS) wf_X5_40 dX5_keep_45 ?_
      refine r_iload_n (k0 := 3) hx dX5_keep_48 rfl rfl ?_
      obtain ⟨S9, e10, i11, h⟩ := pI_some h
      refine r_iast hx (k_1_202 hKS) rfl i11 e10 dX5_keep_49 ?_
      refine r_aload_n (k0 := 1) hx dX5_keep_50 rfl rfl ?_
      refine g_203 hx (k_0_4 hKS) wf_X5_22 dX5_keep_51 ?_
      refine r_aload_n (k0 := 1) hx dX5_keep_54 rfl rfl ?_
      refine g_200 hx (k_0_4 hKS) wf_X5_40 dX5_keep_55 ?_
      refine r_iload_n (k0 := 4) hx dX5_keep_58 rfl rfl ?_
      obtain ⟨S12, e13, i14, h⟩ := pI_some h
      refine r_iast hx (k_1_203 hKS) rfl i14 e13 dX5_keep_59 ?_
      refine r_aload_n (k0 := 1) hx dX5_keep_60 rfl rfl ?_
      refine g_204 hx (k_0_4 hKS) wf_X5_25 dX5_keep_61 ?_
      refine r_aload_n (k0 := 1) hx dX5_keep_64 rfl rfl ?_
      refine g_200 hx (k_0_4 hKS) wf_X5_40 dX5_keep_65 ?_
      refine r_iload (k0 := 5) hx dX5_keep_68 rfl ?_
      obtain ⟨S15, e16, i17, h⟩ := pI_some h
      refine r_iast hx (k_1_204 hKS) rfl i17 e16 dX5_keep_70 ?_
      refine r_aload_n (k0 := 1) hx dX5_keep_71 rfl rfl ?_
      refine g_205 hx (k_0_4 hKS) wf_X5_28 dX5_keep_72 ?_
      refine r_aload_n (k0 := 1) hx dX5_keep_75 rfl rfl ?_
      refine g_200 hx (k_0_4 hKS) wf_X5_40 dX5_keep_76 ?_
      refine r_aload_n (k0 := 1) hx dX5_keep_79 rfl rfl ?_
      refine r_iload_n (k0 := 2) hx dX5_keep_80 rfl rfl ?_
      refine r_iload_n (k0 := 3) hx dX5_keep_81 rfl rfl ?_
      refine r_iload_n (k0 := 4) hx dX5_keep_82 rfl rfl ?_
      refine r_iload (k0 := 5) hx dX5_keep_83 rfl ?_
      obtain ⟨S18, v20, c19, h⟩ := bI_some h
      refine r_Vi (ci := 4) (As := [.int a1, .int a2, .int a3, .int a4]) (rest := [.int (S15.1 200 0), .ref (x_ad x 1 205 0)]) hx (C_X5_sizeFor (c := x_y x) hKS c19) (k_0_4 hKS) rfl wl_X5_70 wi_X5_sizeFor we_X5_sizeFor wn_X5 wc_X5_sizeFor dy_X5_sizeFor rfl (by rw [hR]; decide +kernel) rfl (Nat.le_of_ble_eq_true rfl) dX5_keep_85 ?_
      obtain ⟨S21, e22, i23, h⟩ := pI_some h
      refine r_iast hx (k_1_205 hKS) rfl i23 e22 dX5_keep_88 ?_
      refine r_aload_n (k0 := 1) hx dX5_keep_89 rfl rfl ?_
      refine g_206 hx (k_0_4 hKS) wf_X5_31 dX5_keep_90 ?_
      refine r_aload_n (k0 := 1) hx dX5_keep_93 rfl rfl ?_
      refine g_200 hx (k_0_4 hKS) wf_X5_40 dX5_keep_94 ?_
      refine r_aload_n (k0 := 1) hx dX5_keep_97 rfl rfl ?_
      refine r_iload_n (k0 := 2) hx dX5_keep_98 rfl rfl ?_
      refine r_iload_n (k0 := 3) hx dX5_keep_99 rfl rfl ?_
      refine r_iload_n (k0 := 4) hx dX5_keep_100 rfl rfl ?_
      refine r_iload (k0 := 5) hx dX5_keep_101 rfl ?_
      obtain ⟨S24, v26, c25, h⟩ := bI_some h
      refine r_Vi (ci := 4) (As := [.int a1, .int a2, .int a3, .int a4]) (rest := [.int (S21.1 200 0), .ref (x_ad x 1 206 0)]) hx (C_X5_openFor (c := x_y x) hKS c25) (k_0_4 hKS) rfl wl_X5_73 wi_X5_openFor we_X5_openFor wn_X5 wc_X5_openFor dy_X5_openFor rfl (by rw [hR]; decide +kernel) rfl (Nat.le_of_ble_eq_true rfl) dX5_keep_103 ?_
      obtain ⟨S27, e28, i29, h⟩ := pI_some h
      refine r_iast hx (k_1_206 hKS) rfl i29 e28 dX5_keep_106 ?_
      refine r_aload_n (k0 := 1) hx dX5_keep_107 rfl rfl ?_
      refine r_dup hx dX5_keep_108 rfl ?_
      refine g_200 hx (k_0_4 hKS) wf_X5_40 dX5_keep_109 ?_
      refine r_iconst (v := 1) hx dX5_keep_112 (by decide) ?_
      refine r_iadd hx dX5_keep_113 ?_
      obtain ⟨S30, e31, h⟩ := pS_some h
      refine p_200 hx (k_0_4 hKS) wf_X5_40 dX5_keep_114 e31 ?_
      refine r_aload_n (k0 := 1) hx dX5_keep_117 rfl rfl ?_
      refine g_200 hx (k_0_4 hKS) wf_X5_40 dX5_keep_118 ?_
      refine r_iconst (v := 1) hx dX5_keep_121 (by decide) ?_
      refine r_isub hx dX5_keep_122 ?_
      exact r_iret hE h dX5_keep_123
    · have h := ite_f h c5
      refine r_iload (k0 := 0) hx dX5_keep_27 rfl ?_
      exact r_iret hE h dX5_keep_29
set_option maxHeartbeats 4000000 in
theorem C_X5_keep {n : Nat} {c : YC} (hKS : ∀ k ∈ KK, k ∈ c.2.2.2.2) {S : St} {a1 : Int32} {a2 : Int32} {a3 : Int32} {a4 : Int32} {out : St × Int32} (h : f_X5_keep n S a1 a2 a3 a4 = some out) : MI c yX5_keep cX5_keep 6 (some .int) rm_X5_keep S [.ref (c.2.2.1 0 4 0), .int a1, .int a2, .int a3, .int a4] out := mk_I (own := RX5) (by decide +kernel) rfl (Nat.le_of_ble_eq_true rfl) (fun x hx hR hy hE => by subst hy; exact t_X5_keep_0 hx hR hKS hE h)
theorem dX5_await_0 : decode cX5_await 0 = .ok (.iload_n 1, 1) := by decide +kernel
theorem dX5_await_1 : decode cX5_await 1 = .ok (.ifCond .lt 53, 3) := by decide +kernel
theorem dX5_await_4 : decode cX5_await 4 = .ok (.iload_n 1, 1) := by decide +kernel
theorem dX5_await_5 : decode cX5_await 5 = .ok (.aload_n 0, 1) := by decide +kernel
theorem dX5_await_6 : decode cX5_await 6 = .ok (.getfield 40, 3) := by decide +kernel
theorem dX5_await_9 : decode cX5_await 9 = .ok (.if_icmp .ge 45, 3) := by decide +kernel
theorem dX5_await_12 : decode cX5_await 12 = .ok (.aload_n 0, 1) := by decide +kernel
theorem dX5_await_13 : decode cX5_await 13 = .ok (.getfield 107, 3) := by decide +kernel
theorem dX5_await_16 : decode cX5_await 16 = .ok (.aload_n 0, 1) := by decide +kernel
theorem dX5_await_17 : decode cX5_await 17 = .ok (.getfield 34, 3) := by decide +kernel
theorem dX5_await_20 : decode cX5_await 20 = .ok (.arraylength, 1) := by decide +kernel
theorem dX5_await_21 : decode cX5_await 21 = .ok (.if_icmp .ge 33, 3) := by decide +kernel
theorem dX5_await_24 : decode cX5_await 24 = .ok (.aload_n 0, 1) := by decide +kernel
theorem dX5_await_25 : decode cX5_await 25 = .ok (.getfield 34, 3) := by decide +kernel
theorem dX5_await_28 : decode cX5_await 28 = .ok (.aload_n 0, 1) := by decide +kernel
theorem dX5_await_29 : decode cX5_await 29 = .ok (.getfield 107, 3) := by decide +kernel
theorem dX5_await_32 : decode cX5_await 32 = .ok (.iload_n 1, 1) := by decide +kernel
theorem dX5_await_33 : decode cX5_await 33 = .ok (.iastore, 1) := by decide +kernel
theorem dX5_await_34 : decode cX5_await 34 = .ok (.aload_n 0, 1) := by decide +kernel
theorem dX5_await_35 : decode cX5_await 35 = .ok (.getfield 37, 3) := by decide +kernel
theorem dX5_await_38 : decode cX5_await 38 = .ok (.aload_n 0, 1) := by decide +kernel
theorem dX5_await_39 : decode cX5_await 39 = .ok (.getfield 107, 3) := by decide +kernel
theorem dX5_await_42 : decode cX5_await 42 = .ok (.iload_n 2, 1) := by decide +kernel
theorem dX5_await_43 : decode cX5_await 43 = .ok (.iastore, 1) := by decide +kernel
theorem dX5_await_44 : decode cX5_await 44 = .ok (.aload_n 0, 1) := by decide +kernel
theorem dX5_await_45 : decode cX5_await 45 = .ok (.dup, 1) := by decide +kernel
theorem dX5_await_46 : decode cX5_await 46 = .ok (.getfield 107, 3) := by decide +kernel
theorem dX5_await_49 : decode cX5_await 49 = .ok (.iconst 1, 1) := by decide +kernel
theorem dX5_await_50 : decode cX5_await 50 = .ok (.iadd, 1) := by decide +kernel
theorem dX5_await_51 : decode cX5_await 51 = .ok (.putfield 107, 3) := by decide +kernel
theorem dX5_await_54 : decode cX5_await 54 = .ok (.return_, 1) := by decide +kernel
theorem dy_X5_await : DY yX5_await 2 := by decide +kernel
abbrev rm_X5_await : Room := { frames := 0, cells := 0, slots := 0, locals := 0 }
def f_X5_await (n : Nat) (S : St) (a1 : Int32) (a2 : Int32) : Option (St) :=
  if a1 < 0 then
    some S
  else
    if (S.1 200 0) ≤ a1 then
      some S
    else
      if 201 ≤ (S.1 210 0) then
        some S
      else
        pI S 208 0 (S.1 210 0) 201 a1 fun S4 =>
        pI S4 209 0 (S4.1 210 0) 201 a2 fun S7 =>
        pS S7 210 0 ((S7.1 210 0) + 1) fun S10 =>
        some S10
set_option maxRecDepth 100000 in
set_option maxHeartbeats 4000000 in
theorem t_X5_await_0 {n : Nat} {x : XC} (hx : CX x cX5_await 3 RX5) (hR : x_R x = rm_X5_await) (hKS : ∀ k ∈ KK, k ∈ x_K x) {out : St} (hE : EV x cX5_await out) {S : St} {a1 : Int32} {a2 : Int32} (h : f_X5_await n S a1 a2 = some out) : WX x 3 0 0 S 0 [(0, .ref (x_ad x 0 4 0)), (1, .int a1), (2, .int a2)] [] := by
  unfold f_X5_await at h
  refine r_iload_n (k0 := 1) hx dX5_await_0 rfl rfl ?_
  refine r_if_lt (tgt := 54) hx dX5_await_1 (by decide) (fun c1 => ?_) (fun c1 => ?_)
  · have h := ite_t h c1
    exact r_vret hE h dX5_await_54
  · have h := ite_f h c1
    refine r_iload_n (k0 := 1) hx dX5_await_4 rfl rfl ?_
    refine r_aload_n (k0 := 0) hx dX5_await_5 rfl rfl ?_
    refine g_200 hx (k_0_4 hKS) wf_X5_40 dX5_await_6 ?_
    refine r_icmp_ge (tgt := 54) hx dX5_await_9 (by decide) (fun c2 => ?_) (fun c2 => ?_)
    · have h := ite_t h c2
      exact r_vret hE h dX5_await_54
    · have h := ite_f h c2
      refine r_aload_n (k0 := 0) hx dX5_await_12 rfl rfl ?_
      refine g_210 hx (k_0_4 hKS) wf_X5_107 dX5_await_13 ?_
      refine r_aload_n (k0 := 0) hx dX5_await_16 rfl rfl ?_
      refine g_208 hx (k_0_4 hKS) wf_X5_34 dX5_await_17 ?_
      refine r_alenI (v := 201) hx (k_1_208 hKS) (by decide +kernel) dX5_await_20 ?_
      refine r_icmp_ge (tgt := 54) hx dX5_await_21 (by decide) (fun c3 => ?_) (fun c3 => ?_)
      · have h := ite_t h c3
        exact r_vret hE h dX5_await_54
      · have h := ite_f h c3
        refine r_aload_n (k0 := 0) hx dX5_await_24 rfl rfl ?_
        refine g_208 hx (k_0_4 hKS) wf_X5_34 dX5_await_25 ?_
        refine r_aload_n (k0 := 0) hx dX5_await_28 rfl rfl ?_
        refine g_210 hx (k_0_4 hKS) wf_X5_107 dX5_await_29 ?_
        refine r_iload_n (k0 := 1) hx dX5_await_32 rfl rfl ?_
        obtain ⟨S4, e5, i6, h⟩ := pI_some h
        refine r_iast hx (k_1_208 hKS) rfl i6 e5 dX5_await_33 ?_
        refine r_aload_n (k0 := 0) hx dX5_await_34 rfl rfl ?_
        refine g_209 hx (k_0_4 hKS) wf_X5_37 dX5_await_35 ?_
        refine r_aload_n (k0 := 0) hx dX5_await_38 rfl rfl ?_
        refine g_210 hx (k_0_4 hKS) wf_X5_107 dX5_await_39 ?_
        refine r_iload_n (k0 := 2) hx dX5_await_42 rfl rfl ?_
        obtain ⟨S7, e8, i9, h⟩ := pI_some h
        refine r_iast hx (k_1_209 hKS) rfl i9 e8 dX5_await_43 ?_
        refine r_aload_n (k0 := 0) hx dX5_await_44 rfl rfl ?_
        refine r_dup hx dX5_await_45 rfl ?_
        refine g_210 hx (k_0_4 hKS) wf_X5_107 dX5_await_46 ?_
        refine r_iconst (v := 1) hx dX5_await_49 (by decide) ?_
        refine r_iadd hx dX5_await_50 ?_
        obtain ⟨S10, e11, h⟩ := pS_some h
        refine p_210 hx (k_0_4 hKS) wf_X5_107 dX5_await_51 e11 ?_
        exact r_vret hE h dX5_await_54
set_option maxHeartbeats 4000000 in
theorem C_X5_await {n : Nat} {c : YC} (hKS : ∀ k ∈ KK, k ∈ c.2.2.2.2) {S : St} {a1 : Int32} {a2 : Int32} {out : St} (h : f_X5_await n S a1 a2 = some out) : MV c yX5_await cX5_await 3 none rm_X5_await S [.ref (c.2.2.1 0 4 0), .int a1, .int a2] out := mk_V (own := RX5) (by decide +kernel) rfl (Nat.le_of_ble_eq_true rfl) (fun x hx hR hy hE => by subst hy; exact t_X5_await_0 hx hR hKS hE h)
theorem dX5_spread_0 : decode cX5_spread 0 = .ok (.aload_n 2, 1) := by decide +kernel
theorem dX5_spread_1 : decode cX5_spread 1 = .ok (.iconst 0, 1) := by decide +kernel
theorem dX5_spread_2 : decode cX5_spread 2 = .ok (.putfield 79, 3) := by decide +kernel
theorem dX5_spread_5 : decode cX5_spread 5 = .ok (.aload_n 0, 1) := by decide +kernel
theorem dX5_spread_6 : decode cX5_spread 6 = .ok (.iconst 0, 1) := by decide +kernel
theorem dX5_spread_7 : decode cX5_spread 7 = .ok (.putfield 107, 3) := by decide +kernel
theorem dX5_spread_10 : decode cX5_spread 10 = .ok (.aload_n 0, 1) := by decide +kernel
theorem dX5_spread_11 : decode cX5_spread 11 = .ok (.iload_n 1, 1) := by decide +kernel
theorem dX5_spread_12 : decode cX5_spread 12 = .ok (.iconst 0, 1) := by decide +kernel
theorem dX5_spread_13 : decode cX5_spread 13 = .ok (.invokevirtual 110, 3) := by decide +kernel
theorem dX5_spread_16 : decode cX5_spread 16 = .ok (.iconst 0, 1) := by decide +kernel
theorem dX5_spread_17 : decode cX5_spread 17 = .ok (.istore_n 3, 1) := by decide +kernel
theorem dX5_spread_18 : decode cX5_spread 18 = .ok (.iload_n 3, 1) := by decide +kernel
theorem dX5_spread_19 : decode cX5_spread 19 = .ok (.sipush 200, 3) := by decide +kernel
theorem dX5_spread_22 : decode cX5_spread 22 = .ok (.if_icmp .ge 277, 3) := by decide +kernel
theorem dX5_spread_25 : decode cX5_spread 25 = .ok (.aload_n 0, 1) := by decide +kernel
theorem dX5_spread_26 : decode cX5_spread 26 = .ok (.getfield 107, 3) := by decide +kernel
theorem dX5_spread_29 : decode cX5_spread 29 = .ok (.ifCond .le 270, 3) := by decide +kernel
theorem dX5_spread_32 : decode cX5_spread 32 = .ok (.aload_n 0, 1) := by decide +kernel
theorem dX5_spread_33 : decode cX5_spread 33 = .ok (.dup, 1) := by decide +kernel
theorem dX5_spread_34 : decode cX5_spread 34 = .ok (.getfield 107, 3) := by decide +kernel
theorem dX5_spread_37 : decode cX5_spread 37 = .ok (.iconst 1, 1) := by decide +kernel
theorem dX5_spread_38 : decode cX5_spread 38 = .ok (.isub, 1) := by decide +kernel
theorem dX5_spread_39 : decode cX5_spread 39 = .ok (.putfield 107, 3) := by decide +kernel
theorem dX5_spread_42 : decode cX5_spread 42 = .ok (.aload_n 0, 1) := by decide +kernel
theorem dX5_spread_43 : decode cX5_spread 43 = .ok (.getfield 34, 3) := by decide +kernel
theorem dX5_spread_46 : decode cX5_spread 46 = .ok (.aload_n 0, 1) := by decide +kernel
theorem dX5_spread_47 : decode cX5_spread 47 = .ok (.getfield 107, 3) := by decide +kernel
theorem dX5_spread_50 : decode cX5_spread 50 = .ok (.iaload, 1) := by decide +kernel
theorem dX5_spread_51 : decode cX5_spread 51 = .ok (.istore 4, 2) := by decide +kernel
theorem dX5_spread_53 : decode cX5_spread 53 = .ok (.aload_n 0, 1) := by decide +kernel
theorem dX5_spread_54 : decode cX5_spread 54 = .ok (.getfield 37, 3) := by decide +kernel
theorem dX5_spread_57 : decode cX5_spread 57 = .ok (.aload_n 0, 1) := by decide +kernel
theorem dX5_spread_58 : decode cX5_spread 58 = .ok (.getfield 107, 3) := by decide +kernel
theorem dX5_spread_61 : decode cX5_spread 61 = .ok (.iaload, 1) := by decide +kernel
theorem dX5_spread_62 : decode cX5_spread 62 = .ok (.istore 5, 2) := by decide +kernel
theorem dX5_spread_64 : decode cX5_spread 64 = .ok (.aload_n 0, 1) := by decide +kernel
theorem dX5_spread_65 : decode cX5_spread 65 = .ok (.getfield 15, 3) := by decide +kernel
theorem dX5_spread_68 : decode cX5_spread 68 = .ok (.iload 4, 2) := by decide +kernel
theorem dX5_spread_70 : decode cX5_spread 70 = .ok (.iaload, 1) := by decide +kernel
theorem dX5_spread_71 : decode cX5_spread 71 = .ok (.tableswitch 178 0 6 #[41, 67, 86, 178, 178, 162, 131], 41) := by decide +kernel
theorem dX5_spread_112 : decode cX5_spread 112 = .ok (.aload_n 2, 1) := by decide +kernel
theorem dX5_spread_113 : decode cX5_spread 113 = .ok (.iconst 0, 1) := by decide +kernel
theorem dX5_spread_114 : decode cX5_spread 114 = .ok (.iconst 0, 1) := by decide +kernel
theorem dX5_spread_115 : decode cX5_spread 115 = .ok (.iload 5, 2) := by decide +kernel
theorem dX5_spread_117 : decode cX5_spread 117 = .ok (.aload_n 0, 1) := by decide +kernel
theorem dX5_spread_118 : decode cX5_spread 118 = .ok (.getfield 9, 3) := by decide +kernel
theorem dX5_spread_121 : decode cX5_spread 121 = .ok (.aload_n 0, 1) := by decide +kernel
theorem dX5_spread_122 : decode cX5_spread 122 = .ok (.getfield 19, 3) := by decide +kernel
theorem dX5_spread_125 : decode cX5_spread 125 = .ok (.iload 4, 2) := by decide +kernel
theorem dX5_spread_127 : decode cX5_spread 127 = .ok (.iaload, 1) := by decide +kernel
theorem dX5_spread_128 : decode cX5_spread 128 = .ok (.invokevirtual 114, 3) := by decide +kernel
theorem dX5_spread_131 : decode cX5_spread 131 = .ok (.lconst 0, 1) := by decide +kernel
theorem dX5_spread_132 : decode cX5_spread 132 = .ok (.invokevirtual 118, 3) := by decide +kernel
theorem dX5_spread_135 : decode cX5_spread 135 = .ok (.goto 158, 3) := by decide +kernel
theorem dX5_spread_138 : decode cX5_spread 138 = .ok (.aload_n 2, 1) := by decide +kernel
theorem dX5_spread_139 : decode cX5_spread 139 = .ok (.iconst 1, 1) := by decide +kernel
theorem dX5_spread_140 : decode cX5_spread 140 = .ok (.aload_n 0, 1) := by decide +kernel
theorem dX5_spread_141 : decode cX5_spread 141 = .ok (.getfield 19, 3) := by decide +kernel
theorem dX5_spread_144 : decode cX5_spread 144 = .ok (.iload 4, 2) := by decide +kernel
theorem dX5_spread_146 : decode cX5_spread 146 = .ok (.iaload, 1) := by decide +kernel
theorem dX5_spread_147 : decode cX5_spread 147 = .ok (.iload 5, 2) := by decide +kernel
theorem dX5_spread_149 : decode cX5_spread 149 = .ok (.lconst 0, 1) := by decide +kernel
theorem dX5_spread_150 : decode cX5_spread 150 = .ok (.lconst 0, 1) := by decide +kernel
theorem dX5_spread_151 : decode cX5_spread 151 = .ok (.invokevirtual 118, 3) := by decide +kernel
theorem dX5_spread_154 : decode cX5_spread 154 = .ok (.goto 139, 3) := by decide +kernel
theorem dX5_spread_157 : decode cX5_spread 157 = .ok (.aload_n 2, 1) := by decide +kernel
theorem dX5_spread_158 : decode cX5_spread 158 = .ok (.iconst 2, 1) := by decide +kernel
theorem dX5_spread_159 : decode cX5_spread 159 = .ok (.aload_n 0, 1) := by decide +kernel
theorem dX5_spread_160 : decode cX5_spread 160 = .ok (.getfield 19, 3) := by decide +kernel
theorem dX5_spread_163 : decode cX5_spread 163 = .ok (.iload 4, 2) := by decide +kernel
theorem dX5_spread_165 : decode cX5_spread 165 = .ok (.iaload, 1) := by decide +kernel
theorem dX5_spread_166 : decode cX5_spread 166 = .ok (.iload 5, 2) := by decide +kernel
theorem dX5_spread_168 : decode cX5_spread 168 = .ok (.aload_n 0, 1) := by decide +kernel
theorem dX5_spread_169 : decode cX5_spread 169 = .ok (.getfield 9, 3) := by decide +kernel
theorem dX5_spread_172 : decode cX5_spread 172 = .ok (.aload_n 0, 1) := by decide +kernel
theorem dX5_spread_173 : decode cX5_spread 173 = .ok (.getfield 22, 3) := by decide +kernel
theorem dX5_spread_176 : decode cX5_spread 176 = .ok (.iload 4, 2) := by decide +kernel
theorem dX5_spread_178 : decode cX5_spread 178 = .ok (.iaload, 1) := by decide +kernel
theorem dX5_spread_179 : decode cX5_spread 179 = .ok (.invokevirtual 114, 3) := by decide +kernel
theorem dX5_spread_182 : decode cX5_spread 182 = .ok (.aload_n 0, 1) := by decide +kernel
theorem dX5_spread_183 : decode cX5_spread 183 = .ok (.getfield 9, 3) := by decide +kernel
theorem dX5_spread_186 : decode cX5_spread 186 = .ok (.aload_n 0, 1) := by decide +kernel
theorem dX5_spread_187 : decode cX5_spread 187 = .ok (.getfield 25, 3) := by decide +kernel
theorem dX5_spread_190 : decode cX5_spread 190 = .ok (.iload 4, 2) := by decide +kernel
theorem dX5_spread_192 : decode cX5_spread 192 = .ok (.iaload, 1) := by decide +kernel
theorem dX5_spread_193 : decode cX5_spread 193 = .ok (.invokevirtual 114, 3) := by decide +kernel
theorem dX5_spread_196 : decode cX5_spread 196 = .ok (.invokevirtual 118, 3) := by decide +kernel
theorem dX5_spread_199 : decode cX5_spread 199 = .ok (.goto 94, 3) := by decide +kernel
theorem dX5_spread_202 : decode cX5_spread 202 = .ok (.aload_n 0, 1) := by decide +kernel
theorem dX5_spread_203 : decode cX5_spread 203 = .ok (.aload_n 0, 1) := by decide +kernel
theorem dX5_spread_204 : decode cX5_spread 204 = .ok (.getfield 25, 3) := by decide +kernel
theorem dX5_spread_207 : decode cX5_spread 207 = .ok (.iload 4, 2) := by decide +kernel
theorem dX5_spread_209 : decode cX5_spread 209 = .ok (.iaload, 1) := by decide +kernel
theorem dX5_spread_210 : decode cX5_spread 210 = .ok (.iload 5, 2) := by decide +kernel
theorem dX5_spread_212 : decode cX5_spread 212 = .ok (.iconst 1, 1) := by decide +kernel
theorem dX5_spread_213 : decode cX5_spread 213 = .ok (.iadd, 1) := by decide +kernel
theorem dX5_spread_214 : decode cX5_spread 214 = .ok (.invokevirtual 110, 3) := by decide +kernel
theorem dX5_spread_217 : decode cX5_spread 217 = .ok (.aload_n 0, 1) := by decide +kernel
theorem dX5_spread_218 : decode cX5_spread 218 = .ok (.aload_n 0, 1) := by decide +kernel
theorem dX5_spread_219 : decode cX5_spread 219 = .ok (.getfield 22, 3) := by decide +kernel
theorem dX5_spread_222 : decode cX5_spread 222 = .ok (.iload 4, 2) := by decide +kernel
theorem dX5_spread_224 : decode cX5_spread 224 = .ok (.iaload, 1) := by decide +kernel
theorem dX5_spread_225 : decode cX5_spread 225 = .ok (.iload 5, 2) := by decide +kernel
theorem dX5_spread_227 : decode cX5_spread 227 = .ok (.invokevirtual 110, 3) := by decide +kernel
theorem dX5_spread_230 : decode cX5_spread 230 = .ok (.goto 34, 3) := by decide +kernel
theorem dX5_spread_233 : decode cX5_spread 233 = .ok (.aload_n 0, 1) := by decide +kernel
theorem dX5_spread_234 : decode cX5_spread 234 = .ok (.aload_n 0, 1) := by decide +kernel
theorem dX5_spread_235 : decode cX5_spread 235 = .ok (.getfield 22, 3) := by decide +kernel
theorem dX5_spread_238 : decode cX5_spread 238 = .ok (.iload 4, 2) := by decide +kernel
theorem dX5_spread_240 : decode cX5_spread 240 = .ok (.iaload, 1) := by decide +kernel
theorem dX5_spread_241 : decode cX5_spread 241 = .ok (.iload 5, 2) := by decide +kernel
theorem dX5_spread_243 : decode cX5_spread 243 = .ok (.invokevirtual 110, 3) := by decide +kernel
theorem dX5_spread_246 : decode cX5_spread 246 = .ok (.goto 18, 3) := by decide +kernel
theorem dX5_spread_249 : decode cX5_spread 249 = .ok (.aload_n 0, 1) := by decide +kernel
theorem dX5_spread_250 : decode cX5_spread 250 = .ok (.aload_n 0, 1) := by decide +kernel
theorem dX5_spread_251 : decode cX5_spread 251 = .ok (.getfield 22, 3) := by decide +kernel
theorem dX5_spread_254 : decode cX5_spread 254 = .ok (.iload 4, 2) := by decide +kernel
theorem dX5_spread_256 : decode cX5_spread 256 = .ok (.iaload, 1) := by decide +kernel
theorem dX5_spread_257 : decode cX5_spread 257 = .ok (.iload 5, 2) := by decide +kernel
theorem dX5_spread_259 : decode cX5_spread 259 = .ok (.iconst 1, 1) := by decide +kernel
theorem dX5_spread_260 : decode cX5_spread 260 = .ok (.iadd, 1) := by decide +kernel
theorem dX5_spread_261 : decode cX5_spread 261 = .ok (.invokevirtual 110, 3) := by decide +kernel
theorem dX5_spread_264 : decode cX5_spread 264 = .ok (.aload_n 0, 1) := by decide +kernel
theorem dX5_spread_265 : decode cX5_spread 265 = .ok (.aload_n 0, 1) := by decide +kernel
theorem dX5_spread_266 : decode cX5_spread 266 = .ok (.getfield 19, 3) := by decide +kernel
theorem dX5_spread_269 : decode cX5_spread 269 = .ok (.iload 4, 2) := by decide +kernel
theorem dX5_spread_271 : decode cX5_spread 271 = .ok (.iaload, 1) := by decide +kernel
theorem dX5_spread_272 : decode cX5_spread 272 = .ok (.iload 5, 2) := by decide +kernel
theorem dX5_spread_274 : decode cX5_spread 274 = .ok (.invokevirtual 110, 3) := by decide +kernel
theorem dX5_spread_277 : decode cX5_spread 277 = .ok (.aload_n 2, 1) := by decide +kernel
theorem dX5_spread_278 : decode cX5_spread 278 = .ok (.aload_n 0, 1) := by decide +kernel
theorem dX5_spread_279 : decode cX5_spread 279 = .ok (.getfield 15, 3) := by decide +kernel
theorem dX5_spread_282 : decode cX5_spread 282 = .ok (.iload 4, 2) := by decide +kernel
theorem dX5_spread_284 : decode cX5_spread 284 = .ok (.iaload, 1) := by decide +kernel
theorem dX5_spread_285 : decode cX5_spread 285 = .ok (.iconst 0, 1) := by decide +kernel
theorem dX5_spread_286 : decode cX5_spread 286 = .ok (.iload 5, 2) := by decide +kernel
theorem dX5_spread_288 : decode cX5_spread 288 = .ok (.lconst 0, 1) := by decide +kernel
theorem dX5_spread_289 : decode cX5_spread 289 = .ok (.lconst 0, 1) := by decide +kernel
theorem dX5_spread_290 : decode cX5_spread 290 = .ok (.invokevirtual 118, 3) := by decide +kernel
theorem dX5_spread_293 : decode cX5_spread 293 = .ok (.iinc 3 1, 3) := by decide +kernel
theorem dX5_spread_296 : decode cX5_spread 296 = .ok (.goto (-278), 3) := by decide +kernel
theorem dX5_spread_299 : decode cX5_spread 299 = .ok (.return_, 1) := by decide +kernel
theorem dy_X5_spread : DY yX5_spread 2 := by decide +kernel
abbrev rm_X5_spread : Room := { frames := 1, cells := 0, slots := 0, locals := 27 }
def j_X5_spread_293 (n : Nat) (K18 : St → Nat → Int32 → Option (St)) (S : St) (a2 : Nat) (l3 : Int32) : Option (St) :=
  bV (l3 + 1) fun v1 =>
  K18 S a2 v1
def j_X5_spread_264 (n : Nat) (K18 : St → Nat → Int32 → Option (St)) (S : St) (a2 : Nat) (l3 : Int32) (l4 : Int32) (l5 : Int32) : Option (St) :=
  gI S 202 0 l4 1500 fun v1 =>
  bU (f_X5_await n S v1 l5) fun S4 =>
  gI S4 201 0 l4 1500 fun v6 =>
  bU (f_X4_add n S4 a2 v6 0 l5 0 0) fun S9 =>
  j_X5_spread_293 n K18 S9 a2 l3
def l_X5_spread_18 (n : Nat) : Nat → St → Nat → Int32 → Option (St)
  | 0, _, _, _ => none
  | m + 1, S, a2, l3 =>
    if 200 ≤ l3 then
      some S
    else
      if (S.1 210 0) ≤ 0 then
        some S
      else
        pS S 210 0 ((S.1 210 0) - 1) fun S3 =>
        gI S3 208 0 (S3.1 210 0) 201 fun v5 =>
        gI S3 209 0 (S3.1 210 0) 201 fun v8 =>
        gI S3 201 0 v5 1500 fun v11 =>
        if v11 = 0 then
          gI S3 202 0 v5 1500 fun v15 =>
          bL (f_X1_codeOf n S3 v15) fun S18 v20 =>
          bU (f_X4_add n S18 a2 0 0 v8 v20 0) fun S21 =>
          j_X5_spread_293 n (fun S a2 l3 => l_X5_spread_18 n m S a2 l3) S21 a2 l3
        else if v11 = 1 then
          gI S3 202 0 v5 1500 fun v24 =>
          bU (f_X4_add n S3 a2 1 v24 v8 0 0) fun S27 =>
          j_X5_spread_293 n (fun S a2 l3 => l_X5_spread_18 n m S a2 l3) S27 a2 l3
        else if v11 = 2 then
          gI S3 202 0 v5 1500 fun v30 =>
          gI S3 203 0 v5 1500 fun v33 =>
          bL (f_X1_codeOf n S3 v33) fun S36 v38 =>
          gI S36 204 0 v5 1500 fun v39 =>
          bL (f_X1_codeOf n S36 v39) fun S42 v44 =>
          bU (f_X4_add n S42 a2 2 v30 v8 v38 v44) fun S45 =>
          j_X5_spread_293 n (fun S a2 l3 => l_X5_spread_18 n m S a2 l3) S45 a2 l3
        else if v11 = 3 then
          gI S3 203 0 v5 1500 fun v48 =>
          bU (f_X5_await n S3 v48 (v8 + 1)) fun S51 =>
          j_X5_spread_264 n (fun S a2 l3 => l_X5_spread_18 n m S a2 l3) S51 a2 l3 v5 v8
        else if v11 = 4 then
          gI S3 203 0 v5 1500 fun v54 =>
          bU (f_X5_await n S3 v54 (v8 + 1)) fun S57 =>
          j_X5_spread_264 n (fun S a2 l3 => l_X5_spread_18 n m S a2 l3) S57 a2 l3 v5 v8
        else if v11 = 5 then
          gI S3 203 0 v5 1500 fun v60 =>
          bU (f_X5_await n S3 v60 v8) fun S63 =>
          j_X5_spread_264 n (fun S a2 l3 => l_X5_spread_18 n m S a2 l3) S63 a2 l3 v5 v8
        else if v11 = 6 then
          gI S3 204 0 v5 1500 fun v66 =>
          bU (f_X5_await n S3 v66 (v8 + 1)) fun S69 =>
          gI S69 203 0 v5 1500 fun v71 =>
          bU (f_X5_await n S69 v71 v8) fun S74 =>
          j_X5_spread_264 n (fun S a2 l3 => l_X5_spread_18 n m S a2 l3) S74 a2 l3 v5 v8
        else gI S3 203 0 v5 1500 fun v76 =>
        bU (f_X5_await n S3 v76 (v8 + 1)) fun S79 =>
        j_X5_spread_264 n (fun S a2 l3 => l_X5_spread_18 n m S a2 l3) S79 a2 l3 v5 v8
def f_X5_spread (n : Nat) (S : St) (a1 : Int32) (a2 : Nat) : Option (St) :=
  pS S 150 a2 0 fun S1 =>
  pS S1 210 0 0 fun S3 =>
  bU (f_X5_await n S3 a1 0) fun S5 =>
  l_X5_spread_18 n n S5 a2 0
set_option maxRecDepth 100000 in
set_option maxHeartbeats 4000000 in
theorem t_X5_spread_293 {n : Nat} {K18 : St → Nat → Int32 → Option (St)} {x : XC} (hx : CX x cX5_spread 6 RX5) (hR : x_R x = rm_X5_spread) (hKS : ∀ k ∈ KK, k ∈ x_K x) {out : St} (hE : EV x cX5_spread out) (hK18 : ∀ {S : St} {a2 : Nat} {l3 : Int32} (_ : a2 < 107), K18 S a2 l3 = some out → WX x 6 0 0 S 18 [(0, .ref (x_ad x 0 4 0)), (2, .ref (x_ad x 0 3 a2)), (3, .int l3)] []) {S : St} {a2 : Nat} {l3 : Int32} (h_a2 : a2 < 107) (h : j_X5_spread_293 n K18 S a2 l3 = some out) : WX x 6 0 0 S 293 [(0, .ref (x_ad x 0 4 0)), (2, .ref (x_ad x 0 3 a2)), (3, .int l3)] [] := by
  unfold j_X5_spread_293 at h
  obtain ⟨v1, e2, h⟩ := bV_some h
  refine r_iinc (k := 2) (v := v1) (lv' := [(3, .int v1), (0, .ref (x_ad x 0 4 0)), (2, .ref (x_ad x 0 3 a2))]) hx dX5_spread_293 rfl (by rw [e2]; rfl) (by decide) rfl ?_
  refine r_goto (tgt := 18) hx dX5_spread_296 (by decide) ?_
  refine WX.sub (lv' := [(0, .ref (x_ad x 0 4 0)), (2, .ref (x_ad x 0 3 a2)), (3, .int v1)]) ?_ [1, 2, 0] rfl
  exact hK18 h_a2 h
set_option maxRecDepth 100000 in
set_option maxHeartbeats 4000000 in
theorem t_X5_spread_264 {n : Nat} {K18 : St → Nat → Int32 → Option (St)} {x : XC} (hx : CX x cX5_spread 6 RX5) (hR : x_R x = rm_X5_spread) (hKS : ∀ k ∈ KK, k ∈ x_K x) {out : St} (hE : EV x cX5_spread out) (hK18 : ∀ {S : St} {a2 : Nat} {l3 : Int32} (_ : a2 < 107), K18 S a2 l3 = some out → WX x 6 0 0 S 18 [(0, .ref (x_ad x 0 4 0)), (2, .ref (x_ad x 0 3 a2)), (3, .int l3)] []) {S : St} {a2 : Nat} {l3 : Int32} {l4 : Int32} {l5 : Int32} (h_a2 : a2 < 107) (h : j_X5_spread_264 n K18 S a2 l3 l4 l5 = some out) : WX x 6 0 0 S 264 [(0, .ref (x_ad x 0 4 0)), (2, .ref (x_ad x 0 3 a2)), (3, .int l3), (4, .int l4), (5, .int l5)] [] := by
  unfold j_X5_spread_264 at h
  refine r_aload_n (k0 := 0) hx dX5_spread_264 rfl rfl ?_
  refine r_aload_n (k0 := 0) hx dX5_spread_265 rfl rfl ?_
  refine g_202 hx (k_0_4 hKS) wf_X5_19 dX5_spread_266 ?_
  refine r_iload (k0 := 3) hx dX5_spread_269 rfl ?_
  obtain ⟨v1, e2, i3, h⟩ := gI_some h
  refine r_iald hx (k_1_202 hKS) rfl i3 e2 dX5_spread_271 ?_
  refine r_iload (k0 := 4) hx dX5_spread_272 rfl ?_
  obtain ⟨S4, c5, h⟩ := bU_some h
  refine r_Vv (ci := 4) (As := [.int v1, .int l5]) (rest := []) hx (C_X5_await (c := x_y x) hKS c5) (k_0_4 hKS) rfl wl_X5_110 wi_X5_await we_X5_await wn_X5 wc_X5_await dy_X5_await rfl (by rw [hR]; decide +kernel) rfl (Nat.le_of_ble_eq_true rfl) dX5_spread_274 ?_
  refine r_aload_n (k0 := 1) hx dX5_spread_277 rfl rfl ?_
  refine r_aload_n (k0 := 0) hx dX5_spread_278 rfl rfl ?_
  refine g_201 hx (k_0_4 hKS) wf_X5_15 dX5_spread_279 ?_
  refine r_iload (k0 := 3) hx dX5_spread_282 rfl ?_
  obtain ⟨v6, e7, i8, h⟩ := gI_some h
  refine r_iald hx (k_1_201 hKS) rfl i8 e7 dX5_spread_284 ?_
  refine r_iconst (v := 0) hx dX5_spread_285 (by decide) ?_
  refine r_iload (k0 := 4) hx dX5_spread_286 rfl ?_
  refine r_lconst (v := 0) hx dX5_spread_288 (by decide) ?_
  refine r_lconst (v := 0) hx dX5_spread_289 (by decide) ?_
  obtain ⟨S9, c10, h⟩ := bU_some h
  refine r_Vv (ci := 3) (As := [.int v6, .int 0, .int l5, .long 0, .long 0]) (rest := []) hx (C_X4_add (c := x_y x) hKS h_a2 c10) (kr_0 hKS h_a2) rfl wl_X5_118 wi_X4_add we_X4_add wn_X4 wc_X4_add dy_X4_add rfl (by rw [hR]; decide +kernel) rfl (Nat.le_of_ble_eq_true rfl) dX5_spread_290 ?_
  refine WX.sub (lv' := [(0, .ref (x_ad x 0 4 0)), (2, .ref (x_ad x 0 3 a2)), (3, .int l3)]) ?_ [0, 1, 2] rfl
  exact t_X5_spread_293 hx hR hKS hE hK18 h_a2 h
set_option maxRecDepth 100000 in
set_option maxHeartbeats 4000000 in
theorem t_X5_spread_18 {n : Nat} {x : XC} (hx : CX x cX5_spread 6 RX5) (hR : x_R x = rm_X5_spread) (hKS : ∀ k ∈ KK, k ∈ x_K x) {out : St} (hE : EV x cX5_spread out) : ∀ {m : Nat} {S : St} {a2 : Nat} {l3 : Int32} (h_a2 : a2 < 107) (h : l_X5_spread_18 n m S a2 l3 = some out), WX x 6 0 0 S 18 [(0, .ref (x_ad x 0 4 0)), (2, .ref (x_ad x 0 3 a2)), (3, .int l3)] [] := by
  intro m
  induction m with
  | zero => intro S a2 l3 h_a2 h; cases h
  | succ m ih =>
    intro S a2 l3 h_a2 h
    unfold l_X5_spread_18 at h
    refine r_iload_n (k0 := 2) hx dX5_spread_18 rfl rfl ?_
    refine r_sipush (v := 200) hx dX5_spread_19 (by decide) ?_
    refine r_icmp_ge (tgt := 299) hx dX5_spread_22 (by decide) (fun c1 => ?_) (fun c1 => ?_)
    · have h := ite_t h c1
      exact r_vret hE h dX5_spread_299
    · have h := ite_f h c1
      refine r_aload_n (k0 := 0) hx dX5_spread_25 rfl rfl ?_
      refine g_210 hx (k_0_4 hKS) wf_X5_107 dX5_spread_26 ?_
      refine r_if_le (tgt := 299) hx dX5_spread_29 (by decide) (fun c2 => ?_) (fun c2 => ?_)
      · have h := ite_t h c2
        exact r_vret hE h dX5_spread_299
      · have h := ite_f h c2
        refine r_aload_n (k0 := 0) hx dX5_spread_32 rfl rfl ?_
        refine r_dup hx dX5_spread_33 rfl ?_
        refine g_210 hx (k_0_4 hKS) wf_X5_107 dX5_spread_34 ?_
        refine r_iconst (v := 1) hx dX5_spread_37 (by decide) ?_
        refine r_isub hx dX5_spread_38 ?_
        obtain ⟨S3, e4, h⟩ := pS_some h
        refine p_210 hx (k_0_4 hKS) wf_X5_107 dX5_spread_39 e4 ?_
        refine r_aload_n (k0 := 0) hx dX5_spread_42 rfl rfl ?_
        refine g_208 hx (k_0_4 hKS) wf_X5_34 dX5_spread_43 ?_
        refine r_aload_n (k0 := 0) hx dX5_spread_46 rfl rfl ?_
        refine g_210 hx (k_0_4 hKS) wf_X5_107 dX5_spread_47 ?_
        obtain ⟨v5, e6, i7, h⟩ := gI_some h
        refine r_iald hx (k_1_208 hKS) rfl i7 e6 dX5_spread_50 ?_
        refine r_istore (lv' := [(4, .int v5), (0, .ref (x_ad x 0 4 0)), (2, .ref (x_ad x 0 3 a2)), (3, .int l3)]) hx dX5_spread_51 (by decide) rfl ?_
        refine r_aload_n (k0 := 1) hx dX5_spread_53 rfl rfl ?_
        refine g_209 hx (k_0_4 hKS) wf_X5_37 dX5_spread_54 ?_
        refine r_aload_n (k0 := 1) hx dX5_spread_57 rfl rfl ?_
        refine g_210 hx (k_0_4 hKS) wf_X5_107 dX5_spread_58 ?_
        obtain ⟨v8, e9, i10, h⟩ := gI_some h
        refine r_iald hx (k_1_209 hKS) rfl i10 e9 dX5_spread_61 ?_
        refine r_istore (lv' := [(5, .int v8), (4, .int v5), (0, .ref (x_ad x 0 4 0)), (2, .ref (x_ad x 0 3 a2)), (3, .int l3)]) hx dX5_spread_62 (by decide) rfl ?_
        refine r_aload_n (k0 := 2) hx dX5_spread_64 rfl rfl ?_
        refine g_201 hx (k_0_4 hKS) wf_X5_15 dX5_spread_65 ?_
        refine r_iload (k0 := 1) hx dX5_spread_68 rfl ?_
        obtain ⟨v11, e12, i13, h⟩ := gI_some h
        refine r_iald hx (k_1_201 hKS) rfl i13 e12 dX5_spread_70 ?_
        by_cases c14 : v11 = 0
        · have h := ite_t h c14
          refine r_tabI (c9 := 0) (tgt := 112) hx dX5_spread_71 c14 (by decide +kernel) ?_
          refine r_aload_n (k0 := 3) hx dX5_spread_112 rfl rfl ?_
          refine r_iconst (v := 0) hx dX5_spread_113 (by decide) ?_
          refine r_iconst (v := 0) hx dX5_spread_114 (by decide) ?_
          refine r_iload (k0 := 0) hx dX5_spread_115 rfl ?_
          refine r_aload_n (k0 := 2) hx dX5_spread_117 rfl rfl ?_
          refine g_207 hx (k_0_4 hKS) wf_X5_9 dX5_spread_118 ?_
          refine r_aload_n (k0 := 2) hx dX5_spread_121 rfl rfl ?_
          refine g_202 hx (k_0_4 hKS) wf_X5_19 dX5_spread_122 ?_
          refine r_iload (k0 := 1) hx dX5_spread_125 rfl ?_
          obtain ⟨v15, e16, i17, h⟩ := gI_some h
          refine r_iald hx (k_1_202 hKS) rfl i17 e16 dX5_spread_127 ?_
          obtain ⟨S18, v20, c19, h⟩ := bL_some h
          refine r_Vl (ci := 0) (As := [.int v15]) (rest := [.int v8, .int 0, .int 0, .ref (x_ad x 0 3 a2)]) hx (C_X1_codeOf (c := x_y x) hKS c19) (k_0_0 hKS) rfl wl_X5_114 wi_X1_codeOf we_X1_codeOf wn_X1 wc_X1_codeOf dy_X1_codeOf rfl (by rw [hR]; decide +kernel) rfl (Nat.le_of_ble_eq_true rfl) dX5_spread_128 ?_
          refine r_lconst (v := 0) hx dX5_spread_131 (by decide) ?_
          obtain ⟨S21, c22, h⟩ := bU_some h
          refine r_Vv (ci := 3) (As := [.int 0, .int 0, .int v8, .long v20, .long 0]) (rest := []) hx (C_X4_add (c := x_y x) hKS h_a2 c22) (kr_0 hKS h_a2) rfl wl_X5_118 wi_X4_add we_X4_add wn_X4 wc_X4_add dy_X4_add rfl (by rw [hR]; decide +kernel) rfl (Nat.le_of_ble_eq_true rfl) dX5_spread_132 ?_
          refine r_goto (tgt := 293) hx dX5_spread_135 (by decide) ?_
          refine WX.sub (lv' := [(0, .ref (x_ad x 0 4 0)), (2, .ref (x_ad x 0 3 a2)), (3, .int l3)]) ?_ [2, 3, 4] rfl
          exact t_X5_spread_293 hx hR hKS hE ih h_a2 h
        have h := ite_f h c14
        by_cases c23 : v11 = 1
        · have h := ite_t h c23
          refine r_tabI (c9 := 1) (tgt := 138) hx dX5_spread_71 c23 (by decide +kernel) ?_
          refine r_aload_n (k0 := 3) hx dX5_spread_138 rfl rfl ?_
          refine r_iconst (v := 1) hx dX5_spread_139 (by decide) ?_
          refine r_aload_n (k0 := 2) hx dX5_spread_140 rfl rfl ?_
          refine g_202 hx (k_0_4 hKS) wf_X5_19 dX5_spread_141 ?_
          refine r_iload (k0 := 1) hx dX5_spread_144 rfl ?_
          obtain ⟨v24, e25, i26, h⟩ := gI_some h
          refine r_iald hx (k_1_202 hKS) rfl i26 e25 dX5_spread_146 ?_
          refine r_iload (k0 := 0) hx dX5_spread_147 rfl ?_
          refine r_lconst (v := 0) hx dX5_spread_149 (by decide) ?_
          refine r_lconst (v := 0) hx dX5_spread_150 (by decide) ?_
          obtain ⟨S27, c28, h⟩ := bU_some h
          refine r_Vv (ci := 3) (As := [.int 1, .int v24, .int v8, .long 0, .long 0]) (rest := []) hx (C_X4_add (c := x_y x) hKS h_a2 c28) (kr_0 hKS h_a2) rfl wl_X5_118 wi_X4_add we_X4_add wn_X4 wc_X4_add dy_X4_add rfl (by rw [hR]; decide +kernel) rfl (Nat.le_of_ble_eq_true rfl) dX5_spread_151 ?_
          refine r_goto (tgt := 293) hx dX5_spread_154 (by decide) ?_
          refine WX.sub (lv' := [(0, .ref (x_ad x 0 4 0)), (2, .ref (x_ad x 0 3 a2)), (3, .int l3)]) ?_ [2, 3, 4] rfl
          exact t_X5_spread_293 hx hR hKS hE ih h_a2 h
        have h := ite_f h c23
        by_cases c29 : v11 = 2
        · have h := ite_t h c29
          refine r_tabI (c9 := 2) (tgt := 157) hx dX5_spread_71 c29 (by decide +kernel) ?_
          refine r_aload_n (k0 := 3) hx dX5_spread_157 rfl rfl ?_
          refine r_iconst (v := 2) hx dX5_spread_158 (by decide) ?_
          refine r_aload_n (k0 := 2) hx dX5_spread_159 rfl rfl ?_
          refine g_202 hx (k_0_4 hKS) wf_X5_19 dX5_spread_160 ?_
          refine r_iload (k0 := 1) hx dX5_spread_163 rfl ?_
          obtain ⟨v30, e31, i32, h⟩ := gI_some h
          refine r_iald hx (k_1_202 hKS) rfl i32 e31 dX5_spread_165 ?_
          refine r_iload (k0 := 0) hx dX5_spread_166 rfl ?_
          refine r_aload_n (k0 := 2) hx dX5_spread_168 rfl rfl ?_
          refine g_207 hx (k_0_4 hKS) wf_X5_9 dX5_spread_169 ?_
          refine r_aload_n (k0 := 2) hx dX5_spread_172 rfl rfl ?_
          refine g_203 hx (k_0_4 hKS) wf_X5_22 dX5_spread_173 ?_
          refine r_iload (k0 := 1) hx dX5_spread_176 rfl ?_
          obtain ⟨v33, e34, i35, h⟩ := gI_some h
          refine r_iald hx (k_1_203 hKS) rfl i35 e34 dX5_spread_178 ?_
          obtain ⟨S36, v38, c37, h⟩ := bL_some h
          refine r_Vl (ci := 0) (As := [.int v33]) (rest := [.int v8, .int v30, .int 2, .ref (x_ad x 0 3 a2)]) hx (C_X1_codeOf (c := x_y x) hKS c37) (k_0_0 hKS) rfl wl_X5_114 wi_X1_codeOf we_X1_codeOf wn_X1 wc_X1_codeOf dy_X1_codeOf rfl (by rw [hR]; decide +kernel) rfl (Nat.le_of_ble_eq_true rfl) dX5_spread_179 ?_
          refine r_aload_n (k0 := 2) hx dX5_spread_182 rfl rfl ?_
          refine g_207 hx (k_0_4 hKS) wf_X5_9 dX5_spread_183 ?_
          refine r_aload_n (k0 := 2) hx dX5_spread_186 rfl rfl ?_
          refine g_204 hx (k_0_4 hKS) wf_X5_25 dX5_spread_187 ?_
          refine r_iload (k0 := 1) hx dX5_spread_190 rfl ?_
          obtain ⟨v39, e40, i41, h⟩ := gI_some h
          refine r_iald hx (k_1_204 hKS) rfl i41 e40 dX5_spread_192 ?_
          obtain ⟨S42, v44, c43, h⟩ := bL_some h
          refine r_Vl (ci := 0) (As := [.int v39]) (rest := [.long v38, .int v8, .int v30, .int 2, .ref (x_ad x 0 3 a2)]) hx (C_X1_codeOf (c := x_y x) hKS c43) (k_0_0 hKS) rfl wl_X5_114 wi_X1_codeOf we_X1_codeOf wn_X1 wc_X1_codeOf dy_X1_codeOf rfl (by rw [hR]; decide +kernel) rfl (Nat.le_of_ble_eq_true rfl) dX5_spread_193 ?_
          obtain ⟨S45, c46, h⟩ := bU_some h
          refine r_Vv (ci := 3) (As := [.int 2, .int v30, .int v8, .long v38, .long v44]) (rest := []) hx (C_X4_add (c := x_y x) hKS h_a2 c46) (kr_0 hKS h_a2) rfl wl_X5_118 wi_X4_add we_X4_add wn_X4 wc_X4_add dy_X4_add rfl (by rw [hR]; decide +kernel) rfl (Nat.le_of_ble_eq_true rfl) dX5_spread_196 ?_
          refine r_goto (tgt := 293) hx dX5_spread_199 (by decide) ?_
          refine WX.sub (lv' := [(0, .ref (x_ad x 0 4 0)), (2, .ref (x_ad x 0 3 a2)), (3, .int l3)]) ?_ [2, 3, 4] rfl
          exact t_X5_spread_293 hx hR hKS hE ih h_a2 h
        have h := ite_f h c29
        by_cases c47 : v11 = 3
        · have h := ite_t h c47
          refine r_tabI (c9 := 3) (tgt := 249) hx dX5_spread_71 c47 (by decide +kernel) ?_
          refine r_aload_n (k0 := 2) hx dX5_spread_249 rfl rfl ?_
          refine r_aload_n (k0 := 2) hx dX5_spread_250 rfl rfl ?_
          refine g_203 hx (k_0_4 hKS) wf_X5_22 dX5_spread_251 ?_
          refine r_iload (k0 := 1) hx dX5_spread_254 rfl ?_
          obtain ⟨v48, e49, i50, h⟩ := gI_some h
          refine r_iald hx (k_1_203 hKS) rfl i50 e49 dX5_spread_256 ?_
          refine r_iload (k0 := 0) hx dX5_spread_257 rfl ?_
          refine r_iconst (v := 1) hx dX5_spread_259 (by decide) ?_
          refine r_iadd hx dX5_spread_260 ?_
          obtain ⟨S51, c52, h⟩ := bU_some h
          refine r_Vv (ci := 4) (As := [.int v48, .int (v8 + 1)]) (rest := []) hx (C_X5_await (c := x_y x) hKS c52) (k_0_4 hKS) rfl wl_X5_110 wi_X5_await we_X5_await wn_X5 wc_X5_await dy_X5_await rfl (by rw [hR]; decide +kernel) rfl (Nat.le_of_ble_eq_true rfl) dX5_spread_261 ?_
          refine WX.sub (lv' := [(0, .ref (x_ad x 0 4 0)), (2, .ref (x_ad x 0 3 a2)), (3, .int l3), (4, .int v5), (5, .int v8)]) ?_ [2, 3, 4, 1, 0] rfl
          exact t_X5_spread_264 hx hR hKS hE ih h_a2 h
        have h := ite_f h c47
        by_cases c53 : v11 = 4
        · have h := ite_t h c53
          refine r_tabI (c9 := 4) (tgt := 249) hx dX5_spread_71 c53 (by decide +kernel) ?_
          refine r_aload_n (k0 := 2) hx dX5_spread_249 rfl rfl ?_
          refine r_aload_n (k0 := 2) hx dX5_spread_250 rfl rfl ?_
          refine g_203 hx (k_0_4 hKS) wf_X5_22 dX5_spread_251 ?_
          refine r_iload (k0 := 1) hx dX5_spread_254 rfl ?_
          obtain ⟨v54, e55, i56, h⟩ := gI_some h
          refine r_iald hx (k_1_203 hKS) rfl i56 e55 dX5_spread_256 ?_
          refine r_iload (k0 := 0) hx dX5_spread_257 rfl ?_
          refine r_iconst (v := 1) hx dX5_spread_259 (by decide) ?_
          refine r_iadd hx dX5_spread_260 ?_
          obtain ⟨S57, c58, h⟩ := bU_some h
          refine r_Vv (ci := 4) (As := [.int v54, .int (v8 + 1)]) (rest := []) hx (C_X5_await (c := x_y x) hKS c58) (k_0_4 hKS) rfl wl_X5_110 wi_X5_await we_X5_await wn_X5 wc_X5_await dy_X5_await rfl (by rw [hR]; decide +kernel) rfl (Nat.le_of_ble_eq_true rfl) dX5_spread_261 ?_
          refine WX.sub (lv' := [(0, .ref (x_ad x 0 4 0)), (2, .ref (x_ad x 0 3 a2)), (3, .int l3), (4, .int v5), (5, .int v8)]) ?_ [2, 3, 4, 1, 0] rfl
          exact t_X5_spread_264 hx hR hKS hE ih h_a2 h
        have h := ite_f h c53
        by_cases c59 : v11 = 5
        · have h := ite_t h c59
          refine r_tabI (c9 := 5) (tgt := 233) hx dX5_spread_71 c59 (by decide +kernel) ?_
          refine r_aload_n (k0 := 2) hx dX5_spread_233 rfl rfl ?_
          refine r_aload_n (k0 := 2) hx dX5_spread_234 rfl rfl ?_
          refine g_203 hx (k_0_4 hKS) wf_X5_22 dX5_spread_235 ?_
          refine r_iload (k0 := 1) hx dX5_spread_238 rfl ?_
          obtain ⟨v60, e61, i62, h⟩ := gI_some h
          refine r_iald hx (k_1_203 hKS) rfl i62 e61 dX5_spread_240 ?_
          refine r_iload (k0 := 0) hx dX5_spread_241 rfl ?_
          obtain ⟨S63, c64, h⟩ := bU_some h
          refine r_Vv (ci := 4) (As := [.int v60, .int v8]) (rest := []) hx (C_X5_await (c := x_y x) hKS c64) (k_0_4 hKS) rfl wl_X5_110 wi_X5_await we_X5_await wn_X5 wc_X5_await dy_X5_await rfl (by rw [hR]; decide +kernel) rfl (Nat.le_of_ble_eq_true rfl) dX5_spread_243 ?_
          refine r_goto (tgt := 264) hx dX5_spread_246 (by decide) ?_
          refine WX.sub (lv' := [(0, .ref (x_ad x 0 4 0)), (2, .ref (x_ad x 0 3 a2)), (3, .int l3), (4, .int v5), (5, .int v8)]) ?_ [2, 3, 4, 1, 0] rfl
          exact t_X5_spread_264 hx hR hKS hE ih h_a2 h
        have h := ite_f h c59
        by_cases c65 : v11 = 6
        · have h := ite_t h c65
          refine r_tabI (c9 := 6) (tgt := 202) hx dX5_spread_71 c65 (by decide +kernel) ?_
          refine r_aload_n (k0 := 2) hx dX5_spread_202 rfl rfl ?_
          refine r_aload_n (k0 := 2) hx dX5_spread_203 rfl rfl ?_
          refine g_204 hx (k_0_4 hKS) wf_X5_25 dX5_spread_204 ?_
          refine r_iload (k0 := 1) hx dX5_spread_207 rfl ?_
          obtain ⟨v66, e67, i68, h⟩ := gI_some h
          refine r_iald hx (k_1_204 hKS) rfl i68 e67 dX5_spread_209 ?_
          refine r_iload (k0 := 0) hx dX5_spread_210 rfl ?_
          refine r_iconst (v := 1) hx dX5_spread_212 (by decide) ?_
          refine r_iadd hx dX5_spread_213 ?_
          obtain ⟨S69, c70, h⟩ := bU_some h
          refine r_Vv (ci := 4) (As := [.int v66, .int (v8 + 1)]) (rest := []) hx (C_X5_await (c := x_y x) hKS c70) (k_0_4 hKS) rfl wl_X5_110 wi_X5_await we_X5_await wn_X5 wc_X5_await dy_X5_await rfl (by rw [hR]; decide +kernel) rfl (Nat.le_of_ble_eq_true rfl) dX5_spread_214 ?_
          refine r_aload_n (k0 := 2) hx dX5_spread_217 rfl rfl ?_
          refine r_aload_n (k0 := 2) hx dX5_spread_218 rfl rfl ?_
          refine g_203 hx (k_0_4 hKS) wf_X5_22 dX5_spread_219 ?_
          refine r_iload (k0 := 1) hx dX5_spread_222 rfl ?_
          obtain ⟨v71, e72, i73, h⟩ := gI_some h
          refine r_iald hx (k_1_203 hKS) rfl i73 e72 dX5_spread_224 ?_
          refine r_iload (k0 := 0) hx dX5_spread_225 rfl ?_
          obtain ⟨S74, c75, h⟩ := bU_some h
          refine r_Vv (ci := 4) (As := [.int v71, .int v8]) (rest := []) hx (C_X5_await (c := x_y x) hKS c75) (k_0_4 hKS) rfl wl_X5_110 wi_X5_await we_X5_await wn_X5 wc_X5_await dy_X5_await rfl (by rw [hR]; decide +kernel) rfl (Nat.le_of_ble_eq_true rfl) dX5_spread_227 ?_
          refine r_goto (tgt := 264) hx dX5_spread_230 (by decide) ?_
          refine WX.sub (lv' := [(0, .ref (x_ad x 0 4 0)), (2, .ref (x_ad x 0 3 a2)), (3, .int l3), (4, .int v5), (5, .int v8)]) ?_ [2, 3, 4, 1, 0] rfl
          exact t_X5_spread_264 hx hR hKS hE ih h_a2 h
        have h := ite_f h c65
        refine r_tabO (tgt := 249) hx dX5_spread_71 (tabo_0_7 c14 c23 c29 c47 c53 c59 c65) (by decide) ?_
        refine r_aload_n (k0 := 2) hx dX5_spread_249 rfl rfl ?_
        refine r_aload_n (k0 := 2) hx dX5_spread_250 rfl rfl ?_
        refine g_203 hx (k_0_4 hKS) wf_X5_22 dX5_spread_251 ?_
        refine r_iload (k0 := 1) hx dX5_spread_254 rfl ?_
        obtain ⟨v76, e77, i78, h⟩ := gI_some h
        refine r_iald hx (k_1_203 hKS) rfl i78 e77 dX5_spread_256 ?_
        refine r_iload (k0 := 0) hx dX5_spread_257 rfl ?_
        refine r_iconst (v := 1) hx dX5_spread_259 (by decide) ?_
        refine r_iadd hx dX5_spread_260 ?_
        obtain ⟨S79, c80, h⟩ := bU_some h
        refine r_Vv (ci := 4) (As := [.int v76, .int (v8 + 1)]) (rest := []) hx (C_X5_await (c := x_y x) hKS c80) (k_0_4 hKS) rfl wl_X5_110 wi_X5_await we_X5_await wn_X5 wc_X5_await dy_X5_await rfl (by rw [hR]; decide +kernel) rfl (Nat.le_of_ble_eq_true rfl) dX5_spread_261 ?_
        refine WX.sub (lv' := [(0, .ref (x_ad x 0 4 0)), (2, .ref (x_ad x 0 3 a2)), (3, .int l3), (4, .int v5), (5, .int v8)]) ?_ [2, 3, 4, 1, 0] rfl
        exact t_X5_spread_264 hx hR hKS hE ih h_a2 h
set_option maxRecDepth 100000 in
set_option maxHeartbeats 4000000 in
theorem t_X5_spread_0 {n : Nat} {x : XC} (hx : CX x cX5_spread 6 RX5) (hR : x_R x = rm_X5_spread) (hKS : ∀ k ∈ KK, k ∈ x_K x) {out : St} (hE : EV x cX5_spread out) {S : St} {a1 : Int32} {a2 : Nat} (h_a2 : a2 < 107) (h : f_X5_spread n S a1 a2 = some out) : WX x 6 0 0 S 0 [(0, .ref (x_ad x 0 4 0)), (1, .int a1), (2, .ref (x_ad x 0 3 a2))] [] := by
  unfold f_X5_spread at h
  refine r_aload_n (k0 := 2) hx dX5_spread_0 rfl rfl ?_
  refine r_iconst (v := 0) hx dX5_spread_1 (by decide) ?_
  obtain ⟨S1, e2, h⟩ := pS_some h
  refine p_150 hx (kr_0 hKS h_a2) wf_X5_79 dX5_spread_2 e2 ?_
  refine r_aload_n (k0 := 0) hx dX5_spread_5 rfl rfl ?_
  refine r_iconst (v := 0) hx dX5_spread_6 (by decide) ?_
  obtain ⟨S3, e4, h⟩ := pS_some h
  refine p_210 hx (k_0_4 hKS) wf_X5_107 dX5_spread_7 e4 ?_
  refine r_aload_n (k0 := 0) hx dX5_spread_10 rfl rfl ?_
  refine r_iload_n (k0 := 1) hx dX5_spread_11 rfl rfl ?_
  refine r_iconst (v := 0) hx dX5_spread_12 (by decide) ?_
  obtain ⟨S5, c6, h⟩ := bU_some h
  refine r_Vv (ci := 4) (As := [.int a1, .int 0]) (rest := []) hx (C_X5_await (c := x_y x) hKS c6) (k_0_4 hKS) rfl wl_X5_110 wi_X5_await we_X5_await wn_X5 wc_X5_await dy_X5_await rfl (by rw [hR]; decide +kernel) rfl (Nat.le_of_ble_eq_true rfl) dX5_spread_13 ?_
  refine r_iconst (v := 0) hx dX5_spread_16 (by decide) ?_
  refine r_istore_n (lv' := [(3, .int 0), (0, .ref (x_ad x 0 4 0)), (1, .int a1), (2, .ref (x_ad x 0 3 a2))]) hx dX5_spread_17 rfl (by decide) rfl ?_
  refine WX.sub (lv' := [(0, .ref (x_ad x 0 4 0)), (2, .ref (x_ad x 0 3 a2)), (3, .int 0)]) ?_ [1, 3, 0] rfl
  exact t_X5_spread_18 hx hR hKS hE h_a2 h
set_option maxHeartbeats 4000000 in
theorem C_X5_spread {n : Nat} {c : YC} (hKS : ∀ k ∈ KK, k ∈ c.2.2.2.2) {S : St} {a1 : Int32} {a2 : Nat} {out : St} (h_a2 : a2 < 107) (h : f_X5_spread n S a1 a2 = some out) : MV c yX5_spread cX5_spread 6 none rm_X5_spread S [.ref (c.2.2.1 0 4 0), .int a1, .ref (c.2.2.1 0 3 a2)] out := mk_V (own := RX5) (by decide +kernel) rfl (Nat.le_of_ble_eq_true rfl) (fun x hx hR hy hE => by subst hy; exact t_X5_spread_0 hx hR hKS hE h_a2 h)
theorem dX5_keepLeaf_0 : decode cX5_keepLeaf 0 = .ok (.aload_n 1, 1) := by decide +kernel
theorem dX5_keepLeaf_1 : decode cX5_keepLeaf 1 = .ok (.getfield 81, 3) := by decide +kernel
theorem dX5_keepLeaf_4 : decode cX5_keepLeaf 4 = .ok (.iload_n 2, 1) := by decide +kernel
theorem dX5_keepLeaf_5 : decode cX5_keepLeaf 5 = .ok (.iaload, 1) := by decide +kernel
theorem dX5_keepLeaf_6 : decode cX5_keepLeaf 6 = .ok (.iconst 1, 1) := by decide +kernel
theorem dX5_keepLeaf_7 : decode cX5_keepLeaf 7 = .ok (.if_icmp .ne 17, 3) := by decide +kernel
theorem dX5_keepLeaf_10 : decode cX5_keepLeaf 10 = .ok (.aload_n 0, 1) := by decide +kernel
theorem dX5_keepLeaf_11 : decode cX5_keepLeaf 11 = .ok (.iconst 1, 1) := by decide +kernel
theorem dX5_keepLeaf_12 : decode cX5_keepLeaf 12 = .ok (.aload_n 1, 1) := by decide +kernel
theorem dX5_keepLeaf_13 : decode cX5_keepLeaf 13 = .ok (.getfield 92, 3) := by decide +kernel
theorem dX5_keepLeaf_16 : decode cX5_keepLeaf 16 = .ok (.iload_n 2, 1) := by decide +kernel
theorem dX5_keepLeaf_17 : decode cX5_keepLeaf 17 = .ok (.iaload, 1) := by decide +kernel
theorem dX5_keepLeaf_18 : decode cX5_keepLeaf 18 = .ok (.iconst (-1), 1) := by decide +kernel
theorem dX5_keepLeaf_19 : decode cX5_keepLeaf 19 = .ok (.iconst (-1), 1) := by decide +kernel
theorem dX5_keepLeaf_20 : decode cX5_keepLeaf 20 = .ok (.invokevirtual 89, 3) := by decide +kernel
theorem dX5_keepLeaf_23 : decode cX5_keepLeaf 23 = .ok (.ireturn, 1) := by decide +kernel
theorem dX5_keepLeaf_24 : decode cX5_keepLeaf 24 = .ok (.aload_n 0, 1) := by decide +kernel
theorem dX5_keepLeaf_25 : decode cX5_keepLeaf 25 = .ok (.getfield 9, 3) := by decide +kernel
theorem dX5_keepLeaf_28 : decode cX5_keepLeaf 28 = .ok (.aload_n 1, 1) := by decide +kernel
theorem dX5_keepLeaf_29 : decode cX5_keepLeaf 29 = .ok (.getfield 95, 3) := by decide +kernel
theorem dX5_keepLeaf_32 : decode cX5_keepLeaf 32 = .ok (.iload_n 2, 1) := by decide +kernel
theorem dX5_keepLeaf_33 : decode cX5_keepLeaf 33 = .ok (.laload, 1) := by decide +kernel
theorem dX5_keepLeaf_34 : decode cX5_keepLeaf 34 = .ok (.invokevirtual 99, 3) := by decide +kernel
theorem dX5_keepLeaf_37 : decode cX5_keepLeaf 37 = .ok (.istore_n 3, 1) := by decide +kernel
theorem dX5_keepLeaf_38 : decode cX5_keepLeaf 38 = .ok (.iload_n 3, 1) := by decide +kernel
theorem dX5_keepLeaf_39 : decode cX5_keepLeaf 39 = .ok (.iconst (-1), 1) := by decide +kernel
theorem dX5_keepLeaf_40 : decode cX5_keepLeaf 40 = .ok (.if_icmp .eq 12, 3) := by decide +kernel
theorem dX5_keepLeaf_43 : decode cX5_keepLeaf 43 = .ok (.aload_n 1, 1) := by decide +kernel
theorem dX5_keepLeaf_44 : decode cX5_keepLeaf 44 = .ok (.getfield 81, 3) := by decide +kernel
theorem dX5_keepLeaf_47 : decode cX5_keepLeaf 47 = .ok (.iload_n 2, 1) := by decide +kernel
theorem dX5_keepLeaf_48 : decode cX5_keepLeaf 48 = .ok (.iaload, 1) := by decide +kernel
theorem dX5_keepLeaf_49 : decode cX5_keepLeaf 49 = .ok (.ifCond .ne 21, 3) := by decide +kernel
theorem dX5_keepLeaf_52 : decode cX5_keepLeaf 52 = .ok (.iload_n 3, 1) := by decide +kernel
theorem dX5_keepLeaf_53 : decode cX5_keepLeaf 53 = .ok (.iconst (-1), 1) := by decide +kernel
theorem dX5_keepLeaf_54 : decode cX5_keepLeaf 54 = .ok (.if_icmp .ne 7, 3) := by decide +kernel
theorem dX5_keepLeaf_57 : decode cX5_keepLeaf 57 = .ok (.iconst (-1), 1) := by decide +kernel
theorem dX5_keepLeaf_58 : decode cX5_keepLeaf 58 = .ok (.goto 11, 3) := by decide +kernel
theorem dX5_keepLeaf_61 : decode cX5_keepLeaf 61 = .ok (.aload_n 0, 1) := by decide +kernel
theorem dX5_keepLeaf_62 : decode cX5_keepLeaf 62 = .ok (.iconst 0, 1) := by decide +kernel
theorem dX5_keepLeaf_63 : decode cX5_keepLeaf 63 = .ok (.iload_n 3, 1) := by decide +kernel
theorem dX5_keepLeaf_64 : decode cX5_keepLeaf 64 = .ok (.iconst (-1), 1) := by decide +kernel
theorem dX5_keepLeaf_65 : decode cX5_keepLeaf 65 = .ok (.iconst (-1), 1) := by decide +kernel
theorem dX5_keepLeaf_66 : decode cX5_keepLeaf 66 = .ok (.invokevirtual 89, 3) := by decide +kernel
theorem dX5_keepLeaf_69 : decode cX5_keepLeaf 69 = .ok (.ireturn, 1) := by decide +kernel
theorem dX5_keepLeaf_70 : decode cX5_keepLeaf 70 = .ok (.aload_n 0, 1) := by decide +kernel
theorem dX5_keepLeaf_71 : decode cX5_keepLeaf 71 = .ok (.getfield 9, 3) := by decide +kernel
theorem dX5_keepLeaf_74 : decode cX5_keepLeaf 74 = .ok (.aload_n 1, 1) := by decide +kernel
theorem dX5_keepLeaf_75 : decode cX5_keepLeaf 75 = .ok (.getfield 104, 3) := by decide +kernel
theorem dX5_keepLeaf_78 : decode cX5_keepLeaf 78 = .ok (.iload_n 2, 1) := by decide +kernel
theorem dX5_keepLeaf_79 : decode cX5_keepLeaf 79 = .ok (.laload, 1) := by decide +kernel
theorem dX5_keepLeaf_80 : decode cX5_keepLeaf 80 = .ok (.invokevirtual 99, 3) := by decide +kernel
theorem dX5_keepLeaf_83 : decode cX5_keepLeaf 83 = .ok (.istore 4, 2) := by decide +kernel
theorem dX5_keepLeaf_85 : decode cX5_keepLeaf 85 = .ok (.iload 4, 2) := by decide +kernel
theorem dX5_keepLeaf_87 : decode cX5_keepLeaf 87 = .ok (.iconst (-1), 1) := by decide +kernel
theorem dX5_keepLeaf_88 : decode cX5_keepLeaf 88 = .ok (.if_icmp .ne 7, 3) := by decide +kernel
theorem dX5_keepLeaf_91 : decode cX5_keepLeaf 91 = .ok (.iconst (-1), 1) := by decide +kernel
theorem dX5_keepLeaf_92 : decode cX5_keepLeaf 92 = .ok (.goto 17, 3) := by decide +kernel
theorem dX5_keepLeaf_95 : decode cX5_keepLeaf 95 = .ok (.aload_n 0, 1) := by decide +kernel
theorem dX5_keepLeaf_96 : decode cX5_keepLeaf 96 = .ok (.iconst 2, 1) := by decide +kernel
theorem dX5_keepLeaf_97 : decode cX5_keepLeaf 97 = .ok (.aload_n 1, 1) := by decide +kernel
theorem dX5_keepLeaf_98 : decode cX5_keepLeaf 98 = .ok (.getfield 92, 3) := by decide +kernel
theorem dX5_keepLeaf_101 : decode cX5_keepLeaf 101 = .ok (.iload_n 2, 1) := by decide +kernel
theorem dX5_keepLeaf_102 : decode cX5_keepLeaf 102 = .ok (.iaload, 1) := by decide +kernel
theorem dX5_keepLeaf_103 : decode cX5_keepLeaf 103 = .ok (.iload_n 3, 1) := by decide +kernel
theorem dX5_keepLeaf_104 : decode cX5_keepLeaf 104 = .ok (.iload 4, 2) := by decide +kernel
theorem dX5_keepLeaf_106 : decode cX5_keepLeaf 106 = .ok (.invokevirtual 89, 3) := by decide +kernel
theorem dX5_keepLeaf_109 : decode cX5_keepLeaf 109 = .ok (.ireturn, 1) := by decide +kernel
theorem dy_X5_keepLeaf : DY yX5_keepLeaf 2 := by decide +kernel
abbrev rm_X5_keepLeaf : Room := { frames := 73, cells := 0, slots := 0, locals := 2853 }
def j_X5_keepLeaf_52 (n : Nat) (S : St) (l3 : Int32) : Option (St × Int32) :=
  if l3 = (-1) then
    some (S, (-1))
  else
    bI (f_X5_keep n S 0 l3 (-1) (-1)) fun S2 v4 =>
    some (S2, v4)
def f_X5_keepLeaf (n : Nat) (S : St) (a1 : Nat) (a2 : Int32) : Option (St × Int32) :=
  gI S 151 a1 a2 200 fun v1 =>
  if v1 = 1 then
    gI S 152 a1 a2 200 fun v29 =>
    bI (f_X5_keep n S 1 v29 (-1) (-1)) fun S32 v34 =>
    some (S32, v34)
  else
    gL S 154 a1 a2 200 fun v5 =>
    bI (k_X1_keep n 17 S v5) fun S8 v10 =>
    if v10 = (-1) then
      j_X5_keepLeaf_52 n S8 v10
    else
      gI S8 151 a1 a2 200 fun v12 =>
      if v12 = 0 then
        j_X5_keepLeaf_52 n S8 v10
      else
        gL S8 155 a1 a2 200 fun v16 =>
        bI (k_X1_keep n 17 S8 v16) fun S19 v21 =>
        if v21 = (-1) then
          some (S19, (-1))
        else
          gI S19 152 a1 a2 200 fun v23 =>
          bI (f_X5_keep n S19 2 v23 v10 v21) fun S26 v28 =>
          some (S26, v28)
set_option maxRecDepth 100000 in
set_option maxHeartbeats 4000000 in
theorem t_X5_keepLeaf_52 {n : Nat} {x : XC} (hx : CX x cX5_keepLeaf 5 RX5) (hR : x_R x = rm_X5_keepLeaf) (hKS : ∀ k ∈ KK, k ∈ x_K x) {out : St × Int32} (hE : EI x cX5_keepLeaf out) {S : St} {l3 : Int32} (h : j_X5_keepLeaf_52 n S l3 = some out) : WX x 5 0 0 S 52 [(0, .ref (x_ad x 0 4 0)), (3, .int l3)] [] := by
  unfold j_X5_keepLeaf_52 at h
  refine r_iload_n (k0 := 1) hx dX5_keepLeaf_52 rfl rfl ?_
  refine r_iconst (v := -1) hx dX5_keepLeaf_53 (by decide) ?_
  refine r_icmp_ne (tgt := 61) hx dX5_keepLeaf_54 (by decide) (fun c1 => ?_) (fun c1 => ?_)
  · have h := ite_f h c1
    refine r_aload_n (k0 := 0) hx dX5_keepLeaf_61 rfl rfl ?_
    refine r_iconst (v := 0) hx dX5_keepLeaf_62 (by decide) ?_
    refine r_iload_n (k0 := 1) hx dX5_keepLeaf_63 rfl rfl ?_
    refine r_iconst (v := -1) hx dX5_keepLeaf_64 (by decide) ?_
    refine r_iconst (v := -1) hx dX5_keepLeaf_65 (by decide) ?_
    obtain ⟨S2, v4, c3, h⟩ := bI_some h
    refine r_Vi (ci := 4) (As := [.int 0, .int l3, .int (-1), .int (-1)]) (rest := []) hx (C_X5_keep (c := x_y x) hKS c3) (k_0_4 hKS) rfl wl_X5_89 wi_X5_keep we_X5_keep wn_X5 wc_X5_keep dy_X5_keep rfl (by rw [hR]; decide +kernel) rfl (Nat.le_of_ble_eq_true rfl) dX5_keepLeaf_66 ?_
    exact r_iret hE h dX5_keepLeaf_69
  · have h := ite_t h c1
    refine r_iconst (v := -1) hx dX5_keepLeaf_57 (by decide) ?_
    refine r_goto (tgt := 69) hx dX5_keepLeaf_58 (by decide) ?_
    exact r_iret hE h dX5_keepLeaf_69
set_option maxRecDepth 100000 in
set_option maxHeartbeats 4000000 in
theorem t_X5_keepLeaf_0 {n : Nat} {x : XC} (hx : CX x cX5_keepLeaf 5 RX5) (hR : x_R x = rm_X5_keepLeaf) (hKS : ∀ k ∈ KK, k ∈ x_K x) {out : St × Int32} (hE : EI x cX5_keepLeaf out) {S : St} {a1 : Nat} {a2 : Int32} (h_a1 : a1 < 107) (h : f_X5_keepLeaf n S a1 a2 = some out) : WX x 5 0 0 S 0 [(0, .ref (x_ad x 0 4 0)), (1, .ref (x_ad x 0 3 a1)), (2, .int a2)] [] := by
  unfold f_X5_keepLeaf at h
  refine r_aload_n (k0 := 1) hx dX5_keepLeaf_0 rfl rfl ?_
  refine g_151 hx (kr_0 hKS h_a1) wf_X5_81 dX5_keepLeaf_1 ?_
  refine r_iload_n (k0 := 2) hx dX5_keepLeaf_4 rfl rfl ?_
  obtain ⟨v1, e2, i3, h⟩ := gI_some h
  refine r_iald hx (kr_151 hKS h_a1) rfl i3 e2 dX5_keepLeaf_5 ?_
  refine r_iconst (v := 1) hx dX5_keepLeaf_6 (by decide) ?_
  refine r_icmp_ne (tgt := 24) hx dX5_keepLeaf_7 (by decide) (fun c4 => ?_) (fun c4 => ?_)
  · have h := ite_f h c4
    refine r_aload_n (k0 := 0) hx dX5_keepLeaf_24 rfl rfl ?_
    refine g_207 hx (k_0_4 hKS) wf_X5_9 dX5_keepLeaf_25 ?_
    refine r_aload_n (k0 := 1) hx dX5_keepLeaf_28 rfl rfl ?_
    refine g_154 hx (kr_0 hKS h_a1) wf_X5_95 dX5_keepLeaf_29 ?_
    refine r_iload_n (k0 := 2) hx dX5_keepLeaf_32 rfl rfl ?_
    obtain ⟨v5, e6, i7, h⟩ := gL_some h
    refine r_lald hx (kr_154 hKS h_a1) rfl i7 e6 dX5_keepLeaf_33 ?_
    obtain ⟨S8, v10, c9, h⟩ := bI_some h
    refine r_Vi (ci := 0) (As := [.long v5]) (rest := []) hx (D_X1_keep (c := x_y x) hKS c9) (k_0_0 hKS) rfl wl_X5_99 wi_X1_keep we_X1_keep wn_X1 wc_X1_keep dy_X1_keep rfl (by rw [hR]; decide +kernel) rfl (Nat.le_of_ble_eq_true rfl) dX5_keepLeaf_34 ?_
    refine r_istore_n (lv' := [(3, .int v10), (0, .ref (x_ad x 0 4 0)), (1, .ref (x_ad x 0 3 a1)), (2, .int a2)]) hx dX5_keepLeaf_37 rfl (by decide) rfl ?_
    refine r_iload_n (k0 := 0) hx dX5_keepLeaf_38 rfl rfl ?_
    refine r_iconst (v := -1) hx dX5_keepLeaf_39 (by decide) ?_
    refine r_icmp_eq (tgt := 52) hx dX5_keepLeaf_40 (by decide) (fun c11 => ?_) (fun c11 => ?_)
    · have h := ite_t h c11
      refine WX.sub (lv' := [(0, .ref (x_ad x 0 4 0)), (3, .int v10)]) ?_ [1, 0] rfl
      exact t_X5_keepLeaf_52 hx hR hKS hE h
    · have h := ite_f h c11
      refine r_aload_n (k0 := 2) hx dX5_keepLeaf_43 rfl rfl ?_
      refine g_151 hx (kr_0 hKS h_a1) wf_X5_81 dX5_keepLeaf_44 ?_
      refine r_iload_n (k0 := 3) hx dX5_keepLeaf_47 rfl rfl ?_
      obtain ⟨v12, e13, i14, h⟩ := gI_some h
      refine r_iald hx (kr_151 hKS h_a1) rfl i14 e13 dX5_keepLeaf_48 ?_
      refine r_if_ne (tgt := 70) hx dX5_keepLeaf_49 (by decide) (fun c15 => ?_) (fun c15 => ?_)
      · have h := ite_f h c15
        refine r_aload_n (k0 := 1) hx dX5_keepLeaf_70 rfl rfl ?_
        refine g_207 hx (k_0_4 hKS) wf_X5_9 dX5_keepLeaf_71 ?_
        refine r_aload_n (k0 := 2) hx dX5_keepLeaf_74 rfl rfl ?_
        refine g_155 hx (kr_0 hKS h_a1) wf_X5_104 dX5_keepLeaf_75 ?_
        refine r_iload_n (k0 := 3) hx dX5_keepLeaf_78 rfl rfl ?_
        obtain ⟨v16, e17, i18, h⟩ := gL_some h
        refine r_lald hx (kr_155 hKS h_a1) rfl i18 e17 dX5_keepLeaf_79 ?_
        obtain ⟨S19, v21, c20, h⟩ := bI_some h
        refine r_Vi (ci := 0) (As := [.long v16]) (rest := []) hx (D_X1_keep (c := x_y x) hKS c20) (k_0_0 hKS) rfl wl_X5_99 wi_X1_keep we_X1_keep wn_X1 wc_X1_keep dy_X1_keep rfl (by rw [hR]; decide +kernel) rfl (Nat.le_of_ble_eq_true rfl) dX5_keepLeaf_80 ?_
        refine r_istore (lv' := [(4, .int v21), (3, .int v10), (0, .ref (x_ad x 0 4 0)), (1, .ref (x_ad x 0 3 a1)), (2, .int a2)]) hx dX5_keepLeaf_83 (by decide) rfl ?_
        refine r_iload (k0 := 0) hx dX5_keepLeaf_85 rfl ?_
        refine r_iconst (v := -1) hx dX5_keepLeaf_87 (by decide) ?_
        refine r_icmp_ne (tgt := 95) hx dX5_keepLeaf_88 (by decide) (fun c22 => ?_) (fun c22 => ?_)
        · have h := ite_f h c22
          refine r_aload_n (k0 := 2) hx dX5_keepLeaf_95 rfl rfl ?_
          refine r_iconst (v := 2) hx dX5_keepLeaf_96 (by decide) ?_
          refine r_aload_n (k0 := 3) hx dX5_keepLeaf_97 rfl rfl ?_
          refine g_152 hx (kr_0 hKS h_a1) wf_X5_92 dX5_keepLeaf_98 ?_
          refine r_iload_n (k0 := 4) hx dX5_keepLeaf_101 rfl rfl ?_
          obtain ⟨v23, e24, i25, h⟩ := gI_some h
          refine r_iald hx (kr_152 hKS h_a1) rfl i25 e24 dX5_keepLeaf_102 ?_
          refine r_iload_n (k0 := 1) hx dX5_keepLeaf_103 rfl rfl ?_
          refine r_iload (k0 := 0) hx dX5_keepLeaf_104 rfl ?_
          obtain ⟨S26, v28, c27, h⟩ := bI_some h
          refine r_Vi (ci := 4) (As := [.int 2, .int v23, .int v10, .int v21]) (rest := []) hx (C_X5_keep (c := x_y x) hKS c27) (k_0_4 hKS) rfl wl_X5_89 wi_X5_keep we_X5_keep wn_X5 wc_X5_keep dy_X5_keep rfl (by rw [hR]; decide +kernel) rfl (Nat.le_of_ble_eq_true rfl) dX5_keepLeaf_106 ?_
          exact r_iret hE h dX5_keepLeaf_109
        · have h := ite_t h c22
          refine r_iconst (v := -1) hx dX5_keepLeaf_91 (by decide) ?_
          refine r_goto (tgt := 109) hx dX5_keepLeaf_92 (by decide) ?_
          exact r_iret hE h dX5_keepLeaf_109
      · have h := ite_t h c15
        refine WX.sub (lv' := [(0, .ref (x_ad x 0 4 0)), (3, .int v10)]) ?_ [1, 0] rfl
        exact t_X5_keepLeaf_52 hx hR hKS hE h
  · have h := ite_t h c4
    refine r_aload_n (k0 := 0) hx dX5_keepLeaf_10 rfl rfl ?_
    refine r_iconst (v := 1) hx dX5_keepLeaf_11 (by decide) ?_
    refine r_aload_n (k0 := 1) hx dX5_keepLeaf_12 rfl rfl ?_
    refine g_152 hx (kr_0 hKS h_a1) wf_X5_92 dX5_keepLeaf_13 ?_
    refine r_iload_n (k0 := 2) hx dX5_keepLeaf_16 rfl rfl ?_
    obtain ⟨v29, e30, i31, h⟩ := gI_some h
    refine r_iald hx (kr_152 hKS h_a1) rfl i31 e30 dX5_keepLeaf_17 ?_
    refine r_iconst (v := -1) hx dX5_keepLeaf_18 (by decide) ?_
    refine r_iconst (v := -1) hx dX5_keepLeaf_19 (by decide) ?_
    obtain ⟨S32, v34, c33, h⟩ := bI_some h
    refine r_Vi (ci := 4) (As := [.int 1, .int v29, .int (-1), .int (-1)]) (rest := []) hx (C_X5_keep (c := x_y x) hKS c33) (k_0_4 hKS) rfl wl_X5_89 wi_X5_keep we_X5_keep wn_X5 wc_X5_keep dy_X5_keep rfl (by rw [hR]; decide +kernel) rfl (Nat.le_of_ble_eq_true rfl) dX5_keepLeaf_20 ?_
    exact r_iret hE h dX5_keepLeaf_23
set_option maxHeartbeats 4000000 in
theorem C_X5_keepLeaf {n : Nat} {c : YC} (hKS : ∀ k ∈ KK, k ∈ c.2.2.2.2) {S : St} {a1 : Nat} {a2 : Int32} {out : St × Int32} (h_a1 : a1 < 107) (h : f_X5_keepLeaf n S a1 a2 = some out) : MI c yX5_keepLeaf cX5_keepLeaf 5 (some .int) rm_X5_keepLeaf S [.ref (c.2.2.1 0 4 0), .ref (c.2.2.1 0 3 a1), .int a2] out := mk_I (own := RX5) (by decide +kernel) rfl (Nat.le_of_ble_eq_true rfl) (fun x hx hR hy hE => by subst hy; exact t_X5_keepLeaf_0 hx hR hKS hE h_a1 h)
theorem dX5_keepNext_0 : decode cX5_keepNext 0 = .ok (.iload_n 2, 1) := by decide +kernel
theorem dX5_keepNext_1 : decode cX5_keepNext 1 = .ok (.bipush 100, 2) := by decide +kernel
theorem dX5_keepNext_3 : decode cX5_keepNext 3 = .ok (.if_icmp .ge 14, 3) := by decide +kernel
theorem dX5_keepNext_6 : decode cX5_keepNext 6 = .ok (.aload_n 0, 1) := by decide +kernel
theorem dX5_keepNext_7 : decode cX5_keepNext 7 = .ok (.getfield 76, 3) := by decide +kernel
theorem dX5_keepNext_10 : decode cX5_keepNext 10 = .ok (.aload_n 1, 1) := by decide +kernel
theorem dX5_keepNext_11 : decode cX5_keepNext 11 = .ok (.getfield 79, 3) := by decide +kernel
theorem dX5_keepNext_14 : decode cX5_keepNext 14 = .ok (.if_icmp .lt 5, 3) := by decide +kernel
theorem dX5_keepNext_17 : decode cX5_keepNext 17 = .ok (.iconst (-1), 1) := by decide +kernel
theorem dX5_keepNext_18 : decode cX5_keepNext 18 = .ok (.ireturn, 1) := by decide +kernel
theorem dX5_keepNext_19 : decode cX5_keepNext 19 = .ok (.aload_n 0, 1) := by decide +kernel
theorem dX5_keepNext_20 : decode cX5_keepNext 20 = .ok (.getfield 76, 3) := by decide +kernel
theorem dX5_keepNext_23 : decode cX5_keepNext 23 = .ok (.istore_n 3, 1) := by decide +kernel
theorem dX5_keepNext_24 : decode cX5_keepNext 24 = .ok (.aload_n 0, 1) := by decide +kernel
theorem dX5_keepNext_25 : decode cX5_keepNext 25 = .ok (.dup, 1) := by decide +kernel
theorem dX5_keepNext_26 : decode cX5_keepNext 26 = .ok (.getfield 76, 3) := by decide +kernel
theorem dX5_keepNext_29 : decode cX5_keepNext 29 = .ok (.iconst 1, 1) := by decide +kernel
theorem dX5_keepNext_30 : decode cX5_keepNext 30 = .ok (.iadd, 1) := by decide +kernel
theorem dX5_keepNext_31 : decode cX5_keepNext 31 = .ok (.putfield 76, 3) := by decide +kernel
theorem dX5_keepNext_34 : decode cX5_keepNext 34 = .ok (.aload_n 1, 1) := by decide +kernel
theorem dX5_keepNext_35 : decode cX5_keepNext 35 = .ok (.getfield 81, 3) := by decide +kernel
theorem dX5_keepNext_38 : decode cX5_keepNext 38 = .ok (.iload_n 3, 1) := by decide +kernel
theorem dX5_keepNext_39 : decode cX5_keepNext 39 = .ok (.iaload, 1) := by decide +kernel
theorem dX5_keepNext_40 : decode cX5_keepNext 40 = .ok (.invokestatic 48, 3) := by decide +kernel
theorem dX5_keepNext_43 : decode cX5_keepNext 43 = .ok (.istore 4, 2) := by decide +kernel
theorem dX5_keepNext_45 : decode cX5_keepNext 45 = .ok (.iload 4, 2) := by decide +kernel
theorem dX5_keepNext_47 : decode cX5_keepNext 47 = .ok (.ifCond .ne 10, 3) := by decide +kernel
theorem dX5_keepNext_50 : decode cX5_keepNext 50 = .ok (.aload_n 0, 1) := by decide +kernel
theorem dX5_keepNext_51 : decode cX5_keepNext 51 = .ok (.aload_n 1, 1) := by decide +kernel
theorem dX5_keepNext_52 : decode cX5_keepNext 52 = .ok (.iload_n 3, 1) := by decide +kernel
theorem dX5_keepNext_53 : decode cX5_keepNext 53 = .ok (.invokevirtual 82, 3) := by decide +kernel
theorem dX5_keepNext_56 : decode cX5_keepNext 56 = .ok (.ireturn, 1) := by decide +kernel
theorem dX5_keepNext_57 : decode cX5_keepNext 57 = .ok (.aload_n 0, 1) := by decide +kernel
theorem dX5_keepNext_58 : decode cX5_keepNext 58 = .ok (.aload_n 1, 1) := by decide +kernel
theorem dX5_keepNext_59 : decode cX5_keepNext 59 = .ok (.iload_n 2, 1) := by decide +kernel
theorem dX5_keepNext_60 : decode cX5_keepNext 60 = .ok (.iconst 1, 1) := by decide +kernel
theorem dX5_keepNext_61 : decode cX5_keepNext 61 = .ok (.iadd, 1) := by decide +kernel
theorem dX5_keepNext_62 : decode cX5_keepNext 62 = .ok (.invokevirtual 86, 3) := by decide +kernel
theorem dX5_keepNext_65 : decode cX5_keepNext 65 = .ok (.istore 5, 2) := by decide +kernel
theorem dX5_keepNext_67 : decode cX5_keepNext 67 = .ok (.iload 5, 2) := by decide +kernel
theorem dX5_keepNext_69 : decode cX5_keepNext 69 = .ok (.iconst (-1), 1) := by decide +kernel
theorem dX5_keepNext_70 : decode cX5_keepNext 70 = .ok (.if_icmp .ne 7, 3) := by decide +kernel
theorem dX5_keepNext_73 : decode cX5_keepNext 73 = .ok (.iconst (-1), 1) := by decide +kernel
theorem dX5_keepNext_74 : decode cX5_keepNext 74 = .ok (.goto 11, 3) := by decide +kernel
theorem dX5_keepNext_77 : decode cX5_keepNext 77 = .ok (.aload_n 0, 1) := by decide +kernel
theorem dX5_keepNext_78 : decode cX5_keepNext 78 = .ok (.aload_n 1, 1) := by decide +kernel
theorem dX5_keepNext_79 : decode cX5_keepNext 79 = .ok (.iload_n 2, 1) := by decide +kernel
theorem dX5_keepNext_80 : decode cX5_keepNext 80 = .ok (.iconst 1, 1) := by decide +kernel
theorem dX5_keepNext_81 : decode cX5_keepNext 81 = .ok (.iadd, 1) := by decide +kernel
theorem dX5_keepNext_82 : decode cX5_keepNext 82 = .ok (.invokevirtual 86, 3) := by decide +kernel
theorem dX5_keepNext_85 : decode cX5_keepNext 85 = .ok (.istore 6, 2) := by decide +kernel
theorem dX5_keepNext_87 : decode cX5_keepNext 87 = .ok (.iload 6, 2) := by decide +kernel
theorem dX5_keepNext_89 : decode cX5_keepNext 89 = .ok (.iconst (-1), 1) := by decide +kernel
theorem dX5_keepNext_90 : decode cX5_keepNext 90 = .ok (.if_icmp .eq 9, 3) := by decide +kernel
theorem dX5_keepNext_93 : decode cX5_keepNext 93 = .ok (.iload 4, 2) := by decide +kernel
theorem dX5_keepNext_95 : decode cX5_keepNext 95 = .ok (.iconst 3, 1) := by decide +kernel
theorem dX5_keepNext_96 : decode cX5_keepNext 96 = .ok (.if_icmp .ge 7, 3) := by decide +kernel
theorem dX5_keepNext_99 : decode cX5_keepNext 99 = .ok (.iconst (-1), 1) := by decide +kernel
theorem dX5_keepNext_100 : decode cX5_keepNext 100 = .ok (.goto 11, 3) := by decide +kernel
theorem dX5_keepNext_103 : decode cX5_keepNext 103 = .ok (.aload_n 0, 1) := by decide +kernel
theorem dX5_keepNext_104 : decode cX5_keepNext 104 = .ok (.aload_n 1, 1) := by decide +kernel
theorem dX5_keepNext_105 : decode cX5_keepNext 105 = .ok (.iload_n 2, 1) := by decide +kernel
theorem dX5_keepNext_106 : decode cX5_keepNext 106 = .ok (.iconst 1, 1) := by decide +kernel
theorem dX5_keepNext_107 : decode cX5_keepNext 107 = .ok (.iadd, 1) := by decide +kernel
theorem dX5_keepNext_108 : decode cX5_keepNext 108 = .ok (.invokevirtual 86, 3) := by decide +kernel
theorem dX5_keepNext_111 : decode cX5_keepNext 111 = .ok (.istore 7, 2) := by decide +kernel
theorem dX5_keepNext_113 : decode cX5_keepNext 113 = .ok (.iload 6, 2) := by decide +kernel
theorem dX5_keepNext_115 : decode cX5_keepNext 115 = .ok (.iconst (-1), 1) := by decide +kernel
theorem dX5_keepNext_116 : decode cX5_keepNext 116 = .ok (.if_icmp .eq 15, 3) := by decide +kernel
theorem dX5_keepNext_119 : decode cX5_keepNext 119 = .ok (.iload 4, 2) := by decide +kernel
theorem dX5_keepNext_121 : decode cX5_keepNext 121 = .ok (.iconst 3, 1) := by decide +kernel
theorem dX5_keepNext_122 : decode cX5_keepNext 122 = .ok (.if_icmp .ne 11, 3) := by decide +kernel
theorem dX5_keepNext_125 : decode cX5_keepNext 125 = .ok (.iload 7, 2) := by decide +kernel
theorem dX5_keepNext_127 : decode cX5_keepNext 127 = .ok (.iconst (-1), 1) := by decide +kernel
theorem dX5_keepNext_128 : decode cX5_keepNext 128 = .ok (.if_icmp .ne 5, 3) := by decide +kernel
theorem dX5_keepNext_131 : decode cX5_keepNext 131 = .ok (.iconst (-1), 1) := by decide +kernel
theorem dX5_keepNext_132 : decode cX5_keepNext 132 = .ok (.ireturn, 1) := by decide +kernel
theorem dX5_keepNext_133 : decode cX5_keepNext 133 = .ok (.aload_n 0, 1) := by decide +kernel
theorem dX5_keepNext_134 : decode cX5_keepNext 134 = .ok (.aload_n 1, 1) := by decide +kernel
theorem dX5_keepNext_135 : decode cX5_keepNext 135 = .ok (.getfield 81, 3) := by decide +kernel
theorem dX5_keepNext_138 : decode cX5_keepNext 138 = .ok (.iload_n 3, 1) := by decide +kernel
theorem dX5_keepNext_139 : decode cX5_keepNext 139 = .ok (.iaload, 1) := by decide +kernel
theorem dX5_keepNext_140 : decode cX5_keepNext 140 = .ok (.iload 5, 2) := by decide +kernel
theorem dX5_keepNext_142 : decode cX5_keepNext 142 = .ok (.iload 6, 2) := by decide +kernel
theorem dX5_keepNext_144 : decode cX5_keepNext 144 = .ok (.iload 7, 2) := by decide +kernel
theorem dX5_keepNext_146 : decode cX5_keepNext 146 = .ok (.invokevirtual 89, 3) := by decide +kernel
theorem dX5_keepNext_149 : decode cX5_keepNext 149 = .ok (.ireturn, 1) := by decide +kernel
theorem dy_X5_keepNext : DY yX5_keepNext 2 := by decide +kernel
abbrev rm_X5_keepNext (d : Nat) : Room := { frames := 4 * d + 76, cells := 0, slots := 0, locals := 160 * d + 2937 }
theorem ry_X5_keepNext_X4_partsOf {d : Nat} : RY (rm_X5_keepNext (d + 1)) rm_X4_partsOf 1 0 0 := ⟨⟨by show 0 + 1 ≤ 4 * (d + 1) + 76; omega, by show 8 + (1 + 11) + (0) ≤ 160 * (d + 1) + 2937; omega⟩, rfl, rfl, Nat.zero_le _, Nat.zero_le _⟩
theorem ry_X5_keepNext_X5_keep {d : Nat} : RY (rm_X5_keepNext (d + 1)) rm_X5_keep 6 0 0 := ⟨⟨by show 3 + 1 ≤ 4 * (d + 1) + 76; omega, by show 8 + (6 + 11) + (66) ≤ 160 * (d + 1) + 2937; omega⟩, rfl, rfl, Nat.zero_le _, Nat.zero_le _⟩
theorem ry_X5_keepNext_X5_keepLeaf {d : Nat} : RY (rm_X5_keepNext (d + 1)) rm_X5_keepLeaf 5 0 0 := ⟨⟨by show 73 + 1 ≤ 4 * (d + 1) + 76; omega, by show 8 + (5 + 11) + (2853) ≤ 160 * (d + 1) + 2937; omega⟩, rfl, rfl, Nat.zero_le _, Nat.zero_le _⟩
theorem ry_X5_keepNext_X5_keepNext {d : Nat} : RY (rm_X5_keepNext (d + 1)) (rm_X5_keepNext d) 8 0 0 := ⟨⟨by show 4 * d + 76 + 1 ≤ 4 * (d + 1) + 76; omega, by show 8 + (8 + 11) + (160 * d + 2937) ≤ 160 * (d + 1) + 2937; omega⟩, rfl, rfl, Nat.zero_le _, Nat.zero_le _⟩
def j_X5_keepNext_133 (n : Nat) (F : St → Nat → Int32 → Option (St × Int32)) (S : St) (a1 : Nat) (l3 : Int32) (l5 : Int32) (l6 : Int32) (l7 : Int32) : Option (St × Int32) :=
  gI S 151 a1 l3 200 fun v1 =>
  bI (f_X5_keep n S v1 l5 l6 l7) fun S4 v6 =>
  some (S4, v6)
def j_X5_keepNext_111 (n : Nat) (F : St → Nat → Int32 → Option (St × Int32)) (S : St) (a1 : Nat) (l3 : Int32) (l4 : Int32) (l5 : Int32) (l6 : Int32) (s0 : Int32) : Option (St × Int32) :=
  if l6 = (-1) then
    some (S, (-1))
  else
    if l4 = 3 then
      if s0 = (-1) then
        some (S, (-1))
      else
        j_X5_keepNext_133 n F S a1 l3 l5 l6 s0
    else
      j_X5_keepNext_133 n F S a1 l3 l5 l6 s0
def j_X5_keepNext_99 (n : Nat) (F : St → Nat → Int32 → Option (St × Int32)) (S : St) (a1 : Nat) (l3 : Int32) (l4 : Int32) (l5 : Int32) (l6 : Int32) : Option (St × Int32) :=
  j_X5_keepNext_111 n F S a1 l3 l4 l5 l6 (-1)
def j_X5_keepNext_85 (n : Nat) (F : St → Nat → Int32 → Option (St × Int32)) (S : St) (a1 : Nat) (l2 : Int32) (l3 : Int32) (l4 : Int32) (l5 : Int32) (s0 : Int32) : Option (St × Int32) :=
  if s0 = (-1) then
    j_X5_keepNext_99 n F S a1 l3 l4 l5 s0
  else
    if 3 ≤ l4 then
      bI (F S a1 (l2 + 1)) fun S3 v5 =>
      j_X5_keepNext_111 n F S3 a1 l3 l4 l5 s0 v5
    else
      j_X5_keepNext_99 n F S a1 l3 l4 l5 s0
def f_X5_keepNext (n : Nat) (F : St → Nat → Int32 → Option (St × Int32)) (S : St) (a1 : Nat) (a2 : Int32) : Option (St × Int32) :=
  if 100 ≤ a2 then
    some (S, (-1))
  else
    if (S.1 211 0) < (S.1 150 a1) then
      bV (S.1 211 0) fun v3 =>
      pS S 211 0 ((S.1 211 0) + 1) fun S5 =>
      gI S5 151 a1 v3 200 fun v7 =>
      bI (f_X4_partsOf n S5 v7) fun S10 v12 =>
      if v12 = 0 then
        bI (f_X5_keepLeaf n S10 a1 v3) fun S21 v23 =>
        some (S21, v23)
      else
        bI (F S10 a1 (a2 + 1)) fun S14 v16 =>
        if v16 = (-1) then
          j_X5_keepNext_85 n F S14 a1 a2 v3 v12 v16 (-1)
        else
          bI (F S14 a1 (a2 + 1)) fun S18 v20 =>
          j_X5_keepNext_85 n F S18 a1 a2 v3 v12 v16 v20
    else
      some (S, (-1))
set_option maxRecDepth 100000 in
set_option maxHeartbeats 4000000 in
theorem t_X5_keepNext_133 {n : Nat} {d : Nat} {F : St → Nat → Int32 → Option (St × Int32)} {x : XC} (hx : CX x cX5_keepNext 8 RX5) (hR : x_R x = (rm_X5_keepNext (d + 1))) (hKS : ∀ k ∈ KK, k ∈ x_K x) {out : St × Int32} (hE : EI x cX5_keepNext out) (hF : ∀ {S : St} {a1 : Nat} {a2 : Int32} {out : St × Int32} (_ : a1 < 107), F S a1 a2 = some out → MI (x_y x) yX5_keepNext cX5_keepNext 8 (some .int) (rm_X5_keepNext d) S [.ref (x_ad x 0 4 0), .ref (x_ad x 0 3 a1), .int a2] out) {S : St} {a1 : Nat} {l3 : Int32} {l5 : Int32} {l6 : Int32} {l7 : Int32} (h_a1 : a1 < 107) (h : j_X5_keepNext_133 n F S a1 l3 l5 l6 l7 = some out) : WX x 8 0 0 S 133 [(0, .ref (x_ad x 0 4 0)), (1, .ref (x_ad x 0 3 a1)), (3, .int l3), (5, .int l5), (6, .int l6), (7, .int l7)] [] := by
  unfold j_X5_keepNext_133 at h
  refine r_aload_n (k0 := 0) hx dX5_keepNext_133 rfl rfl ?_
  refine r_aload_n (k0 := 1) hx dX5_keepNext_134 rfl rfl ?_
  refine g_151 hx (kr_0 hKS h_a1) wf_X5_81 dX5_keepNext_135 ?_
  refine r_iload_n (k0 := 2) hx dX5_keepNext_138 rfl rfl ?_
  obtain ⟨v1, e2, i3, h⟩ := gI_some h
  refine r_iald hx (kr_151 hKS h_a1) rfl i3 e2 dX5_keepNext_139 ?_
  refine r_iload (k0 := 3) hx dX5_keepNext_140 rfl ?_
  refine r_iload (k0 := 4) hx dX5_keepNext_142 rfl ?_
  refine r_iload (k0 := 5) hx dX5_keepNext_144 rfl ?_
  obtain ⟨S4, v6, c5, h⟩ := bI_some h
  refine r_Vi (ci := 4) (As := [.int v1, .int l5, .int l6, .int l7]) (rest := []) hx (C_X5_keep (c := x_y x) hKS c5) (k_0_4 hKS) rfl wl_X5_89 wi_X5_keep we_X5_keep wn_X5 wc_X5_keep dy_X5_keep rfl (by rw [hR]; exact ry_X5_keepNext_X5_keep) rfl (Nat.le_of_ble_eq_true rfl) dX5_keepNext_146 ?_
  exact r_iret hE h dX5_keepNext_149
set_option maxRecDepth 100000 in
set_option maxHeartbeats 4000000 in
theorem t_X5_keepNext_111 {n : Nat} {d : Nat} {F : St → Nat → Int32 → Option (St × Int32)} {x : XC} (hx : CX x cX5_keepNext 8 RX5) (hR : x_R x = (rm_X5_keepNext (d + 1))) (hKS : ∀ k ∈ KK, k ∈ x_K x) {out : St × Int32} (hE : EI x cX5_keepNext out) (hF : ∀ {S : St} {a1 : Nat} {a2 : Int32} {out : St × Int32} (_ : a1 < 107), F S a1 a2 = some out → MI (x_y x) yX5_keepNext cX5_keepNext 8 (some .int) (rm_X5_keepNext d) S [.ref (x_ad x 0 4 0), .ref (x_ad x 0 3 a1), .int a2] out) {S : St} {a1 : Nat} {l3 : Int32} {l4 : Int32} {l5 : Int32} {l6 : Int32} {s0 : Int32} (h_a1 : a1 < 107) (h : j_X5_keepNext_111 n F S a1 l3 l4 l5 l6 s0 = some out) : WX x 8 0 0 S 111 [(0, .ref (x_ad x 0 4 0)), (1, .ref (x_ad x 0 3 a1)), (3, .int l3), (4, .int l4), (5, .int l5), (6, .int l6)] [.int s0] := by
  unfold j_X5_keepNext_111 at h
  refine r_istore (lv' := [(7, .int s0), (0, .ref (x_ad x 0 4 0)), (1, .ref (x_ad x 0 3 a1)), (3, .int l3), (4, .int l4), (5, .int l5), (6, .int l6)]) hx dX5_keepNext_111 (by decide) rfl ?_
  refine r_iload (k0 := 6) hx dX5_keepNext_113 rfl ?_
  refine r_iconst (v := -1) hx dX5_keepNext_115 (by decide) ?_
  refine r_icmp_eq (tgt := 131) hx dX5_keepNext_116 (by decide) (fun c1 => ?_) (fun c1 => ?_)
  · have h := ite_t h c1
    refine r_iconst (v := -1) hx dX5_keepNext_131 (by decide) ?_
    exact r_iret hE h dX5_keepNext_132
  · have h := ite_f h c1
    refine r_iload (k0 := 4) hx dX5_keepNext_119 rfl ?_
    refine r_iconst (v := 3) hx dX5_keepNext_121 (by decide) ?_
    refine r_icmp_ne (tgt := 133) hx dX5_keepNext_122 (by decide) (fun c2 => ?_) (fun c2 => ?_)
    · have h := ite_f h c2
      refine WX.sub (lv' := [(0, .ref (x_ad x 0 4 0)), (1, .ref (x_ad x 0 3 a1)), (3, .int l3), (5, .int l5), (6, .int l6), (7, .int s0)]) ?_ [1, 2, 3, 5, 6, 0] rfl
      exact t_X5_keepNext_133 hx hR hKS hE hF h_a1 h
    · have h := ite_t h c2
      refine r_iload (k0 := 0) hx dX5_keepNext_125 rfl ?_
      refine r_iconst (v := -1) hx dX5_keepNext_127 (by decide) ?_
      refine r_icmp_ne (tgt := 133) hx dX5_keepNext_128 (by decide) (fun c3 => ?_) (fun c3 => ?_)
      · have h := ite_f h c3
        refine WX.sub (lv' := [(0, .ref (x_ad x 0 4 0)), (1, .ref (x_ad x 0 3 a1)), (3, .int l3), (5, .int l5), (6, .int l6), (7, .int s0)]) ?_ [1, 2, 3, 5, 6, 0] rfl
        exact t_X5_keepNext_133 hx hR hKS hE hF h_a1 h
      · have h := ite_t h c3
        refine r_iconst (v := -1) hx dX5_keepNext_131 (by decide) ?_
        exact r_iret hE h dX5_keepNext_132
set_option maxRecDepth 100000 in
set_option maxHeartbeats 4000000 in
theorem t_X5_keepNext_99 {n : Nat} {d : Nat} {F : St → Nat → Int32 → Option (St × Int32)} {x : XC} (hx : CX x cX5_keepNext 8 RX5) (hR : x_R x = (rm_X5_keepNext (d + 1))) (hKS : ∀ k ∈ KK, k ∈ x_K x) {out : St × Int32} (hE : EI x cX5_keepNext out) (hF : ∀ {S : St} {a1 : Nat} {a2 : Int32} {out : St × Int32} (_ : a1 < 107), F S a1 a2 = some out → MI (x_y x) yX5_keepNext cX5_keepNext 8 (some .int) (rm_X5_keepNext d) S [.ref (x_ad x 0 4 0), .ref (x_ad x 0 3 a1), .int a2] out) {S : St} {a1 : Nat} {l3 : Int32} {l4 : Int32} {l5 : Int32} {l6 : Int32} (h_a1 : a1 < 107) (h : j_X5_keepNext_99 n F S a1 l3 l4 l5 l6 = some out) : WX x 8 0 0 S 99 [(0, .ref (x_ad x 0 4 0)), (1, .ref (x_ad x 0 3 a1)), (3, .int l3), (4, .int l4), (5, .int l5), (6, .int l6)] [] := by
  unfold j_X5_keepNext_99 at h
  refine r_iconst (v := -1) hx dX5_keepNext_99 (by decide) ?_
  refine r_goto (tgt := 111) hx dX5_keepNext_100 (by decide) ?_
  exact t_X5_keepNext_111 hx hR hKS hE hF h_a1 h
set_option maxRecDepth 100000 in
set_option maxHeartbeats 4000000 in
theorem t_X5_keepNext_85 {n : Nat} {d : Nat} {F : St → Nat → Int32 → Option (St × Int32)} {x : XC} (hx : CX x cX5_keepNext 8 RX5) (hR : x_R x = (rm_X5_keepNext (d + 1))) (hKS : ∀ k ∈ KK, k ∈ x_K x) {out : St × Int32} (hE : EI x cX5_keepNext out) (hF : ∀ {S : St} {a1 : Nat} {a2 : Int32} {out : St × Int32} (_ : a1 < 107), F S a1 a2 = some out → MI (x_y x) yX5_keepNext cX5_keepNext 8 (some .int) (rm_X5_keepNext d) S [.ref (x_ad x 0 4 0), .ref (x_ad x 0 3 a1), .int a2] out) {S : St} {a1 : Nat} {l2 : Int32} {l3 : Int32} {l4 : Int32} {l5 : Int32} {s0 : Int32} (h_a1 : a1 < 107) (h : j_X5_keepNext_85 n F S a1 l2 l3 l4 l5 s0 = some out) : WX x 8 0 0 S 85 [(0, .ref (x_ad x 0 4 0)), (1, .ref (x_ad x 0 3 a1)), (2, .int l2), (3, .int l3), (4, .int l4), (5, .int l5)] [.int s0] := by
  unfold j_X5_keepNext_85 at h
  refine r_istore (lv' := [(6, .int s0), (0, .ref (x_ad x 0 4 0)), (1, .ref (x_ad x 0 3 a1)), (2, .int l2), (3, .int l3), (4, .int l4), (5, .int l5)]) hx dX5_keepNext_85 (by decide) rfl ?_
  refine r_iload (k0 := 0) hx dX5_keepNext_87 rfl ?_
  refine r_iconst (v := -1) hx dX5_keepNext_89 (by decide) ?_
  refine r_icmp_eq (tgt := 99) hx dX5_keepNext_90 (by decide) (fun c1 => ?_) (fun c1 => ?_)
  · have h := ite_t h c1
    refine WX.sub (lv' := [(0, .ref (x_ad x 0 4 0)), (1, .ref (x_ad x 0 3 a1)), (3, .int l3), (4, .int l4), (5, .int l5), (6, .int s0)]) ?_ [1, 2, 4, 5, 6, 0] rfl
    exact t_X5_keepNext_99 hx hR hKS hE hF h_a1 h
  · have h := ite_f h c1
    refine r_iload (k0 := 5) hx dX5_keepNext_93 rfl ?_
    refine r_iconst (v := 3) hx dX5_keepNext_95 (by decide) ?_
    refine r_icmp_ge (tgt := 103) hx dX5_keepNext_96 (by decide) (fun c2 => ?_) (fun c2 => ?_)
    · have h := ite_t h c2
      refine r_aload_n (k0 := 1) hx dX5_keepNext_103 rfl rfl ?_
      refine r_aload_n (k0 := 2) hx dX5_keepNext_104 rfl rfl ?_
      refine r_iload_n (k0 := 3) hx dX5_keepNext_105 rfl rfl ?_
      refine r_iconst (v := 1) hx dX5_keepNext_106 (by decide) ?_
      refine r_iadd hx dX5_keepNext_107 ?_
      obtain ⟨S3, v5, c4, h⟩ := bI_some h
      refine r_Vi (ci := 4) (As := [.ref (x_ad x 0 3 a1), .int (l2 + 1)]) (rest := []) hx (hF h_a1 c4) (k_0_4 hKS) rfl wl_X5_86 wi_X5_keepNext we_X5_keepNext wn_X5 wc_X5_keepNext dy_X5_keepNext rfl (by rw [hR]; exact ry_X5_keepNext_X5_keepNext) rfl (Nat.le_of_ble_eq_true rfl) dX5_keepNext_108 ?_
      refine WX.sub (lv' := [(0, .ref (x_ad x 0 4 0)), (1, .ref (x_ad x 0 3 a1)), (3, .int l3), (4, .int l4), (5, .int l5), (6, .int s0)]) ?_ [1, 2, 4, 5, 6, 0] rfl
      exact t_X5_keepNext_111 hx hR hKS hE hF h_a1 h
    · have h := ite_f h c2
      refine WX.sub (lv' := [(0, .ref (x_ad x 0 4 0)), (1, .ref (x_ad x 0 3 a1)), (3, .int l3), (4, .int l4), (5, .int l5), (6, .int s0)]) ?_ [1, 2, 4, 5, 6, 0] rfl
      exact t_X5_keepNext_99 hx hR hKS hE hF h_a1 h
set_option maxRecDepth 100000 in
set_option maxHeartbeats 4000000 in
theorem t_X5_keepNext_0 {n : Nat} {d : Nat} {F : St → Nat → Int32 → Option (St × Int32)} {x : XC} (hx : CX x cX5_keepNext 8 RX5) (hR : x_R x = (rm_X5_keepNext (d + 1))) (hKS : ∀ k ∈ KK, k ∈ x_K x) {out : St × Int32} (hE : EI x cX5_keepNext out) (hF : ∀ {S : St} {a1 : Nat} {a2 : Int32} {out : St × Int32} (_ : a1 < 107), F S a1 a2 = some out → MI (x_y x) yX5_keepNext cX5_keepNext 8 (some .int) (rm_X5_keepNext d) S [.ref (x_ad x 0 4 0), .ref (x_ad x 0 3 a1), .int a2] out) {S : St} {a1 : Nat} {a2 : Int32} (h_a1 : a1 < 107) (h : f_X5_keepNext n F S a1 a2 = some out) : WX x 8 0 0 S 0 [(0, .ref (x_ad x 0 4 0)), (1, .ref (x_ad x 0 3 a1)), (2, .int a2)] [] := by
  unfold f_X5_keepNext at h
  refine r_iload_n (k0 := 2) hx dX5_keepNext_0 rfl rfl ?_
  refine r_bipush (v := 100) hx dX5_keepNext_1 (by decide) ?_
  refine r_icmp_ge (tgt := 17) hx dX5_keepNext_3 (by decide) (fun c1 => ?_) (fun c1 => ?_)
  · have h := ite_t h c1
    refine r_iconst (v := -1) hx dX5_keepNext_17 (by decide) ?_
    exact r_iret hE h dX5_keepNext_18
  · have h := ite_f h c1
    refine r_aload_n (k0 := 0) hx dX5_keepNext_6 rfl rfl ?_
    refine g_211 hx (k_0_4 hKS) wf_X5_76 dX5_keepNext_7 ?_
    refine r_aload_n (k0 := 1) hx dX5_keepNext_10 rfl rfl ?_
    refine g_150 hx (kr_0 hKS h_a1) wf_X5_79 dX5_keepNext_11 ?_
    refine r_icmp_lt (tgt := 19) hx dX5_keepNext_14 (by decide) (fun c2 => ?_) (fun c2 => ?_)
    · have h := ite_t h c2
      refine r_aload_n (k0 := 0) hx dX5_keepNext_19 rfl rfl ?_
      refine g_211 hx (k_0_4 hKS) wf_X5_76 dX5_keepNext_20 ?_
      obtain ⟨v3, e4, h⟩ := bV_some h
      rw [← e4]
      refine r_istore_n (lv' := [(3, .int v3), (0, .ref (x_ad x 0 4 0)), (1, .ref (x_ad x 0 3 a1)), (2, .int a2)]) hx dX5_keepNext_23 rfl (by decide) rfl ?_
      refine r_aload_n (k0 := 1) hx dX5_keepNext_24 rfl rfl ?_
      refine r_dup hx dX5_keepNext_25 rfl ?_
      refine g_211 hx (k_0_4 hKS) wf_X5_76 dX5_keepNext_26 ?_
      refine r_iconst (v := 1) hx dX5_keepNext_29 (by decide) ?_
      refine r_iadd hx dX5_keepNext_30 ?_
      obtain ⟨S5, e6, h⟩ := pS_some h
      refine p_211 hx (k_0_4 hKS) wf_X5_76 dX5_keepNext_31 e6 ?_
      refine r_aload_n (k0 := 2) hx dX5_keepNext_34 rfl rfl ?_
      refine g_151 hx (kr_0 hKS h_a1) wf_X5_81 dX5_keepNext_35 ?_
      refine r_iload_n (k0 := 0) hx dX5_keepNext_38 rfl rfl ?_
      obtain ⟨v7, e8, i9, h⟩ := gI_some h
      refine r_iald hx (kr_151 hKS h_a1) rfl i9 e8 dX5_keepNext_39 ?_
      obtain ⟨S10, v12, c11, h⟩ := bI_some h
      refine r_Si (As := [.int v7]) (rest := []) hx (C_X4_partsOf (c := x_y x) hKS c11) wl_X5_48 wt_X4_partsOf wn_X4 wc_X4_partsOf dy_X4_partsOf rfl (by rw [hR]; exact ry_X5_keepNext_X4_partsOf) rfl (Nat.le_of_ble_eq_true rfl) dX5_keepNext_40 ?_
      refine r_istore (lv' := [(4, .int v12), (3, .int v3), (0, .ref (x_ad x 0 4 0)), (1, .ref (x_ad x 0 3 a1)), (2, .int a2)]) hx dX5_keepNext_43 (by decide) rfl ?_
      refine r_iload (k0 := 0) hx dX5_keepNext_45 rfl ?_
      refine r_if_ne (tgt := 57) hx dX5_keepNext_47 (by decide) (fun c13 => ?_) (fun c13 => ?_)
      · have h := ite_f h c13
        refine r_aload_n (k0 := 2) hx dX5_keepNext_57 rfl rfl ?_
        refine r_aload_n (k0 := 3) hx dX5_keepNext_58 rfl rfl ?_
        refine r_iload_n (k0 := 4) hx dX5_keepNext_59 rfl rfl ?_
        refine r_iconst (v := 1) hx dX5_keepNext_60 (by decide) ?_
        refine r_iadd hx dX5_keepNext_61 ?_
        obtain ⟨S14, v16, c15, h⟩ := bI_some h
        refine r_Vi (ci := 4) (As := [.ref (x_ad x 0 3 a1), .int (a2 + 1)]) (rest := []) hx (hF h_a1 c15) (k_0_4 hKS) rfl wl_X5_86 wi_X5_keepNext we_X5_keepNext wn_X5 wc_X5_keepNext dy_X5_keepNext rfl (by rw [hR]; exact ry_X5_keepNext_X5_keepNext) rfl (Nat.le_of_ble_eq_true rfl) dX5_keepNext_62 ?_
        refine r_istore (lv' := [(5, .int v16), (4, .int v12), (3, .int v3), (0, .ref (x_ad x 0 4 0)), (1, .ref (x_ad x 0 3 a1)), (2, .int a2)]) hx dX5_keepNext_65 (by decide) rfl ?_
        refine r_iload (k0 := 0) hx dX5_keepNext_67 rfl ?_
        refine r_iconst (v := -1) hx dX5_keepNext_69 (by decide) ?_
        refine r_icmp_ne (tgt := 77) hx dX5_keepNext_70 (by decide) (fun c17 => ?_) (fun c17 => ?_)
        · have h := ite_f h c17
          refine r_aload_n (k0 := 3) hx dX5_keepNext_77 rfl rfl ?_
          refine r_aload_n (k0 := 4) hx dX5_keepNext_78 rfl rfl ?_
          refine r_iload_n (k0 := 5) hx dX5_keepNext_79 rfl rfl ?_
          refine r_iconst (v := 1) hx dX5_keepNext_80 (by decide) ?_
          refine r_iadd hx dX5_keepNext_81 ?_
          obtain ⟨S18, v20, c19, h⟩ := bI_some h
          refine r_Vi (ci := 4) (As := [.ref (x_ad x 0 3 a1), .int (a2 + 1)]) (rest := []) hx (hF h_a1 c19) (k_0_4 hKS) rfl wl_X5_86 wi_X5_keepNext we_X5_keepNext wn_X5 wc_X5_keepNext dy_X5_keepNext rfl (by rw [hR]; exact ry_X5_keepNext_X5_keepNext) rfl (Nat.le_of_ble_eq_true rfl) dX5_keepNext_82 ?_
          refine WX.sub (lv' := [(0, .ref (x_ad x 0 4 0)), (1, .ref (x_ad x 0 3 a1)), (2, .int a2), (3, .int v3), (4, .int v12), (5, .int v16)]) ?_ [3, 4, 5, 2, 1, 0] rfl
          exact t_X5_keepNext_85 hx hR hKS hE hF h_a1 h
        · have h := ite_t h c17
          refine r_iconst (v := -1) hx dX5_keepNext_73 (by decide) ?_
          refine r_goto (tgt := 85) hx dX5_keepNext_74 (by decide) ?_
          refine WX.sub (lv' := [(0, .ref (x_ad x 0 4 0)), (1, .ref (x_ad x 0 3 a1)), (2, .int a2), (3, .int v3), (4, .int v12), (5, .int v16)]) ?_ [3, 4, 5, 2, 1, 0] rfl
          exact t_X5_keepNext_85 hx hR hKS hE hF h_a1 h
      · have h := ite_t h c13
        refine r_aload_n (k0 := 2) hx dX5_keepNext_50 rfl rfl ?_
        refine r_aload_n (k0 := 3) hx dX5_keepNext_51 rfl rfl ?_
        refine r_iload_n (k0 := 1) hx dX5_keepNext_52 rfl rfl ?_
        obtain ⟨S21, v23, c22, h⟩ := bI_some h
        refine r_Vi (ci := 4) (As := [.ref (x_ad x 0 3 a1), .int v3]) (rest := []) hx (C_X5_keepLeaf (c := x_y x) hKS h_a1 c22) (k_0_4 hKS) rfl wl_X5_82 wi_X5_keepLeaf we_X5_keepLeaf wn_X5 wc_X5_keepLeaf dy_X5_keepLeaf rfl (by rw [hR]; exact ry_X5_keepNext_X5_keepLeaf) rfl (Nat.le_of_ble_eq_true rfl) dX5_keepNext_53 ?_
        exact r_iret hE h dX5_keepNext_56
    · have h := ite_f h c2
      refine r_iconst (v := -1) hx dX5_keepNext_17 (by decide) ?_
      exact r_iret hE h dX5_keepNext_18
def k_X5_keepNext (n : Nat) : Nat → St → Nat → Int32 → Option (St × Int32)
  | 0, _, _, _ => none
  | d + 1, S, a1, a2 => f_X5_keepNext n (k_X5_keepNext n d) S a1 a2
set_option maxHeartbeats 4000000 in
theorem D_X5_keepNext {n : Nat} {c : YC} (hKS : ∀ k ∈ KK, k ∈ c.2.2.2.2) : ∀ {d : Nat} {S : St} {a1 : Nat} {a2 : Int32} {out : St × Int32} (h_a1 : a1 < 107) (h : k_X5_keepNext n d S a1 a2 = some out), MI c yX5_keepNext cX5_keepNext 8 (some .int) (rm_X5_keepNext d) S [.ref (c.2.2.1 0 4 0), .ref (c.2.2.1 0 3 a1), .int a2] out := by
  intro d
  induction d with
  | zero => intro S a1 a2 out h_a1 h; cases h
  | succ d ih =>
    intro S a1 a2 out h_a1 h
    exact mk_I (own := RX5) (by decide +kernel) rfl (Nat.le_of_ble_eq_true rfl) (fun x hx hR hy hE => by subst hy; exact t_X5_keepNext_0 hx hR hKS hE ih h_a1 h)
