theorem dX2_add_0 : decode cX2_add 0 = .ok (.aload_n 0, 1) := by decide +kernel
theorem dX2_add_1 : decode cX2_add 1 = .ok (.getfield 21, 3) := by decide +kernel
theorem dX2_add_4 : decode cX2_add 4 = .ok (.bipush 40, 2) := by decide +kernel
theorem dX2_add_6 : decode cX2_add 6 = .ok (.if_icmp .lt 5, 3) := by decide +kernel
theorem dX2_add_9 : decode cX2_add 9 = .ok (.iconst (-1), 1) := by decide +kernel
theorem dX2_add_10 : decode cX2_add 10 = .ok (.ireturn, 1) := by decide +kernel
theorem dX2_add_11 : decode cX2_add 11 = .ok (.aload_n 0, 1) := by decide +kernel
theorem dX2_add_12 : decode cX2_add 12 = .ok (.getfield 9, 3) := by decide +kernel
theorem dX2_add_15 : decode cX2_add 15 = .ok (.aload_n 0, 1) := by decide +kernel
theorem dX2_add_16 : decode cX2_add 16 = .ok (.getfield 21, 3) := by decide +kernel
theorem dX2_add_19 : decode cX2_add 19 = .ok (.iload_n 1, 1) := by decide +kernel
theorem dX2_add_20 : decode cX2_add 20 = .ok (.iastore, 1) := by decide +kernel
theorem dX2_add_21 : decode cX2_add 21 = .ok (.aload_n 0, 1) := by decide +kernel
theorem dX2_add_22 : decode cX2_add 22 = .ok (.getfield 15, 3) := by decide +kernel
theorem dX2_add_25 : decode cX2_add 25 = .ok (.aload_n 0, 1) := by decide +kernel
theorem dX2_add_26 : decode cX2_add 26 = .ok (.getfield 21, 3) := by decide +kernel
theorem dX2_add_29 : decode cX2_add 29 = .ok (.iload_n 2, 1) := by decide +kernel
theorem dX2_add_30 : decode cX2_add 30 = .ok (.iastore, 1) := by decide +kernel
theorem dX2_add_31 : decode cX2_add 31 = .ok (.aload_n 0, 1) := by decide +kernel
theorem dX2_add_32 : decode cX2_add 32 = .ok (.getfield 18, 3) := by decide +kernel
theorem dX2_add_35 : decode cX2_add 35 = .ok (.aload_n 0, 1) := by decide +kernel
theorem dX2_add_36 : decode cX2_add 36 = .ok (.getfield 21, 3) := by decide +kernel
theorem dX2_add_39 : decode cX2_add 39 = .ok (.iload_n 3, 1) := by decide +kernel
theorem dX2_add_40 : decode cX2_add 40 = .ok (.iastore, 1) := by decide +kernel
theorem dX2_add_41 : decode cX2_add 41 = .ok (.aload_n 0, 1) := by decide +kernel
theorem dX2_add_42 : decode cX2_add 42 = .ok (.dup, 1) := by decide +kernel
theorem dX2_add_43 : decode cX2_add 43 = .ok (.getfield 21, 3) := by decide +kernel
theorem dX2_add_46 : decode cX2_add 46 = .ok (.iconst 1, 1) := by decide +kernel
theorem dX2_add_47 : decode cX2_add 47 = .ok (.iadd, 1) := by decide +kernel
theorem dX2_add_48 : decode cX2_add 48 = .ok (.putfield 21, 3) := by decide +kernel
theorem dX2_add_51 : decode cX2_add 51 = .ok (.aload_n 0, 1) := by decide +kernel
theorem dX2_add_52 : decode cX2_add 52 = .ok (.getfield 21, 3) := by decide +kernel
theorem dX2_add_55 : decode cX2_add 55 = .ok (.iconst 1, 1) := by decide +kernel
theorem dX2_add_56 : decode cX2_add 56 = .ok (.isub, 1) := by decide +kernel
theorem dX2_add_57 : decode cX2_add 57 = .ok (.ireturn, 1) := by decide +kernel
theorem dy_X2_add : DY yX2_add 3 := by decide +kernel
abbrev rm_X2_add : Room := { frames := 0, cells := 0, slots := 0, locals := 0 }
def f_X2_add (n : Nat) (S : St) (a1 : Int32) (a2 : Int32) (a3 : Int32) : Option (St × Int32) :=
  if (S.1 50 0) < 40 then
    pI S 51 0 (S.1 50 0) 40 a1 fun S2 =>
    pI S2 52 0 (S2.1 50 0) 40 a2 fun S5 =>
    pI S5 53 0 (S5.1 50 0) 40 a3 fun S8 =>
    pS S8 50 0 ((S8.1 50 0) + 1) fun S11 =>
    some (S11, ((S11.1 50 0) - 1))
  else
    some (S, (-1))
set_option maxRecDepth 100000 in
set_option maxHeartbeats 4000000 in
theorem t_X2_add_0 {n : Nat} {x : XC} (hx : CX x cX2_add 4 RX2) (hR : x_R x = rm_X2_add) (hKS : ∀ k ∈ KK, k ∈ x_K x) {out : St × Int32} (hE : EI x cX2_add out) {S : St} {a1 : Int32} {a2 : Int32} {a3 : Int32} (h : f_X2_add n S a1 a2 a3 = some out) : WX x 4 0 0 S 0 [(0, .ref (x_ad x 0 1 0)), (1, .int a1), (2, .int a2), (3, .int a3)] [] := by
  unfold f_X2_add at h
  refine r_aload_n (k0 := 0) hx dX2_add_0 rfl rfl ?_
  refine g_50 hx (k_0_1 hKS) wf_X2_21 dX2_add_1 ?_
  refine r_bipush (v := 40) hx dX2_add_4 (by decide) ?_
  refine r_icmp_lt (tgt := 11) hx dX2_add_6 (by decide) (fun c1 => ?_) (fun c1 => ?_)
  · have h := ite_t h c1
    refine r_aload_n (k0 := 0) hx dX2_add_11 rfl rfl ?_
    refine g_51 hx (k_0_1 hKS) wf_X2_9 dX2_add_12 ?_
    refine r_aload_n (k0 := 0) hx dX2_add_15 rfl rfl ?_
    refine g_50 hx (k_0_1 hKS) wf_X2_21 dX2_add_16 ?_
    refine r_iload_n (k0 := 1) hx dX2_add_19 rfl rfl ?_
    obtain ⟨S2, e3, i4, h⟩ := pI_some h
    refine r_iast hx (k_1_51 hKS) rfl i4 e3 dX2_add_20 ?_
    refine r_aload_n (k0 := 0) hx dX2_add_21 rfl rfl ?_
    refine g_52 hx (k_0_1 hKS) wf_X2_15 dX2_add_22 ?_
    refine r_aload_n (k0 := 0) hx dX2_add_25 rfl rfl ?_
    refine g_50 hx (k_0_1 hKS) wf_X2_21 dX2_add_26 ?_
    refine r_iload_n (k0 := 2) hx dX2_add_29 rfl rfl ?_
    obtain ⟨S5, e6, i7, h⟩ := pI_some h
    refine r_iast hx (k_1_52 hKS) rfl i7 e6 dX2_add_30 ?_
    refine r_aload_n (k0 := 0) hx dX2_add_31 rfl rfl ?_
    refine g_53 hx (k_0_1 hKS) wf_X2_18 dX2_add_32 ?_
    refine r_aload_n (k0 := 0) hx dX2_add_35 rfl rfl ?_
    refine g_50 hx (k_0_1 hKS) wf_X2_21 dX2_add_36 ?_
    refine r_iload_n (k0 := 3) hx dX2_add_39 rfl rfl ?_
    obtain ⟨S8, e9, i10, h⟩ := pI_some h
    refine r_iast hx (k_1_53 hKS) rfl i10 e9 dX2_add_40 ?_
    refine r_aload_n (k0 := 0) hx dX2_add_41 rfl rfl ?_
    refine r_dup hx dX2_add_42 rfl ?_
    refine g_50 hx (k_0_1 hKS) wf_X2_21 dX2_add_43 ?_
    refine r_iconst (v := 1) hx dX2_add_46 (by decide) ?_
    refine r_iadd hx dX2_add_47 ?_
    obtain ⟨S11, e12, h⟩ := pS_some h
    refine p_50 hx (k_0_1 hKS) wf_X2_21 dX2_add_48 e12 ?_
    refine r_aload_n (k0 := 0) hx dX2_add_51 rfl rfl ?_
    refine g_50 hx (k_0_1 hKS) wf_X2_21 dX2_add_52 ?_
    refine r_iconst (v := 1) hx dX2_add_55 (by decide) ?_
    refine r_isub hx dX2_add_56 ?_
    exact r_iret hE h dX2_add_57
  · have h := ite_f h c1
    refine r_iconst (v := -1) hx dX2_add_9 (by decide) ?_
    exact r_iret hE h dX2_add_10
set_option maxHeartbeats 4000000 in
theorem C_X2_add {n : Nat} {c : YC} (hKS : ∀ k ∈ KK, k ∈ c.2.2.2.2) {S : St} {a1 : Int32} {a2 : Int32} {a3 : Int32} {out : St × Int32} (h : f_X2_add n S a1 a2 a3 = some out) : MI c yX2_add cX2_add 4 (some .int) rm_X2_add S [.ref (c.2.2.1 0 1 0), .int a1, .int a2, .int a3] out := mk_I (own := RX2) (by decide +kernel) rfl (Nat.le_of_ble_eq_true rfl) (fun x hx hR hy hE => by subst hy; exact t_X2_add_0 hx hR hKS hE h)
theorem dX2_typeOf_0 : decode cX2_typeOf 0 = .ok (.iload_n 1, 1) := by decide +kernel
theorem dX2_typeOf_1 : decode cX2_typeOf 1 = .ok (.ifCond .lt 20, 3) := by decide +kernel
theorem dX2_typeOf_4 : decode cX2_typeOf 4 = .ok (.iload_n 1, 1) := by decide +kernel
theorem dX2_typeOf_5 : decode cX2_typeOf 5 = .ok (.aload_n 0, 1) := by decide +kernel
theorem dX2_typeOf_6 : decode cX2_typeOf 6 = .ok (.getfield 21, 3) := by decide +kernel
theorem dX2_typeOf_9 : decode cX2_typeOf 9 = .ok (.if_icmp .ge 12, 3) := by decide +kernel
theorem dX2_typeOf_12 : decode cX2_typeOf 12 = .ok (.aload_n 0, 1) := by decide +kernel
theorem dX2_typeOf_13 : decode cX2_typeOf 13 = .ok (.getfield 15, 3) := by decide +kernel
theorem dX2_typeOf_16 : decode cX2_typeOf 16 = .ok (.iload_n 1, 1) := by decide +kernel
theorem dX2_typeOf_17 : decode cX2_typeOf 17 = .ok (.iaload, 1) := by decide +kernel
theorem dX2_typeOf_18 : decode cX2_typeOf 18 = .ok (.goto 4, 3) := by decide +kernel
theorem dX2_typeOf_21 : decode cX2_typeOf 21 = .ok (.iconst (-1), 1) := by decide +kernel
theorem dX2_typeOf_22 : decode cX2_typeOf 22 = .ok (.ireturn, 1) := by decide +kernel
theorem dy_X2_typeOf : DY yX2_typeOf 1 := by decide +kernel
abbrev rm_X2_typeOf : Room := { frames := 0, cells := 0, slots := 0, locals := 0 }
def f_X2_typeOf (n : Nat) (S : St) (a1 : Int32) : Option (St × Int32) :=
  if a1 < 0 then
    some (S, (-1))
  else
    if (S.1 50 0) ≤ a1 then
      some (S, (-1))
    else
      gI S 52 0 a1 40 fun v3 =>
      some (S, v3)
set_option maxRecDepth 100000 in
set_option maxHeartbeats 4000000 in
theorem t_X2_typeOf_0 {n : Nat} {x : XC} (hx : CX x cX2_typeOf 2 RX2) (hR : x_R x = rm_X2_typeOf) (hKS : ∀ k ∈ KK, k ∈ x_K x) {out : St × Int32} (hE : EI x cX2_typeOf out) {S : St} {a1 : Int32} (h : f_X2_typeOf n S a1 = some out) : WX x 2 0 0 S 0 [(0, .ref (x_ad x 0 1 0)), (1, .int a1)] [] := by
  unfold f_X2_typeOf at h
  refine r_iload_n (k0 := 1) hx dX2_typeOf_0 rfl rfl ?_
  refine r_if_lt (tgt := 21) hx dX2_typeOf_1 (by decide) (fun c1 => ?_) (fun c1 => ?_)
  · have h := ite_t h c1
    refine r_iconst (v := -1) hx dX2_typeOf_21 (by decide) ?_
    exact r_iret hE h dX2_typeOf_22
  · have h := ite_f h c1
    refine r_iload_n (k0 := 1) hx dX2_typeOf_4 rfl rfl ?_
    refine r_aload_n (k0 := 0) hx dX2_typeOf_5 rfl rfl ?_
    refine g_50 hx (k_0_1 hKS) wf_X2_21 dX2_typeOf_6 ?_
    refine r_icmp_ge (tgt := 21) hx dX2_typeOf_9 (by decide) (fun c2 => ?_) (fun c2 => ?_)
    · have h := ite_t h c2
      refine r_iconst (v := -1) hx dX2_typeOf_21 (by decide) ?_
      exact r_iret hE h dX2_typeOf_22
    · have h := ite_f h c2
      refine r_aload_n (k0 := 0) hx dX2_typeOf_12 rfl rfl ?_
      refine g_52 hx (k_0_1 hKS) wf_X2_15 dX2_typeOf_13 ?_
      refine r_iload_n (k0 := 1) hx dX2_typeOf_16 rfl rfl ?_
      obtain ⟨v3, e4, i5, h⟩ := gI_some h
      refine r_iald hx (k_1_52 hKS) rfl i5 e4 dX2_typeOf_17 ?_
      refine r_goto (tgt := 22) hx dX2_typeOf_18 (by decide) ?_
      exact r_iret hE h dX2_typeOf_22
set_option maxHeartbeats 4000000 in
theorem C_X2_typeOf {n : Nat} {c : YC} (hKS : ∀ k ∈ KK, k ∈ c.2.2.2.2) {S : St} {a1 : Int32} {out : St × Int32} (h : f_X2_typeOf n S a1 = some out) : MI c yX2_typeOf cX2_typeOf 2 (some .int) rm_X2_typeOf S [.ref (c.2.2.1 0 1 0), .int a1] out := mk_I (own := RX2) (by decide +kernel) rfl (Nat.le_of_ble_eq_true rfl) (fun x hx hR hy hE => by subst hy; exact t_X2_typeOf_0 hx hR hKS hE h)
theorem dX2_valueOf_0 : decode cX2_valueOf 0 = .ok (.iload_n 1, 1) := by decide +kernel
theorem dX2_valueOf_1 : decode cX2_valueOf 1 = .ok (.ifCond .lt 20, 3) := by decide +kernel
theorem dX2_valueOf_4 : decode cX2_valueOf 4 = .ok (.iload_n 1, 1) := by decide +kernel
theorem dX2_valueOf_5 : decode cX2_valueOf 5 = .ok (.aload_n 0, 1) := by decide +kernel
theorem dX2_valueOf_6 : decode cX2_valueOf 6 = .ok (.getfield 21, 3) := by decide +kernel
theorem dX2_valueOf_9 : decode cX2_valueOf 9 = .ok (.if_icmp .ge 12, 3) := by decide +kernel
theorem dX2_valueOf_12 : decode cX2_valueOf 12 = .ok (.aload_n 0, 1) := by decide +kernel
theorem dX2_valueOf_13 : decode cX2_valueOf 13 = .ok (.getfield 18, 3) := by decide +kernel
theorem dX2_valueOf_16 : decode cX2_valueOf 16 = .ok (.iload_n 1, 1) := by decide +kernel
theorem dX2_valueOf_17 : decode cX2_valueOf 17 = .ok (.iaload, 1) := by decide +kernel
theorem dX2_valueOf_18 : decode cX2_valueOf 18 = .ok (.goto 4, 3) := by decide +kernel
theorem dX2_valueOf_21 : decode cX2_valueOf 21 = .ok (.iconst (-1), 1) := by decide +kernel
theorem dX2_valueOf_22 : decode cX2_valueOf 22 = .ok (.ireturn, 1) := by decide +kernel
theorem dy_X2_valueOf : DY yX2_valueOf 1 := by decide +kernel
abbrev rm_X2_valueOf : Room := { frames := 0, cells := 0, slots := 0, locals := 0 }
def f_X2_valueOf (n : Nat) (S : St) (a1 : Int32) : Option (St × Int32) :=
  if a1 < 0 then
    some (S, (-1))
  else
    if (S.1 50 0) ≤ a1 then
      some (S, (-1))
    else
      gI S 53 0 a1 40 fun v3 =>
      some (S, v3)
set_option maxRecDepth 100000 in
set_option maxHeartbeats 4000000 in
theorem t_X2_valueOf_0 {n : Nat} {x : XC} (hx : CX x cX2_valueOf 2 RX2) (hR : x_R x = rm_X2_valueOf) (hKS : ∀ k ∈ KK, k ∈ x_K x) {out : St × Int32} (hE : EI x cX2_valueOf out) {S : St} {a1 : Int32} (h : f_X2_valueOf n S a1 = some out) : WX x 2 0 0 S 0 [(0, .ref (x_ad x 0 1 0)), (1, .int a1)] [] := by
  unfold f_X2_valueOf at h
  refine r_iload_n (k0 := 1) hx dX2_valueOf_0 rfl rfl ?_
  refine r_if_lt (tgt := 21) hx dX2_valueOf_1 (by decide) (fun c1 => ?_) (fun c1 => ?_)
  · have h := ite_t h c1
    refine r_iconst (v := -1) hx dX2_valueOf_21 (by decide) ?_
    exact r_iret hE h dX2_valueOf_22
  · have h := ite_f h c1
    refine r_iload_n (k0 := 1) hx dX2_valueOf_4 rfl rfl ?_
    refine r_aload_n (k0 := 0) hx dX2_valueOf_5 rfl rfl ?_
    refine g_50 hx (k_0_1 hKS) wf_X2_21 dX2_valueOf_6 ?_
    refine r_icmp_ge (tgt := 21) hx dX2_valueOf_9 (by decide) (fun c2 => ?_) (fun c2 => ?_)
    · have h := ite_t h c2
      refine r_iconst (v := -1) hx dX2_valueOf_21 (by decide) ?_
      exact r_iret hE h dX2_valueOf_22
    · have h := ite_f h c2
      refine r_aload_n (k0 := 0) hx dX2_valueOf_12 rfl rfl ?_
      refine g_53 hx (k_0_1 hKS) wf_X2_18 dX2_valueOf_13 ?_
      refine r_iload_n (k0 := 1) hx dX2_valueOf_16 rfl rfl ?_
      obtain ⟨v3, e4, i5, h⟩ := gI_some h
      refine r_iald hx (k_1_53 hKS) rfl i5 e4 dX2_valueOf_17 ?_
      refine r_goto (tgt := 22) hx dX2_valueOf_18 (by decide) ?_
      exact r_iret hE h dX2_valueOf_22
set_option maxHeartbeats 4000000 in
theorem C_X2_valueOf {n : Nat} {c : YC} (hKS : ∀ k ∈ KK, k ∈ c.2.2.2.2) {S : St} {a1 : Int32} {out : St × Int32} (h : f_X2_valueOf n S a1 = some out) : MI c yX2_valueOf cX2_valueOf 2 (some .int) rm_X2_valueOf S [.ref (c.2.2.1 0 1 0), .int a1] out := mk_I (own := RX2) (by decide +kernel) rfl (Nat.le_of_ble_eq_true rfl) (fun x hx hR hy hE => by subst hy; exact t_X2_valueOf_0 hx hR hKS hE h)
