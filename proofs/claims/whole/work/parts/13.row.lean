theorem dX4_partsOf_0 : decode cX4_partsOf 0 = .ok (.iload_n 0, 1) := by decide +kernel
theorem dX4_partsOf_1 : decode cX4_partsOf 1 = .ok (.bipush 6, 2) := by decide +kernel
theorem dX4_partsOf_3 : decode cX4_partsOf 3 = .ok (.if_icmp .ne 7, 3) := by decide +kernel
theorem dX4_partsOf_6 : decode cX4_partsOf 6 = .ok (.iconst 3, 1) := by decide +kernel
theorem dX4_partsOf_7 : decode cX4_partsOf 7 = .ok (.goto 23, 3) := by decide +kernel
theorem dX4_partsOf_10 : decode cX4_partsOf 10 = .ok (.iload_n 0, 1) := by decide +kernel
theorem dX4_partsOf_11 : decode cX4_partsOf 11 = .ok (.iconst 3, 1) := by decide +kernel
theorem dX4_partsOf_12 : decode cX4_partsOf 12 = .ok (.if_icmp .eq 13, 3) := by decide +kernel
theorem dX4_partsOf_15 : decode cX4_partsOf 15 = .ok (.iload_n 0, 1) := by decide +kernel
theorem dX4_partsOf_16 : decode cX4_partsOf 16 = .ok (.iconst 4, 1) := by decide +kernel
theorem dX4_partsOf_17 : decode cX4_partsOf 17 = .ok (.if_icmp .eq 8, 3) := by decide +kernel
theorem dX4_partsOf_20 : decode cX4_partsOf 20 = .ok (.iload_n 0, 1) := by decide +kernel
theorem dX4_partsOf_21 : decode cX4_partsOf 21 = .ok (.iconst 5, 1) := by decide +kernel
theorem dX4_partsOf_22 : decode cX4_partsOf 22 = .ok (.if_icmp .ne 7, 3) := by decide +kernel
theorem dX4_partsOf_25 : decode cX4_partsOf 25 = .ok (.iconst 2, 1) := by decide +kernel
theorem dX4_partsOf_26 : decode cX4_partsOf 26 = .ok (.goto 4, 3) := by decide +kernel
theorem dX4_partsOf_29 : decode cX4_partsOf 29 = .ok (.iconst 0, 1) := by decide +kernel
theorem dX4_partsOf_30 : decode cX4_partsOf 30 = .ok (.ireturn, 1) := by decide +kernel
theorem dy_X4_partsOf : DY yX4_partsOf 1 := by decide +kernel
abbrev rm_X4_partsOf : Room := { frames := 0, cells := 0, slots := 0, locals := 0 }
def f_X4_partsOf (n : Nat) (S : St) (a1 : Int32) : Option (St × Int32) :=
  if a1 = 6 then
    some (S, 3)
  else
    if a1 = 3 then
      some (S, 2)
    else
      if a1 = 4 then
        some (S, 2)
      else
        if a1 = 5 then
          some (S, 2)
        else
          some (S, 0)
set_option maxRecDepth 100000 in
set_option maxHeartbeats 4000000 in
theorem t_X4_partsOf_0 {n : Nat} {x : XC} (hx : CX x cX4_partsOf 1 RX4) (hR : x_R x = rm_X4_partsOf) (hKS : ∀ k ∈ KK, k ∈ x_K x) {out : St × Int32} (hE : EI x cX4_partsOf out) {S : St} {a1 : Int32} (h : f_X4_partsOf n S a1 = some out) : WX x 1 0 0 S 0 [(0, .int a1)] [] := by
  unfold f_X4_partsOf at h
  refine r_iload_n (k0 := 0) hx dX4_partsOf_0 rfl rfl ?_
  refine r_bipush (v := 6) hx dX4_partsOf_1 (by decide) ?_
  refine r_icmp_ne (tgt := 10) hx dX4_partsOf_3 (by decide) (fun c1 => ?_) (fun c1 => ?_)
  · have h := ite_f h c1
    refine r_iload_n (k0 := 0) hx dX4_partsOf_10 rfl rfl ?_
    refine r_iconst (v := 3) hx dX4_partsOf_11 (by decide) ?_
    refine r_icmp_eq (tgt := 25) hx dX4_partsOf_12 (by decide) (fun c2 => ?_) (fun c2 => ?_)
    · have h := ite_t h c2
      refine r_iconst (v := 2) hx dX4_partsOf_25 (by decide) ?_
      refine r_goto (tgt := 30) hx dX4_partsOf_26 (by decide) ?_
      exact r_iret hE h dX4_partsOf_30
    · have h := ite_f h c2
      refine r_iload_n (k0 := 0) hx dX4_partsOf_15 rfl rfl ?_
      refine r_iconst (v := 4) hx dX4_partsOf_16 (by decide) ?_
      refine r_icmp_eq (tgt := 25) hx dX4_partsOf_17 (by decide) (fun c3 => ?_) (fun c3 => ?_)
      · have h := ite_t h c3
        refine r_iconst (v := 2) hx dX4_partsOf_25 (by decide) ?_
        refine r_goto (tgt := 30) hx dX4_partsOf_26 (by decide) ?_
        exact r_iret hE h dX4_partsOf_30
      · have h := ite_f h c3
        refine r_iload_n (k0 := 0) hx dX4_partsOf_20 rfl rfl ?_
        refine r_iconst (v := 5) hx dX4_partsOf_21 (by decide) ?_
        refine r_icmp_ne (tgt := 29) hx dX4_partsOf_22 (by decide) (fun c4 => ?_) (fun c4 => ?_)
        · have h := ite_f h c4
          refine r_iconst (v := 0) hx dX4_partsOf_29 (by decide) ?_
          exact r_iret hE h dX4_partsOf_30
        · have h := ite_t h c4
          refine r_iconst (v := 2) hx dX4_partsOf_25 (by decide) ?_
          refine r_goto (tgt := 30) hx dX4_partsOf_26 (by decide) ?_
          exact r_iret hE h dX4_partsOf_30
  · have h := ite_t h c1
    refine r_iconst (v := 3) hx dX4_partsOf_6 (by decide) ?_
    refine r_goto (tgt := 30) hx dX4_partsOf_7 (by decide) ?_
    exact r_iret hE h dX4_partsOf_30
set_option maxHeartbeats 4000000 in
theorem C_X4_partsOf {n : Nat} {c : YC} (hKS : ∀ k ∈ KK, k ∈ c.2.2.2.2) {S : St} {a1 : Int32} {out : St × Int32} (h : f_X4_partsOf n S a1 = some out) : MI c yX4_partsOf cX4_partsOf 1 (some .int) rm_X4_partsOf S [.int a1] out := mk_I (own := RX4) (by decide +kernel) rfl (Nat.le_of_ble_eq_true rfl) (fun x hx hR hy hE => by subst hy; exact t_X4_partsOf_0 hx hR hKS hE h)
theorem dX4_kindAt_0 : decode cX4_kindAt 0 = .ok (.iload_n 1, 1) := by decide +kernel
theorem dX4_kindAt_1 : decode cX4_kindAt 1 = .ok (.ifCond .lt 20, 3) := by decide +kernel
theorem dX4_kindAt_4 : decode cX4_kindAt 4 = .ok (.iload_n 1, 1) := by decide +kernel
theorem dX4_kindAt_5 : decode cX4_kindAt 5 = .ok (.aload_n 0, 1) := by decide +kernel
theorem dX4_kindAt_6 : decode cX4_kindAt 6 = .ok (.getfield 28, 3) := by decide +kernel
theorem dX4_kindAt_9 : decode cX4_kindAt 9 = .ok (.if_icmp .ge 12, 3) := by decide +kernel
theorem dX4_kindAt_12 : decode cX4_kindAt 12 = .ok (.aload_n 0, 1) := by decide +kernel
theorem dX4_kindAt_13 : decode cX4_kindAt 13 = .ok (.getfield 9, 3) := by decide +kernel
theorem dX4_kindAt_16 : decode cX4_kindAt 16 = .ok (.iload_n 1, 1) := by decide +kernel
theorem dX4_kindAt_17 : decode cX4_kindAt 17 = .ok (.iaload, 1) := by decide +kernel
theorem dX4_kindAt_18 : decode cX4_kindAt 18 = .ok (.goto 4, 3) := by decide +kernel
theorem dX4_kindAt_21 : decode cX4_kindAt 21 = .ok (.iconst (-1), 1) := by decide +kernel
theorem dX4_kindAt_22 : decode cX4_kindAt 22 = .ok (.ireturn, 1) := by decide +kernel
theorem dy_X4_kindAt : DY yX4_kindAt 1 := by decide +kernel
abbrev rm_X4_kindAt : Room := { frames := 0, cells := 0, slots := 0, locals := 0 }
def f_X4_kindAt (n : Nat) (S : St) (j : Nat) (a1 : Int32) : Option (St × Int32) :=
  if a1 < 0 then
    some (S, (-1))
  else
    if (S.1 150 j) ≤ a1 then
      some (S, (-1))
    else
      gI S 151 j a1 200 fun v3 =>
      some (S, v3)
set_option maxRecDepth 100000 in
set_option maxHeartbeats 4000000 in
theorem t_X4_kindAt_0 {n : Nat} {x : XC} (hx : CX x cX4_kindAt 2 RX4) (hR : x_R x = rm_X4_kindAt) (hKS : ∀ k ∈ KK, k ∈ x_K x) {out : St × Int32} (hE : EI x cX4_kindAt out) {S : St} {j : Nat} {a1 : Int32} (h_j : j < 107) (h : f_X4_kindAt n S j a1 = some out) : WX x 2 0 0 S 0 [(0, .ref (x_ad x 0 3 j)), (1, .int a1)] [] := by
  unfold f_X4_kindAt at h
  refine r_iload_n (k0 := 1) hx dX4_kindAt_0 rfl rfl ?_
  refine r_if_lt (tgt := 21) hx dX4_kindAt_1 (by decide) (fun c1 => ?_) (fun c1 => ?_)
  · have h := ite_t h c1
    refine r_iconst (v := -1) hx dX4_kindAt_21 (by decide) ?_
    exact r_iret hE h dX4_kindAt_22
  · have h := ite_f h c1
    refine r_iload_n (k0 := 1) hx dX4_kindAt_4 rfl rfl ?_
    refine r_aload_n (k0 := 0) hx dX4_kindAt_5 rfl rfl ?_
    refine g_150 hx (kr_0 hKS h_j) wf_X4_28 dX4_kindAt_6 ?_
    refine r_icmp_ge (tgt := 21) hx dX4_kindAt_9 (by decide) (fun c2 => ?_) (fun c2 => ?_)
    · have h := ite_t h c2
      refine r_iconst (v := -1) hx dX4_kindAt_21 (by decide) ?_
      exact r_iret hE h dX4_kindAt_22
    · have h := ite_f h c2
      refine r_aload_n (k0 := 0) hx dX4_kindAt_12 rfl rfl ?_
      refine g_151 hx (kr_0 hKS h_j) wf_X4_9 dX4_kindAt_13 ?_
      refine r_iload_n (k0 := 1) hx dX4_kindAt_16 rfl rfl ?_
      obtain ⟨v3, e4, i5, h⟩ := gI_some h
      refine r_iald hx (kr_151 hKS h_j) rfl i5 e4 dX4_kindAt_17 ?_
      refine r_goto (tgt := 22) hx dX4_kindAt_18 (by decide) ?_
      exact r_iret hE h dX4_kindAt_22
set_option maxHeartbeats 4000000 in
theorem C_X4_kindAt {n : Nat} {c : YC} (hKS : ∀ k ∈ KK, k ∈ c.2.2.2.2) {S : St} {j : Nat} {a1 : Int32} {out : St × Int32} (h_j : j < 107) (h : f_X4_kindAt n S j a1 = some out) : MI c yX4_kindAt cX4_kindAt 2 (some .int) rm_X4_kindAt S [.ref (c.2.2.1 0 3 j), .int a1] out := mk_I (own := RX4) (by decide +kernel) rfl (Nat.le_of_ble_eq_true rfl) (fun x hx hR hy hE => by subst hy; exact t_X4_kindAt_0 hx hR hKS hE h_j h)
theorem dX4_add_0 : decode cX4_add 0 = .ok (.aload_n 0, 1) := by decide +kernel
theorem dX4_add_1 : decode cX4_add 1 = .ok (.getfield 28, 3) := by decide +kernel
theorem dX4_add_4 : decode cX4_add 4 = .ok (.sipush 200, 3) := by decide +kernel
theorem dX4_add_7 : decode cX4_add 7 = .ok (.if_icmp .lt 4, 3) := by decide +kernel
theorem dX4_add_10 : decode cX4_add 10 = .ok (.return_, 1) := by decide +kernel
theorem dX4_add_11 : decode cX4_add 11 = .ok (.aload_n 0, 1) := by decide +kernel
theorem dX4_add_12 : decode cX4_add 12 = .ok (.getfield 9, 3) := by decide +kernel
theorem dX4_add_15 : decode cX4_add 15 = .ok (.aload_n 0, 1) := by decide +kernel
theorem dX4_add_16 : decode cX4_add 16 = .ok (.getfield 28, 3) := by decide +kernel
theorem dX4_add_19 : decode cX4_add 19 = .ok (.iload_n 1, 1) := by decide +kernel
theorem dX4_add_20 : decode cX4_add 20 = .ok (.iastore, 1) := by decide +kernel
theorem dX4_add_21 : decode cX4_add 21 = .ok (.aload_n 0, 1) := by decide +kernel
theorem dX4_add_22 : decode cX4_add 22 = .ok (.getfield 15, 3) := by decide +kernel
theorem dX4_add_25 : decode cX4_add 25 = .ok (.aload_n 0, 1) := by decide +kernel
theorem dX4_add_26 : decode cX4_add 26 = .ok (.getfield 28, 3) := by decide +kernel
theorem dX4_add_29 : decode cX4_add 29 = .ok (.iload_n 2, 1) := by decide +kernel
theorem dX4_add_30 : decode cX4_add 30 = .ok (.iastore, 1) := by decide +kernel
theorem dX4_add_31 : decode cX4_add 31 = .ok (.aload_n 0, 1) := by decide +kernel
theorem dX4_add_32 : decode cX4_add 32 = .ok (.getfield 18, 3) := by decide +kernel
theorem dX4_add_35 : decode cX4_add 35 = .ok (.aload_n 0, 1) := by decide +kernel
theorem dX4_add_36 : decode cX4_add 36 = .ok (.getfield 28, 3) := by decide +kernel
theorem dX4_add_39 : decode cX4_add 39 = .ok (.iload_n 3, 1) := by decide +kernel
theorem dX4_add_40 : decode cX4_add 40 = .ok (.iastore, 1) := by decide +kernel
theorem dX4_add_41 : decode cX4_add 41 = .ok (.aload_n 0, 1) := by decide +kernel
theorem dX4_add_42 : decode cX4_add 42 = .ok (.getfield 21, 3) := by decide +kernel
theorem dX4_add_45 : decode cX4_add 45 = .ok (.aload_n 0, 1) := by decide +kernel
theorem dX4_add_46 : decode cX4_add 46 = .ok (.getfield 28, 3) := by decide +kernel
theorem dX4_add_49 : decode cX4_add 49 = .ok (.lload 4, 2) := by decide +kernel
theorem dX4_add_51 : decode cX4_add 51 = .ok (.lastore, 1) := by decide +kernel
theorem dX4_add_52 : decode cX4_add 52 = .ok (.aload_n 0, 1) := by decide +kernel
theorem dX4_add_53 : decode cX4_add 53 = .ok (.getfield 25, 3) := by decide +kernel
theorem dX4_add_56 : decode cX4_add 56 = .ok (.aload_n 0, 1) := by decide +kernel
theorem dX4_add_57 : decode cX4_add 57 = .ok (.getfield 28, 3) := by decide +kernel
theorem dX4_add_60 : decode cX4_add 60 = .ok (.lload 6, 2) := by decide +kernel
theorem dX4_add_62 : decode cX4_add 62 = .ok (.lastore, 1) := by decide +kernel
theorem dX4_add_63 : decode cX4_add 63 = .ok (.aload_n 0, 1) := by decide +kernel
theorem dX4_add_64 : decode cX4_add 64 = .ok (.dup, 1) := by decide +kernel
theorem dX4_add_65 : decode cX4_add 65 = .ok (.getfield 28, 3) := by decide +kernel
theorem dX4_add_68 : decode cX4_add 68 = .ok (.iconst 1, 1) := by decide +kernel
theorem dX4_add_69 : decode cX4_add 69 = .ok (.iadd, 1) := by decide +kernel
theorem dX4_add_70 : decode cX4_add 70 = .ok (.putfield 28, 3) := by decide +kernel
theorem dX4_add_73 : decode cX4_add 73 = .ok (.return_, 1) := by decide +kernel
theorem dy_X4_add : DY yX4_add 5 := by decide +kernel
abbrev rm_X4_add : Room := { frames := 0, cells := 0, slots := 0, locals := 0 }
def f_X4_add (n : Nat) (S : St) (j : Nat) (a1 : Int32) (a2 : Int32) (a3 : Int32) (a4 : Int64) (a5 : Int64) : Option (St) :=
  if (S.1 150 j) < 200 then
    pI S 151 j (S.1 150 j) 200 a1 fun S2 =>
    pI S2 152 j (S2.1 150 j) 200 a2 fun S5 =>
    pI S5 153 j (S5.1 150 j) 200 a3 fun S8 =>
    pL S8 154 j (S8.1 150 j) 200 a4 fun S11 =>
    pL S11 155 j (S11.1 150 j) 200 a5 fun S14 =>
    pS S14 150 j ((S14.1 150 j) + 1) fun S17 =>
    some S17
  else
    some S
set_option maxRecDepth 100000 in
set_option maxHeartbeats 4000000 in
theorem t_X4_add_0 {n : Nat} {x : XC} (hx : CX x cX4_add 8 RX4) (hR : x_R x = rm_X4_add) (hKS : ∀ k ∈ KK, k ∈ x_K x) {out : St} (hE : EV x cX4_add out) {S : St} {j : Nat} {a1 : Int32} {a2 : Int32} {a3 : Int32} {a4 : Int64} {a5 : Int64} (h_j : j < 107) (h : f_X4_add n S j a1 a2 a3 a4 a5 = some out) : WX x 8 0 0 S 0 [(0, .ref (x_ad x 0 3 j)), (1, .int a1), (2, .int a2), (3, .int a3), (4, .long a4), (6, .long a5)] [] := by
  unfold f_X4_add at h
  refine r_aload_n (k0 := 0) hx dX4_add_0 rfl rfl ?_
  refine g_150 hx (kr_0 hKS h_j) wf_X4_28 dX4_add_1 ?_
  refine r_sipush (v := 200) hx dX4_add_4 (by decide) ?_
  refine r_icmp_lt (tgt := 11) hx dX4_add_7 (by decide) (fun c1 => ?_) (fun c1 => ?_)
  · have h := ite_t h c1
    refine r_aload_n (k0 := 0) hx dX4_add_11 rfl rfl ?_
    refine g_151 hx (kr_0 hKS h_j) wf_X4_9 dX4_add_12 ?_
    refine r_aload_n (k0 := 0) hx dX4_add_15 rfl rfl ?_
    refine g_150 hx (kr_0 hKS h_j) wf_X4_28 dX4_add_16 ?_
    refine r_iload_n (k0 := 1) hx dX4_add_19 rfl rfl ?_
    obtain ⟨S2, e3, i4, h⟩ := pI_some h
    refine r_iast hx (kr_151 hKS h_j) rfl i4 e3 dX4_add_20 ?_
    refine r_aload_n (k0 := 0) hx dX4_add_21 rfl rfl ?_
    refine g_152 hx (kr_0 hKS h_j) wf_X4_15 dX4_add_22 ?_
    refine r_aload_n (k0 := 0) hx dX4_add_25 rfl rfl ?_
    refine g_150 hx (kr_0 hKS h_j) wf_X4_28 dX4_add_26 ?_
    refine r_iload_n (k0 := 2) hx dX4_add_29 rfl rfl ?_
    obtain ⟨S5, e6, i7, h⟩ := pI_some h
    refine r_iast hx (kr_152 hKS h_j) rfl i7 e6 dX4_add_30 ?_
    refine r_aload_n (k0 := 0) hx dX4_add_31 rfl rfl ?_
    refine g_153 hx (kr_0 hKS h_j) wf_X4_18 dX4_add_32 ?_
    refine r_aload_n (k0 := 0) hx dX4_add_35 rfl rfl ?_
    refine g_150 hx (kr_0 hKS h_j) wf_X4_28 dX4_add_36 ?_
    refine r_iload_n (k0 := 3) hx dX4_add_39 rfl rfl ?_
    obtain ⟨S8, e9, i10, h⟩ := pI_some h
    refine r_iast hx (kr_153 hKS h_j) rfl i10 e9 dX4_add_40 ?_
    refine r_aload_n (k0 := 0) hx dX4_add_41 rfl rfl ?_
    refine g_154 hx (kr_0 hKS h_j) wf_X4_21 dX4_add_42 ?_
    refine r_aload_n (k0 := 0) hx dX4_add_45 rfl rfl ?_
    refine g_150 hx (kr_0 hKS h_j) wf_X4_28 dX4_add_46 ?_
    refine r_lload (k0 := 4) hx dX4_add_49 rfl ?_
    obtain ⟨S11, e12, i13, h⟩ := pL_some h
    refine r_last hx (kr_154 hKS h_j) rfl i13 e12 dX4_add_51 ?_
    refine r_aload_n (k0 := 0) hx dX4_add_52 rfl rfl ?_
    refine g_155 hx (kr_0 hKS h_j) wf_X4_25 dX4_add_53 ?_
    refine r_aload_n (k0 := 0) hx dX4_add_56 rfl rfl ?_
    refine g_150 hx (kr_0 hKS h_j) wf_X4_28 dX4_add_57 ?_
    refine r_lload (k0 := 5) hx dX4_add_60 rfl ?_
    obtain ⟨S14, e15, i16, h⟩ := pL_some h
    refine r_last hx (kr_155 hKS h_j) rfl i16 e15 dX4_add_62 ?_
    refine r_aload_n (k0 := 0) hx dX4_add_63 rfl rfl ?_
    refine r_dup hx dX4_add_64 rfl ?_
    refine g_150 hx (kr_0 hKS h_j) wf_X4_28 dX4_add_65 ?_
    refine r_iconst (v := 1) hx dX4_add_68 (by decide) ?_
    refine r_iadd hx dX4_add_69 ?_
    obtain ⟨S17, e18, h⟩ := pS_some h
    refine p_150 hx (kr_0 hKS h_j) wf_X4_28 dX4_add_70 e18 ?_
    exact r_vret hE h dX4_add_73
  · have h := ite_f h c1
    exact r_vret hE h dX4_add_10
set_option maxHeartbeats 4000000 in
theorem C_X4_add {n : Nat} {c : YC} (hKS : ∀ k ∈ KK, k ∈ c.2.2.2.2) {S : St} {j : Nat} {a1 : Int32} {a2 : Int32} {a3 : Int32} {a4 : Int64} {a5 : Int64} {out : St} (h_j : j < 107) (h : f_X4_add n S j a1 a2 a3 a4 a5 = some out) : MV c yX4_add cX4_add 8 none rm_X4_add S [.ref (c.2.2.1 0 3 j), .int a1, .int a2, .int a3, .long a4, .long a5] out := mk_V (own := RX4) (by decide +kernel) rfl (Nat.le_of_ble_eq_true rfl) (fun x hx hR hy hE => by subst hy; exact t_X4_add_0 hx hR hKS hE h_j h)
theorem dX4_beSort_0 : decode cX4_beSort 0 = .ok (.aload_n 0, 1) := by decide +kernel
theorem dX4_beSort_1 : decode cX4_beSort 1 = .ok (.iconst 0, 1) := by decide +kernel
theorem dX4_beSort_2 : decode cX4_beSort 2 = .ok (.putfield 28, 3) := by decide +kernel
theorem dX4_beSort_5 : decode cX4_beSort 5 = .ok (.aload_n 0, 1) := by decide +kernel
theorem dX4_beSort_6 : decode cX4_beSort 6 = .ok (.iconst 0, 1) := by decide +kernel
theorem dX4_beSort_7 : decode cX4_beSort 7 = .ok (.iconst 0, 1) := by decide +kernel
theorem dX4_beSort_8 : decode cX4_beSort 8 = .ok (.iconst 0, 1) := by decide +kernel
theorem dX4_beSort_9 : decode cX4_beSort 9 = .ok (.lload_n 1, 1) := by decide +kernel
theorem dX4_beSort_10 : decode cX4_beSort 10 = .ok (.lconst 0, 1) := by decide +kernel
theorem dX4_beSort_11 : decode cX4_beSort 11 = .ok (.invokevirtual 32, 3) := by decide +kernel
theorem dX4_beSort_14 : decode cX4_beSort 14 = .ok (.return_, 1) := by decide +kernel
theorem dy_X4_beSort : DY yX4_beSort 1 := by decide +kernel
abbrev rm_X4_beSort : Room := { frames := 1, cells := 0, slots := 0, locals := 27 }
def f_X4_beSort (n : Nat) (S : St) (j : Nat) (a1 : Int64) : Option (St) :=
  pS S 150 j 0 fun S1 =>
  bU (f_X4_add n S1 j 0 0 0 a1 0) fun S3 =>
  some S3
set_option maxRecDepth 100000 in
set_option maxHeartbeats 4000000 in
theorem t_X4_beSort_0 {n : Nat} {x : XC} (hx : CX x cX4_beSort 3 RX4) (hR : x_R x = rm_X4_beSort) (hKS : ∀ k ∈ KK, k ∈ x_K x) {out : St} (hE : EV x cX4_beSort out) {S : St} {j : Nat} {a1 : Int64} (h_j : j < 107) (h : f_X4_beSort n S j a1 = some out) : WX x 3 0 0 S 0 [(0, .ref (x_ad x 0 3 j)), (1, .long a1)] [] := by
  unfold f_X4_beSort at h
  refine r_aload_n (k0 := 0) hx dX4_beSort_0 rfl rfl ?_
  refine r_iconst (v := 0) hx dX4_beSort_1 (by decide) ?_
  obtain ⟨S1, e2, h⟩ := pS_some h
  refine p_150 hx (kr_0 hKS h_j) wf_X4_28 dX4_beSort_2 e2 ?_
  refine r_aload_n (k0 := 0) hx dX4_beSort_5 rfl rfl ?_
  refine r_iconst (v := 0) hx dX4_beSort_6 (by decide) ?_
  refine r_iconst (v := 0) hx dX4_beSort_7 (by decide) ?_
  refine r_iconst (v := 0) hx dX4_beSort_8 (by decide) ?_
  refine r_lload_n (k0 := 1) hx dX4_beSort_9 rfl rfl ?_
  refine r_lconst (v := 0) hx dX4_beSort_10 (by decide) ?_
  obtain ⟨S3, c4, h⟩ := bU_some h
  refine r_Vv (ci := 3) (As := [.int 0, .int 0, .int 0, .long a1, .long 0]) (rest := []) hx (C_X4_add (c := x_y x) hKS h_j c4) (kr_0 hKS h_j) rfl wl_X4_32 wi_X4_add we_X4_add wn_X4 wc_X4_add dy_X4_add rfl (by rw [hR]; decide +kernel) rfl (Nat.le_of_ble_eq_true rfl) dX4_beSort_11 ?_
  exact r_vret hE h dX4_beSort_14
set_option maxHeartbeats 4000000 in
theorem C_X4_beSort {n : Nat} {c : YC} (hKS : ∀ k ∈ KK, k ∈ c.2.2.2.2) {S : St} {j : Nat} {a1 : Int64} {out : St} (h_j : j < 107) (h : f_X4_beSort n S j a1 = some out) : MV c yX4_beSort cX4_beSort 3 none rm_X4_beSort S [.ref (c.2.2.1 0 3 j), .long a1] out := mk_V (own := RX4) (by decide +kernel) rfl (Nat.le_of_ble_eq_true rfl) (fun x hx hR hy hE => by subst hy; exact t_X4_beSort_0 hx hR hKS hE h_j h)
theorem dX4_endOf_0 : decode cX4_endOf 0 = .ok (.iconst 1, 1) := by decide +kernel
theorem dX4_endOf_1 : decode cX4_endOf 1 = .ok (.istore_n 2, 1) := by decide +kernel
theorem dX4_endOf_2 : decode cX4_endOf 2 = .ok (.iload_n 1, 1) := by decide +kernel
theorem dX4_endOf_3 : decode cX4_endOf 3 = .ok (.iconst 0, 1) := by decide +kernel
theorem dX4_endOf_4 : decode cX4_endOf 4 = .ok (.invokestatic 36, 3) := by decide +kernel
theorem dX4_endOf_7 : decode cX4_endOf 7 = .ok (.istore_n 3, 1) := by decide +kernel
theorem dX4_endOf_8 : decode cX4_endOf 8 = .ok (.iload_n 3, 1) := by decide +kernel
theorem dX4_endOf_9 : decode cX4_endOf 9 = .ok (.aload_n 0, 1) := by decide +kernel
theorem dX4_endOf_10 : decode cX4_endOf 10 = .ok (.getfield 28, 3) := by decide +kernel
theorem dX4_endOf_13 : decode cX4_endOf 13 = .ok (.if_icmp .ge 27, 3) := by decide +kernel
theorem dX4_endOf_16 : decode cX4_endOf 16 = .ok (.iload_n 2, 1) := by decide +kernel
theorem dX4_endOf_17 : decode cX4_endOf 17 = .ok (.ifCond .le 23, 3) := by decide +kernel
theorem dX4_endOf_20 : decode cX4_endOf 20 = .ok (.iload_n 2, 1) := by decide +kernel
theorem dX4_endOf_21 : decode cX4_endOf 21 = .ok (.aload_n 0, 1) := by decide +kernel
theorem dX4_endOf_22 : decode cX4_endOf 22 = .ok (.getfield 9, 3) := by decide +kernel
theorem dX4_endOf_25 : decode cX4_endOf 25 = .ok (.iload_n 3, 1) := by decide +kernel
theorem dX4_endOf_26 : decode cX4_endOf 26 = .ok (.iaload, 1) := by decide +kernel
theorem dX4_endOf_27 : decode cX4_endOf 27 = .ok (.invokestatic 42, 3) := by decide +kernel
theorem dX4_endOf_30 : decode cX4_endOf 30 = .ok (.iconst 1, 1) := by decide +kernel
theorem dX4_endOf_31 : decode cX4_endOf 31 = .ok (.isub, 1) := by decide +kernel
theorem dX4_endOf_32 : decode cX4_endOf 32 = .ok (.iadd, 1) := by decide +kernel
theorem dX4_endOf_33 : decode cX4_endOf 33 = .ok (.istore_n 2, 1) := by decide +kernel
theorem dX4_endOf_34 : decode cX4_endOf 34 = .ok (.iinc 3 1, 3) := by decide +kernel
theorem dX4_endOf_37 : decode cX4_endOf 37 = .ok (.goto (-29), 3) := by decide +kernel
theorem dX4_endOf_40 : decode cX4_endOf 40 = .ok (.iload_n 3, 1) := by decide +kernel
theorem dX4_endOf_41 : decode cX4_endOf 41 = .ok (.ireturn, 1) := by decide +kernel
theorem dy_X4_endOf : DY yX4_endOf 1 := by decide +kernel
abbrev rm_X4_endOf : Room := { frames := 1, cells := 0, slots := 0, locals := 30 }
def l_X4_endOf_8 (n : Nat) : Nat → St → Nat → Int32 → Int32 → Option (St × Int32)
  | 0, _, _, _, _ => none
  | m + 1, S, j, l2, l3 =>
    if (S.1 150 j) ≤ l3 then
      some (S, l3)
    else
      if l2 ≤ 0 then
        some (S, l3)
      else
        gI S 151 j l3 200 fun v3 =>
        bI (f_X4_partsOf n S v3) fun S6 v8 =>
        bV (l2 + (v8 - 1)) fun v9 =>
        bV (l3 + 1) fun v11 =>
        l_X4_endOf_8 n m S6 j v9 v11
def f_X4_endOf (n : Nat) (S : St) (j : Nat) (a1 : Int32) : Option (St × Int32) :=
  bV (if a1 < 0 then 0 else a1) fun v1 =>
  l_X4_endOf_8 n n S j 1 v1
set_option maxRecDepth 100000 in
set_option maxHeartbeats 4000000 in
theorem t_X4_endOf_8 {n : Nat} {x : XC} (hx : CX x cX4_endOf 4 RX4) (hR : x_R x = rm_X4_endOf) (hKS : ∀ k ∈ KK, k ∈ x_K x) {out : St × Int32} (hE : EI x cX4_endOf out) : ∀ {m : Nat} {S : St} {j : Nat} {l2 : Int32} {l3 : Int32} (h_j : j < 107) (h : l_X4_endOf_8 n m S j l2 l3 = some out), WX x 4 0 0 S 8 [(0, .ref (x_ad x 0 3 j)), (2, .int l2), (3, .int l3)] [] := by
  intro m
  induction m with
  | zero => intro S j l2 l3 h_j h; cases h
  | succ m ih =>
    intro S j l2 l3 h_j h
    unfold l_X4_endOf_8 at h
    refine r_iload_n (k0 := 2) hx dX4_endOf_8 rfl rfl ?_
    refine r_aload_n (k0 := 0) hx dX4_endOf_9 rfl rfl ?_
    refine g_150 hx (kr_0 hKS h_j) wf_X4_28 dX4_endOf_10 ?_
    refine r_icmp_ge (tgt := 40) hx dX4_endOf_13 (by decide) (fun c1 => ?_) (fun c1 => ?_)
    · have h := ite_t h c1
      refine r_iload_n (k0 := 2) hx dX4_endOf_40 rfl rfl ?_
      exact r_iret hE h dX4_endOf_41
    · have h := ite_f h c1
      refine r_iload_n (k0 := 1) hx dX4_endOf_16 rfl rfl ?_
      refine r_if_le (tgt := 40) hx dX4_endOf_17 (by decide) (fun c2 => ?_) (fun c2 => ?_)
      · have h := ite_t h c2
        refine r_iload_n (k0 := 2) hx dX4_endOf_40 rfl rfl ?_
        exact r_iret hE h dX4_endOf_41
      · have h := ite_f h c2
        refine r_iload_n (k0 := 1) hx dX4_endOf_20 rfl rfl ?_
        refine r_aload_n (k0 := 0) hx dX4_endOf_21 rfl rfl ?_
        refine g_151 hx (kr_0 hKS h_j) wf_X4_9 dX4_endOf_22 ?_
        refine r_iload_n (k0 := 2) hx dX4_endOf_25 rfl rfl ?_
        obtain ⟨v3, e4, i5, h⟩ := gI_some h
        refine r_iald hx (kr_151 hKS h_j) rfl i5 e4 dX4_endOf_26 ?_
        obtain ⟨S6, v8, c7, h⟩ := bI_some h
        refine r_Si (As := [.int v3]) (rest := [.int l2]) hx (C_X4_partsOf (c := x_y x) hKS c7) wl_X4_42 wt_X4_partsOf wn_X4 wc_X4_partsOf dy_X4_partsOf rfl (by rw [hR]; decide +kernel) rfl (Nat.le_of_ble_eq_true rfl) dX4_endOf_27 ?_
        refine r_iconst (v := 1) hx dX4_endOf_30 (by decide) ?_
        refine r_isub hx dX4_endOf_31 ?_
        refine r_iadd hx dX4_endOf_32 ?_
        obtain ⟨v9, e10, h⟩ := bV_some h
        rw [← e10]
        refine r_istore_n (lv' := [(2, .int v9), (0, .ref (x_ad x 0 3 j)), (3, .int l3)]) hx dX4_endOf_33 rfl (by decide) rfl ?_
        obtain ⟨v11, e12, h⟩ := bV_some h
        refine r_iinc (k := 2) (v := v11) (lv' := [(3, .int v11), (2, .int v9), (0, .ref (x_ad x 0 3 j))]) hx dX4_endOf_34 rfl (by rw [e12]; rfl) (by decide) rfl ?_
        refine r_goto (tgt := 8) hx dX4_endOf_37 (by decide) ?_
        refine WX.sub (lv' := [(0, .ref (x_ad x 0 3 j)), (2, .int v9), (3, .int v11)]) ?_ [2, 1, 0] rfl
        exact ih h_j h
set_option maxRecDepth 100000 in
set_option maxHeartbeats 4000000 in
theorem t_X4_endOf_0 {n : Nat} {x : XC} (hx : CX x cX4_endOf 4 RX4) (hR : x_R x = rm_X4_endOf) (hKS : ∀ k ∈ KK, k ∈ x_K x) {out : St × Int32} (hE : EI x cX4_endOf out) {S : St} {j : Nat} {a1 : Int32} (h_j : j < 107) (h : f_X4_endOf n S j a1 = some out) : WX x 4 0 0 S 0 [(0, .ref (x_ad x 0 3 j)), (1, .int a1)] [] := by
  unfold f_X4_endOf at h
  refine r_iconst (v := 1) hx dX4_endOf_0 (by decide) ?_
  refine r_istore_n (lv' := [(2, .int 1), (0, .ref (x_ad x 0 3 j)), (1, .int a1)]) hx dX4_endOf_1 rfl (by decide) rfl ?_
  refine r_iload_n (k0 := 2) hx dX4_endOf_2 rfl rfl ?_
  refine r_iconst (v := 0) hx dX4_endOf_3 (by decide) ?_
  obtain ⟨v1, e2, h⟩ := bV_some h
  refine r_max hx wl_X4_36 (by rw [hR]; decide +kernel) (by rw [hR]; exact Nat.le_of_ble_eq_true rfl) (Nat.zero_le _) (Nat.zero_le _) dX4_endOf_4 ?_
  rw [← e2]
  refine r_istore_n (lv' := [(3, .int v1), (2, .int 1), (0, .ref (x_ad x 0 3 j)), (1, .int a1)]) hx dX4_endOf_7 rfl (by decide) rfl ?_
  refine WX.sub (lv' := [(0, .ref (x_ad x 0 3 j)), (2, .int 1), (3, .int v1)]) ?_ [2, 1, 0] rfl
  exact t_X4_endOf_8 hx hR hKS hE h_j h
set_option maxHeartbeats 4000000 in
theorem C_X4_endOf {n : Nat} {c : YC} (hKS : ∀ k ∈ KK, k ∈ c.2.2.2.2) {S : St} {j : Nat} {a1 : Int32} {out : St × Int32} (h_j : j < 107) (h : f_X4_endOf n S j a1 = some out) : MI c yX4_endOf cX4_endOf 4 (some .int) rm_X4_endOf S [.ref (c.2.2.1 0 3 j), .int a1] out := mk_I (own := RX4) (by decide +kernel) rfl (Nat.le_of_ble_eq_true rfl) (fun x hx hR hy hE => by subst hy; exact t_X4_endOf_0 hx hR hKS hE h_j h)
theorem dX4_copyMark_0 : decode cX4_copyMark 0 = .ok (.aload_n 0, 1) := by decide +kernel
theorem dX4_copyMark_1 : decode cX4_copyMark 1 = .ok (.getfield 28, 3) := by decide +kernel
theorem dX4_copyMark_4 : decode cX4_copyMark 4 = .ok (.sipush 200, 3) := by decide +kernel
theorem dX4_copyMark_7 : decode cX4_copyMark 7 = .ok (.if_icmp .ge 15, 3) := by decide +kernel
theorem dX4_copyMark_10 : decode cX4_copyMark 10 = .ok (.iload_n 2, 1) := by decide +kernel
theorem dX4_copyMark_11 : decode cX4_copyMark 11 = .ok (.ifCond .lt 11, 3) := by decide +kernel
theorem dX4_copyMark_14 : decode cX4_copyMark 14 = .ok (.iload_n 2, 1) := by decide +kernel
theorem dX4_copyMark_15 : decode cX4_copyMark 15 = .ok (.aload_n 1, 1) := by decide +kernel
theorem dX4_copyMark_16 : decode cX4_copyMark 16 = .ok (.getfield 28, 3) := by decide +kernel
theorem dX4_copyMark_19 : decode cX4_copyMark 19 = .ok (.if_icmp .lt 4, 3) := by decide +kernel
theorem dX4_copyMark_22 : decode cX4_copyMark 22 = .ok (.return_, 1) := by decide +kernel
theorem dX4_copyMark_23 : decode cX4_copyMark 23 = .ok (.aload_n 1, 1) := by decide +kernel
theorem dX4_copyMark_24 : decode cX4_copyMark 24 = .ok (.getfield 9, 3) := by decide +kernel
theorem dX4_copyMark_27 : decode cX4_copyMark 27 = .ok (.iload_n 2, 1) := by decide +kernel
theorem dX4_copyMark_28 : decode cX4_copyMark 28 = .ok (.iaload, 1) := by decide +kernel
theorem dX4_copyMark_29 : decode cX4_copyMark 29 = .ok (.iconst 1, 1) := by decide +kernel
theorem dX4_copyMark_30 : decode cX4_copyMark 30 = .ok (.if_icmp .ne 22, 3) := by decide +kernel
theorem dX4_copyMark_33 : decode cX4_copyMark 33 = .ok (.aload_n 1, 1) := by decide +kernel
theorem dX4_copyMark_34 : decode cX4_copyMark 34 = .ok (.getfield 15, 3) := by decide +kernel
theorem dX4_copyMark_37 : decode cX4_copyMark 37 = .ok (.iload_n 2, 1) := by decide +kernel
theorem dX4_copyMark_38 : decode cX4_copyMark 38 = .ok (.iaload, 1) := by decide +kernel
theorem dX4_copyMark_39 : decode cX4_copyMark 39 = .ok (.aload_n 1, 1) := by decide +kernel
theorem dX4_copyMark_40 : decode cX4_copyMark 40 = .ok (.getfield 18, 3) := by decide +kernel
theorem dX4_copyMark_43 : decode cX4_copyMark 43 = .ok (.iload_n 2, 1) := by decide +kernel
theorem dX4_copyMark_44 : decode cX4_copyMark 44 = .ok (.iaload, 1) := by decide +kernel
theorem dX4_copyMark_45 : decode cX4_copyMark 45 = .ok (.if_icmp .lt 7, 3) := by decide +kernel
theorem dX4_copyMark_48 : decode cX4_copyMark 48 = .ok (.iconst 1, 1) := by decide +kernel
theorem dX4_copyMark_49 : decode cX4_copyMark 49 = .ok (.goto 4, 3) := by decide +kernel
theorem dX4_copyMark_52 : decode cX4_copyMark 52 = .ok (.iconst 0, 1) := by decide +kernel
theorem dX4_copyMark_53 : decode cX4_copyMark 53 = .ok (.istore 5, 2) := by decide +kernel
theorem dX4_copyMark_55 : decode cX4_copyMark 55 = .ok (.aload_n 0, 1) := by decide +kernel
theorem dX4_copyMark_56 : decode cX4_copyMark 56 = .ok (.getfield 9, 3) := by decide +kernel
theorem dX4_copyMark_59 : decode cX4_copyMark 59 = .ok (.aload_n 0, 1) := by decide +kernel
theorem dX4_copyMark_60 : decode cX4_copyMark 60 = .ok (.getfield 28, 3) := by decide +kernel
theorem dX4_copyMark_63 : decode cX4_copyMark 63 = .ok (.aload_n 1, 1) := by decide +kernel
theorem dX4_copyMark_64 : decode cX4_copyMark 64 = .ok (.getfield 9, 3) := by decide +kernel
theorem dX4_copyMark_67 : decode cX4_copyMark 67 = .ok (.iload_n 2, 1) := by decide +kernel
theorem dX4_copyMark_68 : decode cX4_copyMark 68 = .ok (.iaload, 1) := by decide +kernel
theorem dX4_copyMark_69 : decode cX4_copyMark 69 = .ok (.iastore, 1) := by decide +kernel
theorem dX4_copyMark_70 : decode cX4_copyMark 70 = .ok (.aload_n 0, 1) := by decide +kernel
theorem dX4_copyMark_71 : decode cX4_copyMark 71 = .ok (.getfield 15, 3) := by decide +kernel
theorem dX4_copyMark_74 : decode cX4_copyMark 74 = .ok (.aload_n 0, 1) := by decide +kernel
theorem dX4_copyMark_75 : decode cX4_copyMark 75 = .ok (.getfield 28, 3) := by decide +kernel
theorem dX4_copyMark_78 : decode cX4_copyMark 78 = .ok (.aload_n 1, 1) := by decide +kernel
theorem dX4_copyMark_79 : decode cX4_copyMark 79 = .ok (.getfield 15, 3) := by decide +kernel
theorem dX4_copyMark_82 : decode cX4_copyMark 82 = .ok (.iload_n 2, 1) := by decide +kernel
theorem dX4_copyMark_83 : decode cX4_copyMark 83 = .ok (.iaload, 1) := by decide +kernel
theorem dX4_copyMark_84 : decode cX4_copyMark 84 = .ok (.iload 5, 2) := by decide +kernel
theorem dX4_copyMark_86 : decode cX4_copyMark 86 = .ok (.ifCond .eq 8, 3) := by decide +kernel
theorem dX4_copyMark_89 : decode cX4_copyMark 89 = .ok (.iload 4, 2) := by decide +kernel
theorem dX4_copyMark_91 : decode cX4_copyMark 91 = .ok (.goto 4, 3) := by decide +kernel
theorem dX4_copyMark_94 : decode cX4_copyMark 94 = .ok (.iconst 0, 1) := by decide +kernel
theorem dX4_copyMark_95 : decode cX4_copyMark 95 = .ok (.iadd, 1) := by decide +kernel
theorem dX4_copyMark_96 : decode cX4_copyMark 96 = .ok (.iastore, 1) := by decide +kernel
theorem dX4_copyMark_97 : decode cX4_copyMark 97 = .ok (.aload_n 0, 1) := by decide +kernel
theorem dX4_copyMark_98 : decode cX4_copyMark 98 = .ok (.getfield 18, 3) := by decide +kernel
theorem dX4_copyMark_101 : decode cX4_copyMark 101 = .ok (.aload_n 0, 1) := by decide +kernel
theorem dX4_copyMark_102 : decode cX4_copyMark 102 = .ok (.getfield 28, 3) := by decide +kernel
theorem dX4_copyMark_105 : decode cX4_copyMark 105 = .ok (.aload_n 1, 1) := by decide +kernel
theorem dX4_copyMark_106 : decode cX4_copyMark 106 = .ok (.getfield 18, 3) := by decide +kernel
theorem dX4_copyMark_109 : decode cX4_copyMark 109 = .ok (.iload_n 2, 1) := by decide +kernel
theorem dX4_copyMark_110 : decode cX4_copyMark 110 = .ok (.iaload, 1) := by decide +kernel
theorem dX4_copyMark_111 : decode cX4_copyMark 111 = .ok (.iload_n 3, 1) := by decide +kernel
theorem dX4_copyMark_112 : decode cX4_copyMark 112 = .ok (.iadd, 1) := by decide +kernel
theorem dX4_copyMark_113 : decode cX4_copyMark 113 = .ok (.iastore, 1) := by decide +kernel
theorem dX4_copyMark_114 : decode cX4_copyMark 114 = .ok (.aload_n 0, 1) := by decide +kernel
theorem dX4_copyMark_115 : decode cX4_copyMark 115 = .ok (.getfield 21, 3) := by decide +kernel
theorem dX4_copyMark_118 : decode cX4_copyMark 118 = .ok (.aload_n 0, 1) := by decide +kernel
theorem dX4_copyMark_119 : decode cX4_copyMark 119 = .ok (.getfield 28, 3) := by decide +kernel
theorem dX4_copyMark_122 : decode cX4_copyMark 122 = .ok (.aload_n 1, 1) := by decide +kernel
theorem dX4_copyMark_123 : decode cX4_copyMark 123 = .ok (.getfield 21, 3) := by decide +kernel
theorem dX4_copyMark_126 : decode cX4_copyMark 126 = .ok (.iload_n 2, 1) := by decide +kernel
theorem dX4_copyMark_127 : decode cX4_copyMark 127 = .ok (.laload, 1) := by decide +kernel
theorem dX4_copyMark_128 : decode cX4_copyMark 128 = .ok (.lastore, 1) := by decide +kernel
theorem dX4_copyMark_129 : decode cX4_copyMark 129 = .ok (.aload_n 0, 1) := by decide +kernel
theorem dX4_copyMark_130 : decode cX4_copyMark 130 = .ok (.getfield 25, 3) := by decide +kernel
theorem dX4_copyMark_133 : decode cX4_copyMark 133 = .ok (.aload_n 0, 1) := by decide +kernel
theorem dX4_copyMark_134 : decode cX4_copyMark 134 = .ok (.getfield 28, 3) := by decide +kernel
theorem dX4_copyMark_137 : decode cX4_copyMark 137 = .ok (.aload_n 1, 1) := by decide +kernel
theorem dX4_copyMark_138 : decode cX4_copyMark 138 = .ok (.getfield 25, 3) := by decide +kernel
theorem dX4_copyMark_141 : decode cX4_copyMark 141 = .ok (.iload_n 2, 1) := by decide +kernel
theorem dX4_copyMark_142 : decode cX4_copyMark 142 = .ok (.laload, 1) := by decide +kernel
theorem dX4_copyMark_143 : decode cX4_copyMark 143 = .ok (.lastore, 1) := by decide +kernel
theorem dX4_copyMark_144 : decode cX4_copyMark 144 = .ok (.aload_n 0, 1) := by decide +kernel
theorem dX4_copyMark_145 : decode cX4_copyMark 145 = .ok (.dup, 1) := by decide +kernel
theorem dX4_copyMark_146 : decode cX4_copyMark 146 = .ok (.getfield 28, 3) := by decide +kernel
theorem dX4_copyMark_149 : decode cX4_copyMark 149 = .ok (.iconst 1, 1) := by decide +kernel
theorem dX4_copyMark_150 : decode cX4_copyMark 150 = .ok (.iadd, 1) := by decide +kernel
theorem dX4_copyMark_151 : decode cX4_copyMark 151 = .ok (.putfield 28, 3) := by decide +kernel
theorem dX4_copyMark_154 : decode cX4_copyMark 154 = .ok (.return_, 1) := by decide +kernel
theorem dy_X4_copyMark : DY yX4_copyMark 4 := by decide +kernel
abbrev rm_X4_copyMark : Room := { frames := 0, cells := 0, slots := 0, locals := 0 }
def j_X4_copyMark_95 (n : Nat) (S : St) (j : Nat) (a1 : Nat) (l2 : Int32) (l3 : Int32) (s0 : Int32) (s1 : Int32) (s2 : Int32) : Option (St) :=
  pI S 152 j s2 200 (s1 + s0) fun S1 =>
  gI S1 153 a1 l2 200 fun v4 =>
  pI S1 153 j (S1.1 150 j) 200 (v4 + l3) fun S7 =>
  gL S7 154 a1 l2 200 fun v10 =>
  pL S7 154 j (S7.1 150 j) 200 v10 fun S13 =>
  gL S13 155 a1 l2 200 fun v16 =>
  pL S13 155 j (S13.1 150 j) 200 v16 fun S19 =>
  pS S19 150 j ((S19.1 150 j) + 1) fun S22 =>
  some S22
def j_X4_copyMark_53 (n : Nat) (S : St) (j : Nat) (a1 : Nat) (l2 : Int32) (l3 : Int32) (l4 : Int32) (s0 : Int32) : Option (St) :=
  gI S 151 a1 l2 200 fun v1 =>
  pI S 151 j (S.1 150 j) 200 v1 fun S4 =>
  gI S4 152 a1 l2 200 fun v7 =>
  if s0 = 0 then
    j_X4_copyMark_95 n S4 j a1 l2 l3 0 v7 (S4.1 150 j)
  else
    j_X4_copyMark_95 n S4 j a1 l2 l3 l4 v7 (S4.1 150 j)
def j_X4_copyMark_52 (n : Nat) (S : St) (j : Nat) (a1 : Nat) (l2 : Int32) (l3 : Int32) (l4 : Int32) : Option (St) :=
  j_X4_copyMark_53 n S j a1 l2 l3 l4 0
def f_X4_copyMark (n : Nat) (S : St) (j : Nat) (a1 : Nat) (a2 : Int32) (a3 : Int32) (a4 : Int32) : Option (St) :=
  if 200 ≤ (S.1 150 j) then
    some S
  else
    if a2 < 0 then
      some S
    else
      if a2 < (S.1 150 a1) then
        gI S 151 a1 a2 200 fun v4 =>
        if v4 = 1 then
          gI S 152 a1 a2 200 fun v8 =>
          gI S 153 a1 a2 200 fun v11 =>
          if v8 < v11 then
            j_X4_copyMark_52 n S j a1 a2 a3 a4
          else
            j_X4_copyMark_53 n S j a1 a2 a3 a4 1
        else
          j_X4_copyMark_52 n S j a1 a2 a3 a4
      else
        some S
set_option maxRecDepth 100000 in
set_option maxHeartbeats 4000000 in
theorem t_X4_copyMark_95 {n : Nat} {x : XC} (hx : CX x cX4_copyMark 6 RX4) (hR : x_R x = rm_X4_copyMark) (hKS : ∀ k ∈ KK, k ∈ x_K x) {out : St} (hE : EV x cX4_copyMark out) {S : St} {j : Nat} {a1 : Nat} {l2 : Int32} {l3 : Int32} {s0 : Int32} {s1 : Int32} {s2 : Int32} (h_j : j < 107) (h_a1 : a1 < 107) (h : j_X4_copyMark_95 n S j a1 l2 l3 s0 s1 s2 = some out) : WX x 6 0 0 S 95 [(0, .ref (x_ad x 0 3 j)), (1, .ref (x_ad x 0 3 a1)), (2, .int l2), (3, .int l3)] [.int s0, .int s1, .int s2, .ref (x_ad x 1 152 j)] := by
  unfold j_X4_copyMark_95 at h
  refine r_iadd hx dX4_copyMark_95 ?_
  obtain ⟨S1, e2, i3, h⟩ := pI_some h
  refine r_iast hx (kr_152 hKS h_j) rfl i3 e2 dX4_copyMark_96 ?_
  refine r_aload_n (k0 := 0) hx dX4_copyMark_97 rfl rfl ?_
  refine g_153 hx (kr_0 hKS h_j) wf_X4_18 dX4_copyMark_98 ?_
  refine r_aload_n (k0 := 0) hx dX4_copyMark_101 rfl rfl ?_
  refine g_150 hx (kr_0 hKS h_j) wf_X4_28 dX4_copyMark_102 ?_
  refine r_aload_n (k0 := 1) hx dX4_copyMark_105 rfl rfl ?_
  refine g_153 hx (kr_0 hKS h_a1) wf_X4_18 dX4_copyMark_106 ?_
  refine r_iload_n (k0 := 2) hx dX4_copyMark_109 rfl rfl ?_
  obtain ⟨v4, e5, i6, h⟩ := gI_some h
  refine r_iald hx (kr_153 hKS h_a1) rfl i6 e5 dX4_copyMark_110 ?_
  refine r_iload_n (k0 := 3) hx dX4_copyMark_111 rfl rfl ?_
  refine r_iadd hx dX4_copyMark_112 ?_
  obtain ⟨S7, e8, i9, h⟩ := pI_some h
  refine r_iast hx (kr_153 hKS h_j) rfl i9 e8 dX4_copyMark_113 ?_
  refine r_aload_n (k0 := 0) hx dX4_copyMark_114 rfl rfl ?_
  refine g_154 hx (kr_0 hKS h_j) wf_X4_21 dX4_copyMark_115 ?_
  refine r_aload_n (k0 := 0) hx dX4_copyMark_118 rfl rfl ?_
  refine g_150 hx (kr_0 hKS h_j) wf_X4_28 dX4_copyMark_119 ?_
  refine r_aload_n (k0 := 1) hx dX4_copyMark_122 rfl rfl ?_
  refine g_154 hx (kr_0 hKS h_a1) wf_X4_21 dX4_copyMark_123 ?_
  refine r_iload_n (k0 := 2) hx dX4_copyMark_126 rfl rfl ?_
  obtain ⟨v10, e11, i12, h⟩ := gL_some h
  refine r_lald hx (kr_154 hKS h_a1) rfl i12 e11 dX4_copyMark_127 ?_
  obtain ⟨S13, e14, i15, h⟩ := pL_some h
  refine r_last hx (kr_154 hKS h_j) rfl i15 e14 dX4_copyMark_128 ?_
  refine r_aload_n (k0 := 0) hx dX4_copyMark_129 rfl rfl ?_
  refine g_155 hx (kr_0 hKS h_j) wf_X4_25 dX4_copyMark_130 ?_
  refine r_aload_n (k0 := 0) hx dX4_copyMark_133 rfl rfl ?_
  refine g_150 hx (kr_0 hKS h_j) wf_X4_28 dX4_copyMark_134 ?_
  refine r_aload_n (k0 := 1) hx dX4_copyMark_137 rfl rfl ?_
  refine g_155 hx (kr_0 hKS h_a1) wf_X4_25 dX4_copyMark_138 ?_
  refine r_iload_n (k0 := 2) hx dX4_copyMark_141 rfl rfl ?_
  obtain ⟨v16, e17, i18, h⟩ := gL_some h
  refine r_lald hx (kr_155 hKS h_a1) rfl i18 e17 dX4_copyMark_142 ?_
  obtain ⟨S19, e20, i21, h⟩ := pL_some h
  refine r_last hx (kr_155 hKS h_j) rfl i21 e20 dX4_copyMark_143 ?_
  refine r_aload_n (k0 := 0) hx dX4_copyMark_144 rfl rfl ?_
  refine r_dup hx dX4_copyMark_145 rfl ?_
  refine g_150 hx (kr_0 hKS h_j) wf_X4_28 dX4_copyMark_146 ?_
  refine r_iconst (v := 1) hx dX4_copyMark_149 (by decide) ?_
  refine r_iadd hx dX4_copyMark_150 ?_
  obtain ⟨S22, e23, h⟩ := pS_some h
  refine p_150 hx (kr_0 hKS h_j) wf_X4_28 dX4_copyMark_151 e23 ?_
  exact r_vret hE h dX4_copyMark_154
set_option maxRecDepth 100000 in
set_option maxHeartbeats 4000000 in
theorem t_X4_copyMark_53 {n : Nat} {x : XC} (hx : CX x cX4_copyMark 6 RX4) (hR : x_R x = rm_X4_copyMark) (hKS : ∀ k ∈ KK, k ∈ x_K x) {out : St} (hE : EV x cX4_copyMark out) {S : St} {j : Nat} {a1 : Nat} {l2 : Int32} {l3 : Int32} {l4 : Int32} {s0 : Int32} (h_j : j < 107) (h_a1 : a1 < 107) (h : j_X4_copyMark_53 n S j a1 l2 l3 l4 s0 = some out) : WX x 6 0 0 S 53 [(0, .ref (x_ad x 0 3 j)), (1, .ref (x_ad x 0 3 a1)), (2, .int l2), (3, .int l3), (4, .int l4)] [.int s0] := by
  unfold j_X4_copyMark_53 at h
  refine r_istore (lv' := [(5, .int s0), (0, .ref (x_ad x 0 3 j)), (1, .ref (x_ad x 0 3 a1)), (2, .int l2), (3, .int l3), (4, .int l4)]) hx dX4_copyMark_53 (by decide) rfl ?_
  refine r_aload_n (k0 := 1) hx dX4_copyMark_55 rfl rfl ?_
  refine g_151 hx (kr_0 hKS h_j) wf_X4_9 dX4_copyMark_56 ?_
  refine r_aload_n (k0 := 1) hx dX4_copyMark_59 rfl rfl ?_
  refine g_150 hx (kr_0 hKS h_j) wf_X4_28 dX4_copyMark_60 ?_
  refine r_aload_n (k0 := 2) hx dX4_copyMark_63 rfl rfl ?_
  refine g_151 hx (kr_0 hKS h_a1) wf_X4_9 dX4_copyMark_64 ?_
  refine r_iload_n (k0 := 3) hx dX4_copyMark_67 rfl rfl ?_
  obtain ⟨v1, e2, i3, h⟩ := gI_some h
  refine r_iald hx (kr_151 hKS h_a1) rfl i3 e2 dX4_copyMark_68 ?_
  obtain ⟨S4, e5, i6, h⟩ := pI_some h
  refine r_iast hx (kr_151 hKS h_j) rfl i6 e5 dX4_copyMark_69 ?_
  refine r_aload_n (k0 := 1) hx dX4_copyMark_70 rfl rfl ?_
  refine g_152 hx (kr_0 hKS h_j) wf_X4_15 dX4_copyMark_71 ?_
  refine r_aload_n (k0 := 1) hx dX4_copyMark_74 rfl rfl ?_
  refine g_150 hx (kr_0 hKS h_j) wf_X4_28 dX4_copyMark_75 ?_
  refine r_aload_n (k0 := 2) hx dX4_copyMark_78 rfl rfl ?_
  refine g_152 hx (kr_0 hKS h_a1) wf_X4_15 dX4_copyMark_79 ?_
  refine r_iload_n (k0 := 3) hx dX4_copyMark_82 rfl rfl ?_
  obtain ⟨v7, e8, i9, h⟩ := gI_some h
  refine r_iald hx (kr_152 hKS h_a1) rfl i9 e8 dX4_copyMark_83 ?_
  refine r_iload (k0 := 0) hx dX4_copyMark_84 rfl ?_
  refine r_if_eq (tgt := 94) hx dX4_copyMark_86 (by decide) (fun c10 => ?_) (fun c10 => ?_)
  · have h := ite_t h c10
    refine r_iconst (v := 0) hx dX4_copyMark_94 (by decide) ?_
    refine WX.sub (lv' := [(0, .ref (x_ad x 0 3 j)), (1, .ref (x_ad x 0 3 a1)), (2, .int l2), (3, .int l3)]) ?_ [1, 2, 3, 4] rfl
    exact t_X4_copyMark_95 hx hR hKS hE h_j h_a1 h
  · have h := ite_f h c10
    refine r_iload (k0 := 5) hx dX4_copyMark_89 rfl ?_
    refine r_goto (tgt := 95) hx dX4_copyMark_91 (by decide) ?_
    refine WX.sub (lv' := [(0, .ref (x_ad x 0 3 j)), (1, .ref (x_ad x 0 3 a1)), (2, .int l2), (3, .int l3)]) ?_ [1, 2, 3, 4] rfl
    exact t_X4_copyMark_95 hx hR hKS hE h_j h_a1 h
set_option maxRecDepth 100000 in
set_option maxHeartbeats 4000000 in
theorem t_X4_copyMark_52 {n : Nat} {x : XC} (hx : CX x cX4_copyMark 6 RX4) (hR : x_R x = rm_X4_copyMark) (hKS : ∀ k ∈ KK, k ∈ x_K x) {out : St} (hE : EV x cX4_copyMark out) {S : St} {j : Nat} {a1 : Nat} {l2 : Int32} {l3 : Int32} {l4 : Int32} (h_j : j < 107) (h_a1 : a1 < 107) (h : j_X4_copyMark_52 n S j a1 l2 l3 l4 = some out) : WX x 6 0 0 S 52 [(0, .ref (x_ad x 0 3 j)), (1, .ref (x_ad x 0 3 a1)), (2, .int l2), (3, .int l3), (4, .int l4)] [] := by
  unfold j_X4_copyMark_52 at h
  refine r_iconst (v := 0) hx dX4_copyMark_52 (by decide) ?_
  exact t_X4_copyMark_53 hx hR hKS hE h_j h_a1 h
set_option maxRecDepth 100000 in
set_option maxHeartbeats 4000000 in
theorem t_X4_copyMark_0 {n : Nat} {x : XC} (hx : CX x cX4_copyMark 6 RX4) (hR : x_R x = rm_X4_copyMark) (hKS : ∀ k ∈ KK, k ∈ x_K x) {out : St} (hE : EV x cX4_copyMark out) {S : St} {j : Nat} {a1 : Nat} {a2 : Int32} {a3 : Int32} {a4 : Int32} (h_j : j < 107) (h_a1 : a1 < 107) (h : f_X4_copyMark n S j a1 a2 a3 a4 = some out) : WX x 6 0 0 S 0 [(0, .ref (x_ad x 0 3 j)), (1, .ref (x_ad x 0 3 a1)), (2, .int a2), (3, .int a3), (4, .int a4)] [] := by
  unfold f_X4_copyMark at h
  refine r_aload_n (k0 := 0) hx dX4_copyMark_0 rfl rfl ?_
  refine g_150 hx (kr_0 hKS h_j) wf_X4_28 dX4_copyMark_1 ?_
  refine r_sipush (v := 200) hx dX4_copyMark_4 (by decide) ?_
  refine r_icmp_ge (tgt := 22) hx dX4_copyMark_7 (by decide) (fun c1 => ?_) (fun c1 => ?_)
  · have h := ite_t h c1
    exact r_vret hE h dX4_copyMark_22
  · have h := ite_f h c1
    refine r_iload_n (k0 := 2) hx dX4_copyMark_10 rfl rfl ?_
    refine r_if_lt (tgt := 22) hx dX4_copyMark_11 (by decide) (fun c2 => ?_) (fun c2 => ?_)
    · have h := ite_t h c2
      exact r_vret hE h dX4_copyMark_22
    · have h := ite_f h c2
      refine r_iload_n (k0 := 2) hx dX4_copyMark_14 rfl rfl ?_
      refine r_aload_n (k0 := 1) hx dX4_copyMark_15 rfl rfl ?_
      refine g_150 hx (kr_0 hKS h_a1) wf_X4_28 dX4_copyMark_16 ?_
      refine r_icmp_lt (tgt := 23) hx dX4_copyMark_19 (by decide) (fun c3 => ?_) (fun c3 => ?_)
      · have h := ite_t h c3
        refine r_aload_n (k0 := 1) hx dX4_copyMark_23 rfl rfl ?_
        refine g_151 hx (kr_0 hKS h_a1) wf_X4_9 dX4_copyMark_24 ?_
        refine r_iload_n (k0 := 2) hx dX4_copyMark_27 rfl rfl ?_
        obtain ⟨v4, e5, i6, h⟩ := gI_some h
        refine r_iald hx (kr_151 hKS h_a1) rfl i6 e5 dX4_copyMark_28 ?_
        refine r_iconst (v := 1) hx dX4_copyMark_29 (by decide) ?_
        refine r_icmp_ne (tgt := 52) hx dX4_copyMark_30 (by decide) (fun c7 => ?_) (fun c7 => ?_)
        · have h := ite_f h c7
          exact t_X4_copyMark_52 hx hR hKS hE h_j h_a1 h
        · have h := ite_t h c7
          refine r_aload_n (k0 := 1) hx dX4_copyMark_33 rfl rfl ?_
          refine g_152 hx (kr_0 hKS h_a1) wf_X4_15 dX4_copyMark_34 ?_
          refine r_iload_n (k0 := 2) hx dX4_copyMark_37 rfl rfl ?_
          obtain ⟨v8, e9, i10, h⟩ := gI_some h
          refine r_iald hx (kr_152 hKS h_a1) rfl i10 e9 dX4_copyMark_38 ?_
          refine r_aload_n (k0 := 1) hx dX4_copyMark_39 rfl rfl ?_
          refine g_153 hx (kr_0 hKS h_a1) wf_X4_18 dX4_copyMark_40 ?_
          refine r_iload_n (k0 := 2) hx dX4_copyMark_43 rfl rfl ?_
          obtain ⟨v11, e12, i13, h⟩ := gI_some h
          refine r_iald hx (kr_153 hKS h_a1) rfl i13 e12 dX4_copyMark_44 ?_
          refine r_icmp_lt (tgt := 52) hx dX4_copyMark_45 (by decide) (fun c14 => ?_) (fun c14 => ?_)
          · have h := ite_t h c14
            exact t_X4_copyMark_52 hx hR hKS hE h_j h_a1 h
          · have h := ite_f h c14
            refine r_iconst (v := 1) hx dX4_copyMark_48 (by decide) ?_
            refine r_goto (tgt := 53) hx dX4_copyMark_49 (by decide) ?_
            exact t_X4_copyMark_53 hx hR hKS hE h_j h_a1 h
      · have h := ite_f h c3
        exact r_vret hE h dX4_copyMark_22
set_option maxHeartbeats 4000000 in
theorem C_X4_copyMark {n : Nat} {c : YC} (hKS : ∀ k ∈ KK, k ∈ c.2.2.2.2) {S : St} {j : Nat} {a1 : Nat} {a2 : Int32} {a3 : Int32} {a4 : Int32} {out : St} (h_j : j < 107) (h_a1 : a1 < 107) (h : f_X4_copyMark n S j a1 a2 a3 a4 = some out) : MV c yX4_copyMark cX4_copyMark 6 none rm_X4_copyMark S [.ref (c.2.2.1 0 3 j), .ref (c.2.2.1 0 3 a1), .int a2, .int a3, .int a4] out := mk_V (own := RX4) (by decide +kernel) rfl (Nat.le_of_ble_eq_true rfl) (fun x hx hR hy hE => by subst hy; exact t_X4_copyMark_0 hx hR hKS hE h_j h_a1 h)
theorem dX4_append_0 : decode cX4_append 0 = .ok (.iconst 0, 1) := by decide +kernel
theorem dX4_append_1 : decode cX4_append 1 = .ok (.istore_n 3, 1) := by decide +kernel
theorem dX4_append_2 : decode cX4_append 2 = .ok (.iload_n 3, 1) := by decide +kernel
theorem dX4_append_3 : decode cX4_append 3 = .ok (.aload_n 1, 1) := by decide +kernel
theorem dX4_append_4 : decode cX4_append 4 = .ok (.getfield 28, 3) := by decide +kernel
theorem dX4_append_7 : decode cX4_append 7 = .ok (.if_icmp .ge 17, 3) := by decide +kernel
theorem dX4_append_10 : decode cX4_append 10 = .ok (.aload_n 0, 1) := by decide +kernel
theorem dX4_append_11 : decode cX4_append 11 = .ok (.aload_n 1, 1) := by decide +kernel
theorem dX4_append_12 : decode cX4_append 12 = .ok (.iload_n 3, 1) := by decide +kernel
theorem dX4_append_13 : decode cX4_append 13 = .ok (.iload_n 2, 1) := by decide +kernel
theorem dX4_append_14 : decode cX4_append 14 = .ok (.iconst 0, 1) := by decide +kernel
theorem dX4_append_15 : decode cX4_append 15 = .ok (.invokevirtual 46, 3) := by decide +kernel
theorem dX4_append_18 : decode cX4_append 18 = .ok (.iinc 3 1, 3) := by decide +kernel
theorem dX4_append_21 : decode cX4_append 21 = .ok (.goto (-19), 3) := by decide +kernel
theorem dX4_append_24 : decode cX4_append 24 = .ok (.return_, 1) := by decide +kernel
theorem dy_X4_append : DY yX4_append 2 := by decide +kernel
abbrev rm_X4_append : Room := { frames := 1, cells := 0, slots := 0, locals := 25 }
def l_X4_append_2 (n : Nat) : Nat → St → Nat → Nat → Int32 → Int32 → Option (St)
  | 0, _, _, _, _, _ => none
  | m + 1, S, j, a1, l2, l3 =>
    if (S.1 150 a1) ≤ l3 then
      some S
    else
      bU (f_X4_copyMark n S j a1 l3 l2 0) fun S2 =>
      bV (l3 + 1) fun v4 =>
      l_X4_append_2 n m S2 j a1 l2 v4
def f_X4_append (n : Nat) (S : St) (j : Nat) (a1 : Nat) (a2 : Int32) : Option (St) :=
  l_X4_append_2 n n S j a1 a2 0
set_option maxRecDepth 100000 in
set_option maxHeartbeats 4000000 in
theorem t_X4_append_2 {n : Nat} {x : XC} (hx : CX x cX4_append 4 RX4) (hR : x_R x = rm_X4_append) (hKS : ∀ k ∈ KK, k ∈ x_K x) {out : St} (hE : EV x cX4_append out) : ∀ {m : Nat} {S : St} {j : Nat} {a1 : Nat} {l2 : Int32} {l3 : Int32} (h_j : j < 107) (h_a1 : a1 < 107) (h : l_X4_append_2 n m S j a1 l2 l3 = some out), WX x 4 0 0 S 2 [(0, .ref (x_ad x 0 3 j)), (1, .ref (x_ad x 0 3 a1)), (2, .int l2), (3, .int l3)] [] := by
  intro m
  induction m with
  | zero => intro S j a1 l2 l3 h_j h_a1 h; cases h
  | succ m ih =>
    intro S j a1 l2 l3 h_j h_a1 h
    unfold l_X4_append_2 at h
    refine r_iload_n (k0 := 3) hx dX4_append_2 rfl rfl ?_
    refine r_aload_n (k0 := 1) hx dX4_append_3 rfl rfl ?_
    refine g_150 hx (kr_0 hKS h_a1) wf_X4_28 dX4_append_4 ?_
    refine r_icmp_ge (tgt := 24) hx dX4_append_7 (by decide) (fun c1 => ?_) (fun c1 => ?_)
    · have h := ite_t h c1
      exact r_vret hE h dX4_append_24
    · have h := ite_f h c1
      refine r_aload_n (k0 := 0) hx dX4_append_10 rfl rfl ?_
      refine r_aload_n (k0 := 1) hx dX4_append_11 rfl rfl ?_
      refine r_iload_n (k0 := 3) hx dX4_append_12 rfl rfl ?_
      refine r_iload_n (k0 := 2) hx dX4_append_13 rfl rfl ?_
      refine r_iconst (v := 0) hx dX4_append_14 (by decide) ?_
      obtain ⟨S2, c3, h⟩ := bU_some h
      refine r_Vv (ci := 3) (As := [.ref (x_ad x 0 3 a1), .int l3, .int l2, .int 0]) (rest := []) hx (C_X4_copyMark (c := x_y x) hKS h_j h_a1 c3) (kr_0 hKS h_j) rfl wl_X4_46 wi_X4_copyMark we_X4_copyMark wn_X4 wc_X4_copyMark dy_X4_copyMark rfl (by rw [hR]; decide +kernel) rfl (Nat.le_of_ble_eq_true rfl) dX4_append_15 ?_
      obtain ⟨v4, e5, h⟩ := bV_some h
      refine r_iinc (k := 3) (v := v4) (lv' := [(3, .int v4), (0, .ref (x_ad x 0 3 j)), (1, .ref (x_ad x 0 3 a1)), (2, .int l2)]) hx dX4_append_18 rfl (by rw [e5]; rfl) (by decide) rfl ?_
      refine r_goto (tgt := 2) hx dX4_append_21 (by decide) ?_
      refine WX.sub (lv' := [(0, .ref (x_ad x 0 3 j)), (1, .ref (x_ad x 0 3 a1)), (2, .int l2), (3, .int v4)]) ?_ [1, 2, 3, 0] rfl
      exact ih h_j h_a1 h
set_option maxRecDepth 100000 in
set_option maxHeartbeats 4000000 in
theorem t_X4_append_0 {n : Nat} {x : XC} (hx : CX x cX4_append 4 RX4) (hR : x_R x = rm_X4_append) (hKS : ∀ k ∈ KK, k ∈ x_K x) {out : St} (hE : EV x cX4_append out) {S : St} {j : Nat} {a1 : Nat} {a2 : Int32} (h_j : j < 107) (h_a1 : a1 < 107) (h : f_X4_append n S j a1 a2 = some out) : WX x 4 0 0 S 0 [(0, .ref (x_ad x 0 3 j)), (1, .ref (x_ad x 0 3 a1)), (2, .int a2)] [] := by
  unfold f_X4_append at h
  refine r_iconst (v := 0) hx dX4_append_0 (by decide) ?_
  refine r_istore_n (lv' := [(3, .int 0), (0, .ref (x_ad x 0 3 j)), (1, .ref (x_ad x 0 3 a1)), (2, .int a2)]) hx dX4_append_1 rfl (by decide) rfl ?_
  refine WX.sub (lv' := [(0, .ref (x_ad x 0 3 j)), (1, .ref (x_ad x 0 3 a1)), (2, .int a2), (3, .int 0)]) ?_ [1, 2, 3, 0] rfl
  exact t_X4_append_2 hx hR hKS hE h_j h_a1 h
set_option maxHeartbeats 4000000 in
theorem C_X4_append {n : Nat} {c : YC} (hKS : ∀ k ∈ KK, k ∈ c.2.2.2.2) {S : St} {j : Nat} {a1 : Nat} {a2 : Int32} {out : St} (h_j : j < 107) (h_a1 : a1 < 107) (h : f_X4_append n S j a1 a2 = some out) : MV c yX4_append cX4_append 4 none rm_X4_append S [.ref (c.2.2.1 0 3 j), .ref (c.2.2.1 0 3 a1), .int a2] out := mk_V (own := RX4) (by decide +kernel) rfl (Nat.le_of_ble_eq_true rfl) (fun x hx hR hy hE => by subst hy; exact t_X4_append_0 hx hR hKS hE h_j h_a1 h)
theorem dX4_takePart_0 : decode cX4_takePart 0 = .ok (.aload_n 0, 1) := by decide +kernel
theorem dX4_takePart_1 : decode cX4_takePart 1 = .ok (.iconst 0, 1) := by decide +kernel
theorem dX4_takePart_2 : decode cX4_takePart 2 = .ok (.putfield 28, 3) := by decide +kernel
theorem dX4_takePart_5 : decode cX4_takePart 5 = .ok (.iload_n 2, 1) := by decide +kernel
theorem dX4_takePart_6 : decode cX4_takePart 6 = .ok (.ifCond .lt 11, 3) := by decide +kernel
theorem dX4_takePart_9 : decode cX4_takePart 9 = .ok (.iload_n 2, 1) := by decide +kernel
theorem dX4_takePart_10 : decode cX4_takePart 10 = .ok (.aload_n 1, 1) := by decide +kernel
theorem dX4_takePart_11 : decode cX4_takePart 11 = .ok (.getfield 28, 3) := by decide +kernel
theorem dX4_takePart_14 : decode cX4_takePart 14 = .ok (.if_icmp .lt 4, 3) := by decide +kernel
theorem dX4_takePart_17 : decode cX4_takePart 17 = .ok (.return_, 1) := by decide +kernel
theorem dX4_takePart_18 : decode cX4_takePart 18 = .ok (.aload_n 1, 1) := by decide +kernel
theorem dX4_takePart_19 : decode cX4_takePart 19 = .ok (.getfield 18, 3) := by decide +kernel
theorem dX4_takePart_22 : decode cX4_takePart 22 = .ok (.iload_n 2, 1) := by decide +kernel
theorem dX4_takePart_23 : decode cX4_takePart 23 = .ok (.iaload, 1) := by decide +kernel
theorem dX4_takePart_24 : decode cX4_takePart 24 = .ok (.istore 4, 2) := by decide +kernel
theorem dX4_takePart_26 : decode cX4_takePart 26 = .ok (.iload_n 2, 1) := by decide +kernel
theorem dX4_takePart_27 : decode cX4_takePart 27 = .ok (.istore 5, 2) := by decide +kernel
theorem dX4_takePart_29 : decode cX4_takePart 29 = .ok (.iload 5, 2) := by decide +kernel
theorem dX4_takePart_31 : decode cX4_takePart 31 = .ok (.iload_n 3, 1) := by decide +kernel
theorem dX4_takePart_32 : decode cX4_takePart 32 = .ok (.if_icmp .ge 29, 3) := by decide +kernel
theorem dX4_takePart_35 : decode cX4_takePart 35 = .ok (.iload 5, 2) := by decide +kernel
theorem dX4_takePart_37 : decode cX4_takePart 37 = .ok (.aload_n 1, 1) := by decide +kernel
theorem dX4_takePart_38 : decode cX4_takePart 38 = .ok (.getfield 28, 3) := by decide +kernel
theorem dX4_takePart_41 : decode cX4_takePart 41 = .ok (.if_icmp .ge 20, 3) := by decide +kernel
theorem dX4_takePart_44 : decode cX4_takePart 44 = .ok (.aload_n 0, 1) := by decide +kernel
theorem dX4_takePart_45 : decode cX4_takePart 45 = .ok (.aload_n 1, 1) := by decide +kernel
theorem dX4_takePart_46 : decode cX4_takePart 46 = .ok (.iload 5, 2) := by decide +kernel
theorem dX4_takePart_48 : decode cX4_takePart 48 = .ok (.iload 4, 2) := by decide +kernel
theorem dX4_takePart_50 : decode cX4_takePart 50 = .ok (.ineg, 1) := by decide +kernel
theorem dX4_takePart_51 : decode cX4_takePart 51 = .ok (.iconst 0, 1) := by decide +kernel
theorem dX4_takePart_52 : decode cX4_takePart 52 = .ok (.invokevirtual 46, 3) := by decide +kernel
theorem dX4_takePart_55 : decode cX4_takePart 55 = .ok (.iinc 5 1, 3) := by decide +kernel
theorem dX4_takePart_58 : decode cX4_takePart 58 = .ok (.goto (-29), 3) := by decide +kernel
theorem dX4_takePart_61 : decode cX4_takePart 61 = .ok (.return_, 1) := by decide +kernel
theorem dy_X4_takePart : DY yX4_takePart 3 := by decide +kernel
abbrev rm_X4_takePart : Room := { frames := 1, cells := 0, slots := 0, locals := 25 }
def l_X4_takePart_29 (n : Nat) : Nat → St → Nat → Nat → Int32 → Int32 → Int32 → Option (St)
  | 0, _, _, _, _, _, _ => none
  | m + 1, S, j, a1, l3, l4, l5 =>
    if l3 ≤ l5 then
      some S
    else
      if (S.1 150 a1) ≤ l5 then
        some S
      else
        bU (f_X4_copyMark n S j a1 l5 (-l4) 0) fun S3 =>
        bV (l5 + 1) fun v5 =>
        l_X4_takePart_29 n m S3 j a1 l3 l4 v5
def f_X4_takePart (n : Nat) (S : St) (j : Nat) (a1 : Nat) (a2 : Int32) (a3 : Int32) : Option (St) :=
  pS S 150 j 0 fun S1 =>
  if a2 < 0 then
    some S1
  else
    if a2 < (S1.1 150 a1) then
      gI S1 153 a1 a2 200 fun v5 =>
      l_X4_takePart_29 n n S1 j a1 a3 v5 a2
    else
      some S1
set_option maxRecDepth 100000 in
set_option maxHeartbeats 4000000 in
theorem t_X4_takePart_29 {n : Nat} {x : XC} (hx : CX x cX4_takePart 6 RX4) (hR : x_R x = rm_X4_takePart) (hKS : ∀ k ∈ KK, k ∈ x_K x) {out : St} (hE : EV x cX4_takePart out) : ∀ {m : Nat} {S : St} {j : Nat} {a1 : Nat} {l3 : Int32} {l4 : Int32} {l5 : Int32} (h_j : j < 107) (h_a1 : a1 < 107) (h : l_X4_takePart_29 n m S j a1 l3 l4 l5 = some out), WX x 6 0 0 S 29 [(0, .ref (x_ad x 0 3 j)), (1, .ref (x_ad x 0 3 a1)), (3, .int l3), (4, .int l4), (5, .int l5)] [] := by
  intro m
  induction m with
  | zero => intro S j a1 l3 l4 l5 h_j h_a1 h; cases h
  | succ m ih =>
    intro S j a1 l3 l4 l5 h_j h_a1 h
    unfold l_X4_takePart_29 at h
    refine r_iload (k0 := 4) hx dX4_takePart_29 rfl ?_
    refine r_iload_n (k0 := 2) hx dX4_takePart_31 rfl rfl ?_
    refine r_icmp_ge (tgt := 61) hx dX4_takePart_32 (by decide) (fun c1 => ?_) (fun c1 => ?_)
    · have h := ite_t h c1
      exact r_vret hE h dX4_takePart_61
    · have h := ite_f h c1
      refine r_iload (k0 := 4) hx dX4_takePart_35 rfl ?_
      refine r_aload_n (k0 := 1) hx dX4_takePart_37 rfl rfl ?_
      refine g_150 hx (kr_0 hKS h_a1) wf_X4_28 dX4_takePart_38 ?_
      refine r_icmp_ge (tgt := 61) hx dX4_takePart_41 (by decide) (fun c2 => ?_) (fun c2 => ?_)
      · have h := ite_t h c2
        exact r_vret hE h dX4_takePart_61
      · have h := ite_f h c2
        refine r_aload_n (k0 := 0) hx dX4_takePart_44 rfl rfl ?_
        refine r_aload_n (k0 := 1) hx dX4_takePart_45 rfl rfl ?_
        refine r_iload (k0 := 4) hx dX4_takePart_46 rfl ?_
        refine r_iload (k0 := 3) hx dX4_takePart_48 rfl ?_
        refine r_ineg hx dX4_takePart_50 ?_
        refine r_iconst (v := 0) hx dX4_takePart_51 (by decide) ?_
        obtain ⟨S3, c4, h⟩ := bU_some h
        refine r_Vv (ci := 3) (As := [.ref (x_ad x 0 3 a1), .int l5, .int (-l4), .int 0]) (rest := []) hx (C_X4_copyMark (c := x_y x) hKS h_j h_a1 c4) (kr_0 hKS h_j) rfl wl_X4_46 wi_X4_copyMark we_X4_copyMark wn_X4 wc_X4_copyMark dy_X4_copyMark rfl (by rw [hR]; decide +kernel) rfl (Nat.le_of_ble_eq_true rfl) dX4_takePart_52 ?_
        obtain ⟨v5, e6, h⟩ := bV_some h
        refine r_iinc (k := 4) (v := v5) (lv' := [(5, .int v5), (0, .ref (x_ad x 0 3 j)), (1, .ref (x_ad x 0 3 a1)), (3, .int l3), (4, .int l4)]) hx dX4_takePart_55 rfl (by rw [e6]; rfl) (by decide) rfl ?_
        refine r_goto (tgt := 29) hx dX4_takePart_58 (by decide) ?_
        refine WX.sub (lv' := [(0, .ref (x_ad x 0 3 j)), (1, .ref (x_ad x 0 3 a1)), (3, .int l3), (4, .int l4), (5, .int v5)]) ?_ [1, 2, 3, 4, 0] rfl
        exact ih h_j h_a1 h
set_option maxRecDepth 100000 in
set_option maxHeartbeats 4000000 in
theorem t_X4_takePart_0 {n : Nat} {x : XC} (hx : CX x cX4_takePart 6 RX4) (hR : x_R x = rm_X4_takePart) (hKS : ∀ k ∈ KK, k ∈ x_K x) {out : St} (hE : EV x cX4_takePart out) {S : St} {j : Nat} {a1 : Nat} {a2 : Int32} {a3 : Int32} (h_j : j < 107) (h_a1 : a1 < 107) (h : f_X4_takePart n S j a1 a2 a3 = some out) : WX x 6 0 0 S 0 [(0, .ref (x_ad x 0 3 j)), (1, .ref (x_ad x 0 3 a1)), (2, .int a2), (3, .int a3)] [] := by
  unfold f_X4_takePart at h
  refine r_aload_n (k0 := 0) hx dX4_takePart_0 rfl rfl ?_
  refine r_iconst (v := 0) hx dX4_takePart_1 (by decide) ?_
  obtain ⟨S1, e2, h⟩ := pS_some h
  refine p_150 hx (kr_0 hKS h_j) wf_X4_28 dX4_takePart_2 e2 ?_
  refine r_iload_n (k0 := 2) hx dX4_takePart_5 rfl rfl ?_
  refine r_if_lt (tgt := 17) hx dX4_takePart_6 (by decide) (fun c3 => ?_) (fun c3 => ?_)
  · have h := ite_t h c3
    exact r_vret hE h dX4_takePart_17
  · have h := ite_f h c3
    refine r_iload_n (k0 := 2) hx dX4_takePart_9 rfl rfl ?_
    refine r_aload_n (k0 := 1) hx dX4_takePart_10 rfl rfl ?_
    refine g_150 hx (kr_0 hKS h_a1) wf_X4_28 dX4_takePart_11 ?_
    refine r_icmp_lt (tgt := 18) hx dX4_takePart_14 (by decide) (fun c4 => ?_) (fun c4 => ?_)
    · have h := ite_t h c4
      refine r_aload_n (k0 := 1) hx dX4_takePart_18 rfl rfl ?_
      refine g_153 hx (kr_0 hKS h_a1) wf_X4_18 dX4_takePart_19 ?_
      refine r_iload_n (k0 := 2) hx dX4_takePart_22 rfl rfl ?_
      obtain ⟨v5, e6, i7, h⟩ := gI_some h
      refine r_iald hx (kr_153 hKS h_a1) rfl i7 e6 dX4_takePart_23 ?_
      refine r_istore (lv' := [(4, .int v5), (0, .ref (x_ad x 0 3 j)), (1, .ref (x_ad x 0 3 a1)), (2, .int a2), (3, .int a3)]) hx dX4_takePart_24 (by decide) rfl ?_
      refine r_iload_n (k0 := 3) hx dX4_takePart_26 rfl rfl ?_
      refine r_istore (lv' := [(5, .int a2), (4, .int v5), (0, .ref (x_ad x 0 3 j)), (1, .ref (x_ad x 0 3 a1)), (2, .int a2), (3, .int a3)]) hx dX4_takePart_27 (by decide) rfl ?_
      refine WX.sub (lv' := [(0, .ref (x_ad x 0 3 j)), (1, .ref (x_ad x 0 3 a1)), (3, .int a3), (4, .int v5), (5, .int a2)]) ?_ [2, 3, 5, 1, 0] rfl
      exact t_X4_takePart_29 hx hR hKS hE h_j h_a1 h
    · have h := ite_f h c4
      exact r_vret hE h dX4_takePart_17
set_option maxHeartbeats 4000000 in
theorem C_X4_takePart {n : Nat} {c : YC} (hKS : ∀ k ∈ KK, k ∈ c.2.2.2.2) {S : St} {j : Nat} {a1 : Nat} {a2 : Int32} {a3 : Int32} {out : St} (h_j : j < 107) (h_a1 : a1 < 107) (h : f_X4_takePart n S j a1 a2 a3 = some out) : MV c yX4_takePart cX4_takePart 6 none rm_X4_takePart S [.ref (c.2.2.1 0 3 j), .ref (c.2.2.1 0 3 a1), .int a2, .int a3] out := mk_V (own := RX4) (by decide +kernel) rfl (Nat.le_of_ble_eq_true rfl) (fun x hx hR hy hE => by subst hy; exact t_X4_takePart_0 hx hR hKS hE h_j h_a1 h)
theorem dX4_countNextOuter_0 : decode cX4_countNextOuter 0 = .ok (.iconst 0, 1) := by decide +kernel
theorem dX4_countNextOuter_1 : decode cX4_countNextOuter 1 = .ok (.istore_n 1, 1) := by decide +kernel
theorem dX4_countNextOuter_2 : decode cX4_countNextOuter 2 = .ok (.iconst 0, 1) := by decide +kernel
theorem dX4_countNextOuter_3 : decode cX4_countNextOuter 3 = .ok (.istore_n 2, 1) := by decide +kernel
theorem dX4_countNextOuter_4 : decode cX4_countNextOuter 4 = .ok (.iload_n 2, 1) := by decide +kernel
theorem dX4_countNextOuter_5 : decode cX4_countNextOuter 5 = .ok (.aload_n 0, 1) := by decide +kernel
theorem dX4_countNextOuter_6 : decode cX4_countNextOuter 6 = .ok (.getfield 28, 3) := by decide +kernel
theorem dX4_countNextOuter_9 : decode cX4_countNextOuter 9 = .ok (.if_icmp .ge 37, 3) := by decide +kernel
theorem dX4_countNextOuter_12 : decode cX4_countNextOuter 12 = .ok (.aload_n 0, 1) := by decide +kernel
theorem dX4_countNextOuter_13 : decode cX4_countNextOuter 13 = .ok (.getfield 9, 3) := by decide +kernel
theorem dX4_countNextOuter_16 : decode cX4_countNextOuter 16 = .ok (.iload_n 2, 1) := by decide +kernel
theorem dX4_countNextOuter_17 : decode cX4_countNextOuter 17 = .ok (.iaload, 1) := by decide +kernel
theorem dX4_countNextOuter_18 : decode cX4_countNextOuter 18 = .ok (.iconst 1, 1) := by decide +kernel
theorem dX4_countNextOuter_19 : decode cX4_countNextOuter 19 = .ok (.if_icmp .ne 21, 3) := by decide +kernel
theorem dX4_countNextOuter_22 : decode cX4_countNextOuter 22 = .ok (.aload_n 0, 1) := by decide +kernel
theorem dX4_countNextOuter_23 : decode cX4_countNextOuter 23 = .ok (.getfield 15, 3) := by decide +kernel
theorem dX4_countNextOuter_26 : decode cX4_countNextOuter 26 = .ok (.iload_n 2, 1) := by decide +kernel
theorem dX4_countNextOuter_27 : decode cX4_countNextOuter 27 = .ok (.iaload, 1) := by decide +kernel
theorem dX4_countNextOuter_28 : decode cX4_countNextOuter 28 = .ok (.aload_n 0, 1) := by decide +kernel
theorem dX4_countNextOuter_29 : decode cX4_countNextOuter 29 = .ok (.getfield 18, 3) := by decide +kernel
theorem dX4_countNextOuter_32 : decode cX4_countNextOuter 32 = .ok (.iload_n 2, 1) := by decide +kernel
theorem dX4_countNextOuter_33 : decode cX4_countNextOuter 33 = .ok (.iaload, 1) := by decide +kernel
theorem dX4_countNextOuter_34 : decode cX4_countNextOuter 34 = .ok (.if_icmp .ne 6, 3) := by decide +kernel
theorem dX4_countNextOuter_37 : decode cX4_countNextOuter 37 = .ok (.iinc 1 1, 3) := by decide +kernel
theorem dX4_countNextOuter_40 : decode cX4_countNextOuter 40 = .ok (.iinc 2 1, 3) := by decide +kernel
theorem dX4_countNextOuter_43 : decode cX4_countNextOuter 43 = .ok (.goto (-39), 3) := by decide +kernel
theorem dX4_countNextOuter_46 : decode cX4_countNextOuter 46 = .ok (.iload_n 1, 1) := by decide +kernel
theorem dX4_countNextOuter_47 : decode cX4_countNextOuter 47 = .ok (.ireturn, 1) := by decide +kernel
theorem dy_X4_countNextOuter : DY yX4_countNextOuter 0 := by decide +kernel
abbrev rm_X4_countNextOuter : Room := { frames := 0, cells := 0, slots := 0, locals := 0 }
def j_X4_countNextOuter_40 (n : Nat) (K4 : St → Nat → Int32 → Int32 → Option (St × Int32)) (S : St) (j : Nat) (l1 : Int32) (l2 : Int32) : Option (St × Int32) :=
  bV (l2 + 1) fun v1 =>
  K4 S j l1 v1
def l_X4_countNextOuter_4 (n : Nat) : Nat → St → Nat → Int32 → Int32 → Option (St × Int32)
  | 0, _, _, _, _ => none
  | m + 1, S, j, l1, l2 =>
    if (S.1 150 j) ≤ l2 then
      some (S, l1)
    else
      gI S 151 j l2 200 fun v2 =>
      if v2 = 1 then
        gI S 152 j l2 200 fun v6 =>
        gI S 153 j l2 200 fun v9 =>
        if v6 = v9 then
          bV (l1 + 1) fun v13 =>
          j_X4_countNextOuter_40 n (fun S j l1 l2 => l_X4_countNextOuter_4 n m S j l1 l2) S j v13 l2
        else
          j_X4_countNextOuter_40 n (fun S j l1 l2 => l_X4_countNextOuter_4 n m S j l1 l2) S j l1 l2
      else
        j_X4_countNextOuter_40 n (fun S j l1 l2 => l_X4_countNextOuter_4 n m S j l1 l2) S j l1 l2
def f_X4_countNextOuter (n : Nat) (S : St) (j : Nat) : Option (St × Int32) :=
  l_X4_countNextOuter_4 n n S j 0 0
set_option maxRecDepth 100000 in
set_option maxHeartbeats 4000000 in
theorem t_X4_countNextOuter_40 {n : Nat} {K4 : St → Nat → Int32 → Int32 → Option (St × Int32)} {x : XC} (hx : CX x cX4_countNextOuter 3 RX4) (hR : x_R x = rm_X4_countNextOuter) (hKS : ∀ k ∈ KK, k ∈ x_K x) {out : St × Int32} (hE : EI x cX4_countNextOuter out) (hK4 : ∀ {S : St} {j : Nat} {l1 : Int32} {l2 : Int32} (_ : j < 107), K4 S j l1 l2 = some out → WX x 3 0 0 S 4 [(0, .ref (x_ad x 0 3 j)), (1, .int l1), (2, .int l2)] []) {S : St} {j : Nat} {l1 : Int32} {l2 : Int32} (h_j : j < 107) (h : j_X4_countNextOuter_40 n K4 S j l1 l2 = some out) : WX x 3 0 0 S 40 [(0, .ref (x_ad x 0 3 j)), (1, .int l1), (2, .int l2)] [] := by
  unfold j_X4_countNextOuter_40 at h
  obtain ⟨v1, e2, h⟩ := bV_some h
  refine r_iinc (k := 2) (v := v1) (lv' := [(2, .int v1), (0, .ref (x_ad x 0 3 j)), (1, .int l1)]) hx dX4_countNextOuter_40 rfl (by rw [e2]; rfl) (by decide) rfl ?_
  refine r_goto (tgt := 4) hx dX4_countNextOuter_43 (by decide) ?_
  refine WX.sub (lv' := [(0, .ref (x_ad x 0 3 j)), (1, .int l1), (2, .int v1)]) ?_ [1, 2, 0] rfl
  exact hK4 h_j h
set_option maxRecDepth 100000 in
set_option maxHeartbeats 4000000 in
theorem t_X4_countNextOuter_4 {n : Nat} {x : XC} (hx : CX x cX4_countNextOuter 3 RX4) (hR : x_R x = rm_X4_countNextOuter) (hKS : ∀ k ∈ KK, k ∈ x_K x) {out : St × Int32} (hE : EI x cX4_countNextOuter out) : ∀ {m : Nat} {S : St} {j : Nat} {l1 : Int32} {l2 : Int32} (h_j : j < 107) (h : l_X4_countNextOuter_4 n m S j l1 l2 = some out), WX x 3 0 0 S 4 [(0, .ref (x_ad x 0 3 j)), (1, .int l1), (2, .int l2)] [] := by
  intro m
  induction m with
  | zero => intro S j l1 l2 h_j h; cases h
  | succ m ih =>
    intro S j l1 l2 h_j h
    unfold l_X4_countNextOuter_4 at h
    refine r_iload_n (k0 := 2) hx dX4_countNextOuter_4 rfl rfl ?_
    refine r_aload_n (k0 := 0) hx dX4_countNextOuter_5 rfl rfl ?_
    refine g_150 hx (kr_0 hKS h_j) wf_X4_28 dX4_countNextOuter_6 ?_
    refine r_icmp_ge (tgt := 46) hx dX4_countNextOuter_9 (by decide) (fun c1 => ?_) (fun c1 => ?_)
    · have h := ite_t h c1
      refine r_iload_n (k0 := 1) hx dX4_countNextOuter_46 rfl rfl ?_
      exact r_iret hE h dX4_countNextOuter_47
    · have h := ite_f h c1
      refine r_aload_n (k0 := 0) hx dX4_countNextOuter_12 rfl rfl ?_
      refine g_151 hx (kr_0 hKS h_j) wf_X4_9 dX4_countNextOuter_13 ?_
      refine r_iload_n (k0 := 2) hx dX4_countNextOuter_16 rfl rfl ?_
      obtain ⟨v2, e3, i4, h⟩ := gI_some h
      refine r_iald hx (kr_151 hKS h_j) rfl i4 e3 dX4_countNextOuter_17 ?_
      refine r_iconst (v := 1) hx dX4_countNextOuter_18 (by decide) ?_
      refine r_icmp_ne (tgt := 40) hx dX4_countNextOuter_19 (by decide) (fun c5 => ?_) (fun c5 => ?_)
      · have h := ite_f h c5
        exact t_X4_countNextOuter_40 hx hR hKS hE ih h_j h
      · have h := ite_t h c5
        refine r_aload_n (k0 := 0) hx dX4_countNextOuter_22 rfl rfl ?_
        refine g_152 hx (kr_0 hKS h_j) wf_X4_15 dX4_countNextOuter_23 ?_
        refine r_iload_n (k0 := 2) hx dX4_countNextOuter_26 rfl rfl ?_
        obtain ⟨v6, e7, i8, h⟩ := gI_some h
        refine r_iald hx (kr_152 hKS h_j) rfl i8 e7 dX4_countNextOuter_27 ?_
        refine r_aload_n (k0 := 0) hx dX4_countNextOuter_28 rfl rfl ?_
        refine g_153 hx (kr_0 hKS h_j) wf_X4_18 dX4_countNextOuter_29 ?_
        refine r_iload_n (k0 := 2) hx dX4_countNextOuter_32 rfl rfl ?_
        obtain ⟨v9, e10, i11, h⟩ := gI_some h
        refine r_iald hx (kr_153 hKS h_j) rfl i11 e10 dX4_countNextOuter_33 ?_
        refine r_icmp_ne (tgt := 40) hx dX4_countNextOuter_34 (by decide) (fun c12 => ?_) (fun c12 => ?_)
        · have h := ite_f h c12
          exact t_X4_countNextOuter_40 hx hR hKS hE ih h_j h
        · have h := ite_t h c12
          obtain ⟨v13, e14, h⟩ := bV_some h
          refine r_iinc (k := 1) (v := v13) (lv' := [(1, .int v13), (0, .ref (x_ad x 0 3 j)), (2, .int l2)]) hx dX4_countNextOuter_37 rfl (by rw [e14]; rfl) (by decide) rfl ?_
          refine WX.sub (lv' := [(0, .ref (x_ad x 0 3 j)), (1, .int v13), (2, .int l2)]) ?_ [1, 0, 2] rfl
          exact t_X4_countNextOuter_40 hx hR hKS hE ih h_j h
set_option maxRecDepth 100000 in
set_option maxHeartbeats 4000000 in
theorem t_X4_countNextOuter_0 {n : Nat} {x : XC} (hx : CX x cX4_countNextOuter 3 RX4) (hR : x_R x = rm_X4_countNextOuter) (hKS : ∀ k ∈ KK, k ∈ x_K x) {out : St × Int32} (hE : EI x cX4_countNextOuter out) {S : St} {j : Nat} (h_j : j < 107) (h : f_X4_countNextOuter n S j = some out) : WX x 3 0 0 S 0 [(0, .ref (x_ad x 0 3 j))] [] := by
  unfold f_X4_countNextOuter at h
  refine r_iconst (v := 0) hx dX4_countNextOuter_0 (by decide) ?_
  refine r_istore_n (lv' := [(1, .int 0), (0, .ref (x_ad x 0 3 j))]) hx dX4_countNextOuter_1 rfl (by decide) rfl ?_
  refine r_iconst (v := 0) hx dX4_countNextOuter_2 (by decide) ?_
  refine r_istore_n (lv' := [(2, .int 0), (1, .int 0), (0, .ref (x_ad x 0 3 j))]) hx dX4_countNextOuter_3 rfl (by decide) rfl ?_
  refine WX.sub (lv' := [(0, .ref (x_ad x 0 3 j)), (1, .int 0), (2, .int 0)]) ?_ [2, 1, 0] rfl
  exact t_X4_countNextOuter_4 hx hR hKS hE h_j h
set_option maxHeartbeats 4000000 in
theorem C_X4_countNextOuter {n : Nat} {c : YC} (hKS : ∀ k ∈ KK, k ∈ c.2.2.2.2) {S : St} {j : Nat} {out : St × Int32} (h_j : j < 107) (h : f_X4_countNextOuter n S j = some out) : MI c yX4_countNextOuter cX4_countNextOuter 3 (some .int) rm_X4_countNextOuter S [.ref (c.2.2.1 0 3 j)] out := mk_I (own := RX4) (by decide +kernel) rfl (Nat.le_of_ble_eq_true rfl) (fun x hx hR hy hE => by subst hy; exact t_X4_countNextOuter_0 hx hR hKS hE h_j h)
theorem dX4_raise_0 : decode cX4_raise 0 = .ok (.iconst 0, 1) := by decide +kernel
theorem dX4_raise_1 : decode cX4_raise 1 = .ok (.istore_n 2, 1) := by decide +kernel
theorem dX4_raise_2 : decode cX4_raise 2 = .ok (.iload_n 2, 1) := by decide +kernel
theorem dX4_raise_3 : decode cX4_raise 3 = .ok (.aload_n 0, 1) := by decide +kernel
theorem dX4_raise_4 : decode cX4_raise 4 = .ok (.getfield 28, 3) := by decide +kernel
theorem dX4_raise_7 : decode cX4_raise 7 = .ok (.if_icmp .ge 44, 3) := by decide +kernel
theorem dX4_raise_10 : decode cX4_raise 10 = .ok (.aload_n 0, 1) := by decide +kernel
theorem dX4_raise_11 : decode cX4_raise 11 = .ok (.getfield 9, 3) := by decide +kernel
theorem dX4_raise_14 : decode cX4_raise 14 = .ok (.iload_n 2, 1) := by decide +kernel
theorem dX4_raise_15 : decode cX4_raise 15 = .ok (.iaload, 1) := by decide +kernel
theorem dX4_raise_16 : decode cX4_raise 16 = .ok (.iconst 1, 1) := by decide +kernel
theorem dX4_raise_17 : decode cX4_raise 17 = .ok (.if_icmp .ne 28, 3) := by decide +kernel
theorem dX4_raise_20 : decode cX4_raise 20 = .ok (.aload_n 0, 1) := by decide +kernel
theorem dX4_raise_21 : decode cX4_raise 21 = .ok (.getfield 15, 3) := by decide +kernel
theorem dX4_raise_24 : decode cX4_raise 24 = .ok (.iload_n 2, 1) := by decide +kernel
theorem dX4_raise_25 : decode cX4_raise 25 = .ok (.iaload, 1) := by decide +kernel
theorem dX4_raise_26 : decode cX4_raise 26 = .ok (.aload_n 0, 1) := by decide +kernel
theorem dX4_raise_27 : decode cX4_raise 27 = .ok (.getfield 18, 3) := by decide +kernel
theorem dX4_raise_30 : decode cX4_raise 30 = .ok (.iload_n 2, 1) := by decide +kernel
theorem dX4_raise_31 : decode cX4_raise 31 = .ok (.iaload, 1) := by decide +kernel
theorem dX4_raise_32 : decode cX4_raise 32 = .ok (.if_icmp .lt 13, 3) := by decide +kernel
theorem dX4_raise_35 : decode cX4_raise 35 = .ok (.aload_n 0, 1) := by decide +kernel
theorem dX4_raise_36 : decode cX4_raise 36 = .ok (.getfield 15, 3) := by decide +kernel
theorem dX4_raise_39 : decode cX4_raise 39 = .ok (.iload_n 2, 1) := by decide +kernel
theorem dX4_raise_40 : decode cX4_raise 40 = .ok (.dup2, 1) := by decide +kernel
theorem dX4_raise_41 : decode cX4_raise 41 = .ok (.iaload, 1) := by decide +kernel
theorem dX4_raise_42 : decode cX4_raise 42 = .ok (.iload_n 1, 1) := by decide +kernel
theorem dX4_raise_43 : decode cX4_raise 43 = .ok (.iadd, 1) := by decide +kernel
theorem dX4_raise_44 : decode cX4_raise 44 = .ok (.iastore, 1) := by decide +kernel
theorem dX4_raise_45 : decode cX4_raise 45 = .ok (.iinc 2 1, 3) := by decide +kernel
theorem dX4_raise_48 : decode cX4_raise 48 = .ok (.goto (-46), 3) := by decide +kernel
theorem dX4_raise_51 : decode cX4_raise 51 = .ok (.return_, 1) := by decide +kernel
theorem dy_X4_raise : DY yX4_raise 1 := by decide +kernel
abbrev rm_X4_raise : Room := { frames := 0, cells := 0, slots := 0, locals := 0 }
def j_X4_raise_45 (n : Nat) (K2 : St → Nat → Int32 → Int32 → Option (St)) (S : St) (j : Nat) (l1 : Int32) (l2 : Int32) : Option (St) :=
  bV (l2 + 1) fun v1 =>
  K2 S j l1 v1
def l_X4_raise_2 (n : Nat) : Nat → St → Nat → Int32 → Int32 → Option (St)
  | 0, _, _, _, _ => none
  | m + 1, S, j, l1, l2 =>
    if (S.1 150 j) ≤ l2 then
      some S
    else
      gI S 151 j l2 200 fun v2 =>
      if v2 = 1 then
        gI S 152 j l2 200 fun v6 =>
        gI S 153 j l2 200 fun v9 =>
        if v6 < v9 then
          j_X4_raise_45 n (fun S j l1 l2 => l_X4_raise_2 n m S j l1 l2) S j l1 l2
        else
          gI S 152 j l2 200 fun v13 =>
          pI S 152 j l2 200 (v13 + l1) fun S16 =>
          j_X4_raise_45 n (fun S j l1 l2 => l_X4_raise_2 n m S j l1 l2) S16 j l1 l2
      else
        j_X4_raise_45 n (fun S j l1 l2 => l_X4_raise_2 n m S j l1 l2) S j l1 l2
def f_X4_raise (n : Nat) (S : St) (j : Nat) (a1 : Int32) : Option (St) :=
  l_X4_raise_2 n n S j a1 0
set_option maxRecDepth 100000 in
set_option maxHeartbeats 4000000 in
theorem t_X4_raise_45 {n : Nat} {K2 : St → Nat → Int32 → Int32 → Option (St)} {x : XC} (hx : CX x cX4_raise 3 RX4) (hR : x_R x = rm_X4_raise) (hKS : ∀ k ∈ KK, k ∈ x_K x) {out : St} (hE : EV x cX4_raise out) (hK2 : ∀ {S : St} {j : Nat} {l1 : Int32} {l2 : Int32} (_ : j < 107), K2 S j l1 l2 = some out → WX x 3 0 0 S 2 [(0, .ref (x_ad x 0 3 j)), (1, .int l1), (2, .int l2)] []) {S : St} {j : Nat} {l1 : Int32} {l2 : Int32} (h_j : j < 107) (h : j_X4_raise_45 n K2 S j l1 l2 = some out) : WX x 3 0 0 S 45 [(0, .ref (x_ad x 0 3 j)), (1, .int l1), (2, .int l2)] [] := by
  unfold j_X4_raise_45 at h
  obtain ⟨v1, e2, h⟩ := bV_some h
  refine r_iinc (k := 2) (v := v1) (lv' := [(2, .int v1), (0, .ref (x_ad x 0 3 j)), (1, .int l1)]) hx dX4_raise_45 rfl (by rw [e2]; rfl) (by decide) rfl ?_
  refine r_goto (tgt := 2) hx dX4_raise_48 (by decide) ?_
  refine WX.sub (lv' := [(0, .ref (x_ad x 0 3 j)), (1, .int l1), (2, .int v1)]) ?_ [1, 2, 0] rfl
  exact hK2 h_j h
set_option maxRecDepth 100000 in
set_option maxHeartbeats 4000000 in
theorem t_X4_raise_2 {n : Nat} {x : XC} (hx : CX x cX4_raise 3 RX4) (hR : x_R x = rm_X4_raise) (hKS : ∀ k ∈ KK, k ∈ x_K x) {out : St} (hE : EV x cX4_raise out) : ∀ {m : Nat} {S : St} {j : Nat} {l1 : Int32} {l2 : Int32} (h_j : j < 107) (h : l_X4_raise_2 n m S j l1 l2 = some out), WX x 3 0 0 S 2 [(0, .ref (x_ad x 0 3 j)), (1, .int l1), (2, .int l2)] [] := by
  intro m
  induction m with
  | zero => intro S j l1 l2 h_j h; cases h
  | succ m ih =>
    intro S j l1 l2 h_j h
    unfold l_X4_raise_2 at h
    refine r_iload_n (k0 := 2) hx dX4_raise_2 rfl rfl ?_
    refine r_aload_n (k0 := 0) hx dX4_raise_3 rfl rfl ?_
    refine g_150 hx (kr_0 hKS h_j) wf_X4_28 dX4_raise_4 ?_
    refine r_icmp_ge (tgt := 51) hx dX4_raise_7 (by decide) (fun c1 => ?_) (fun c1 => ?_)
    · have h := ite_t h c1
      exact r_vret hE h dX4_raise_51
    · have h := ite_f h c1
      refine r_aload_n (k0 := 0) hx dX4_raise_10 rfl rfl ?_
      refine g_151 hx (kr_0 hKS h_j) wf_X4_9 dX4_raise_11 ?_
      refine r_iload_n (k0 := 2) hx dX4_raise_14 rfl rfl ?_
      obtain ⟨v2, e3, i4, h⟩ := gI_some h
      refine r_iald hx (kr_151 hKS h_j) rfl i4 e3 dX4_raise_15 ?_
      refine r_iconst (v := 1) hx dX4_raise_16 (by decide) ?_
      refine r_icmp_ne (tgt := 45) hx dX4_raise_17 (by decide) (fun c5 => ?_) (fun c5 => ?_)
      · have h := ite_f h c5
        exact t_X4_raise_45 hx hR hKS hE ih h_j h
      · have h := ite_t h c5
        refine r_aload_n (k0 := 0) hx dX4_raise_20 rfl rfl ?_
        refine g_152 hx (kr_0 hKS h_j) wf_X4_15 dX4_raise_21 ?_
        refine r_iload_n (k0 := 2) hx dX4_raise_24 rfl rfl ?_
        obtain ⟨v6, e7, i8, h⟩ := gI_some h
        refine r_iald hx (kr_152 hKS h_j) rfl i8 e7 dX4_raise_25 ?_
        refine r_aload_n (k0 := 0) hx dX4_raise_26 rfl rfl ?_
        refine g_153 hx (kr_0 hKS h_j) wf_X4_18 dX4_raise_27 ?_
        refine r_iload_n (k0 := 2) hx dX4_raise_30 rfl rfl ?_
        obtain ⟨v9, e10, i11, h⟩ := gI_some h
        refine r_iald hx (kr_153 hKS h_j) rfl i11 e10 dX4_raise_31 ?_
        refine r_icmp_lt (tgt := 45) hx dX4_raise_32 (by decide) (fun c12 => ?_) (fun c12 => ?_)
        · have h := ite_t h c12
          exact t_X4_raise_45 hx hR hKS hE ih h_j h
        · have h := ite_f h c12
          refine r_aload_n (k0 := 0) hx dX4_raise_35 rfl rfl ?_
          refine g_152 hx (kr_0 hKS h_j) wf_X4_15 dX4_raise_36 ?_
          refine r_iload_n (k0 := 2) hx dX4_raise_39 rfl rfl ?_
          refine r_dup2 hx dX4_raise_40 rfl rfl ?_
          obtain ⟨v13, e14, i15, h⟩ := gI_some h
          refine r_iald hx (kr_152 hKS h_j) rfl i15 e14 dX4_raise_41 ?_
          refine r_iload_n (k0 := 1) hx dX4_raise_42 rfl rfl ?_
          refine r_iadd hx dX4_raise_43 ?_
          obtain ⟨S16, e17, i18, h⟩ := pI_some h
          refine r_iast hx (kr_152 hKS h_j) rfl i18 e17 dX4_raise_44 ?_
          exact t_X4_raise_45 hx hR hKS hE ih h_j h
set_option maxRecDepth 100000 in
set_option maxHeartbeats 4000000 in
theorem t_X4_raise_0 {n : Nat} {x : XC} (hx : CX x cX4_raise 3 RX4) (hR : x_R x = rm_X4_raise) (hKS : ∀ k ∈ KK, k ∈ x_K x) {out : St} (hE : EV x cX4_raise out) {S : St} {j : Nat} {a1 : Int32} (h_j : j < 107) (h : f_X4_raise n S j a1 = some out) : WX x 3 0 0 S 0 [(0, .ref (x_ad x 0 3 j)), (1, .int a1)] [] := by
  unfold f_X4_raise at h
  refine r_iconst (v := 0) hx dX4_raise_0 (by decide) ?_
  refine r_istore_n (lv' := [(2, .int 0), (0, .ref (x_ad x 0 3 j)), (1, .int a1)]) hx dX4_raise_1 rfl (by decide) rfl ?_
  refine WX.sub (lv' := [(0, .ref (x_ad x 0 3 j)), (1, .int a1), (2, .int 0)]) ?_ [1, 2, 0] rfl
  exact t_X4_raise_2 hx hR hKS hE h_j h
set_option maxHeartbeats 4000000 in
theorem C_X4_raise {n : Nat} {c : YC} (hKS : ∀ k ∈ KK, k ∈ c.2.2.2.2) {S : St} {j : Nat} {a1 : Int32} {out : St} (h_j : j < 107) (h : f_X4_raise n S j a1 = some out) : MV c yX4_raise cX4_raise 3 none rm_X4_raise S [.ref (c.2.2.1 0 3 j), .int a1] out := mk_V (own := RX4) (by decide +kernel) rfl (Nat.le_of_ble_eq_true rfl) (fun x hx hR hy hE => by subst hy; exact t_X4_raise_0 hx hR hKS hE h_j h)
theorem dX4_fillWith_0 : decode cX4_fillWith 0 = .ok (.aload_n 0, 1) := by decide +kernel
theorem dX4_fillWith_1 : decode cX4_fillWith 1 = .ok (.iconst 0, 1) := by decide +kernel
theorem dX4_fillWith_2 : decode cX4_fillWith 2 = .ok (.putfield 28, 3) := by decide +kernel
theorem dX4_fillWith_5 : decode cX4_fillWith 5 = .ok (.aload_n 1, 1) := by decide +kernel
theorem dX4_fillWith_6 : decode cX4_fillWith 6 = .ok (.getfield 28, 3) := by decide +kernel
theorem dX4_fillWith_9 : decode cX4_fillWith 9 = .ok (.aload_n 1, 1) := by decide +kernel
theorem dX4_fillWith_10 : decode cX4_fillWith 10 = .ok (.invokevirtual 50, 3) := by decide +kernel
theorem dX4_fillWith_13 : decode cX4_fillWith 13 = .ok (.aload_n 2, 1) := by decide +kernel
theorem dX4_fillWith_14 : decode cX4_fillWith 14 = .ok (.getfield 28, 3) := by decide +kernel
theorem dX4_fillWith_17 : decode cX4_fillWith 17 = .ok (.iconst 1, 1) := by decide +kernel
theorem dX4_fillWith_18 : decode cX4_fillWith 18 = .ok (.isub, 1) := by decide +kernel
theorem dX4_fillWith_19 : decode cX4_fillWith 19 = .ok (.imul, 1) := by decide +kernel
theorem dX4_fillWith_20 : decode cX4_fillWith 20 = .ok (.iadd, 1) := by decide +kernel
theorem dX4_fillWith_21 : decode cX4_fillWith 21 = .ok (.sipush 200, 3) := by decide +kernel
theorem dX4_fillWith_24 : decode cX4_fillWith 24 = .ok (.if_icmp .le 5, 3) := by decide +kernel
theorem dX4_fillWith_27 : decode cX4_fillWith 27 = .ok (.iconst 0, 1) := by decide +kernel
theorem dX4_fillWith_28 : decode cX4_fillWith 28 = .ok (.ireturn, 1) := by decide +kernel
theorem dX4_fillWith_29 : decode cX4_fillWith 29 = .ok (.iconst 0, 1) := by decide +kernel
theorem dX4_fillWith_30 : decode cX4_fillWith 30 = .ok (.istore_n 3, 1) := by decide +kernel
theorem dX4_fillWith_31 : decode cX4_fillWith 31 = .ok (.iload_n 3, 1) := by decide +kernel
theorem dX4_fillWith_32 : decode cX4_fillWith 32 = .ok (.aload_n 1, 1) := by decide +kernel
theorem dX4_fillWith_33 : decode cX4_fillWith 33 = .ok (.getfield 28, 3) := by decide +kernel
theorem dX4_fillWith_36 : decode cX4_fillWith 36 = .ok (.if_icmp .ge 78, 3) := by decide +kernel
theorem dX4_fillWith_39 : decode cX4_fillWith 39 = .ok (.aload_n 1, 1) := by decide +kernel
theorem dX4_fillWith_40 : decode cX4_fillWith 40 = .ok (.getfield 18, 3) := by decide +kernel
theorem dX4_fillWith_43 : decode cX4_fillWith 43 = .ok (.iload_n 3, 1) := by decide +kernel
theorem dX4_fillWith_44 : decode cX4_fillWith 44 = .ok (.iaload, 1) := by decide +kernel
theorem dX4_fillWith_45 : decode cX4_fillWith 45 = .ok (.istore 4, 2) := by decide +kernel
theorem dX4_fillWith_47 : decode cX4_fillWith 47 = .ok (.aload_n 1, 1) := by decide +kernel
theorem dX4_fillWith_48 : decode cX4_fillWith 48 = .ok (.getfield 9, 3) := by decide +kernel
theorem dX4_fillWith_51 : decode cX4_fillWith 51 = .ok (.iload_n 3, 1) := by decide +kernel
theorem dX4_fillWith_52 : decode cX4_fillWith 52 = .ok (.iaload, 1) := by decide +kernel
theorem dX4_fillWith_53 : decode cX4_fillWith 53 = .ok (.iconst 1, 1) := by decide +kernel
theorem dX4_fillWith_54 : decode cX4_fillWith 54 = .ok (.if_icmp .ne 14, 3) := by decide +kernel
theorem dX4_fillWith_57 : decode cX4_fillWith 57 = .ok (.aload_n 1, 1) := by decide +kernel
theorem dX4_fillWith_58 : decode cX4_fillWith 58 = .ok (.getfield 15, 3) := by decide +kernel
theorem dX4_fillWith_61 : decode cX4_fillWith 61 = .ok (.iload_n 3, 1) := by decide +kernel
theorem dX4_fillWith_62 : decode cX4_fillWith 62 = .ok (.iaload, 1) := by decide +kernel
theorem dX4_fillWith_63 : decode cX4_fillWith 63 = .ok (.iload 4, 2) := by decide +kernel
theorem dX4_fillWith_65 : decode cX4_fillWith 65 = .ok (.if_icmp .eq 14, 3) := by decide +kernel
theorem dX4_fillWith_68 : decode cX4_fillWith 68 = .ok (.aload_n 0, 1) := by decide +kernel
theorem dX4_fillWith_69 : decode cX4_fillWith 69 = .ok (.aload_n 1, 1) := by decide +kernel
theorem dX4_fillWith_70 : decode cX4_fillWith 70 = .ok (.iload_n 3, 1) := by decide +kernel
theorem dX4_fillWith_71 : decode cX4_fillWith 71 = .ok (.iconst 0, 1) := by decide +kernel
theorem dX4_fillWith_72 : decode cX4_fillWith 72 = .ok (.iconst (-1), 1) := by decide +kernel
theorem dX4_fillWith_73 : decode cX4_fillWith 73 = .ok (.invokevirtual 46, 3) := by decide +kernel
theorem dX4_fillWith_76 : decode cX4_fillWith 76 = .ok (.goto 32, 3) := by decide +kernel
theorem dX4_fillWith_79 : decode cX4_fillWith 79 = .ok (.iconst 0, 1) := by decide +kernel
theorem dX4_fillWith_80 : decode cX4_fillWith 80 = .ok (.istore 5, 2) := by decide +kernel
theorem dX4_fillWith_82 : decode cX4_fillWith 82 = .ok (.iload 5, 2) := by decide +kernel
theorem dX4_fillWith_84 : decode cX4_fillWith 84 = .ok (.aload_n 2, 1) := by decide +kernel
theorem dX4_fillWith_85 : decode cX4_fillWith 85 = .ok (.getfield 28, 3) := by decide +kernel
theorem dX4_fillWith_88 : decode cX4_fillWith 88 = .ok (.if_icmp .ge 20, 3) := by decide +kernel
theorem dX4_fillWith_91 : decode cX4_fillWith 91 = .ok (.aload_n 0, 1) := by decide +kernel
theorem dX4_fillWith_92 : decode cX4_fillWith 92 = .ok (.aload_n 2, 1) := by decide +kernel
theorem dX4_fillWith_93 : decode cX4_fillWith 93 = .ok (.iload 5, 2) := by decide +kernel
theorem dX4_fillWith_95 : decode cX4_fillWith 95 = .ok (.iload 4, 2) := by decide +kernel
theorem dX4_fillWith_97 : decode cX4_fillWith 97 = .ok (.iload 4, 2) := by decide +kernel
theorem dX4_fillWith_99 : decode cX4_fillWith 99 = .ok (.invokevirtual 46, 3) := by decide +kernel
theorem dX4_fillWith_102 : decode cX4_fillWith 102 = .ok (.iinc 5 1, 3) := by decide +kernel
theorem dX4_fillWith_105 : decode cX4_fillWith 105 = .ok (.goto (-23), 3) := by decide +kernel
theorem dX4_fillWith_108 : decode cX4_fillWith 108 = .ok (.iinc 3 1, 3) := by decide +kernel
theorem dX4_fillWith_111 : decode cX4_fillWith 111 = .ok (.goto (-80), 3) := by decide +kernel
theorem dX4_fillWith_114 : decode cX4_fillWith 114 = .ok (.iconst 1, 1) := by decide +kernel
theorem dX4_fillWith_115 : decode cX4_fillWith 115 = .ok (.ireturn, 1) := by decide +kernel
theorem dy_X4_fillWith : DY yX4_fillWith 2 := by decide +kernel
abbrev rm_X4_fillWith : Room := { frames := 1, cells := 0, slots := 0, locals := 25 }
def j_X4_fillWith_108 (n : Nat) (K31 : St → Nat → Nat → Nat → Int32 → Option (St × Int32)) (S : St) (j : Nat) (a1 : Nat) (a2 : Nat) (l3 : Int32) : Option (St × Int32) :=
  bV (l3 + 1) fun v1 =>
  K31 S j a1 a2 v1
def j_X4_fillWith_68 (n : Nat) (K31 : St → Nat → Nat → Nat → Int32 → Option (St × Int32)) (S : St) (j : Nat) (a1 : Nat) (a2 : Nat) (l3 : Int32) : Option (St × Int32) :=
  bU (f_X4_copyMark n S j a1 l3 0 (-1)) fun S1 =>
  j_X4_fillWith_108 n K31 S1 j a1 a2 l3
def l_X4_fillWith_82 (n : Nat) (K31 : St → Nat → Nat → Nat → Int32 → Option (St × Int32)) : Nat → St → Nat → Nat → Nat → Int32 → Int32 → Int32 → Option (St × Int32)
  | 0, _, _, _, _, _, _, _ => none
  | m + 1, S, j, a1, a2, l3, l4, l5 =>
    if (S.1 150 a2) ≤ l5 then
      j_X4_fillWith_108 n K31 S j a1 a2 l3
    else
      bU (f_X4_copyMark n S j a2 l5 l4 l4) fun S2 =>
      bV (l5 + 1) fun v4 =>
      l_X4_fillWith_82 n K31 m S2 j a1 a2 l3 l4 v4
def l_X4_fillWith_31 (n : Nat) : Nat → St → Nat → Nat → Nat → Int32 → Option (St × Int32)
  | 0, _, _, _, _, _ => none
  | m + 1, S, j, a1, a2, l3 =>
    if (S.1 150 a1) ≤ l3 then
      some (S, 1)
    else
      gI S 153 a1 l3 200 fun v2 =>
      gI S 151 a1 l3 200 fun v5 =>
      if v5 = 1 then
        gI S 152 a1 l3 200 fun v9 =>
        if v9 = v2 then
          l_X4_fillWith_82 n (fun S j a1 a2 l3 => l_X4_fillWith_31 n m S j a1 a2 l3) n S j a1 a2 l3 v2 0
        else
          j_X4_fillWith_68 n (fun S j a1 a2 l3 => l_X4_fillWith_31 n m S j a1 a2 l3) S j a1 a2 l3
      else
        j_X4_fillWith_68 n (fun S j a1 a2 l3 => l_X4_fillWith_31 n m S j a1 a2 l3) S j a1 a2 l3
def g_X4_fillWith (n : Nat) (S : St) (j : Nat) (a1 : Nat) (a2 : Nat) : Option (St × Int32) :=
  pS S 150 j 0 fun S1 =>
  bI (f_X4_countNextOuter n S1 a1) fun S3 v5 =>
  if ((S1.1 150 a1) + (v5 * ((S3.1 150 a2) - 1))) ≤ 200 then
    l_X4_fillWith_31 n n S3 j a1 a2 0
  else
    some (S3, 0)
set_option maxRecDepth 100000 in
set_option maxHeartbeats 4000000 in
theorem t_X4_fillWith_108 {n : Nat} {K31 : St → Nat → Nat → Nat → Int32 → Option (St × Int32)} {x : XC} (hx : CX x cX4_fillWith 6 RX4) (hR : x_R x = rm_X4_fillWith) (hKS : ∀ k ∈ KK, k ∈ x_K x) {out : St × Int32} (hE : EI x cX4_fillWith out) (hK31 : ∀ {S : St} {j : Nat} {a1 : Nat} {a2 : Nat} {l3 : Int32} (_ : j < 107) (_ : a1 < 107) (_ : a2 < 107), K31 S j a1 a2 l3 = some out → WX x 6 0 0 S 31 [(0, .ref (x_ad x 0 3 j)), (1, .ref (x_ad x 0 3 a1)), (2, .ref (x_ad x 0 3 a2)), (3, .int l3)] []) {S : St} {j : Nat} {a1 : Nat} {a2 : Nat} {l3 : Int32} (h_j : j < 107) (h_a1 : a1 < 107) (h_a2 : a2 < 107) (h : j_X4_fillWith_108 n K31 S j a1 a2 l3 = some out) : WX x 6 0 0 S 108 [(0, .ref (x_ad x 0 3 j)), (1, .ref (x_ad x 0 3 a1)), (2, .ref (x_ad x 0 3 a2)), (3, .int l3)] [] := by
  unfold j_X4_fillWith_108 at h
  obtain ⟨v1, e2, h⟩ := bV_some h
  refine r_iinc (k := 3) (v := v1) (lv' := [(3, .int v1), (0, .ref (x_ad x 0 3 j)), (1, .ref (x_ad x 0 3 a1)), (2, .ref (x_ad x 0 3 a2))]) hx dX4_fillWith_108 rfl (by rw [e2]; rfl) (by decide) rfl ?_
  refine r_goto (tgt := 31) hx dX4_fillWith_111 (by decide) ?_
  refine WX.sub (lv' := [(0, .ref (x_ad x 0 3 j)), (1, .ref (x_ad x 0 3 a1)), (2, .ref (x_ad x 0 3 a2)), (3, .int v1)]) ?_ [1, 2, 3, 0] rfl
  exact hK31 h_j h_a1 h_a2 h
set_option maxRecDepth 100000 in
set_option maxHeartbeats 4000000 in
theorem t_X4_fillWith_68 {n : Nat} {K31 : St → Nat → Nat → Nat → Int32 → Option (St × Int32)} {x : XC} (hx : CX x cX4_fillWith 6 RX4) (hR : x_R x = rm_X4_fillWith) (hKS : ∀ k ∈ KK, k ∈ x_K x) {out : St × Int32} (hE : EI x cX4_fillWith out) (hK31 : ∀ {S : St} {j : Nat} {a1 : Nat} {a2 : Nat} {l3 : Int32} (_ : j < 107) (_ : a1 < 107) (_ : a2 < 107), K31 S j a1 a2 l3 = some out → WX x 6 0 0 S 31 [(0, .ref (x_ad x 0 3 j)), (1, .ref (x_ad x 0 3 a1)), (2, .ref (x_ad x 0 3 a2)), (3, .int l3)] []) {S : St} {j : Nat} {a1 : Nat} {a2 : Nat} {l3 : Int32} (h_j : j < 107) (h_a1 : a1 < 107) (h_a2 : a2 < 107) (h : j_X4_fillWith_68 n K31 S j a1 a2 l3 = some out) : WX x 6 0 0 S 68 [(0, .ref (x_ad x 0 3 j)), (1, .ref (x_ad x 0 3 a1)), (2, .ref (x_ad x 0 3 a2)), (3, .int l3)] [] := by
  unfold j_X4_fillWith_68 at h
  refine r_aload_n (k0 := 0) hx dX4_fillWith_68 rfl rfl ?_
  refine r_aload_n (k0 := 1) hx dX4_fillWith_69 rfl rfl ?_
  refine r_iload_n (k0 := 3) hx dX4_fillWith_70 rfl rfl ?_
  refine r_iconst (v := 0) hx dX4_fillWith_71 (by decide) ?_
  refine r_iconst (v := -1) hx dX4_fillWith_72 (by decide) ?_
  obtain ⟨S1, c2, h⟩ := bU_some h
  refine r_Vv (ci := 3) (As := [.ref (x_ad x 0 3 a1), .int l3, .int 0, .int (-1)]) (rest := []) hx (C_X4_copyMark (c := x_y x) hKS h_j h_a1 c2) (kr_0 hKS h_j) rfl wl_X4_46 wi_X4_copyMark we_X4_copyMark wn_X4 wc_X4_copyMark dy_X4_copyMark rfl (by rw [hR]; decide +kernel) rfl (Nat.le_of_ble_eq_true rfl) dX4_fillWith_73 ?_
  refine r_goto (tgt := 108) hx dX4_fillWith_76 (by decide) ?_
  exact t_X4_fillWith_108 hx hR hKS hE hK31 h_j h_a1 h_a2 h
set_option maxRecDepth 100000 in
set_option maxHeartbeats 4000000 in
theorem t_X4_fillWith_82 {n : Nat} {K31 : St → Nat → Nat → Nat → Int32 → Option (St × Int32)} {x : XC} (hx : CX x cX4_fillWith 6 RX4) (hR : x_R x = rm_X4_fillWith) (hKS : ∀ k ∈ KK, k ∈ x_K x) {out : St × Int32} (hE : EI x cX4_fillWith out) (hK31 : ∀ {S : St} {j : Nat} {a1 : Nat} {a2 : Nat} {l3 : Int32} (_ : j < 107) (_ : a1 < 107) (_ : a2 < 107), K31 S j a1 a2 l3 = some out → WX x 6 0 0 S 31 [(0, .ref (x_ad x 0 3 j)), (1, .ref (x_ad x 0 3 a1)), (2, .ref (x_ad x 0 3 a2)), (3, .int l3)] []) : ∀ {m : Nat} {S : St} {j : Nat} {a1 : Nat} {a2 : Nat} {l3 : Int32} {l4 : Int32} {l5 : Int32} (h_j : j < 107) (h_a1 : a1 < 107) (h_a2 : a2 < 107) (h : l_X4_fillWith_82 n K31 m S j a1 a2 l3 l4 l5 = some out), WX x 6 0 0 S 82 [(0, .ref (x_ad x 0 3 j)), (1, .ref (x_ad x 0 3 a1)), (2, .ref (x_ad x 0 3 a2)), (3, .int l3), (4, .int l4), (5, .int l5)] [] := by
  intro m
  induction m with
  | zero => intro S j a1 a2 l3 l4 l5 h_j h_a1 h_a2 h; cases h
  | succ m ih =>
    intro S j a1 a2 l3 l4 l5 h_j h_a1 h_a2 h
    unfold l_X4_fillWith_82 at h
    refine r_iload (k0 := 5) hx dX4_fillWith_82 rfl ?_
    refine r_aload_n (k0 := 2) hx dX4_fillWith_84 rfl rfl ?_
    refine g_150 hx (kr_0 hKS h_a2) wf_X4_28 dX4_fillWith_85 ?_
    refine r_icmp_ge (tgt := 108) hx dX4_fillWith_88 (by decide) (fun c1 => ?_) (fun c1 => ?_)
    · have h := ite_t h c1
      refine WX.sub (lv' := [(0, .ref (x_ad x 0 3 j)), (1, .ref (x_ad x 0 3 a1)), (2, .ref (x_ad x 0 3 a2)), (3, .int l3)]) ?_ [0, 1, 2, 3] rfl
      exact t_X4_fillWith_108 hx hR hKS hE hK31 h_j h_a1 h_a2 h
    · have h := ite_f h c1
      refine r_aload_n (k0 := 0) hx dX4_fillWith_91 rfl rfl ?_
      refine r_aload_n (k0 := 2) hx dX4_fillWith_92 rfl rfl ?_
      refine r_iload (k0 := 5) hx dX4_fillWith_93 rfl ?_
      refine r_iload (k0 := 4) hx dX4_fillWith_95 rfl ?_
      refine r_iload (k0 := 4) hx dX4_fillWith_97 rfl ?_
      obtain ⟨S2, c3, h⟩ := bU_some h
      refine r_Vv (ci := 3) (As := [.ref (x_ad x 0 3 a2), .int l5, .int l4, .int l4]) (rest := []) hx (C_X4_copyMark (c := x_y x) hKS h_j h_a2 c3) (kr_0 hKS h_j) rfl wl_X4_46 wi_X4_copyMark we_X4_copyMark wn_X4 wc_X4_copyMark dy_X4_copyMark rfl (by rw [hR]; decide +kernel) rfl (Nat.le_of_ble_eq_true rfl) dX4_fillWith_99 ?_
      obtain ⟨v4, e5, h⟩ := bV_some h
      refine r_iinc (k := 5) (v := v4) (lv' := [(5, .int v4), (0, .ref (x_ad x 0 3 j)), (1, .ref (x_ad x 0 3 a1)), (2, .ref (x_ad x 0 3 a2)), (3, .int l3), (4, .int l4)]) hx dX4_fillWith_102 rfl (by rw [e5]; rfl) (by decide) rfl ?_
      refine r_goto (tgt := 82) hx dX4_fillWith_105 (by decide) ?_
      refine WX.sub (lv' := [(0, .ref (x_ad x 0 3 j)), (1, .ref (x_ad x 0 3 a1)), (2, .ref (x_ad x 0 3 a2)), (3, .int l3), (4, .int l4), (5, .int v4)]) ?_ [1, 2, 3, 4, 5, 0] rfl
      exact ih h_j h_a1 h_a2 h
set_option maxRecDepth 100000 in
set_option maxHeartbeats 4000000 in
theorem t_X4_fillWith_31 {n : Nat} {x : XC} (hx : CX x cX4_fillWith 6 RX4) (hR : x_R x = rm_X4_fillWith) (hKS : ∀ k ∈ KK, k ∈ x_K x) {out : St × Int32} (hE : EI x cX4_fillWith out) : ∀ {m : Nat} {S : St} {j : Nat} {a1 : Nat} {a2 : Nat} {l3 : Int32} (h_j : j < 107) (h_a1 : a1 < 107) (h_a2 : a2 < 107) (h : l_X4_fillWith_31 n m S j a1 a2 l3 = some out), WX x 6 0 0 S 31 [(0, .ref (x_ad x 0 3 j)), (1, .ref (x_ad x 0 3 a1)), (2, .ref (x_ad x 0 3 a2)), (3, .int l3)] [] := by
  intro m
  induction m with
  | zero => intro S j a1 a2 l3 h_j h_a1 h_a2 h; cases h
  | succ m ih =>
    intro S j a1 a2 l3 h_j h_a1 h_a2 h
    unfold l_X4_fillWith_31 at h
    refine r_iload_n (k0 := 3) hx dX4_fillWith_31 rfl rfl ?_
    refine r_aload_n (k0 := 1) hx dX4_fillWith_32 rfl rfl ?_
    refine g_150 hx (kr_0 hKS h_a1) wf_X4_28 dX4_fillWith_33 ?_
    refine r_icmp_ge (tgt := 114) hx dX4_fillWith_36 (by decide) (fun c1 => ?_) (fun c1 => ?_)
    · have h := ite_t h c1
      refine r_iconst (v := 1) hx dX4_fillWith_114 (by decide) ?_
      exact r_iret hE h dX4_fillWith_115
    · have h := ite_f h c1
      refine r_aload_n (k0 := 1) hx dX4_fillWith_39 rfl rfl ?_
      refine g_153 hx (kr_0 hKS h_a1) wf_X4_18 dX4_fillWith_40 ?_
      refine r_iload_n (k0 := 3) hx dX4_fillWith_43 rfl rfl ?_
      obtain ⟨v2, e3, i4, h⟩ := gI_some h
      refine r_iald hx (kr_153 hKS h_a1) rfl i4 e3 dX4_fillWith_44 ?_
      refine r_istore (lv' := [(4, .int v2), (0, .ref (x_ad x 0 3 j)), (1, .ref (x_ad x 0 3 a1)), (2, .ref (x_ad x 0 3 a2)), (3, .int l3)]) hx dX4_fillWith_45 (by decide) rfl ?_
      refine r_aload_n (k0 := 2) hx dX4_fillWith_47 rfl rfl ?_
      refine g_151 hx (kr_0 hKS h_a1) wf_X4_9 dX4_fillWith_48 ?_
      refine r_iload_n (k0 := 4) hx dX4_fillWith_51 rfl rfl ?_
      obtain ⟨v5, e6, i7, h⟩ := gI_some h
      refine r_iald hx (kr_151 hKS h_a1) rfl i7 e6 dX4_fillWith_52 ?_
      refine r_iconst (v := 1) hx dX4_fillWith_53 (by decide) ?_
      refine r_icmp_ne (tgt := 68) hx dX4_fillWith_54 (by decide) (fun c8 => ?_) (fun c8 => ?_)
      · have h := ite_f h c8
        refine WX.sub (lv' := [(0, .ref (x_ad x 0 3 j)), (1, .ref (x_ad x 0 3 a1)), (2, .ref (x_ad x 0 3 a2)), (3, .int l3)]) ?_ [1, 2, 3, 4] rfl
        exact t_X4_fillWith_68 hx hR hKS hE ih h_j h_a1 h_a2 h
      · have h := ite_t h c8
        refine r_aload_n (k0 := 2) hx dX4_fillWith_57 rfl rfl ?_
        refine g_152 hx (kr_0 hKS h_a1) wf_X4_15 dX4_fillWith_58 ?_
        refine r_iload_n (k0 := 4) hx dX4_fillWith_61 rfl rfl ?_
        obtain ⟨v9, e10, i11, h⟩ := gI_some h
        refine r_iald hx (kr_152 hKS h_a1) rfl i11 e10 dX4_fillWith_62 ?_
        refine r_iload (k0 := 0) hx dX4_fillWith_63 rfl ?_
        refine r_icmp_eq (tgt := 79) hx dX4_fillWith_65 (by decide) (fun c12 => ?_) (fun c12 => ?_)
        · have h := ite_t h c12
          refine r_iconst (v := 0) hx dX4_fillWith_79 (by decide) ?_
          refine r_istore (lv' := [(5, .int 0), (4, .int v2), (0, .ref (x_ad x 0 3 j)), (1, .ref (x_ad x 0 3 a1)), (2, .ref (x_ad x 0 3 a2)), (3, .int l3)]) hx dX4_fillWith_80 (by decide) rfl ?_
          refine WX.sub (lv' := [(0, .ref (x_ad x 0 3 j)), (1, .ref (x_ad x 0 3 a1)), (2, .ref (x_ad x 0 3 a2)), (3, .int l3), (4, .int v2), (5, .int 0)]) ?_ [2, 3, 4, 5, 1, 0] rfl
          exact t_X4_fillWith_82 hx hR hKS hE ih h_j h_a1 h_a2 h
        · have h := ite_f h c12
          refine WX.sub (lv' := [(0, .ref (x_ad x 0 3 j)), (1, .ref (x_ad x 0 3 a1)), (2, .ref (x_ad x 0 3 a2)), (3, .int l3)]) ?_ [1, 2, 3, 4] rfl
          exact t_X4_fillWith_68 hx hR hKS hE ih h_j h_a1 h_a2 h
set_option maxRecDepth 100000 in
set_option maxHeartbeats 4000000 in
theorem t_X4_fillWith_0 {n : Nat} {x : XC} (hx : CX x cX4_fillWith 6 RX4) (hR : x_R x = rm_X4_fillWith) (hKS : ∀ k ∈ KK, k ∈ x_K x) {out : St × Int32} (hE : EI x cX4_fillWith out) {S : St} {j : Nat} {a1 : Nat} {a2 : Nat} (h_j : j < 107) (h_a1 : a1 < 107) (h_a2 : a2 < 107) (h : g_X4_fillWith n S j a1 a2 = some out) : WX x 6 0 0 S 0 [(0, .ref (x_ad x 0 3 j)), (1, .ref (x_ad x 0 3 a1)), (2, .ref (x_ad x 0 3 a2))] [] := by
  unfold g_X4_fillWith at h
  refine r_aload_n (k0 := 0) hx dX4_fillWith_0 rfl rfl ?_
  refine r_iconst (v := 0) hx dX4_fillWith_1 (by decide) ?_
  obtain ⟨S1, e2, h⟩ := pS_some h
  refine p_150 hx (kr_0 hKS h_j) wf_X4_28 dX4_fillWith_2 e2 ?_
  refine r_aload_n (k0 := 1) hx dX4_fillWith_5 rfl rfl ?_
  refine g_150 hx (kr_0 hKS h_a1) wf_X4_28 dX4_fillWith_6 ?_
  refine r_aload_n (k0 := 1) hx dX4_fillWith_9 rfl rfl ?_
  obtain ⟨S3, v5, c4, h⟩ := bI_some h
  refine r_Vi (ci := 3) (As := []) (rest := [.int (S1.1 150 a1)]) hx (C_X4_countNextOuter (c := x_y x) hKS h_a1 c4) (kr_0 hKS h_a1) rfl wl_X4_50 wi_X4_countNextOuter we_X4_countNextOuter wn_X4 wc_X4_countNextOuter dy_X4_countNextOuter rfl (by rw [hR]; decide +kernel) rfl (Nat.le_of_ble_eq_true rfl) dX4_fillWith_10 ?_
  refine r_aload_n (k0 := 2) hx dX4_fillWith_13 rfl rfl ?_
  refine g_150 hx (kr_0 hKS h_a2) wf_X4_28 dX4_fillWith_14 ?_
  refine r_iconst (v := 1) hx dX4_fillWith_17 (by decide) ?_
  refine r_isub hx dX4_fillWith_18 ?_
  refine r_imul hx dX4_fillWith_19 ?_
  refine r_iadd hx dX4_fillWith_20 ?_
  refine r_sipush (v := 200) hx dX4_fillWith_21 (by decide) ?_
  refine r_icmp_le (tgt := 29) hx dX4_fillWith_24 (by decide) (fun c6 => ?_) (fun c6 => ?_)
  · have h := ite_t h c6
    refine r_iconst (v := 0) hx dX4_fillWith_29 (by decide) ?_
    refine r_istore_n (lv' := [(3, .int 0), (0, .ref (x_ad x 0 3 j)), (1, .ref (x_ad x 0 3 a1)), (2, .ref (x_ad x 0 3 a2))]) hx dX4_fillWith_30 rfl (by decide) rfl ?_
    refine WX.sub (lv' := [(0, .ref (x_ad x 0 3 j)), (1, .ref (x_ad x 0 3 a1)), (2, .ref (x_ad x 0 3 a2)), (3, .int 0)]) ?_ [1, 2, 3, 0] rfl
    exact t_X4_fillWith_31 hx hR hKS hE h_j h_a1 h_a2 h
  · have h := ite_f h c6
    refine r_iconst (v := 0) hx dX4_fillWith_27 (by decide) ?_
    exact r_iret hE h dX4_fillWith_28
def f_X4_fillWith (n : Nat) (S : St) (j : Nat) (a1 : Nat) (a2 : Nat) : Option (St × Int32) := zW (g_X4_fillWith n S j a1 a2)
set_option maxHeartbeats 4000000 in
theorem C_X4_fillWith {n : Nat} {c : YC} (hKS : ∀ k ∈ KK, k ∈ c.2.2.2.2) {S : St} {j : Nat} {a1 : Nat} {a2 : Nat} {out : St × Int32} (h_j : j < 107) (h_a1 : a1 < 107) (h_a2 : a2 < 107) (h : f_X4_fillWith n S j a1 a2 = some out) : MI c yX4_fillWith cX4_fillWith 6 (some .boolean) rm_X4_fillWith S [.ref (c.2.2.1 0 3 j), .ref (c.2.2.1 0 3 a1), .ref (c.2.2.1 0 3 a2)] out := mk_Z (own := RX4) (by decide +kernel) rfl (Nat.le_of_ble_eq_true rfl) (zW_some h).2 (fun x hx hR hy hE => by subst hy; exact t_X4_fillWith_0 hx hR hKS hE h_j h_a1 h_a2 (zW_some h).1)
theorem dX4_moveTail_0 : decode cX4_moveTail 0 = .ok (.aload_n 0, 1) := by decide +kernel
theorem dX4_moveTail_1 : decode cX4_moveTail 1 = .ok (.getfield 28, 3) := by decide +kernel
theorem dX4_moveTail_4 : decode cX4_moveTail 4 = .ok (.iload_n 1, 1) := by decide +kernel
theorem dX4_moveTail_5 : decode cX4_moveTail 5 = .ok (.isub, 1) := by decide +kernel
theorem dX4_moveTail_6 : decode cX4_moveTail 6 = .ok (.istore_n 3, 1) := by decide +kernel
theorem dX4_moveTail_7 : decode cX4_moveTail 7 = .ok (.iload_n 1, 1) := by decide +kernel
theorem dX4_moveTail_8 : decode cX4_moveTail 8 = .ok (.ifCond .lt 20, 3) := by decide +kernel
theorem dX4_moveTail_11 : decode cX4_moveTail 11 = .ok (.iload_n 2, 1) := by decide +kernel
theorem dX4_moveTail_12 : decode cX4_moveTail 12 = .ok (.ifCond .lt 16, 3) := by decide +kernel
theorem dX4_moveTail_15 : decode cX4_moveTail 15 = .ok (.iload_n 3, 1) := by decide +kernel
theorem dX4_moveTail_16 : decode cX4_moveTail 16 = .ok (.ifCond .lt 12, 3) := by decide +kernel
theorem dX4_moveTail_19 : decode cX4_moveTail 19 = .ok (.iload_n 2, 1) := by decide +kernel
theorem dX4_moveTail_20 : decode cX4_moveTail 20 = .ok (.iload_n 3, 1) := by decide +kernel
theorem dX4_moveTail_21 : decode cX4_moveTail 21 = .ok (.iadd, 1) := by decide +kernel
theorem dX4_moveTail_22 : decode cX4_moveTail 22 = .ok (.sipush 200, 3) := by decide +kernel
theorem dX4_moveTail_25 : decode cX4_moveTail 25 = .ok (.if_icmp .le 4, 3) := by decide +kernel
theorem dX4_moveTail_28 : decode cX4_moveTail 28 = .ok (.return_, 1) := by decide +kernel
theorem dX4_moveTail_29 : decode cX4_moveTail 29 = .ok (.aload_n 0, 1) := by decide +kernel
theorem dX4_moveTail_30 : decode cX4_moveTail 30 = .ok (.getfield 9, 3) := by decide +kernel
theorem dX4_moveTail_33 : decode cX4_moveTail 33 = .ok (.iload_n 1, 1) := by decide +kernel
theorem dX4_moveTail_34 : decode cX4_moveTail 34 = .ok (.aload_n 0, 1) := by decide +kernel
theorem dX4_moveTail_35 : decode cX4_moveTail 35 = .ok (.getfield 9, 3) := by decide +kernel
theorem dX4_moveTail_38 : decode cX4_moveTail 38 = .ok (.iload_n 2, 1) := by decide +kernel
theorem dX4_moveTail_39 : decode cX4_moveTail 39 = .ok (.iload_n 3, 1) := by decide +kernel
theorem dX4_moveTail_40 : decode cX4_moveTail 40 = .ok (.invokestatic 58, 3) := by decide +kernel
theorem dX4_moveTail_43 : decode cX4_moveTail 43 = .ok (.aload_n 0, 1) := by decide +kernel
theorem dX4_moveTail_44 : decode cX4_moveTail 44 = .ok (.getfield 15, 3) := by decide +kernel
theorem dX4_moveTail_47 : decode cX4_moveTail 47 = .ok (.iload_n 1, 1) := by decide +kernel
theorem dX4_moveTail_48 : decode cX4_moveTail 48 = .ok (.aload_n 0, 1) := by decide +kernel
theorem dX4_moveTail_49 : decode cX4_moveTail 49 = .ok (.getfield 15, 3) := by decide +kernel
theorem dX4_moveTail_52 : decode cX4_moveTail 52 = .ok (.iload_n 2, 1) := by decide +kernel
theorem dX4_moveTail_53 : decode cX4_moveTail 53 = .ok (.iload_n 3, 1) := by decide +kernel
theorem dX4_moveTail_54 : decode cX4_moveTail 54 = .ok (.invokestatic 58, 3) := by decide +kernel
theorem dX4_moveTail_57 : decode cX4_moveTail 57 = .ok (.aload_n 0, 1) := by decide +kernel
theorem dX4_moveTail_58 : decode cX4_moveTail 58 = .ok (.getfield 18, 3) := by decide +kernel
theorem dX4_moveTail_61 : decode cX4_moveTail 61 = .ok (.iload_n 1, 1) := by decide +kernel
theorem dX4_moveTail_62 : decode cX4_moveTail 62 = .ok (.aload_n 0, 1) := by decide +kernel
theorem dX4_moveTail_63 : decode cX4_moveTail 63 = .ok (.getfield 18, 3) := by decide +kernel
theorem dX4_moveTail_66 : decode cX4_moveTail 66 = .ok (.iload_n 2, 1) := by decide +kernel
theorem dX4_moveTail_67 : decode cX4_moveTail 67 = .ok (.iload_n 3, 1) := by decide +kernel
theorem dX4_moveTail_68 : decode cX4_moveTail 68 = .ok (.invokestatic 58, 3) := by decide +kernel
theorem dX4_moveTail_71 : decode cX4_moveTail 71 = .ok (.aload_n 0, 1) := by decide +kernel
theorem dX4_moveTail_72 : decode cX4_moveTail 72 = .ok (.getfield 21, 3) := by decide +kernel
theorem dX4_moveTail_75 : decode cX4_moveTail 75 = .ok (.iload_n 1, 1) := by decide +kernel
theorem dX4_moveTail_76 : decode cX4_moveTail 76 = .ok (.aload_n 0, 1) := by decide +kernel
theorem dX4_moveTail_77 : decode cX4_moveTail 77 = .ok (.getfield 21, 3) := by decide +kernel
theorem dX4_moveTail_80 : decode cX4_moveTail 80 = .ok (.iload_n 2, 1) := by decide +kernel
theorem dX4_moveTail_81 : decode cX4_moveTail 81 = .ok (.iload_n 3, 1) := by decide +kernel
theorem dX4_moveTail_82 : decode cX4_moveTail 82 = .ok (.invokestatic 58, 3) := by decide +kernel
theorem dX4_moveTail_85 : decode cX4_moveTail 85 = .ok (.aload_n 0, 1) := by decide +kernel
theorem dX4_moveTail_86 : decode cX4_moveTail 86 = .ok (.getfield 25, 3) := by decide +kernel
theorem dX4_moveTail_89 : decode cX4_moveTail 89 = .ok (.iload_n 1, 1) := by decide +kernel
theorem dX4_moveTail_90 : decode cX4_moveTail 90 = .ok (.aload_n 0, 1) := by decide +kernel
theorem dX4_moveTail_91 : decode cX4_moveTail 91 = .ok (.getfield 25, 3) := by decide +kernel
theorem dX4_moveTail_94 : decode cX4_moveTail 94 = .ok (.iload_n 2, 1) := by decide +kernel
theorem dX4_moveTail_95 : decode cX4_moveTail 95 = .ok (.iload_n 3, 1) := by decide +kernel
theorem dX4_moveTail_96 : decode cX4_moveTail 96 = .ok (.invokestatic 58, 3) := by decide +kernel
theorem dX4_moveTail_99 : decode cX4_moveTail 99 = .ok (.aload_n 0, 1) := by decide +kernel
theorem dX4_moveTail_100 : decode cX4_moveTail 100 = .ok (.iload_n 2, 1) := by decide +kernel
theorem dX4_moveTail_101 : decode cX4_moveTail 101 = .ok (.iload_n 3, 1) := by decide +kernel
theorem dX4_moveTail_102 : decode cX4_moveTail 102 = .ok (.iadd, 1) := by decide +kernel
theorem dX4_moveTail_103 : decode cX4_moveTail 103 = .ok (.putfield 28, 3) := by decide +kernel
theorem dX4_moveTail_106 : decode cX4_moveTail 106 = .ok (.return_, 1) := by decide +kernel
theorem dy_X4_moveTail : DY yX4_moveTail 2 := by decide +kernel
abbrev rm_X4_moveTail : Room := { frames := 1, cells := 0, slots := 0, locals := 100 }
def f_X4_moveTail (n : Nat) (S : St) (j : Nat) (a1 : Int32) (a2 : Int32) : Option (St) :=
  bV ((S.1 150 j) - a1) fun v1 =>
  if a1 < 0 then
    some S
  else
    if a2 < 0 then
      some S
    else
      if v1 < 0 then
        some S
      else
        if (a2 + v1) ≤ 200 then
          cpI S 151 j a1 a2 v1 200 fun S7 =>
          cpI S7 152 j a1 a2 v1 200 fun S10 =>
          cpI S10 153 j a1 a2 v1 200 fun S13 =>
          cpL S13 154 j a1 a2 v1 200 fun S16 =>
          cpL S16 155 j a1 a2 v1 200 fun S19 =>
          pS S19 150 j (a2 + v1) fun S22 =>
          some S22
        else
          some S
set_option maxRecDepth 100000 in
set_option maxHeartbeats 4000000 in
theorem t_X4_moveTail_0 {n : Nat} {x : XC} (hx : CX x cX4_moveTail 4 RX4) (hR : x_R x = rm_X4_moveTail) (hKS : ∀ k ∈ KK, k ∈ x_K x) {out : St} (hE : EV x cX4_moveTail out) {S : St} {j : Nat} {a1 : Int32} {a2 : Int32} (h_j : j < 107) (h : f_X4_moveTail n S j a1 a2 = some out) : WX x 4 0 0 S 0 [(0, .ref (x_ad x 0 3 j)), (1, .int a1), (2, .int a2)] [] := by
  unfold f_X4_moveTail at h
  refine r_aload_n (k0 := 0) hx dX4_moveTail_0 rfl rfl ?_
  refine g_150 hx (kr_0 hKS h_j) wf_X4_28 dX4_moveTail_1 ?_
  refine r_iload_n (k0 := 1) hx dX4_moveTail_4 rfl rfl ?_
  refine r_isub hx dX4_moveTail_5 ?_
  obtain ⟨v1, e2, h⟩ := bV_some h
  rw [← e2]
  refine r_istore_n (lv' := [(3, .int v1), (0, .ref (x_ad x 0 3 j)), (1, .int a1), (2, .int a2)]) hx dX4_moveTail_6 rfl (by decide) rfl ?_
  refine r_iload_n (k0 := 2) hx dX4_moveTail_7 rfl rfl ?_
  refine r_if_lt (tgt := 28) hx dX4_moveTail_8 (by decide) (fun c3 => ?_) (fun c3 => ?_)
  · have h := ite_t h c3
    exact r_vret hE h dX4_moveTail_28
  · have h := ite_f h c3
    refine r_iload_n (k0 := 3) hx dX4_moveTail_11 rfl rfl ?_
    refine r_if_lt (tgt := 28) hx dX4_moveTail_12 (by decide) (fun c4 => ?_) (fun c4 => ?_)
    · have h := ite_t h c4
      exact r_vret hE h dX4_moveTail_28
    · have h := ite_f h c4
      refine r_iload_n (k0 := 0) hx dX4_moveTail_15 rfl rfl ?_
      refine r_if_lt (tgt := 28) hx dX4_moveTail_16 (by decide) (fun c5 => ?_) (fun c5 => ?_)
      · have h := ite_t h c5
        exact r_vret hE h dX4_moveTail_28
      · have h := ite_f h c5
        refine r_iload_n (k0 := 3) hx dX4_moveTail_19 rfl rfl ?_
        refine r_iload_n (k0 := 0) hx dX4_moveTail_20 rfl rfl ?_
        refine r_iadd hx dX4_moveTail_21 ?_
        refine r_sipush (v := 200) hx dX4_moveTail_22 (by decide) ?_
        refine r_icmp_le (tgt := 29) hx dX4_moveTail_25 (by decide) (fun c6 => ?_) (fun c6 => ?_)
        · have h := ite_t h c6
          refine r_aload_n (k0 := 1) hx dX4_moveTail_29 rfl rfl ?_
          refine g_151 hx (kr_0 hKS h_j) wf_X4_9 dX4_moveTail_30 ?_
          refine r_iload_n (k0 := 2) hx dX4_moveTail_33 rfl rfl ?_
          refine r_aload_n (k0 := 1) hx dX4_moveTail_34 rfl rfl ?_
          refine g_151 hx (kr_0 hKS h_j) wf_X4_9 dX4_moveTail_35 ?_
          refine r_iload_n (k0 := 3) hx dX4_moveTail_38 rfl rfl ?_
          refine r_iload_n (k0 := 0) hx dX4_moveTail_39 rfl rfl ?_
          obtain ⟨S7, e8, i9, h⟩ := cpI_some h
          refine r_copyI hx (kr_151 hKS h_j) rfl i9 e8 wl_X4_58 (by rw [hR]; decide +kernel) (by rw [hR]; exact Nat.le_of_ble_eq_true rfl) dX4_moveTail_40 ?_
          refine r_aload_n (k0 := 1) hx dX4_moveTail_43 rfl rfl ?_
          refine g_152 hx (kr_0 hKS h_j) wf_X4_15 dX4_moveTail_44 ?_
          refine r_iload_n (k0 := 2) hx dX4_moveTail_47 rfl rfl ?_
          refine r_aload_n (k0 := 1) hx dX4_moveTail_48 rfl rfl ?_
          refine g_152 hx (kr_0 hKS h_j) wf_X4_15 dX4_moveTail_49 ?_
          refine r_iload_n (k0 := 3) hx dX4_moveTail_52 rfl rfl ?_
          refine r_iload_n (k0 := 0) hx dX4_moveTail_53 rfl rfl ?_
          obtain ⟨S10, e11, i12, h⟩ := cpI_some h
          refine r_copyI hx (kr_152 hKS h_j) rfl i12 e11 wl_X4_58 (by rw [hR]; decide +kernel) (by rw [hR]; exact Nat.le_of_ble_eq_true rfl) dX4_moveTail_54 ?_
          refine r_aload_n (k0 := 1) hx dX4_moveTail_57 rfl rfl ?_
          refine g_153 hx (kr_0 hKS h_j) wf_X4_18 dX4_moveTail_58 ?_
          refine r_iload_n (k0 := 2) hx dX4_moveTail_61 rfl rfl ?_
          refine r_aload_n (k0 := 1) hx dX4_moveTail_62 rfl rfl ?_
          refine g_153 hx (kr_0 hKS h_j) wf_X4_18 dX4_moveTail_63 ?_
          refine r_iload_n (k0 := 3) hx dX4_moveTail_66 rfl rfl ?_
          refine r_iload_n (k0 := 0) hx dX4_moveTail_67 rfl rfl ?_
          obtain ⟨S13, e14, i15, h⟩ := cpI_some h
          refine r_copyI hx (kr_153 hKS h_j) rfl i15 e14 wl_X4_58 (by rw [hR]; decide +kernel) (by rw [hR]; exact Nat.le_of_ble_eq_true rfl) dX4_moveTail_68 ?_
          refine r_aload_n (k0 := 1) hx dX4_moveTail_71 rfl rfl ?_
          refine g_154 hx (kr_0 hKS h_j) wf_X4_21 dX4_moveTail_72 ?_
          refine r_iload_n (k0 := 2) hx dX4_moveTail_75 rfl rfl ?_
          refine r_aload_n (k0 := 1) hx dX4_moveTail_76 rfl rfl ?_
          refine g_154 hx (kr_0 hKS h_j) wf_X4_21 dX4_moveTail_77 ?_
          refine r_iload_n (k0 := 3) hx dX4_moveTail_80 rfl rfl ?_
          refine r_iload_n (k0 := 0) hx dX4_moveTail_81 rfl rfl ?_
          obtain ⟨S16, e17, i18, h⟩ := cpL_some h
          refine r_copyL hx (kr_154 hKS h_j) rfl i18 e17 wl_X4_58 (by rw [hR]; decide +kernel) (by rw [hR]; exact Nat.le_of_ble_eq_true rfl) dX4_moveTail_82 ?_
          refine r_aload_n (k0 := 1) hx dX4_moveTail_85 rfl rfl ?_
          refine g_155 hx (kr_0 hKS h_j) wf_X4_25 dX4_moveTail_86 ?_
          refine r_iload_n (k0 := 2) hx dX4_moveTail_89 rfl rfl ?_
          refine r_aload_n (k0 := 1) hx dX4_moveTail_90 rfl rfl ?_
          refine g_155 hx (kr_0 hKS h_j) wf_X4_25 dX4_moveTail_91 ?_
          refine r_iload_n (k0 := 3) hx dX4_moveTail_94 rfl rfl ?_
          refine r_iload_n (k0 := 0) hx dX4_moveTail_95 rfl rfl ?_
          obtain ⟨S19, e20, i21, h⟩ := cpL_some h
          refine r_copyL hx (kr_155 hKS h_j) rfl i21 e20 wl_X4_58 (by rw [hR]; decide +kernel) (by rw [hR]; exact Nat.le_of_ble_eq_true rfl) dX4_moveTail_96 ?_
          refine r_aload_n (k0 := 1) hx dX4_moveTail_99 rfl rfl ?_
          refine r_iload_n (k0 := 3) hx dX4_moveTail_100 rfl rfl ?_
          refine r_iload_n (k0 := 0) hx dX4_moveTail_101 rfl rfl ?_
          refine r_iadd hx dX4_moveTail_102 ?_
          obtain ⟨S22, e23, h⟩ := pS_some h
          refine p_150 hx (kr_0 hKS h_j) wf_X4_28 dX4_moveTail_103 e23 ?_
          exact r_vret hE h dX4_moveTail_106
        · have h := ite_f h c6
          exact r_vret hE h dX4_moveTail_28
set_option maxHeartbeats 4000000 in
theorem C_X4_moveTail {n : Nat} {c : YC} (hKS : ∀ k ∈ KK, k ∈ c.2.2.2.2) {S : St} {j : Nat} {a1 : Int32} {a2 : Int32} {out : St} (h_j : j < 107) (h : f_X4_moveTail n S j a1 a2 = some out) : MV c yX4_moveTail cX4_moveTail 4 none rm_X4_moveTail S [.ref (c.2.2.1 0 3 j), .int a1, .int a2] out := mk_V (own := RX4) (by decide +kernel) rfl (Nat.le_of_ble_eq_true rfl) (fun x hx hR hy hE => by subst hy; exact t_X4_moveTail_0 hx hR hKS hE h_j h)
theorem dX4_replace_0 : decode cX4_replace 0 = .ok (.iload_n 1, 1) := by decide +kernel
theorem dX4_replace_1 : decode cX4_replace 1 = .ok (.ifCond .lt 35, 3) := by decide +kernel
theorem dX4_replace_4 : decode cX4_replace 4 = .ok (.iload_n 1, 1) := by decide +kernel
theorem dX4_replace_5 : decode cX4_replace 5 = .ok (.iload_n 2, 1) := by decide +kernel
theorem dX4_replace_6 : decode cX4_replace 6 = .ok (.if_icmp .ge 30, 3) := by decide +kernel
theorem dX4_replace_9 : decode cX4_replace 9 = .ok (.iload_n 2, 1) := by decide +kernel
theorem dX4_replace_10 : decode cX4_replace 10 = .ok (.aload_n 0, 1) := by decide +kernel
theorem dX4_replace_11 : decode cX4_replace 11 = .ok (.getfield 28, 3) := by decide +kernel
theorem dX4_replace_14 : decode cX4_replace 14 = .ok (.if_icmp .gt 22, 3) := by decide +kernel
theorem dX4_replace_17 : decode cX4_replace 17 = .ok (.aload_n 0, 1) := by decide +kernel
theorem dX4_replace_18 : decode cX4_replace 18 = .ok (.getfield 28, 3) := by decide +kernel
theorem dX4_replace_21 : decode cX4_replace 21 = .ok (.iload_n 2, 1) := by decide +kernel
theorem dX4_replace_22 : decode cX4_replace 22 = .ok (.iload_n 1, 1) := by decide +kernel
theorem dX4_replace_23 : decode cX4_replace 23 = .ok (.isub, 1) := by decide +kernel
theorem dX4_replace_24 : decode cX4_replace 24 = .ok (.isub, 1) := by decide +kernel
theorem dX4_replace_25 : decode cX4_replace 25 = .ok (.aload_n 3, 1) := by decide +kernel
theorem dX4_replace_26 : decode cX4_replace 26 = .ok (.getfield 28, 3) := by decide +kernel
theorem dX4_replace_29 : decode cX4_replace 29 = .ok (.iadd, 1) := by decide +kernel
theorem dX4_replace_30 : decode cX4_replace 30 = .ok (.sipush 200, 3) := by decide +kernel
theorem dX4_replace_33 : decode cX4_replace 33 = .ok (.if_icmp .le 5, 3) := by decide +kernel
theorem dX4_replace_36 : decode cX4_replace 36 = .ok (.iconst 0, 1) := by decide +kernel
theorem dX4_replace_37 : decode cX4_replace 37 = .ok (.ireturn, 1) := by decide +kernel
theorem dX4_replace_38 : decode cX4_replace 38 = .ok (.aload_n 0, 1) := by decide +kernel
theorem dX4_replace_39 : decode cX4_replace 39 = .ok (.getfield 18, 3) := by decide +kernel
theorem dX4_replace_42 : decode cX4_replace 42 = .ok (.iload_n 1, 1) := by decide +kernel
theorem dX4_replace_43 : decode cX4_replace 43 = .ok (.iaload, 1) := by decide +kernel
theorem dX4_replace_44 : decode cX4_replace 44 = .ok (.istore 4, 2) := by decide +kernel
theorem dX4_replace_46 : decode cX4_replace 46 = .ok (.aload_n 0, 1) := by decide +kernel
theorem dX4_replace_47 : decode cX4_replace 47 = .ok (.iload_n 2, 1) := by decide +kernel
theorem dX4_replace_48 : decode cX4_replace 48 = .ok (.iload_n 1, 1) := by decide +kernel
theorem dX4_replace_49 : decode cX4_replace 49 = .ok (.aload_n 3, 1) := by decide +kernel
theorem dX4_replace_50 : decode cX4_replace 50 = .ok (.getfield 28, 3) := by decide +kernel
theorem dX4_replace_53 : decode cX4_replace 53 = .ok (.iadd, 1) := by decide +kernel
theorem dX4_replace_54 : decode cX4_replace 54 = .ok (.invokevirtual 54, 3) := by decide +kernel
theorem dX4_replace_57 : decode cX4_replace 57 = .ok (.iconst 0, 1) := by decide +kernel
theorem dX4_replace_58 : decode cX4_replace 58 = .ok (.istore 5, 2) := by decide +kernel
theorem dX4_replace_60 : decode cX4_replace 60 = .ok (.iload 5, 2) := by decide +kernel
theorem dX4_replace_62 : decode cX4_replace 62 = .ok (.aload_n 3, 1) := by decide +kernel
theorem dX4_replace_63 : decode cX4_replace 63 = .ok (.getfield 28, 3) := by decide +kernel
theorem dX4_replace_66 : decode cX4_replace 66 = .ok (.if_icmp .ge 92, 3) := by decide +kernel
theorem dX4_replace_69 : decode cX4_replace 69 = .ok (.aload_n 0, 1) := by decide +kernel
theorem dX4_replace_70 : decode cX4_replace 70 = .ok (.getfield 9, 3) := by decide +kernel
theorem dX4_replace_73 : decode cX4_replace 73 = .ok (.iload_n 1, 1) := by decide +kernel
theorem dX4_replace_74 : decode cX4_replace 74 = .ok (.iload 5, 2) := by decide +kernel
theorem dX4_replace_76 : decode cX4_replace 76 = .ok (.iadd, 1) := by decide +kernel
theorem dX4_replace_77 : decode cX4_replace 77 = .ok (.aload_n 3, 1) := by decide +kernel
theorem dX4_replace_78 : decode cX4_replace 78 = .ok (.getfield 9, 3) := by decide +kernel
theorem dX4_replace_81 : decode cX4_replace 81 = .ok (.iload 5, 2) := by decide +kernel
theorem dX4_replace_83 : decode cX4_replace 83 = .ok (.iaload, 1) := by decide +kernel
theorem dX4_replace_84 : decode cX4_replace 84 = .ok (.iastore, 1) := by decide +kernel
theorem dX4_replace_85 : decode cX4_replace 85 = .ok (.aload_n 0, 1) := by decide +kernel
theorem dX4_replace_86 : decode cX4_replace 86 = .ok (.getfield 15, 3) := by decide +kernel
theorem dX4_replace_89 : decode cX4_replace 89 = .ok (.iload_n 1, 1) := by decide +kernel
theorem dX4_replace_90 : decode cX4_replace 90 = .ok (.iload 5, 2) := by decide +kernel
theorem dX4_replace_92 : decode cX4_replace 92 = .ok (.iadd, 1) := by decide +kernel
theorem dX4_replace_93 : decode cX4_replace 93 = .ok (.aload_n 3, 1) := by decide +kernel
theorem dX4_replace_94 : decode cX4_replace 94 = .ok (.getfield 15, 3) := by decide +kernel
theorem dX4_replace_97 : decode cX4_replace 97 = .ok (.iload 5, 2) := by decide +kernel
theorem dX4_replace_99 : decode cX4_replace 99 = .ok (.iaload, 1) := by decide +kernel
theorem dX4_replace_100 : decode cX4_replace 100 = .ok (.iastore, 1) := by decide +kernel
theorem dX4_replace_101 : decode cX4_replace 101 = .ok (.aload_n 0, 1) := by decide +kernel
theorem dX4_replace_102 : decode cX4_replace 102 = .ok (.getfield 18, 3) := by decide +kernel
theorem dX4_replace_105 : decode cX4_replace 105 = .ok (.iload_n 1, 1) := by decide +kernel
theorem dX4_replace_106 : decode cX4_replace 106 = .ok (.iload 5, 2) := by decide +kernel
theorem dX4_replace_108 : decode cX4_replace 108 = .ok (.iadd, 1) := by decide +kernel
theorem dX4_replace_109 : decode cX4_replace 109 = .ok (.aload_n 3, 1) := by decide +kernel
theorem dX4_replace_110 : decode cX4_replace 110 = .ok (.getfield 18, 3) := by decide +kernel
theorem dX4_replace_113 : decode cX4_replace 113 = .ok (.iload 5, 2) := by decide +kernel
theorem dX4_replace_115 : decode cX4_replace 115 = .ok (.iaload, 1) := by decide +kernel
theorem dX4_replace_116 : decode cX4_replace 116 = .ok (.iload 4, 2) := by decide +kernel
theorem dX4_replace_118 : decode cX4_replace 118 = .ok (.iadd, 1) := by decide +kernel
theorem dX4_replace_119 : decode cX4_replace 119 = .ok (.iastore, 1) := by decide +kernel
theorem dX4_replace_120 : decode cX4_replace 120 = .ok (.aload_n 0, 1) := by decide +kernel
theorem dX4_replace_121 : decode cX4_replace 121 = .ok (.getfield 21, 3) := by decide +kernel
theorem dX4_replace_124 : decode cX4_replace 124 = .ok (.iload_n 1, 1) := by decide +kernel
theorem dX4_replace_125 : decode cX4_replace 125 = .ok (.iload 5, 2) := by decide +kernel
theorem dX4_replace_127 : decode cX4_replace 127 = .ok (.iadd, 1) := by decide +kernel
theorem dX4_replace_128 : decode cX4_replace 128 = .ok (.aload_n 3, 1) := by decide +kernel
theorem dX4_replace_129 : decode cX4_replace 129 = .ok (.getfield 21, 3) := by decide +kernel
theorem dX4_replace_132 : decode cX4_replace 132 = .ok (.iload 5, 2) := by decide +kernel
theorem dX4_replace_134 : decode cX4_replace 134 = .ok (.laload, 1) := by decide +kernel
theorem dX4_replace_135 : decode cX4_replace 135 = .ok (.lastore, 1) := by decide +kernel
theorem dX4_replace_136 : decode cX4_replace 136 = .ok (.aload_n 0, 1) := by decide +kernel
theorem dX4_replace_137 : decode cX4_replace 137 = .ok (.getfield 25, 3) := by decide +kernel
theorem dX4_replace_140 : decode cX4_replace 140 = .ok (.iload_n 1, 1) := by decide +kernel
theorem dX4_replace_141 : decode cX4_replace 141 = .ok (.iload 5, 2) := by decide +kernel
theorem dX4_replace_143 : decode cX4_replace 143 = .ok (.iadd, 1) := by decide +kernel
theorem dX4_replace_144 : decode cX4_replace 144 = .ok (.aload_n 3, 1) := by decide +kernel
theorem dX4_replace_145 : decode cX4_replace 145 = .ok (.getfield 25, 3) := by decide +kernel
theorem dX4_replace_148 : decode cX4_replace 148 = .ok (.iload 5, 2) := by decide +kernel
theorem dX4_replace_150 : decode cX4_replace 150 = .ok (.laload, 1) := by decide +kernel
theorem dX4_replace_151 : decode cX4_replace 151 = .ok (.lastore, 1) := by decide +kernel
theorem dX4_replace_152 : decode cX4_replace 152 = .ok (.iinc 5 1, 3) := by decide +kernel
theorem dX4_replace_155 : decode cX4_replace 155 = .ok (.goto (-95), 3) := by decide +kernel
theorem dX4_replace_158 : decode cX4_replace 158 = .ok (.iconst 1, 1) := by decide +kernel
theorem dX4_replace_159 : decode cX4_replace 159 = .ok (.ireturn, 1) := by decide +kernel
theorem dy_X4_replace : DY yX4_replace 3 := by decide +kernel
abbrev rm_X4_replace : Room := { frames := 2, cells := 0, slots := 0, locals := 123 }
def l_X4_replace_60 (n : Nat) : Nat → St → Nat → Int32 → Nat → Int32 → Int32 → Option (St × Int32)
  | 0, _, _, _, _, _, _ => none
  | m + 1, S, j, l1, a3, l4, l5 =>
    if (S.1 150 a3) ≤ l5 then
      some (S, 1)
    else
      gI S 151 a3 l5 200 fun v2 =>
      pI S 151 j (l1 + l5) 200 v2 fun S5 =>
      gI S5 152 a3 l5 200 fun v8 =>
      pI S5 152 j (l1 + l5) 200 v8 fun S11 =>
      gI S11 153 a3 l5 200 fun v14 =>
      pI S11 153 j (l1 + l5) 200 (v14 + l4) fun S17 =>
      gL S17 154 a3 l5 200 fun v20 =>
      pL S17 154 j (l1 + l5) 200 v20 fun S23 =>
      gL S23 155 a3 l5 200 fun v26 =>
      pL S23 155 j (l1 + l5) 200 v26 fun S29 =>
      bV (l5 + 1) fun v32 =>
      l_X4_replace_60 n m S29 j l1 a3 l4 v32
def g_X4_replace (n : Nat) (S : St) (j : Nat) (a1 : Int32) (a2 : Int32) (a3 : Nat) : Option (St × Int32) :=
  if a1 < 0 then
    some (S, 0)
  else
    if a2 ≤ a1 then
      some (S, 0)
    else
      if (S.1 150 j) < a2 then
        some (S, 0)
      else
        if (((S.1 150 j) - (a2 - a1)) + (S.1 150 a3)) ≤ 200 then
          gI S 153 j a1 200 fun v5 =>
          bU (f_X4_moveTail n S j a2 (a1 + (S.1 150 a3))) fun S8 =>
          l_X4_replace_60 n n S8 j a1 a3 v5 0
        else
          some (S, 0)
set_option maxRecDepth 100000 in
set_option maxHeartbeats 4000000 in
theorem t_X4_replace_60 {n : Nat} {x : XC} (hx : CX x cX4_replace 6 RX4) (hR : x_R x = rm_X4_replace) (hKS : ∀ k ∈ KK, k ∈ x_K x) {out : St × Int32} (hE : EI x cX4_replace out) : ∀ {m : Nat} {S : St} {j : Nat} {l1 : Int32} {a3 : Nat} {l4 : Int32} {l5 : Int32} (h_j : j < 107) (h_a3 : a3 < 107) (h : l_X4_replace_60 n m S j l1 a3 l4 l5 = some out), WX x 6 0 0 S 60 [(0, .ref (x_ad x 0 3 j)), (1, .int l1), (3, .ref (x_ad x 0 3 a3)), (4, .int l4), (5, .int l5)] [] := by
  intro m
  induction m with
  | zero => intro S j l1 a3 l4 l5 h_j h_a3 h; cases h
  | succ m ih =>
    intro S j l1 a3 l4 l5 h_j h_a3 h
    unfold l_X4_replace_60 at h
    refine r_iload (k0 := 4) hx dX4_replace_60 rfl ?_
    refine r_aload_n (k0 := 2) hx dX4_replace_62 rfl rfl ?_
    refine g_150 hx (kr_0 hKS h_a3) wf_X4_28 dX4_replace_63 ?_
    refine r_icmp_ge (tgt := 158) hx dX4_replace_66 (by decide) (fun c1 => ?_) (fun c1 => ?_)
    · have h := ite_t h c1
      refine r_iconst (v := 1) hx dX4_replace_158 (by decide) ?_
      exact r_iret hE h dX4_replace_159
    · have h := ite_f h c1
      refine r_aload_n (k0 := 0) hx dX4_replace_69 rfl rfl ?_
      refine g_151 hx (kr_0 hKS h_j) wf_X4_9 dX4_replace_70 ?_
      refine r_iload_n (k0 := 1) hx dX4_replace_73 rfl rfl ?_
      refine r_iload (k0 := 4) hx dX4_replace_74 rfl ?_
      refine r_iadd hx dX4_replace_76 ?_
      refine r_aload_n (k0 := 2) hx dX4_replace_77 rfl rfl ?_
      refine g_151 hx (kr_0 hKS h_a3) wf_X4_9 dX4_replace_78 ?_
      refine r_iload (k0 := 4) hx dX4_replace_81 rfl ?_
      obtain ⟨v2, e3, i4, h⟩ := gI_some h
      refine r_iald hx (kr_151 hKS h_a3) rfl i4 e3 dX4_replace_83 ?_
      obtain ⟨S5, e6, i7, h⟩ := pI_some h
      refine r_iast hx (kr_151 hKS h_j) rfl i7 e6 dX4_replace_84 ?_
      refine r_aload_n (k0 := 0) hx dX4_replace_85 rfl rfl ?_
      refine g_152 hx (kr_0 hKS h_j) wf_X4_15 dX4_replace_86 ?_
      refine r_iload_n (k0 := 1) hx dX4_replace_89 rfl rfl ?_
      refine r_iload (k0 := 4) hx dX4_replace_90 rfl ?_
      refine r_iadd hx dX4_replace_92 ?_
      refine r_aload_n (k0 := 2) hx dX4_replace_93 rfl rfl ?_
      refine g_152 hx (kr_0 hKS h_a3) wf_X4_15 dX4_replace_94 ?_
      refine r_iload (k0 := 4) hx dX4_replace_97 rfl ?_
      obtain ⟨v8, e9, i10, h⟩ := gI_some h
      refine r_iald hx (kr_152 hKS h_a3) rfl i10 e9 dX4_replace_99 ?_
      obtain ⟨S11, e12, i13, h⟩ := pI_some h
      refine r_iast hx (kr_152 hKS h_j) rfl i13 e12 dX4_replace_100 ?_
      refine r_aload_n (k0 := 0) hx dX4_replace_101 rfl rfl ?_
      refine g_153 hx (kr_0 hKS h_j) wf_X4_18 dX4_replace_102 ?_
      refine r_iload_n (k0 := 1) hx dX4_replace_105 rfl rfl ?_
      refine r_iload (k0 := 4) hx dX4_replace_106 rfl ?_
      refine r_iadd hx dX4_replace_108 ?_
      refine r_aload_n (k0 := 2) hx dX4_replace_109 rfl rfl ?_
      refine g_153 hx (kr_0 hKS h_a3) wf_X4_18 dX4_replace_110 ?_
      refine r_iload (k0 := 4) hx dX4_replace_113 rfl ?_
      obtain ⟨v14, e15, i16, h⟩ := gI_some h
      refine r_iald hx (kr_153 hKS h_a3) rfl i16 e15 dX4_replace_115 ?_
      refine r_iload (k0 := 3) hx dX4_replace_116 rfl ?_
      refine r_iadd hx dX4_replace_118 ?_
      obtain ⟨S17, e18, i19, h⟩ := pI_some h
      refine r_iast hx (kr_153 hKS h_j) rfl i19 e18 dX4_replace_119 ?_
      refine r_aload_n (k0 := 0) hx dX4_replace_120 rfl rfl ?_
      refine g_154 hx (kr_0 hKS h_j) wf_X4_21 dX4_replace_121 ?_
      refine r_iload_n (k0 := 1) hx dX4_replace_124 rfl rfl ?_
      refine r_iload (k0 := 4) hx dX4_replace_125 rfl ?_
      refine r_iadd hx dX4_replace_127 ?_
      refine r_aload_n (k0 := 2) hx dX4_replace_128 rfl rfl ?_
      refine g_154 hx (kr_0 hKS h_a3) wf_X4_21 dX4_replace_129 ?_
      refine r_iload (k0 := 4) hx dX4_replace_132 rfl ?_
      obtain ⟨v20, e21, i22, h⟩ := gL_some h
      refine r_lald hx (kr_154 hKS h_a3) rfl i22 e21 dX4_replace_134 ?_
      obtain ⟨S23, e24, i25, h⟩ := pL_some h
      refine r_last hx (kr_154 hKS h_j) rfl i25 e24 dX4_replace_135 ?_
      refine r_aload_n (k0 := 0) hx dX4_replace_136 rfl rfl ?_
      refine g_155 hx (kr_0 hKS h_j) wf_X4_25 dX4_replace_137 ?_
      refine r_iload_n (k0 := 1) hx dX4_replace_140 rfl rfl ?_
      refine r_iload (k0 := 4) hx dX4_replace_141 rfl ?_
      refine r_iadd hx dX4_replace_143 ?_
      refine r_aload_n (k0 := 2) hx dX4_replace_144 rfl rfl ?_
      refine g_155 hx (kr_0 hKS h_a3) wf_X4_25 dX4_replace_145 ?_
      refine r_iload (k0 := 4) hx dX4_replace_148 rfl ?_
      obtain ⟨v26, e27, i28, h⟩ := gL_some h
      refine r_lald hx (kr_155 hKS h_a3) rfl i28 e27 dX4_replace_150 ?_
      obtain ⟨S29, e30, i31, h⟩ := pL_some h
      refine r_last hx (kr_155 hKS h_j) rfl i31 e30 dX4_replace_151 ?_
      obtain ⟨v32, e33, h⟩ := bV_some h
      refine r_iinc (k := 4) (v := v32) (lv' := [(5, .int v32), (0, .ref (x_ad x 0 3 j)), (1, .int l1), (3, .ref (x_ad x 0 3 a3)), (4, .int l4)]) hx dX4_replace_152 rfl (by rw [e33]; rfl) (by decide) rfl ?_
      refine r_goto (tgt := 60) hx dX4_replace_155 (by decide) ?_
      refine WX.sub (lv' := [(0, .ref (x_ad x 0 3 j)), (1, .int l1), (3, .ref (x_ad x 0 3 a3)), (4, .int l4), (5, .int v32)]) ?_ [1, 2, 3, 4, 0] rfl
      exact ih h_j h_a3 h
set_option maxRecDepth 100000 in
set_option maxHeartbeats 4000000 in
theorem t_X4_replace_0 {n : Nat} {x : XC} (hx : CX x cX4_replace 6 RX4) (hR : x_R x = rm_X4_replace) (hKS : ∀ k ∈ KK, k ∈ x_K x) {out : St × Int32} (hE : EI x cX4_replace out) {S : St} {j : Nat} {a1 : Int32} {a2 : Int32} {a3 : Nat} (h_j : j < 107) (h_a3 : a3 < 107) (h : g_X4_replace n S j a1 a2 a3 = some out) : WX x 6 0 0 S 0 [(0, .ref (x_ad x 0 3 j)), (1, .int a1), (2, .int a2), (3, .ref (x_ad x 0 3 a3))] [] := by
  unfold g_X4_replace at h
  refine r_iload_n (k0 := 1) hx dX4_replace_0 rfl rfl ?_
  refine r_if_lt (tgt := 36) hx dX4_replace_1 (by decide) (fun c1 => ?_) (fun c1 => ?_)
  · have h := ite_t h c1
    refine r_iconst (v := 0) hx dX4_replace_36 (by decide) ?_
    exact r_iret hE h dX4_replace_37
  · have h := ite_f h c1
    refine r_iload_n (k0 := 1) hx dX4_replace_4 rfl rfl ?_
    refine r_iload_n (k0 := 2) hx dX4_replace_5 rfl rfl ?_
    refine r_icmp_ge (tgt := 36) hx dX4_replace_6 (by decide) (fun c2 => ?_) (fun c2 => ?_)
    · have h := ite_t h c2
      refine r_iconst (v := 0) hx dX4_replace_36 (by decide) ?_
      exact r_iret hE h dX4_replace_37
    · have h := ite_f h c2
      refine r_iload_n (k0 := 2) hx dX4_replace_9 rfl rfl ?_
      refine r_aload_n (k0 := 0) hx dX4_replace_10 rfl rfl ?_
      refine g_150 hx (kr_0 hKS h_j) wf_X4_28 dX4_replace_11 ?_
      refine r_icmp_gt (tgt := 36) hx dX4_replace_14 (by decide) (fun c3 => ?_) (fun c3 => ?_)
      · have h := ite_t h c3
        refine r_iconst (v := 0) hx dX4_replace_36 (by decide) ?_
        exact r_iret hE h dX4_replace_37
      · have h := ite_f h c3
        refine r_aload_n (k0 := 0) hx dX4_replace_17 rfl rfl ?_
        refine g_150 hx (kr_0 hKS h_j) wf_X4_28 dX4_replace_18 ?_
        refine r_iload_n (k0 := 2) hx dX4_replace_21 rfl rfl ?_
        refine r_iload_n (k0 := 1) hx dX4_replace_22 rfl rfl ?_
        refine r_isub hx dX4_replace_23 ?_
        refine r_isub hx dX4_replace_24 ?_
        refine r_aload_n (k0 := 3) hx dX4_replace_25 rfl rfl ?_
        refine g_150 hx (kr_0 hKS h_a3) wf_X4_28 dX4_replace_26 ?_
        refine r_iadd hx dX4_replace_29 ?_
        refine r_sipush (v := 200) hx dX4_replace_30 (by decide) ?_
        refine r_icmp_le (tgt := 38) hx dX4_replace_33 (by decide) (fun c4 => ?_) (fun c4 => ?_)
        · have h := ite_t h c4
          refine r_aload_n (k0 := 0) hx dX4_replace_38 rfl rfl ?_
          refine g_153 hx (kr_0 hKS h_j) wf_X4_18 dX4_replace_39 ?_
          refine r_iload_n (k0 := 1) hx dX4_replace_42 rfl rfl ?_
          obtain ⟨v5, e6, i7, h⟩ := gI_some h
          refine r_iald hx (kr_153 hKS h_j) rfl i7 e6 dX4_replace_43 ?_
          refine r_istore (lv' := [(4, .int v5), (0, .ref (x_ad x 0 3 j)), (1, .int a1), (2, .int a2), (3, .ref (x_ad x 0 3 a3))]) hx dX4_replace_44 (by decide) rfl ?_
          refine r_aload_n (k0 := 1) hx dX4_replace_46 rfl rfl ?_
          refine r_iload_n (k0 := 3) hx dX4_replace_47 rfl rfl ?_
          refine r_iload_n (k0 := 2) hx dX4_replace_48 rfl rfl ?_
          refine r_aload_n (k0 := 4) hx dX4_replace_49 rfl rfl ?_
          refine g_150 hx (kr_0 hKS h_a3) wf_X4_28 dX4_replace_50 ?_
          refine r_iadd hx dX4_replace_53 ?_
          obtain ⟨S8, c9, h⟩ := bU_some h
          refine r_Vv (ci := 3) (As := [.int a2, .int (a1 + (S.1 150 a3))]) (rest := []) hx (C_X4_moveTail (c := x_y x) hKS h_j c9) (kr_0 hKS h_j) rfl wl_X4_54 wi_X4_moveTail we_X4_moveTail wn_X4 wc_X4_moveTail dy_X4_moveTail rfl (by rw [hR]; decide +kernel) rfl (Nat.le_of_ble_eq_true rfl) dX4_replace_54 ?_
          refine r_iconst (v := 0) hx dX4_replace_57 (by decide) ?_
          refine r_istore (lv' := [(5, .int 0), (4, .int v5), (0, .ref (x_ad x 0 3 j)), (1, .int a1), (2, .int a2), (3, .ref (x_ad x 0 3 a3))]) hx dX4_replace_58 (by decide) rfl ?_
          refine WX.sub (lv' := [(0, .ref (x_ad x 0 3 j)), (1, .int a1), (3, .ref (x_ad x 0 3 a3)), (4, .int v5), (5, .int 0)]) ?_ [2, 3, 5, 1, 0] rfl
          exact t_X4_replace_60 hx hR hKS hE h_j h_a3 h
        · have h := ite_f h c4
          refine r_iconst (v := 0) hx dX4_replace_36 (by decide) ?_
          exact r_iret hE h dX4_replace_37
def f_X4_replace (n : Nat) (S : St) (j : Nat) (a1 : Int32) (a2 : Int32) (a3 : Nat) : Option (St × Int32) := zW (g_X4_replace n S j a1 a2 a3)
set_option maxHeartbeats 4000000 in
theorem C_X4_replace {n : Nat} {c : YC} (hKS : ∀ k ∈ KK, k ∈ c.2.2.2.2) {S : St} {j : Nat} {a1 : Int32} {a2 : Int32} {a3 : Nat} {out : St × Int32} (h_j : j < 107) (h_a3 : a3 < 107) (h : f_X4_replace n S j a1 a2 a3 = some out) : MI c yX4_replace cX4_replace 6 (some .boolean) rm_X4_replace S [.ref (c.2.2.1 0 3 j), .int a1, .int a2, .ref (c.2.2.1 0 3 a3)] out := mk_Z (own := RX4) (by decide +kernel) rfl (Nat.le_of_ble_eq_true rfl) (zW_some h).2 (fun x hx hR hy hE => by subst hy; exact t_X4_replace_0 hx hR hKS hE h_j h_a3 (zW_some h).1)
theorem dX4_giveLevels_0 : decode cX4_giveLevels 0 = .ok (.iconst 0, 1) := by decide +kernel
theorem dX4_giveLevels_1 : decode cX4_giveLevels 1 = .ok (.istore 5, 2) := by decide +kernel
theorem dX4_giveLevels_3 : decode cX4_giveLevels 3 = .ok (.iload 5, 2) := by decide +kernel
theorem dX4_giveLevels_5 : decode cX4_giveLevels 5 = .ok (.aload_n 0, 1) := by decide +kernel
theorem dX4_giveLevels_6 : decode cX4_giveLevels 6 = .ok (.getfield 28, 3) := by decide +kernel
theorem dX4_giveLevels_9 : decode cX4_giveLevels 9 = .ok (.if_icmp .ge 77, 3) := by decide +kernel
theorem dX4_giveLevels_12 : decode cX4_giveLevels 12 = .ok (.aload_n 0, 1) := by decide +kernel
theorem dX4_giveLevels_13 : decode cX4_giveLevels 13 = .ok (.getfield 21, 3) := by decide +kernel
theorem dX4_giveLevels_16 : decode cX4_giveLevels 16 = .ok (.iload 5, 2) := by decide +kernel
theorem dX4_giveLevels_18 : decode cX4_giveLevels 18 = .ok (.aload_n 0, 1) := by decide +kernel
theorem dX4_giveLevels_19 : decode cX4_giveLevels 19 = .ok (.getfield 21, 3) := by decide +kernel
theorem dX4_giveLevels_22 : decode cX4_giveLevels 22 = .ok (.iload 5, 2) := by decide +kernel
theorem dX4_giveLevels_24 : decode cX4_giveLevels 24 = .ok (.laload, 1) := by decide +kernel
theorem dX4_giveLevels_25 : decode cX4_giveLevels 25 = .ok (.lload_n 1, 1) := by decide +kernel
theorem dX4_giveLevels_26 : decode cX4_giveLevels 26 = .ok (.lload_n 3, 1) := by decide +kernel
theorem dX4_giveLevels_27 : decode cX4_giveLevels 27 = .ok (.invokestatic 64, 3) := by decide +kernel
theorem dX4_giveLevels_30 : decode cX4_giveLevels 30 = .ok (.lastore, 1) := by decide +kernel
theorem dX4_giveLevels_31 : decode cX4_giveLevels 31 = .ok (.aload_n 0, 1) := by decide +kernel
theorem dX4_giveLevels_32 : decode cX4_giveLevels 32 = .ok (.getfield 25, 3) := by decide +kernel
theorem dX4_giveLevels_35 : decode cX4_giveLevels 35 = .ok (.iload 5, 2) := by decide +kernel
theorem dX4_giveLevels_37 : decode cX4_giveLevels 37 = .ok (.aload_n 0, 1) := by decide +kernel
theorem dX4_giveLevels_38 : decode cX4_giveLevels 38 = .ok (.getfield 25, 3) := by decide +kernel
theorem dX4_giveLevels_41 : decode cX4_giveLevels 41 = .ok (.iload 5, 2) := by decide +kernel
theorem dX4_giveLevels_43 : decode cX4_giveLevels 43 = .ok (.laload, 1) := by decide +kernel
theorem dX4_giveLevels_44 : decode cX4_giveLevels 44 = .ok (.lload_n 1, 1) := by decide +kernel
theorem dX4_giveLevels_45 : decode cX4_giveLevels 45 = .ok (.lload_n 3, 1) := by decide +kernel
theorem dX4_giveLevels_46 : decode cX4_giveLevels 46 = .ok (.invokestatic 64, 3) := by decide +kernel
theorem dX4_giveLevels_49 : decode cX4_giveLevels 49 = .ok (.lastore, 1) := by decide +kernel
theorem dX4_giveLevels_50 : decode cX4_giveLevels 50 = .ok (.aload_n 0, 1) := by decide +kernel
theorem dX4_giveLevels_51 : decode cX4_giveLevels 51 = .ok (.getfield 21, 3) := by decide +kernel
theorem dX4_giveLevels_54 : decode cX4_giveLevels 54 = .ok (.iload 5, 2) := by decide +kernel
theorem dX4_giveLevels_56 : decode cX4_giveLevels 56 = .ok (.laload, 1) := by decide +kernel
theorem dX4_giveLevels_57 : decode cX4_giveLevels 57 = .ok (.ldc2_w 70, 3) := by decide +kernel
theorem dX4_giveLevels_60 : decode cX4_giveLevels 60 = .ok (.lcmp, 1) := by decide +kernel
theorem dX4_giveLevels_61 : decode cX4_giveLevels 61 = .ok (.ifCond .eq 17, 3) := by decide +kernel
theorem dX4_giveLevels_64 : decode cX4_giveLevels 64 = .ok (.aload_n 0, 1) := by decide +kernel
theorem dX4_giveLevels_65 : decode cX4_giveLevels 65 = .ok (.getfield 25, 3) := by decide +kernel
theorem dX4_giveLevels_68 : decode cX4_giveLevels 68 = .ok (.iload 5, 2) := by decide +kernel
theorem dX4_giveLevels_70 : decode cX4_giveLevels 70 = .ok (.laload, 1) := by decide +kernel
theorem dX4_giveLevels_71 : decode cX4_giveLevels 71 = .ok (.ldc2_w 70, 3) := by decide +kernel
theorem dX4_giveLevels_74 : decode cX4_giveLevels 74 = .ok (.lcmp, 1) := by decide +kernel
theorem dX4_giveLevels_75 : decode cX4_giveLevels 75 = .ok (.ifCond .ne 5, 3) := by decide +kernel
theorem dX4_giveLevels_78 : decode cX4_giveLevels 78 = .ok (.iconst 0, 1) := by decide +kernel
theorem dX4_giveLevels_79 : decode cX4_giveLevels 79 = .ok (.ireturn, 1) := by decide +kernel
theorem dX4_giveLevels_80 : decode cX4_giveLevels 80 = .ok (.iinc 5 1, 3) := by decide +kernel
theorem dX4_giveLevels_83 : decode cX4_giveLevels 83 = .ok (.goto (-80), 3) := by decide +kernel
theorem dX4_giveLevels_86 : decode cX4_giveLevels 86 = .ok (.iconst 1, 1) := by decide +kernel
theorem dX4_giveLevels_87 : decode cX4_giveLevels 87 = .ok (.ireturn, 1) := by decide +kernel
theorem dy_X4_giveLevels : DY yX4_giveLevels 2 := by decide +kernel
abbrev rm_X4_giveLevels : Room := { frames := 1, cells := 0, slots := 0, locals := 34 }
def l_X4_giveLevels_3 (n : Nat) : Nat → St → Nat → Int64 → Int64 → Int32 → Option (St × Int32)
  | 0, _, _, _, _, _ => none
  | m + 1, S, j, l1, l3, l5 =>
    if (S.1 150 j) ≤ l5 then
      some (S, 1)
    else
      gL S 154 j l5 200 fun v2 =>
      bL (f_X0_withLevels n S v2 l1 l3) fun S5 v7 =>
      pL S5 154 j l5 200 v7 fun S8 =>
      gL S8 155 j l5 200 fun v11 =>
      bL (f_X0_withLevels n S8 v11 l1 l3) fun S14 v16 =>
      pL S14 155 j l5 200 v16 fun S17 =>
      gL S17 154 j l5 200 fun v20 =>
      if (lg_cmp v20 (-1)) = 0 then
        some (S17, 0)
      else
        gL S17 155 j l5 200 fun v24 =>
        if (lg_cmp v24 (-1)) = 0 then
          some (S17, 0)
        else
          bV (l5 + 1) fun v28 =>
          l_X4_giveLevels_3 n m S17 j l1 l3 v28
def g_X4_giveLevels (n : Nat) (S : St) (j : Nat) (a1 : Int64) (a2 : Int64) : Option (St × Int32) :=
  l_X4_giveLevels_3 n n S j a1 a2 0
set_option maxRecDepth 100000 in
set_option maxHeartbeats 4000000 in
theorem t_X4_giveLevels_3 {n : Nat} {x : XC} (hx : CX x cX4_giveLevels 6 RX4) (hR : x_R x = rm_X4_giveLevels) (hKS : ∀ k ∈ KK, k ∈ x_K x) {out : St × Int32} (hE : EI x cX4_giveLevels out) : ∀ {m : Nat} {S : St} {j : Nat} {l1 : Int64} {l3 : Int64} {l5 : Int32} (h_j : j < 107) (h : l_X4_giveLevels_3 n m S j l1 l3 l5 = some out), WX x 6 0 0 S 3 [(0, .ref (x_ad x 0 3 j)), (1, .long l1), (3, .long l3), (5, .int l5)] [] := by
  intro m
  induction m with
  | zero => intro S j l1 l3 l5 h_j h; cases h
  | succ m ih =>
    intro S j l1 l3 l5 h_j h
    unfold l_X4_giveLevels_3 at h
    refine r_iload (k0 := 3) hx dX4_giveLevels_3 rfl ?_
    refine r_aload_n (k0 := 0) hx dX4_giveLevels_5 rfl rfl ?_
    refine g_150 hx (kr_0 hKS h_j) wf_X4_28 dX4_giveLevels_6 ?_
    refine r_icmp_ge (tgt := 86) hx dX4_giveLevels_9 (by decide) (fun c1 => ?_) (fun c1 => ?_)
    · have h := ite_t h c1
      refine r_iconst (v := 1) hx dX4_giveLevels_86 (by decide) ?_
      exact r_iret hE h dX4_giveLevels_87
    · have h := ite_f h c1
      refine r_aload_n (k0 := 0) hx dX4_giveLevels_12 rfl rfl ?_
      refine g_154 hx (kr_0 hKS h_j) wf_X4_21 dX4_giveLevels_13 ?_
      refine r_iload (k0 := 3) hx dX4_giveLevels_16 rfl ?_
      refine r_aload_n (k0 := 0) hx dX4_giveLevels_18 rfl rfl ?_
      refine g_154 hx (kr_0 hKS h_j) wf_X4_21 dX4_giveLevels_19 ?_
      refine r_iload (k0 := 3) hx dX4_giveLevels_22 rfl ?_
      obtain ⟨v2, e3, i4, h⟩ := gL_some h
      refine r_lald hx (kr_154 hKS h_j) rfl i4 e3 dX4_giveLevels_24 ?_
      refine r_lload_n (k0 := 1) hx dX4_giveLevels_25 rfl rfl ?_
      refine r_lload_n (k0 := 2) hx dX4_giveLevels_26 rfl rfl ?_
      obtain ⟨S5, v7, c6, h⟩ := bL_some h
      refine r_Sl (As := [.long v2, .long l1, .long l3]) (rest := [.int l5, .ref (x_ad x 2 154 j)]) hx (C_X0_withLevels (c := x_y x) hKS c6) wl_X4_64 wt_X0_withLevels wn_X0 wc_X0_withLevels dy_X0_withLevels rfl (by rw [hR]; decide +kernel) rfl (Nat.le_of_ble_eq_true rfl) dX4_giveLevels_27 ?_
      obtain ⟨S8, e9, i10, h⟩ := pL_some h
      refine r_last hx (kr_154 hKS h_j) rfl i10 e9 dX4_giveLevels_30 ?_
      refine r_aload_n (k0 := 0) hx dX4_giveLevels_31 rfl rfl ?_
      refine g_155 hx (kr_0 hKS h_j) wf_X4_25 dX4_giveLevels_32 ?_
      refine r_iload (k0 := 3) hx dX4_giveLevels_35 rfl ?_
      refine r_aload_n (k0 := 0) hx dX4_giveLevels_37 rfl rfl ?_
      refine g_155 hx (kr_0 hKS h_j) wf_X4_25 dX4_giveLevels_38 ?_
      refine r_iload (k0 := 3) hx dX4_giveLevels_41 rfl ?_
      obtain ⟨v11, e12, i13, h⟩ := gL_some h
      refine r_lald hx (kr_155 hKS h_j) rfl i13 e12 dX4_giveLevels_43 ?_
      refine r_lload_n (k0 := 1) hx dX4_giveLevels_44 rfl rfl ?_
      refine r_lload_n (k0 := 2) hx dX4_giveLevels_45 rfl rfl ?_
      obtain ⟨S14, v16, c15, h⟩ := bL_some h
      refine r_Sl (As := [.long v11, .long l1, .long l3]) (rest := [.int l5, .ref (x_ad x 2 155 j)]) hx (C_X0_withLevels (c := x_y x) hKS c15) wl_X4_64 wt_X0_withLevels wn_X0 wc_X0_withLevels dy_X0_withLevels rfl (by rw [hR]; decide +kernel) rfl (Nat.le_of_ble_eq_true rfl) dX4_giveLevels_46 ?_
      obtain ⟨S17, e18, i19, h⟩ := pL_some h
      refine r_last hx (kr_155 hKS h_j) rfl i19 e18 dX4_giveLevels_49 ?_
      refine r_aload_n (k0 := 0) hx dX4_giveLevels_50 rfl rfl ?_
      refine g_154 hx (kr_0 hKS h_j) wf_X4_21 dX4_giveLevels_51 ?_
      refine r_iload (k0 := 3) hx dX4_giveLevels_54 rfl ?_
      obtain ⟨v20, e21, i22, h⟩ := gL_some h
      refine r_lald hx (kr_154 hKS h_j) rfl i22 e21 dX4_giveLevels_56 ?_
      refine r_ldc2 (v := -1) hx dX4_giveLevels_57 wk_X4_70 ?_
      refine r_lcmp hx dX4_giveLevels_60 ?_
      refine r_if_eq (tgt := 78) hx dX4_giveLevels_61 (by decide) (fun c23 => ?_) (fun c23 => ?_)
      · have h := ite_t h c23
        refine r_iconst (v := 0) hx dX4_giveLevels_78 (by decide) ?_
        exact r_iret hE h dX4_giveLevels_79
      · have h := ite_f h c23
        refine r_aload_n (k0 := 0) hx dX4_giveLevels_64 rfl rfl ?_
        refine g_155 hx (kr_0 hKS h_j) wf_X4_25 dX4_giveLevels_65 ?_
        refine r_iload (k0 := 3) hx dX4_giveLevels_68 rfl ?_
        obtain ⟨v24, e25, i26, h⟩ := gL_some h
        refine r_lald hx (kr_155 hKS h_j) rfl i26 e25 dX4_giveLevels_70 ?_
        refine r_ldc2 (v := -1) hx dX4_giveLevels_71 wk_X4_70 ?_
        refine r_lcmp hx dX4_giveLevels_74 ?_
        refine r_if_ne (tgt := 80) hx dX4_giveLevels_75 (by decide) (fun c27 => ?_) (fun c27 => ?_)
        · have h := ite_f h c27
          obtain ⟨v28, e29, h⟩ := bV_some h
          refine r_iinc (k := 3) (v := v28) (lv' := [(5, .int v28), (0, .ref (x_ad x 0 3 j)), (1, .long l1), (3, .long l3)]) hx dX4_giveLevels_80 rfl (by rw [e29]; rfl) (by decide) rfl ?_
          refine r_goto (tgt := 3) hx dX4_giveLevels_83 (by decide) ?_
          refine WX.sub (lv' := [(0, .ref (x_ad x 0 3 j)), (1, .long l1), (3, .long l3), (5, .int v28)]) ?_ [1, 2, 3, 0] rfl
          exact ih h_j h
        · have h := ite_t h c27
          refine r_iconst (v := 0) hx dX4_giveLevels_78 (by decide) ?_
          exact r_iret hE h dX4_giveLevels_79
set_option maxRecDepth 100000 in
set_option maxHeartbeats 4000000 in
theorem t_X4_giveLevels_0 {n : Nat} {x : XC} (hx : CX x cX4_giveLevels 6 RX4) (hR : x_R x = rm_X4_giveLevels) (hKS : ∀ k ∈ KK, k ∈ x_K x) {out : St × Int32} (hE : EI x cX4_giveLevels out) {S : St} {j : Nat} {a1 : Int64} {a2 : Int64} (h_j : j < 107) (h : g_X4_giveLevels n S j a1 a2 = some out) : WX x 6 0 0 S 0 [(0, .ref (x_ad x 0 3 j)), (1, .long a1), (3, .long a2)] [] := by
  unfold g_X4_giveLevels at h
  refine r_iconst (v := 0) hx dX4_giveLevels_0 (by decide) ?_
  refine r_istore (lv' := [(5, .int 0), (0, .ref (x_ad x 0 3 j)), (1, .long a1), (3, .long a2)]) hx dX4_giveLevels_1 (by decide) rfl ?_
  refine WX.sub (lv' := [(0, .ref (x_ad x 0 3 j)), (1, .long a1), (3, .long a2), (5, .int 0)]) ?_ [1, 2, 3, 0] rfl
  exact t_X4_giveLevels_3 hx hR hKS hE h_j h
def f_X4_giveLevels (n : Nat) (S : St) (j : Nat) (a1 : Int64) (a2 : Int64) : Option (St × Int32) := zW (g_X4_giveLevels n S j a1 a2)
set_option maxHeartbeats 4000000 in
theorem C_X4_giveLevels {n : Nat} {c : YC} (hKS : ∀ k ∈ KK, k ∈ c.2.2.2.2) {S : St} {j : Nat} {a1 : Int64} {a2 : Int64} {out : St × Int32} (h_j : j < 107) (h : f_X4_giveLevels n S j a1 a2 = some out) : MI c yX4_giveLevels cX4_giveLevels 6 (some .boolean) rm_X4_giveLevels S [.ref (c.2.2.1 0 3 j), .long a1, .long a2] out := mk_Z (own := RX4) (by decide +kernel) rfl (Nat.le_of_ble_eq_true rfl) (zW_some h).2 (fun x hx hR hy hE => by subst hy; exact t_X4_giveLevels_0 hx hR hKS hE h_j (zW_some h).1)
theorem dX4_hasParameterFrom_0 : decode cX4_hasParameterFrom 0 = .ok (.iconst 0, 1) := by decide +kernel
theorem dX4_hasParameterFrom_1 : decode cX4_hasParameterFrom 1 = .ok (.istore_n 2, 1) := by decide +kernel
theorem dX4_hasParameterFrom_2 : decode cX4_hasParameterFrom 2 = .ok (.iload_n 2, 1) := by decide +kernel
theorem dX4_hasParameterFrom_3 : decode cX4_hasParameterFrom 3 = .ok (.aload_n 0, 1) := by decide +kernel
theorem dX4_hasParameterFrom_4 : decode cX4_hasParameterFrom 4 = .ok (.getfield 28, 3) := by decide +kernel
theorem dX4_hasParameterFrom_7 : decode cX4_hasParameterFrom 7 = .ok (.if_icmp .ge 37, 3) := by decide +kernel
theorem dX4_hasParameterFrom_10 : decode cX4_hasParameterFrom 10 = .ok (.aload_n 0, 1) := by decide +kernel
theorem dX4_hasParameterFrom_11 : decode cX4_hasParameterFrom 11 = .ok (.getfield 21, 3) := by decide +kernel
theorem dX4_hasParameterFrom_14 : decode cX4_hasParameterFrom 14 = .ok (.iload_n 2, 1) := by decide +kernel
theorem dX4_hasParameterFrom_15 : decode cX4_hasParameterFrom 15 = .ok (.laload, 1) := by decide +kernel
theorem dX4_hasParameterFrom_16 : decode cX4_hasParameterFrom 16 = .ok (.iload_n 1, 1) := by decide +kernel
theorem dX4_hasParameterFrom_17 : decode cX4_hasParameterFrom 17 = .ok (.invokestatic 72, 3) := by decide +kernel
theorem dX4_hasParameterFrom_20 : decode cX4_hasParameterFrom 20 = .ok (.ifCond .ne 16, 3) := by decide +kernel
theorem dX4_hasParameterFrom_23 : decode cX4_hasParameterFrom 23 = .ok (.aload_n 0, 1) := by decide +kernel
theorem dX4_hasParameterFrom_24 : decode cX4_hasParameterFrom 24 = .ok (.getfield 25, 3) := by decide +kernel
theorem dX4_hasParameterFrom_27 : decode cX4_hasParameterFrom 27 = .ok (.iload_n 2, 1) := by decide +kernel
theorem dX4_hasParameterFrom_28 : decode cX4_hasParameterFrom 28 = .ok (.laload, 1) := by decide +kernel
theorem dX4_hasParameterFrom_29 : decode cX4_hasParameterFrom 29 = .ok (.iload_n 1, 1) := by decide +kernel
theorem dX4_hasParameterFrom_30 : decode cX4_hasParameterFrom 30 = .ok (.invokestatic 72, 3) := by decide +kernel
theorem dX4_hasParameterFrom_33 : decode cX4_hasParameterFrom 33 = .ok (.ifCond .eq 5, 3) := by decide +kernel
theorem dX4_hasParameterFrom_36 : decode cX4_hasParameterFrom 36 = .ok (.iconst 1, 1) := by decide +kernel
theorem dX4_hasParameterFrom_37 : decode cX4_hasParameterFrom 37 = .ok (.ireturn, 1) := by decide +kernel
theorem dX4_hasParameterFrom_38 : decode cX4_hasParameterFrom 38 = .ok (.iinc 2 1, 3) := by decide +kernel
theorem dX4_hasParameterFrom_41 : decode cX4_hasParameterFrom 41 = .ok (.goto (-39), 3) := by decide +kernel
theorem dX4_hasParameterFrom_44 : decode cX4_hasParameterFrom 44 = .ok (.iconst 0, 1) := by decide +kernel
theorem dX4_hasParameterFrom_45 : decode cX4_hasParameterFrom 45 = .ok (.ireturn, 1) := by decide +kernel
theorem dy_X4_hasParameterFrom : DY yX4_hasParameterFrom 1 := by decide +kernel
abbrev rm_X4_hasParameterFrom : Room := { frames := 2, cells := 0, slots := 0, locals := 45 }
def l_X4_hasParameterFrom_2 (n : Nat) : Nat → St → Nat → Int32 → Int32 → Option (St × Int32)
  | 0, _, _, _, _ => none
  | m + 1, S, j, l1, l2 =>
    if (S.1 150 j) ≤ l2 then
      some (S, 0)
    else
      gL S 154 j l2 200 fun v2 =>
      bI (f_X0_hasParameterFrom n S v2 l1) fun S5 v7 =>
      if v7 = 0 then
        gL S5 155 j l2 200 fun v9 =>
        bI (f_X0_hasParameterFrom n S5 v9 l1) fun S12 v14 =>
        if v14 = 0 then
          bV (l2 + 1) fun v16 =>
          l_X4_hasParameterFrom_2 n m S12 j l1 v16
        else
          some (S12, 1)
      else
        some (S5, 1)
def g_X4_hasParameterFrom (n : Nat) (S : St) (j : Nat) (a1 : Int32) : Option (St × Int32) :=
  l_X4_hasParameterFrom_2 n n S j a1 0
set_option maxRecDepth 100000 in
set_option maxHeartbeats 4000000 in
theorem t_X4_hasParameterFrom_2 {n : Nat} {x : XC} (hx : CX x cX4_hasParameterFrom 3 RX4) (hR : x_R x = rm_X4_hasParameterFrom) (hKS : ∀ k ∈ KK, k ∈ x_K x) {out : St × Int32} (hE : EI x cX4_hasParameterFrom out) : ∀ {m : Nat} {S : St} {j : Nat} {l1 : Int32} {l2 : Int32} (h_j : j < 107) (h : l_X4_hasParameterFrom_2 n m S j l1 l2 = some out), WX x 3 0 0 S 2 [(0, .ref (x_ad x 0 3 j)), (1, .int l1), (2, .int l2)] [] := by
  intro m
  induction m with
  | zero => intro S j l1 l2 h_j h; cases h
  | succ m ih =>
    intro S j l1 l2 h_j h
    unfold l_X4_hasParameterFrom_2 at h
    refine r_iload_n (k0 := 2) hx dX4_hasParameterFrom_2 rfl rfl ?_
    refine r_aload_n (k0 := 0) hx dX4_hasParameterFrom_3 rfl rfl ?_
    refine g_150 hx (kr_0 hKS h_j) wf_X4_28 dX4_hasParameterFrom_4 ?_
    refine r_icmp_ge (tgt := 44) hx dX4_hasParameterFrom_7 (by decide) (fun c1 => ?_) (fun c1 => ?_)
    · have h := ite_t h c1
      refine r_iconst (v := 0) hx dX4_hasParameterFrom_44 (by decide) ?_
      exact r_iret hE h dX4_hasParameterFrom_45
    · have h := ite_f h c1
      refine r_aload_n (k0 := 0) hx dX4_hasParameterFrom_10 rfl rfl ?_
      refine g_154 hx (kr_0 hKS h_j) wf_X4_21 dX4_hasParameterFrom_11 ?_
      refine r_iload_n (k0 := 2) hx dX4_hasParameterFrom_14 rfl rfl ?_
      obtain ⟨v2, e3, i4, h⟩ := gL_some h
      refine r_lald hx (kr_154 hKS h_j) rfl i4 e3 dX4_hasParameterFrom_15 ?_
      refine r_iload_n (k0 := 1) hx dX4_hasParameterFrom_16 rfl rfl ?_
      obtain ⟨S5, v7, c6, h⟩ := bI_some h
      refine r_Si (As := [.long v2, .int l1]) (rest := []) hx (C_X0_hasParameterFrom (c := x_y x) hKS c6) wl_X4_72 wt_X0_hasParameterFrom wn_X0 wc_X0_hasParameterFrom dy_X0_hasParameterFrom rfl (by rw [hR]; decide +kernel) rfl (Nat.le_of_ble_eq_true rfl) dX4_hasParameterFrom_17 ?_
      refine r_if_ne (tgt := 36) hx dX4_hasParameterFrom_20 (by decide) (fun c8 => ?_) (fun c8 => ?_)
      · have h := ite_f h c8
        refine r_iconst (v := 1) hx dX4_hasParameterFrom_36 (by decide) ?_
        exact r_iret hE h dX4_hasParameterFrom_37
      · have h := ite_t h c8
        refine r_aload_n (k0 := 0) hx dX4_hasParameterFrom_23 rfl rfl ?_
        refine g_155 hx (kr_0 hKS h_j) wf_X4_25 dX4_hasParameterFrom_24 ?_
        refine r_iload_n (k0 := 2) hx dX4_hasParameterFrom_27 rfl rfl ?_
        obtain ⟨v9, e10, i11, h⟩ := gL_some h
        refine r_lald hx (kr_155 hKS h_j) rfl i11 e10 dX4_hasParameterFrom_28 ?_
        refine r_iload_n (k0 := 1) hx dX4_hasParameterFrom_29 rfl rfl ?_
        obtain ⟨S12, v14, c13, h⟩ := bI_some h
        refine r_Si (As := [.long v9, .int l1]) (rest := []) hx (C_X0_hasParameterFrom (c := x_y x) hKS c13) wl_X4_72 wt_X0_hasParameterFrom wn_X0 wc_X0_hasParameterFrom dy_X0_hasParameterFrom rfl (by rw [hR]; decide +kernel) rfl (Nat.le_of_ble_eq_true rfl) dX4_hasParameterFrom_30 ?_
        refine r_if_eq (tgt := 38) hx dX4_hasParameterFrom_33 (by decide) (fun c15 => ?_) (fun c15 => ?_)
        · have h := ite_t h c15
          obtain ⟨v16, e17, h⟩ := bV_some h
          refine r_iinc (k := 2) (v := v16) (lv' := [(2, .int v16), (0, .ref (x_ad x 0 3 j)), (1, .int l1)]) hx dX4_hasParameterFrom_38 rfl (by rw [e17]; rfl) (by decide) rfl ?_
          refine r_goto (tgt := 2) hx dX4_hasParameterFrom_41 (by decide) ?_
          refine WX.sub (lv' := [(0, .ref (x_ad x 0 3 j)), (1, .int l1), (2, .int v16)]) ?_ [1, 2, 0] rfl
          exact ih h_j h
        · have h := ite_f h c15
          refine r_iconst (v := 1) hx dX4_hasParameterFrom_36 (by decide) ?_
          exact r_iret hE h dX4_hasParameterFrom_37
set_option maxRecDepth 100000 in
set_option maxHeartbeats 4000000 in
theorem t_X4_hasParameterFrom_0 {n : Nat} {x : XC} (hx : CX x cX4_hasParameterFrom 3 RX4) (hR : x_R x = rm_X4_hasParameterFrom) (hKS : ∀ k ∈ KK, k ∈ x_K x) {out : St × Int32} (hE : EI x cX4_hasParameterFrom out) {S : St} {j : Nat} {a1 : Int32} (h_j : j < 107) (h : g_X4_hasParameterFrom n S j a1 = some out) : WX x 3 0 0 S 0 [(0, .ref (x_ad x 0 3 j)), (1, .int a1)] [] := by
  unfold g_X4_hasParameterFrom at h
  refine r_iconst (v := 0) hx dX4_hasParameterFrom_0 (by decide) ?_
  refine r_istore_n (lv' := [(2, .int 0), (0, .ref (x_ad x 0 3 j)), (1, .int a1)]) hx dX4_hasParameterFrom_1 rfl (by decide) rfl ?_
  refine WX.sub (lv' := [(0, .ref (x_ad x 0 3 j)), (1, .int a1), (2, .int 0)]) ?_ [1, 2, 0] rfl
  exact t_X4_hasParameterFrom_2 hx hR hKS hE h_j h
def f_X4_hasParameterFrom (n : Nat) (S : St) (j : Nat) (a1 : Int32) : Option (St × Int32) := zW (g_X4_hasParameterFrom n S j a1)
set_option maxHeartbeats 4000000 in
theorem C_X4_hasParameterFrom {n : Nat} {c : YC} (hKS : ∀ k ∈ KK, k ∈ c.2.2.2.2) {S : St} {j : Nat} {a1 : Int32} {out : St × Int32} (h_j : j < 107) (h : f_X4_hasParameterFrom n S j a1 = some out) : MI c yX4_hasParameterFrom cX4_hasParameterFrom 3 (some .boolean) rm_X4_hasParameterFrom S [.ref (c.2.2.1 0 3 j), .int a1] out := mk_Z (own := RX4) (by decide +kernel) rfl (Nat.le_of_ble_eq_true rfl) (zW_some h).2 (fun x hx hR hy hE => by subst hy; exact t_X4_hasParameterFrom_0 hx hR hKS hE h_j (zW_some h).1)
theorem dX4_matches_0 : decode cX4_matches 0 = .ok (.iload_n 1, 1) := by decide +kernel
theorem dX4_matches_1 : decode cX4_matches 1 = .ok (.ifCond .lt 21, 3) := by decide +kernel
theorem dX4_matches_4 : decode cX4_matches 4 = .ok (.iload_n 2, 1) := by decide +kernel
theorem dX4_matches_5 : decode cX4_matches 5 = .ok (.aload_n 0, 1) := by decide +kernel
theorem dX4_matches_6 : decode cX4_matches 6 = .ok (.getfield 28, 3) := by decide +kernel
theorem dX4_matches_9 : decode cX4_matches 9 = .ok (.if_icmp .gt 13, 3) := by decide +kernel
theorem dX4_matches_12 : decode cX4_matches 12 = .ok (.iload_n 2, 1) := by decide +kernel
theorem dX4_matches_13 : decode cX4_matches 13 = .ok (.iload_n 1, 1) := by decide +kernel
theorem dX4_matches_14 : decode cX4_matches 14 = .ok (.isub, 1) := by decide +kernel
theorem dX4_matches_15 : decode cX4_matches 15 = .ok (.aload_n 3, 1) := by decide +kernel
theorem dX4_matches_16 : decode cX4_matches 16 = .ok (.getfield 28, 3) := by decide +kernel
theorem dX4_matches_19 : decode cX4_matches 19 = .ok (.if_icmp .eq 5, 3) := by decide +kernel
theorem dX4_matches_22 : decode cX4_matches 22 = .ok (.iconst 0, 1) := by decide +kernel
theorem dX4_matches_23 : decode cX4_matches 23 = .ok (.ireturn, 1) := by decide +kernel
theorem dX4_matches_24 : decode cX4_matches 24 = .ok (.iconst 0, 1) := by decide +kernel
theorem dX4_matches_25 : decode cX4_matches 25 = .ok (.istore 5, 2) := by decide +kernel
theorem dX4_matches_27 : decode cX4_matches 27 = .ok (.iload 5, 2) := by decide +kernel
theorem dX4_matches_29 : decode cX4_matches 29 = .ok (.aload_n 3, 1) := by decide +kernel
theorem dX4_matches_30 : decode cX4_matches 30 = .ok (.getfield 28, 3) := by decide +kernel
theorem dX4_matches_33 : decode cX4_matches 33 = .ok (.if_icmp .ge 99, 3) := by decide +kernel
theorem dX4_matches_36 : decode cX4_matches 36 = .ok (.aload_n 0, 1) := by decide +kernel
theorem dX4_matches_37 : decode cX4_matches 37 = .ok (.getfield 9, 3) := by decide +kernel
theorem dX4_matches_40 : decode cX4_matches 40 = .ok (.iload_n 1, 1) := by decide +kernel
theorem dX4_matches_41 : decode cX4_matches 41 = .ok (.iload 5, 2) := by decide +kernel
theorem dX4_matches_43 : decode cX4_matches 43 = .ok (.iadd, 1) := by decide +kernel
theorem dX4_matches_44 : decode cX4_matches 44 = .ok (.iaload, 1) := by decide +kernel
theorem dX4_matches_45 : decode cX4_matches 45 = .ok (.aload_n 3, 1) := by decide +kernel
theorem dX4_matches_46 : decode cX4_matches 46 = .ok (.getfield 9, 3) := by decide +kernel
theorem dX4_matches_49 : decode cX4_matches 49 = .ok (.iload 5, 2) := by decide +kernel
theorem dX4_matches_51 : decode cX4_matches 51 = .ok (.iaload, 1) := by decide +kernel
theorem dX4_matches_52 : decode cX4_matches 52 = .ok (.if_icmp .ne 22, 3) := by decide +kernel
theorem dX4_matches_55 : decode cX4_matches 55 = .ok (.aload_n 0, 1) := by decide +kernel
theorem dX4_matches_56 : decode cX4_matches 56 = .ok (.getfield 15, 3) := by decide +kernel
theorem dX4_matches_59 : decode cX4_matches 59 = .ok (.iload_n 1, 1) := by decide +kernel
theorem dX4_matches_60 : decode cX4_matches 60 = .ok (.iload 5, 2) := by decide +kernel
theorem dX4_matches_62 : decode cX4_matches 62 = .ok (.iadd, 1) := by decide +kernel
theorem dX4_matches_63 : decode cX4_matches 63 = .ok (.iaload, 1) := by decide +kernel
theorem dX4_matches_64 : decode cX4_matches 64 = .ok (.aload_n 3, 1) := by decide +kernel
theorem dX4_matches_65 : decode cX4_matches 65 = .ok (.getfield 15, 3) := by decide +kernel
theorem dX4_matches_68 : decode cX4_matches 68 = .ok (.iload 5, 2) := by decide +kernel
theorem dX4_matches_70 : decode cX4_matches 70 = .ok (.iaload, 1) := by decide +kernel
theorem dX4_matches_71 : decode cX4_matches 71 = .ok (.if_icmp .eq 5, 3) := by decide +kernel
theorem dX4_matches_74 : decode cX4_matches 74 = .ok (.iconst 0, 1) := by decide +kernel
theorem dX4_matches_75 : decode cX4_matches 75 = .ok (.ireturn, 1) := by decide +kernel
theorem dX4_matches_76 : decode cX4_matches 76 = .ok (.aload 4, 2) := by decide +kernel
theorem dX4_matches_78 : decode cX4_matches 78 = .ok (.aload_n 0, 1) := by decide +kernel
theorem dX4_matches_79 : decode cX4_matches 79 = .ok (.getfield 21, 3) := by decide +kernel
theorem dX4_matches_82 : decode cX4_matches 82 = .ok (.iload_n 1, 1) := by decide +kernel
theorem dX4_matches_83 : decode cX4_matches 83 = .ok (.iload 5, 2) := by decide +kernel
theorem dX4_matches_85 : decode cX4_matches 85 = .ok (.iadd, 1) := by decide +kernel
theorem dX4_matches_86 : decode cX4_matches 86 = .ok (.laload, 1) := by decide +kernel
theorem dX4_matches_87 : decode cX4_matches 87 = .ok (.aload_n 3, 1) := by decide +kernel
theorem dX4_matches_88 : decode cX4_matches 88 = .ok (.getfield 21, 3) := by decide +kernel
theorem dX4_matches_91 : decode cX4_matches 91 = .ok (.iload 5, 2) := by decide +kernel
theorem dX4_matches_93 : decode cX4_matches 93 = .ok (.laload, 1) := by decide +kernel
theorem dX4_matches_94 : decode cX4_matches 94 = .ok (.invokevirtual 76, 3) := by decide +kernel
theorem dX4_matches_97 : decode cX4_matches 97 = .ok (.ifCond .eq 27, 3) := by decide +kernel
theorem dX4_matches_100 : decode cX4_matches 100 = .ok (.aload 4, 2) := by decide +kernel
theorem dX4_matches_102 : decode cX4_matches 102 = .ok (.aload_n 0, 1) := by decide +kernel
theorem dX4_matches_103 : decode cX4_matches 103 = .ok (.getfield 25, 3) := by decide +kernel
theorem dX4_matches_106 : decode cX4_matches 106 = .ok (.iload_n 1, 1) := by decide +kernel
theorem dX4_matches_107 : decode cX4_matches 107 = .ok (.iload 5, 2) := by decide +kernel
theorem dX4_matches_109 : decode cX4_matches 109 = .ok (.iadd, 1) := by decide +kernel
theorem dX4_matches_110 : decode cX4_matches 110 = .ok (.laload, 1) := by decide +kernel
theorem dX4_matches_111 : decode cX4_matches 111 = .ok (.aload_n 3, 1) := by decide +kernel
theorem dX4_matches_112 : decode cX4_matches 112 = .ok (.getfield 25, 3) := by decide +kernel
theorem dX4_matches_115 : decode cX4_matches 115 = .ok (.iload 5, 2) := by decide +kernel
theorem dX4_matches_117 : decode cX4_matches 117 = .ok (.laload, 1) := by decide +kernel
theorem dX4_matches_118 : decode cX4_matches 118 = .ok (.invokevirtual 76, 3) := by decide +kernel
theorem dX4_matches_121 : decode cX4_matches 121 = .ok (.ifCond .ne 5, 3) := by decide +kernel
theorem dX4_matches_124 : decode cX4_matches 124 = .ok (.iconst 0, 1) := by decide +kernel
theorem dX4_matches_125 : decode cX4_matches 125 = .ok (.ireturn, 1) := by decide +kernel
theorem dX4_matches_126 : decode cX4_matches 126 = .ok (.iinc 5 1, 3) := by decide +kernel
theorem dX4_matches_129 : decode cX4_matches 129 = .ok (.goto (-102), 3) := by decide +kernel
theorem dX4_matches_132 : decode cX4_matches 132 = .ok (.iconst 1, 1) := by decide +kernel
theorem dX4_matches_133 : decode cX4_matches 133 = .ok (.ireturn, 1) := by decide +kernel
theorem dy_X4_matches : DY yX4_matches 4 := by decide +kernel
abbrev rm_X4_matches : Room := { frames := 4, cells := 0, slots := 0, locals := 120 }
def l_X4_matches_27 (n : Nat) : Nat → St → Nat → Int32 → Nat → Int32 → Option (St × Int32)
  | 0, _, _, _, _, _ => none
  | m + 1, S, j, l1, a3, l5 =>
    if (S.1 150 a3) ≤ l5 then
      some (S, 1)
    else
      gI S 151 j (l1 + l5) 200 fun v2 =>
      gI S 151 a3 l5 200 fun v5 =>
      if v2 = v5 then
        gI S 152 j (l1 + l5) 200 fun v9 =>
        gI S 152 a3 l5 200 fun v12 =>
        if v9 = v12 then
          gL S 154 j (l1 + l5) 200 fun v16 =>
          gL S 154 a3 l5 200 fun v19 =>
          bI (f_X1_areSame n S v16 v19) fun S22 v24 =>
          if v24 = 0 then
            some (S22, 0)
          else
            gL S22 155 j (l1 + l5) 200 fun v26 =>
            gL S22 155 a3 l5 200 fun v29 =>
            bI (f_X1_areSame n S22 v26 v29) fun S32 v34 =>
            if v34 = 0 then
              some (S32, 0)
            else
              bV (l5 + 1) fun v36 =>
              l_X4_matches_27 n m S32 j l1 a3 v36
        else
          some (S, 0)
      else
        some (S, 0)
def g_X4_matches (n : Nat) (S : St) (j : Nat) (a1 : Int32) (a2 : Int32) (a3 : Nat) : Option (St × Int32) :=
  if a1 < 0 then
    some (S, 0)
  else
    if (S.1 150 j) < a2 then
      some (S, 0)
    else
      if (a2 - a1) = (S.1 150 a3) then
        l_X4_matches_27 n n S j a1 a3 0
      else
        some (S, 0)
set_option maxRecDepth 100000 in
set_option maxHeartbeats 4000000 in
theorem t_X4_matches_27 {n : Nat} {x : XC} (hx : CX x cX4_matches 6 RX4) (hR : x_R x = rm_X4_matches) (hKS : ∀ k ∈ KK, k ∈ x_K x) {out : St × Int32} (hE : EI x cX4_matches out) : ∀ {m : Nat} {S : St} {j : Nat} {l1 : Int32} {a3 : Nat} {l5 : Int32} (h_j : j < 107) (h_a3 : a3 < 107) (h : l_X4_matches_27 n m S j l1 a3 l5 = some out), WX x 6 0 0 S 27 [(0, .ref (x_ad x 0 3 j)), (1, .int l1), (3, .ref (x_ad x 0 3 a3)), (4, .ref (x_ad x 0 0 0)), (5, .int l5)] [] := by
  intro m
  induction m with
  | zero => intro S j l1 a3 l5 h_j h_a3 h; cases h
  | succ m ih =>
    intro S j l1 a3 l5 h_j h_a3 h
    unfold l_X4_matches_27 at h
    refine r_iload (k0 := 4) hx dX4_matches_27 rfl ?_
    refine r_aload_n (k0 := 2) hx dX4_matches_29 rfl rfl ?_
    refine g_150 hx (kr_0 hKS h_a3) wf_X4_28 dX4_matches_30 ?_
    refine r_icmp_ge (tgt := 132) hx dX4_matches_33 (by decide) (fun c1 => ?_) (fun c1 => ?_)
    · have h := ite_t h c1
      refine r_iconst (v := 1) hx dX4_matches_132 (by decide) ?_
      exact r_iret hE h dX4_matches_133
    · have h := ite_f h c1
      refine r_aload_n (k0 := 0) hx dX4_matches_36 rfl rfl ?_
      refine g_151 hx (kr_0 hKS h_j) wf_X4_9 dX4_matches_37 ?_
      refine r_iload_n (k0 := 1) hx dX4_matches_40 rfl rfl ?_
      refine r_iload (k0 := 4) hx dX4_matches_41 rfl ?_
      refine r_iadd hx dX4_matches_43 ?_
      obtain ⟨v2, e3, i4, h⟩ := gI_some h
      refine r_iald hx (kr_151 hKS h_j) rfl i4 e3 dX4_matches_44 ?_
      refine r_aload_n (k0 := 2) hx dX4_matches_45 rfl rfl ?_
      refine g_151 hx (kr_0 hKS h_a3) wf_X4_9 dX4_matches_46 ?_
      refine r_iload (k0 := 4) hx dX4_matches_49 rfl ?_
      obtain ⟨v5, e6, i7, h⟩ := gI_some h
      refine r_iald hx (kr_151 hKS h_a3) rfl i7 e6 dX4_matches_51 ?_
      refine r_icmp_ne (tgt := 74) hx dX4_matches_52 (by decide) (fun c8 => ?_) (fun c8 => ?_)
      · have h := ite_f h c8
        refine r_iconst (v := 0) hx dX4_matches_74 (by decide) ?_
        exact r_iret hE h dX4_matches_75
      · have h := ite_t h c8
        refine r_aload_n (k0 := 0) hx dX4_matches_55 rfl rfl ?_
        refine g_152 hx (kr_0 hKS h_j) wf_X4_15 dX4_matches_56 ?_
        refine r_iload_n (k0 := 1) hx dX4_matches_59 rfl rfl ?_
        refine r_iload (k0 := 4) hx dX4_matches_60 rfl ?_
        refine r_iadd hx dX4_matches_62 ?_
        obtain ⟨v9, e10, i11, h⟩ := gI_some h
        refine r_iald hx (kr_152 hKS h_j) rfl i11 e10 dX4_matches_63 ?_
        refine r_aload_n (k0 := 2) hx dX4_matches_64 rfl rfl ?_
        refine g_152 hx (kr_0 hKS h_a3) wf_X4_15 dX4_matches_65 ?_
        refine r_iload (k0 := 4) hx dX4_matches_68 rfl ?_
        obtain ⟨v12, e13, i14, h⟩ := gI_some h
        refine r_iald hx (kr_152 hKS h_a3) rfl i14 e13 dX4_matches_70 ?_
        refine r_icmp_eq (tgt := 76) hx dX4_matches_71 (by decide) (fun c15 => ?_) (fun c15 => ?_)
        · have h := ite_t h c15
          refine r_aload (k0 := 3) hx dX4_matches_76 rfl ?_
          refine r_aload_n (k0 := 0) hx dX4_matches_78 rfl rfl ?_
          refine g_154 hx (kr_0 hKS h_j) wf_X4_21 dX4_matches_79 ?_
          refine r_iload_n (k0 := 1) hx dX4_matches_82 rfl rfl ?_
          refine r_iload (k0 := 4) hx dX4_matches_83 rfl ?_
          refine r_iadd hx dX4_matches_85 ?_
          obtain ⟨v16, e17, i18, h⟩ := gL_some h
          refine r_lald hx (kr_154 hKS h_j) rfl i18 e17 dX4_matches_86 ?_
          refine r_aload_n (k0 := 2) hx dX4_matches_87 rfl rfl ?_
          refine g_154 hx (kr_0 hKS h_a3) wf_X4_21 dX4_matches_88 ?_
          refine r_iload (k0 := 4) hx dX4_matches_91 rfl ?_
          obtain ⟨v19, e20, i21, h⟩ := gL_some h
          refine r_lald hx (kr_154 hKS h_a3) rfl i21 e20 dX4_matches_93 ?_
          obtain ⟨S22, v24, c23, h⟩ := bI_some h
          refine r_Vi (ci := 0) (As := [.long v16, .long v19]) (rest := []) hx (C_X1_areSame (c := x_y x) hKS c23) (k_0_0 hKS) rfl wl_X4_76 wi_X1_areSame we_X1_areSame wn_X1 wc_X1_areSame dy_X1_areSame rfl (by rw [hR]; decide +kernel) rfl (Nat.le_of_ble_eq_true rfl) dX4_matches_94 ?_
          refine r_if_eq (tgt := 124) hx dX4_matches_97 (by decide) (fun c25 => ?_) (fun c25 => ?_)
          · have h := ite_t h c25
            refine r_iconst (v := 0) hx dX4_matches_124 (by decide) ?_
            exact r_iret hE h dX4_matches_125
          · have h := ite_f h c25
            refine r_aload (k0 := 3) hx dX4_matches_100 rfl ?_
            refine r_aload_n (k0 := 0) hx dX4_matches_102 rfl rfl ?_
            refine g_155 hx (kr_0 hKS h_j) wf_X4_25 dX4_matches_103 ?_
            refine r_iload_n (k0 := 1) hx dX4_matches_106 rfl rfl ?_
            refine r_iload (k0 := 4) hx dX4_matches_107 rfl ?_
            refine r_iadd hx dX4_matches_109 ?_
            obtain ⟨v26, e27, i28, h⟩ := gL_some h
            refine r_lald hx (kr_155 hKS h_j) rfl i28 e27 dX4_matches_110 ?_
            refine r_aload_n (k0 := 2) hx dX4_matches_111 rfl rfl ?_
            refine g_155 hx (kr_0 hKS h_a3) wf_X4_25 dX4_matches_112 ?_
            refine r_iload (k0 := 4) hx dX4_matches_115 rfl ?_
            obtain ⟨v29, e30, i31, h⟩ := gL_some h
            refine r_lald hx (kr_155 hKS h_a3) rfl i31 e30 dX4_matches_117 ?_
            obtain ⟨S32, v34, c33, h⟩ := bI_some h
            refine r_Vi (ci := 0) (As := [.long v26, .long v29]) (rest := []) hx (C_X1_areSame (c := x_y x) hKS c33) (k_0_0 hKS) rfl wl_X4_76 wi_X1_areSame we_X1_areSame wn_X1 wc_X1_areSame dy_X1_areSame rfl (by rw [hR]; decide +kernel) rfl (Nat.le_of_ble_eq_true rfl) dX4_matches_118 ?_
            refine r_if_ne (tgt := 126) hx dX4_matches_121 (by decide) (fun c35 => ?_) (fun c35 => ?_)
            · have h := ite_f h c35
              obtain ⟨v36, e37, h⟩ := bV_some h
              refine r_iinc (k := 4) (v := v36) (lv' := [(5, .int v36), (0, .ref (x_ad x 0 3 j)), (1, .int l1), (3, .ref (x_ad x 0 3 a3)), (4, .ref (x_ad x 0 0 0))]) hx dX4_matches_126 rfl (by rw [e37]; rfl) (by decide) rfl ?_
              refine r_goto (tgt := 27) hx dX4_matches_129 (by decide) ?_
              refine WX.sub (lv' := [(0, .ref (x_ad x 0 3 j)), (1, .int l1), (3, .ref (x_ad x 0 3 a3)), (4, .ref (x_ad x 0 0 0)), (5, .int v36)]) ?_ [1, 2, 3, 4, 0] rfl
              exact ih h_j h_a3 h
            · have h := ite_t h c35
              refine r_iconst (v := 0) hx dX4_matches_124 (by decide) ?_
              exact r_iret hE h dX4_matches_125
        · have h := ite_f h c15
          refine r_iconst (v := 0) hx dX4_matches_74 (by decide) ?_
          exact r_iret hE h dX4_matches_75
set_option maxRecDepth 100000 in
set_option maxHeartbeats 4000000 in
theorem t_X4_matches_0 {n : Nat} {x : XC} (hx : CX x cX4_matches 6 RX4) (hR : x_R x = rm_X4_matches) (hKS : ∀ k ∈ KK, k ∈ x_K x) {out : St × Int32} (hE : EI x cX4_matches out) {S : St} {j : Nat} {a1 : Int32} {a2 : Int32} {a3 : Nat} (h_j : j < 107) (h_a3 : a3 < 107) (h : g_X4_matches n S j a1 a2 a3 = some out) : WX x 6 0 0 S 0 [(0, .ref (x_ad x 0 3 j)), (1, .int a1), (2, .int a2), (3, .ref (x_ad x 0 3 a3)), (4, .ref (x_ad x 0 0 0))] [] := by
  unfold g_X4_matches at h
  refine r_iload_n (k0 := 1) hx dX4_matches_0 rfl rfl ?_
  refine r_if_lt (tgt := 22) hx dX4_matches_1 (by decide) (fun c1 => ?_) (fun c1 => ?_)
  · have h := ite_t h c1
    refine r_iconst (v := 0) hx dX4_matches_22 (by decide) ?_
    exact r_iret hE h dX4_matches_23
  · have h := ite_f h c1
    refine r_iload_n (k0 := 2) hx dX4_matches_4 rfl rfl ?_
    refine r_aload_n (k0 := 0) hx dX4_matches_5 rfl rfl ?_
    refine g_150 hx (kr_0 hKS h_j) wf_X4_28 dX4_matches_6 ?_
    refine r_icmp_gt (tgt := 22) hx dX4_matches_9 (by decide) (fun c2 => ?_) (fun c2 => ?_)
    · have h := ite_t h c2
      refine r_iconst (v := 0) hx dX4_matches_22 (by decide) ?_
      exact r_iret hE h dX4_matches_23
    · have h := ite_f h c2
      refine r_iload_n (k0 := 2) hx dX4_matches_12 rfl rfl ?_
      refine r_iload_n (k0 := 1) hx dX4_matches_13 rfl rfl ?_
      refine r_isub hx dX4_matches_14 ?_
      refine r_aload_n (k0 := 3) hx dX4_matches_15 rfl rfl ?_
      refine g_150 hx (kr_0 hKS h_a3) wf_X4_28 dX4_matches_16 ?_
      refine r_icmp_eq (tgt := 24) hx dX4_matches_19 (by decide) (fun c3 => ?_) (fun c3 => ?_)
      · have h := ite_t h c3
        refine r_iconst (v := 0) hx dX4_matches_24 (by decide) ?_
        refine r_istore (lv' := [(5, .int 0), (0, .ref (x_ad x 0 3 j)), (1, .int a1), (2, .int a2), (3, .ref (x_ad x 0 3 a3)), (4, .ref (x_ad x 0 0 0))]) hx dX4_matches_25 (by decide) rfl ?_
        refine WX.sub (lv' := [(0, .ref (x_ad x 0 3 j)), (1, .int a1), (3, .ref (x_ad x 0 3 a3)), (4, .ref (x_ad x 0 0 0)), (5, .int 0)]) ?_ [1, 2, 4, 5, 0] rfl
        exact t_X4_matches_27 hx hR hKS hE h_j h_a3 h
      · have h := ite_f h c3
        refine r_iconst (v := 0) hx dX4_matches_22 (by decide) ?_
        exact r_iret hE h dX4_matches_23
def f_X4_matches (n : Nat) (S : St) (j : Nat) (a1 : Int32) (a2 : Int32) (a3 : Nat) : Option (St × Int32) := zW (g_X4_matches n S j a1 a2 a3)
set_option maxHeartbeats 4000000 in
theorem C_X4_matches {n : Nat} {c : YC} (hKS : ∀ k ∈ KK, k ∈ c.2.2.2.2) {S : St} {j : Nat} {a1 : Int32} {a2 : Int32} {a3 : Nat} {out : St × Int32} (h_j : j < 107) (h_a3 : a3 < 107) (h : f_X4_matches n S j a1 a2 a3 = some out) : MI c yX4_matches cX4_matches 6 (some .boolean) rm_X4_matches S [.ref (c.2.2.1 0 3 j), .int a1, .int a2, .ref (c.2.2.1 0 3 a3), .ref (c.2.2.1 0 0 0)] out := mk_Z (own := RX4) (by decide +kernel) rfl (Nat.le_of_ble_eq_true rfl) (zW_some h).2 (fun x hx hR hy hE => by subst hy; exact t_X4_matches_0 hx hR hKS hE h_j h_a3 (zW_some h).1)
