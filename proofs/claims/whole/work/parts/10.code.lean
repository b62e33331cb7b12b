theorem dX0_markAt_0 : decode cX0_markAt 0 = .ok (.lload_n 0, 1) := by decide +kernel
theorem dX0_markAt_1 : decode cX0_markAt 1 = .ok (.iconst 3, 1) := by decide +kernel
theorem dX0_markAt_2 : decode cX0_markAt 2 = .ok (.iload_n 2, 1) := by decide +kernel
theorem dX0_markAt_3 : decode cX0_markAt 3 = .ok (.imul, 1) := by decide +kernel
theorem dX0_markAt_4 : decode cX0_markAt 4 = .ok (.lushr, 1) := by decide +kernel
theorem dX0_markAt_5 : decode cX0_markAt 5 = .ok (.l2i, 1) := by decide +kernel
theorem dX0_markAt_6 : decode cX0_markAt 6 = .ok (.bipush 7, 2) := by decide +kernel
theorem dX0_markAt_8 : decode cX0_markAt 8 = .ok (.iand, 1) := by decide +kernel
theorem dX0_markAt_9 : decode cX0_markAt 9 = .ok (.ireturn, 1) := by decide +kernel
theorem dy_X0_markAt : DY yX0_markAt 2 := by decide +kernel
abbrev rm_X0_markAt : Room := { frames := 0, cells := 0, slots := 0, locals := 0 }
def f_X0_markAt (n : Nat) (S : St) (a1 : Int64) (a2 : Int32) : Option (St × Int32) :=
  some (S, (((l_ushr a1 (3 * a2)) : Int64).toInt32 &&& 7))
set_option maxRecDepth 100000 in
set_option maxHeartbeats 4000000 in
theorem t_X0_markAt_0 {n : Nat} {x : XC} (hx : CX x cX0_markAt 3 RX0) (hR : x_R x = rm_X0_markAt) (hKS : ∀ k ∈ KK, k ∈ x_K x) {out : St × Int32} (hE : EI x cX0_markAt out) {S : St} {a1 : Int64} {a2 : Int32} (h : f_X0_markAt n S a1 a2 = some out) : WX x 3 0 0 S 0 [(0, .long a1), (2, .int a2)] [] := by
  unfold f_X0_markAt at h
  refine r_lload_n (k0 := 0) hx dX0_markAt_0 rfl rfl ?_
  refine r_iconst (v := 3) hx dX0_markAt_1 (by decide) ?_
  refine r_iload_n (k0 := 1) hx dX0_markAt_2 rfl rfl ?_
  refine r_imul hx dX0_markAt_3 ?_
  refine r_lushr hx dX0_markAt_4 ?_
  refine r_l2i hx dX0_markAt_5 ?_
  refine r_bipush (v := 7) hx dX0_markAt_6 (by decide) ?_
  refine r_iand hx dX0_markAt_8 ?_
  exact r_iret hE h dX0_markAt_9
set_option maxHeartbeats 4000000 in
theorem C_X0_markAt {n : Nat} {c : YC} (hKS : ∀ k ∈ KK, k ∈ c.2.2.2.2) {S : St} {a1 : Int64} {a2 : Int32} {out : St × Int32} (h : f_X0_markAt n S a1 a2 = some out) : MI c yX0_markAt cX0_markAt 3 (some .int) rm_X0_markAt S [.long a1, .int a2] out := mk_I (own := RX0) (by decide +kernel) rfl (Nat.le_of_ble_eq_true rfl) (fun x hx hR hy hE => by subst hy; exact t_X0_markAt_0 hx hR hKS hE h)
theorem dX0_sizeOf_0 : decode cX0_sizeOf 0 = .ok (.iconst 0, 1) := by decide +kernel
theorem dX0_sizeOf_1 : decode cX0_sizeOf 1 = .ok (.istore_n 2, 1) := by decide +kernel
theorem dX0_sizeOf_2 : decode cX0_sizeOf 2 = .ok (.iload_n 2, 1) := by decide +kernel
theorem dX0_sizeOf_3 : decode cX0_sizeOf 3 = .ok (.bipush 16, 2) := by decide +kernel
theorem dX0_sizeOf_5 : decode cX0_sizeOf 5 = .ok (.if_icmp .ge 17, 3) := by decide +kernel
theorem dX0_sizeOf_8 : decode cX0_sizeOf 8 = .ok (.lload_n 0, 1) := by decide +kernel
theorem dX0_sizeOf_9 : decode cX0_sizeOf 9 = .ok (.iload_n 2, 1) := by decide +kernel
theorem dX0_sizeOf_10 : decode cX0_sizeOf 10 = .ok (.invokestatic 19, 3) := by decide +kernel
theorem dX0_sizeOf_13 : decode cX0_sizeOf 13 = .ok (.ifCond .eq 9, 3) := by decide +kernel
theorem dX0_sizeOf_16 : decode cX0_sizeOf 16 = .ok (.iinc 2 1, 3) := by decide +kernel
theorem dX0_sizeOf_19 : decode cX0_sizeOf 19 = .ok (.goto (-17), 3) := by decide +kernel
theorem dX0_sizeOf_22 : decode cX0_sizeOf 22 = .ok (.iload_n 2, 1) := by decide +kernel
theorem dX0_sizeOf_23 : decode cX0_sizeOf 23 = .ok (.ireturn, 1) := by decide +kernel
theorem dy_X0_sizeOf : DY yX0_sizeOf 1 := by decide +kernel
abbrev rm_X0_sizeOf : Room := { frames := 1, cells := 0, slots := 0, locals := 22 }
def l_X0_sizeOf_2 (n : Nat) : Nat → St → Int64 → Int32 → Option (St × Int32)
  | 0, _, _, _ => none
  | m + 1, S, l0, l2 =>
    if 16 ≤ l2 then
      some (S, l2)
    else
      bI (f_X0_markAt n S l0 l2) fun S2 v4 =>
      if v4 = 0 then
        some (S2, l2)
      else
        bV (l2 + 1) fun v6 =>
        l_X0_sizeOf_2 n m S2 l0 v6
def f_X0_sizeOf (n : Nat) (S : St) (a1 : Int64) : Option (St × Int32) :=
  l_X0_sizeOf_2 n n S a1 0
set_option maxRecDepth 100000 in
set_option maxHeartbeats 4000000 in
theorem t_X0_sizeOf_2 {n : Nat} {x : XC} (hx : CX x cX0_sizeOf 3 RX0) (hR : x_R x = rm_X0_sizeOf) (hKS : ∀ k ∈ KK, k ∈ x_K x) {out : St × Int32} (hE : EI x cX0_sizeOf out) : ∀ {m : Nat} {S : St} {l0 : Int64} {l2 : Int32} (h : l_X0_sizeOf_2 n m S l0 l2 = some out), WX x 3 0 0 S 2 [(0, .long l0), (2, .int l2)] [] := by
  intro m
  induction m with
  | zero => intro S l0 l2 h; cases h
  | succ m ih =>
    intro S l0 l2 h
    unfold l_X0_sizeOf_2 at h
    refine r_iload_n (k0 := 1) hx dX0_sizeOf_2 rfl rfl ?_
    refine r_bipush (v := 16) hx dX0_sizeOf_3 (by decide) ?_
    refine r_icmp_ge (tgt := 22) hx dX0_sizeOf_5 (by decide) (fun c1 => ?_) (fun c1 => ?_)
    · have h := ite_t h c1
      refine r_iload_n (k0 := 1) hx dX0_sizeOf_22 rfl rfl ?_
      exact r_iret hE h dX0_sizeOf_23
    · have h := ite_f h c1
      refine r_lload_n (k0 := 0) hx dX0_sizeOf_8 rfl rfl ?_
      refine r_iload_n (k0 := 1) hx dX0_sizeOf_9 rfl rfl ?_
      obtain ⟨S2, v4, c3, h⟩ := bI_some h
      refine r_Si (As := [.long l0, .int l2]) (rest := []) hx (C_X0_markAt (c := x_y x) hKS c3) wl_X0_19 wt_X0_markAt wn_X0 wc_X0_markAt dy_X0_markAt rfl (by rw [hR]; decide +kernel) rfl (Nat.le_of_ble_eq_true rfl) dX0_sizeOf_10 ?_
      refine r_if_eq (tgt := 22) hx dX0_sizeOf_13 (by decide) (fun c5 => ?_) (fun c5 => ?_)
      · have h := ite_t h c5
        refine r_iload_n (k0 := 1) hx dX0_sizeOf_22 rfl rfl ?_
        exact r_iret hE h dX0_sizeOf_23
      · have h := ite_f h c5
        obtain ⟨v6, e7, h⟩ := bV_some h
        refine r_iinc (k := 1) (v := v6) (lv' := [(2, .int v6), (0, .long l0)]) hx dX0_sizeOf_16 rfl (by rw [e7]; rfl) (by decide) rfl ?_
        refine r_goto (tgt := 2) hx dX0_sizeOf_19 (by decide) ?_
        refine WX.sub (lv' := [(0, .long l0), (2, .int v6)]) ?_ [1, 0] rfl
        exact ih  h
set_option maxRecDepth 100000 in
set_option maxHeartbeats 4000000 in
theorem t_X0_sizeOf_0 {n : Nat} {x : XC} (hx : CX x cX0_sizeOf 3 RX0) (hR : x_R x = rm_X0_sizeOf) (hKS : ∀ k ∈ KK, k ∈ x_K x) {out : St × Int32} (hE : EI x cX0_sizeOf out) {S : St} {a1 : Int64} (h : f_X0_sizeOf n S a1 = some out) : WX x 3 0 0 S 0 [(0, .long a1)] [] := by
  unfold f_X0_sizeOf at h
  refine r_iconst (v := 0) hx dX0_sizeOf_0 (by decide) ?_
  refine r_istore_n (lv' := [(2, .int 0), (0, .long a1)]) hx dX0_sizeOf_1 rfl (by decide) rfl ?_
  refine WX.sub (lv' := [(0, .long a1), (2, .int 0)]) ?_ [1, 0] rfl
  exact t_X0_sizeOf_2 hx hR hKS hE h
set_option maxHeartbeats 4000000 in
theorem C_X0_sizeOf {n : Nat} {c : YC} (hKS : ∀ k ∈ KK, k ∈ c.2.2.2.2) {S : St} {a1 : Int64} {out : St × Int32} (h : f_X0_sizeOf n S a1 = some out) : MI c yX0_sizeOf cX0_sizeOf 3 (some .int) rm_X0_sizeOf S [.long a1] out := mk_I (own := RX0) (by decide +kernel) rfl (Nat.le_of_ble_eq_true rfl) (fun x hx hR hy hE => by subst hy; exact t_X0_sizeOf_0 hx hR hKS hE h)
theorem dX0_ofParameter_0 : decode cX0_ofParameter 0 = .ok (.iconst 5, 1) := by decide +kernel
theorem dX0_ofParameter_1 : decode cX0_ofParameter 1 = .ok (.iload_n 0, 1) := by decide +kernel
theorem dX0_ofParameter_2 : decode cX0_ofParameter 2 = .ok (.iadd, 1) := by decide +kernel
theorem dX0_ofParameter_3 : decode cX0_ofParameter 3 = .ok (.i2l, 1) := by decide +kernel
theorem dX0_ofParameter_4 : decode cX0_ofParameter 4 = .ok (.lreturn, 1) := by decide +kernel
theorem dy_X0_ofParameter : DY yX0_ofParameter 1 := by decide +kernel
abbrev rm_X0_ofParameter : Room := { frames := 0, cells := 0, slots := 0, locals := 0 }
def f_X0_ofParameter (n : Nat) (S : St) (a1 : Int32) : Option (St × Int64) :=
  some (S, ((5 + a1) : Int32).toInt64)
set_option maxRecDepth 100000 in
set_option maxHeartbeats 4000000 in
theorem t_X0_ofParameter_0 {n : Nat} {x : XC} (hx : CX x cX0_ofParameter 1 RX0) (hR : x_R x = rm_X0_ofParameter) (hKS : ∀ k ∈ KK, k ∈ x_K x) {out : St × Int64} (hE : EL x cX0_ofParameter out) {S : St} {a1 : Int32} (h : f_X0_ofParameter n S a1 = some out) : WX x 1 0 0 S 0 [(0, .int a1)] [] := by
  unfold f_X0_ofParameter at h
  refine r_iconst (v := 5) hx dX0_ofParameter_0 (by decide) ?_
  refine r_iload_n (k0 := 0) hx dX0_ofParameter_1 rfl rfl ?_
  refine r_iadd hx dX0_ofParameter_2 ?_
  refine r_i2l hx dX0_ofParameter_3 ?_
  exact r_lret hE h dX0_ofParameter_4
set_option maxHeartbeats 4000000 in
theorem C_X0_ofParameter {n : Nat} {c : YC} (hKS : ∀ k ∈ KK, k ∈ c.2.2.2.2) {S : St} {a1 : Int32} {out : St × Int64} (h : f_X0_ofParameter n S a1 = some out) : ML c yX0_ofParameter cX0_ofParameter 1 (some .long) rm_X0_ofParameter S [.int a1] out := mk_L (own := RX0) (by decide +kernel) rfl (Nat.le_of_ble_eq_true rfl) (fun x hx hR hy hE => by subst hy; exact t_X0_ofParameter_0 hx hR hKS hE h)
theorem dX0_ofUp_0 : decode cX0_ofUp 0 = .ok (.lload_n 0, 1) := by decide +kernel
theorem dX0_ofUp_1 : decode cX0_ofUp 1 = .ok (.invokestatic 11, 3) := by decide +kernel
theorem dX0_ofUp_4 : decode cX0_ofUp 4 = .ok (.bipush 16, 2) := by decide +kernel
theorem dX0_ofUp_6 : decode cX0_ofUp 6 = .ok (.if_icmp .ge 13, 3) := by decide +kernel
theorem dX0_ofUp_9 : decode cX0_ofUp 9 = .ok (.ldc2_w 15, 3) := by decide +kernel
theorem dX0_ofUp_12 : decode cX0_ofUp 12 = .ok (.lload_n 0, 1) := by decide +kernel
theorem dX0_ofUp_13 : decode cX0_ofUp 13 = .ok (.iconst 3, 1) := by decide +kernel
theorem dX0_ofUp_14 : decode cX0_ofUp 14 = .ok (.lshl, 1) := by decide +kernel
theorem dX0_ofUp_15 : decode cX0_ofUp 15 = .ok (.lor, 1) := by decide +kernel
theorem dX0_ofUp_16 : decode cX0_ofUp 16 = .ok (.goto 6, 3) := by decide +kernel
theorem dX0_ofUp_19 : decode cX0_ofUp 19 = .ok (.ldc2_w 17, 3) := by decide +kernel
theorem dX0_ofUp_22 : decode cX0_ofUp 22 = .ok (.lreturn, 1) := by decide +kernel
theorem dy_X0_ofUp : DY yX0_ofUp 1 := by decide +kernel
abbrev rm_X0_ofUp : Room := { frames := 2, cells := 0, slots := 0, locals := 44 }
def f_X0_ofUp (n : Nat) (S : St) (a1 : Int64) : Option (St × Int64) :=
  bI (f_X0_sizeOf n S a1) fun S1 v3 =>
  if 16 ≤ v3 then
    some (S1, (-1))
  else
    some (S1, (2 ||| (l_shl a1 3)))
set_option maxRecDepth 100000 in
set_option maxHeartbeats 4000000 in
theorem t_X0_ofUp_0 {n : Nat} {x : XC} (hx : CX x cX0_ofUp 2 RX0) (hR : x_R x = rm_X0_ofUp) (hKS : ∀ k ∈ KK, k ∈ x_K x) {out : St × Int64} (hE : EL x cX0_ofUp out) {S : St} {a1 : Int64} (h : f_X0_ofUp n S a1 = some out) : WX x 2 0 0 S 0 [(0, .long a1)] [] := by
  unfold f_X0_ofUp at h
  refine r_lload_n (k0 := 0) hx dX0_ofUp_0 rfl rfl ?_
  obtain ⟨S1, v3, c2, h⟩ := bI_some h
  refine r_Si (As := [.long a1]) (rest := []) hx (C_X0_sizeOf (c := x_y x) hKS c2) wl_X0_11 wt_X0_sizeOf wn_X0 wc_X0_sizeOf dy_X0_sizeOf rfl (by rw [hR]; decide +kernel) rfl (Nat.le_of_ble_eq_true rfl) dX0_ofUp_1 ?_
  refine r_bipush (v := 16) hx dX0_ofUp_4 (by decide) ?_
  refine r_icmp_ge (tgt := 19) hx dX0_ofUp_6 (by decide) (fun c4 => ?_) (fun c4 => ?_)
  · have h := ite_t h c4
    refine r_ldc2 (v := -1) hx dX0_ofUp_19 wk_X0_17 ?_
    exact r_lret hE h dX0_ofUp_22
  · have h := ite_f h c4
    refine r_ldc2 (v := 2) hx dX0_ofUp_9 wk_X0_15 ?_
    refine r_lload_n (k0 := 0) hx dX0_ofUp_12 rfl rfl ?_
    refine r_iconst (v := 3) hx dX0_ofUp_13 (by decide) ?_
    refine r_lshl hx dX0_ofUp_14 ?_
    refine r_lor hx dX0_ofUp_15 ?_
    refine r_goto (tgt := 22) hx dX0_ofUp_16 (by decide) ?_
    exact r_lret hE h dX0_ofUp_22
set_option maxHeartbeats 4000000 in
theorem C_X0_ofUp {n : Nat} {c : YC} (hKS : ∀ k ∈ KK, k ∈ c.2.2.2.2) {S : St} {a1 : Int64} {out : St × Int64} (h : f_X0_ofUp n S a1 = some out) : ML c yX0_ofUp cX0_ofUp 2 (some .long) rm_X0_ofUp S [.long a1] out := mk_L (own := RX0) (by decide +kernel) rfl (Nat.le_of_ble_eq_true rfl) (fun x hx hR hy hE => by subst hy; exact t_X0_ofUp_0 hx hR hKS hE h)
theorem dX0_ofTwo_0 : decode cX0_ofTwo 0 = .ok (.lload_n 1, 1) := by decide +kernel
theorem dX0_ofTwo_1 : decode cX0_ofTwo 1 = .ok (.invokestatic 11, 3) := by decide +kernel
theorem dX0_ofTwo_4 : decode cX0_ofTwo 4 = .ok (.istore 5, 2) := by decide +kernel
theorem dX0_ofTwo_6 : decode cX0_ofTwo 6 = .ok (.iconst 1, 1) := by decide +kernel
theorem dX0_ofTwo_7 : decode cX0_ofTwo 7 = .ok (.iload 5, 2) := by decide +kernel
theorem dX0_ofTwo_9 : decode cX0_ofTwo 9 = .ok (.iadd, 1) := by decide +kernel
theorem dX0_ofTwo_10 : decode cX0_ofTwo 10 = .ok (.lload_n 3, 1) := by decide +kernel
theorem dX0_ofTwo_11 : decode cX0_ofTwo 11 = .ok (.invokestatic 11, 3) := by decide +kernel
theorem dX0_ofTwo_14 : decode cX0_ofTwo 14 = .ok (.iadd, 1) := by decide +kernel
theorem dX0_ofTwo_15 : decode cX0_ofTwo 15 = .ok (.bipush 16, 2) := by decide +kernel
theorem dX0_ofTwo_17 : decode cX0_ofTwo 17 = .ok (.if_icmp .le 7, 3) := by decide +kernel
theorem dX0_ofTwo_20 : decode cX0_ofTwo 20 = .ok (.ldc2_w 17, 3) := by decide +kernel
theorem dX0_ofTwo_23 : decode cX0_ofTwo 23 = .ok (.lreturn, 1) := by decide +kernel
theorem dX0_ofTwo_24 : decode cX0_ofTwo 24 = .ok (.iload_n 0, 1) := by decide +kernel
theorem dX0_ofTwo_25 : decode cX0_ofTwo 25 = .ok (.iconst 1, 1) := by decide +kernel
theorem dX0_ofTwo_26 : decode cX0_ofTwo 26 = .ok (.iadd, 1) := by decide +kernel
theorem dX0_ofTwo_27 : decode cX0_ofTwo 27 = .ok (.i2l, 1) := by decide +kernel
theorem dX0_ofTwo_28 : decode cX0_ofTwo 28 = .ok (.lload_n 1, 1) := by decide +kernel
theorem dX0_ofTwo_29 : decode cX0_ofTwo 29 = .ok (.iconst 3, 1) := by decide +kernel
theorem dX0_ofTwo_30 : decode cX0_ofTwo 30 = .ok (.lshl, 1) := by decide +kernel
theorem dX0_ofTwo_31 : decode cX0_ofTwo 31 = .ok (.lor, 1) := by decide +kernel
theorem dX0_ofTwo_32 : decode cX0_ofTwo 32 = .ok (.lload_n 3, 1) := by decide +kernel
theorem dX0_ofTwo_33 : decode cX0_ofTwo 33 = .ok (.iconst 3, 1) := by decide +kernel
theorem dX0_ofTwo_34 : decode cX0_ofTwo 34 = .ok (.iconst 1, 1) := by decide +kernel
theorem dX0_ofTwo_35 : decode cX0_ofTwo 35 = .ok (.iload 5, 2) := by decide +kernel
theorem dX0_ofTwo_37 : decode cX0_ofTwo 37 = .ok (.iadd, 1) := by decide +kernel
theorem dX0_ofTwo_38 : decode cX0_ofTwo 38 = .ok (.imul, 1) := by decide +kernel
theorem dX0_ofTwo_39 : decode cX0_ofTwo 39 = .ok (.lshl, 1) := by decide +kernel
theorem dX0_ofTwo_40 : decode cX0_ofTwo 40 = .ok (.lor, 1) := by decide +kernel
theorem dX0_ofTwo_41 : decode cX0_ofTwo 41 = .ok (.lreturn, 1) := by decide +kernel
theorem dy_X0_ofTwo : DY yX0_ofTwo 3 := by decide +kernel
abbrev rm_X0_ofTwo : Room := { frames := 2, cells := 0, slots := 0, locals := 44 }
def f_X0_ofTwo (n : Nat) (S : St) (a1 : Int32) (a2 : Int64) (a3 : Int64) : Option (St × Int64) :=
  bI (f_X0_sizeOf n S a2) fun S1 v3 =>
  bI (f_X0_sizeOf n S1 a3) fun S4 v6 =>
  if ((1 + v3) + v6) ≤ 16 then
    some (S4, ((((a1 + 1) : Int32).toInt64 ||| (l_shl a2 3)) ||| (l_shl a3 (3 * (1 + v3)))))
  else
    some (S4, (-1))
set_option maxRecDepth 100000 in
set_option maxHeartbeats 4000000 in
theorem t_X0_ofTwo_0 {n : Nat} {x : XC} (hx : CX x cX0_ofTwo 6 RX0) (hR : x_R x = rm_X0_ofTwo) (hKS : ∀ k ∈ KK, k ∈ x_K x) {out : St × Int64} (hE : EL x cX0_ofTwo out) {S : St} {a1 : Int32} {a2 : Int64} {a3 : Int64} (h : f_X0_ofTwo n S a1 a2 a3 = some out) : WX x 6 0 0 S 0 [(0, .int a1), (1, .long a2), (3, .long a3)] [] := by
  unfold f_X0_ofTwo at h
  refine r_lload_n (k0 := 1) hx dX0_ofTwo_0 rfl rfl ?_
  obtain ⟨S1, v3, c2, h⟩ := bI_some h
  refine r_Si (As := [.long a2]) (rest := []) hx (C_X0_sizeOf (c := x_y x) hKS c2) wl_X0_11 wt_X0_sizeOf wn_X0 wc_X0_sizeOf dy_X0_sizeOf rfl (by rw [hR]; decide +kernel) rfl (Nat.le_of_ble_eq_true rfl) dX0_ofTwo_1 ?_
  refine r_istore (lv' := [(5, .int v3), (0, .int a1), (1, .long a2), (3, .long a3)]) hx dX0_ofTwo_4 (by decide) rfl ?_
  refine r_iconst (v := 1) hx dX0_ofTwo_6 (by decide) ?_
  refine r_iload (k0 := 0) hx dX0_ofTwo_7 rfl ?_
  refine r_iadd hx dX0_ofTwo_9 ?_
  refine r_lload_n (k0 := 3) hx dX0_ofTwo_10 rfl rfl ?_
  obtain ⟨S4, v6, c5, h⟩ := bI_some h
  refine r_Si (As := [.long a3]) (rest := [.int (1 + v3)]) hx (C_X0_sizeOf (c := x_y x) hKS c5) wl_X0_11 wt_X0_sizeOf wn_X0 wc_X0_sizeOf dy_X0_sizeOf rfl (by rw [hR]; decide +kernel) rfl (Nat.le_of_ble_eq_true rfl) dX0_ofTwo_11 ?_
  refine r_iadd hx dX0_ofTwo_14 ?_
  refine r_bipush (v := 16) hx dX0_ofTwo_15 (by decide) ?_
  refine r_icmp_le (tgt := 24) hx dX0_ofTwo_17 (by decide) (fun c7 => ?_) (fun c7 => ?_)
  · have h := ite_t h c7
    refine r_iload_n (k0 := 1) hx dX0_ofTwo_24 rfl rfl ?_
    refine r_iconst (v := 1) hx dX0_ofTwo_25 (by decide) ?_
    refine r_iadd hx dX0_ofTwo_26 ?_
    refine r_i2l hx dX0_ofTwo_27 ?_
    refine r_lload_n (k0 := 2) hx dX0_ofTwo_28 rfl rfl ?_
    refine r_iconst (v := 3) hx dX0_ofTwo_29 (by decide) ?_
    refine r_lshl hx dX0_ofTwo_30 ?_
    refine r_lor hx dX0_ofTwo_31 ?_
    refine r_lload_n (k0 := 3) hx dX0_ofTwo_32 rfl rfl ?_
    refine r_iconst (v := 3) hx dX0_ofTwo_33 (by decide) ?_
    refine r_iconst (v := 1) hx dX0_ofTwo_34 (by decide) ?_
    refine r_iload (k0 := 0) hx dX0_ofTwo_35 rfl ?_
    refine r_iadd hx dX0_ofTwo_37 ?_
    refine r_imul hx dX0_ofTwo_38 ?_
    refine r_lshl hx dX0_ofTwo_39 ?_
    refine r_lor hx dX0_ofTwo_40 ?_
    exact r_lret hE h dX0_ofTwo_41
  · have h := ite_f h c7
    refine r_ldc2 (v := -1) hx dX0_ofTwo_20 wk_X0_17 ?_
    exact r_lret hE h dX0_ofTwo_23
set_option maxHeartbeats 4000000 in
theorem C_X0_ofTwo {n : Nat} {c : YC} (hKS : ∀ k ∈ KK, k ∈ c.2.2.2.2) {S : St} {a1 : Int32} {a2 : Int64} {a3 : Int64} {out : St × Int64} (h : f_X0_ofTwo n S a1 a2 a3 = some out) : ML c yX0_ofTwo cX0_ofTwo 6 (some .long) rm_X0_ofTwo S [.int a1, .long a2, .long a3] out := mk_L (own := RX0) (by decide +kernel) rfl (Nat.le_of_ble_eq_true rfl) (fun x hx hR hy hE => by subst hy; exact t_X0_ofTwo_0 hx hR hKS hE h)
theorem dX0_kindOf_0 : decode cX0_kindOf 0 = .ok (.lload_n 0, 1) := by decide +kernel
theorem dX0_kindOf_1 : decode cX0_kindOf 1 = .ok (.iconst 0, 1) := by decide +kernel
theorem dX0_kindOf_2 : decode cX0_kindOf 2 = .ok (.invokestatic 19, 3) := by decide +kernel
theorem dX0_kindOf_5 : decode cX0_kindOf 5 = .ok (.iconst 1, 1) := by decide +kernel
theorem dX0_kindOf_6 : decode cX0_kindOf 6 = .ok (.isub, 1) := by decide +kernel
theorem dX0_kindOf_7 : decode cX0_kindOf 7 = .ok (.iconst 4, 1) := by decide +kernel
theorem dX0_kindOf_8 : decode cX0_kindOf 8 = .ok (.invokestatic 23, 3) := by decide +kernel
theorem dX0_kindOf_11 : decode cX0_kindOf 11 = .ok (.ireturn, 1) := by decide +kernel
theorem dy_X0_kindOf : DY yX0_kindOf 1 := by decide +kernel
abbrev rm_X0_kindOf : Room := { frames := 1, cells := 0, slots := 0, locals := 30 }
def f_X0_kindOf (n : Nat) (S : St) (a1 : Int64) : Option (St × Int32) :=
  bI (f_X0_markAt n S a1 0) fun S1 v3 =>
  bV (if 4 < (v3 - 1) then 4 else (v3 - 1)) fun v4 =>
  some (S1, v4)
set_option maxRecDepth 100000 in
set_option maxHeartbeats 4000000 in
theorem t_X0_kindOf_0 {n : Nat} {x : XC} (hx : CX x cX0_kindOf 2 RX0) (hR : x_R x = rm_X0_kindOf) (hKS : ∀ k ∈ KK, k ∈ x_K x) {out : St × Int32} (hE : EI x cX0_kindOf out) {S : St} {a1 : Int64} (h : f_X0_kindOf n S a1 = some out) : WX x 2 0 0 S 0 [(0, .long a1)] [] := by
  unfold f_X0_kindOf at h
  refine r_lload_n (k0 := 0) hx dX0_kindOf_0 rfl rfl ?_
  refine r_iconst (v := 0) hx dX0_kindOf_1 (by decide) ?_
  obtain ⟨S1, v3, c2, h⟩ := bI_some h
  refine r_Si (As := [.long a1, .int 0]) (rest := []) hx (C_X0_markAt (c := x_y x) hKS c2) wl_X0_19 wt_X0_markAt wn_X0 wc_X0_markAt dy_X0_markAt rfl (by rw [hR]; decide +kernel) rfl (Nat.le_of_ble_eq_true rfl) dX0_kindOf_2 ?_
  refine r_iconst (v := 1) hx dX0_kindOf_5 (by decide) ?_
  refine r_isub hx dX0_kindOf_6 ?_
  refine r_iconst (v := 4) hx dX0_kindOf_7 (by decide) ?_
  obtain ⟨v4, e5, h⟩ := bV_some h
  refine r_min hx wl_X0_23 (by rw [hR]; decide +kernel) (by rw [hR]; exact Nat.le_of_ble_eq_true rfl) (Nat.zero_le _) (Nat.zero_le _) dX0_kindOf_8 ?_
  rw [← e5]
  exact r_iret hE h dX0_kindOf_11
set_option maxHeartbeats 4000000 in
theorem C_X0_kindOf {n : Nat} {c : YC} (hKS : ∀ k ∈ KK, k ∈ c.2.2.2.2) {S : St} {a1 : Int64} {out : St × Int32} (h : f_X0_kindOf n S a1 = some out) : MI c yX0_kindOf cX0_kindOf 2 (some .int) rm_X0_kindOf S [.long a1] out := mk_I (own := RX0) (by decide +kernel) rfl (Nat.le_of_ble_eq_true rfl) (fun x hx hR hy hE => by subst hy; exact t_X0_kindOf_0 hx hR hKS hE h)
theorem dX0_parameterOf_0 : decode cX0_parameterOf 0 = .ok (.lload_n 0, 1) := by decide +kernel
theorem dX0_parameterOf_1 : decode cX0_parameterOf 1 = .ok (.iconst 0, 1) := by decide +kernel
theorem dX0_parameterOf_2 : decode cX0_parameterOf 2 = .ok (.invokestatic 19, 3) := by decide +kernel
theorem dX0_parameterOf_5 : decode cX0_parameterOf 5 = .ok (.iconst 5, 1) := by decide +kernel
theorem dX0_parameterOf_6 : decode cX0_parameterOf 6 = .ok (.isub, 1) := by decide +kernel
theorem dX0_parameterOf_7 : decode cX0_parameterOf 7 = .ok (.ireturn, 1) := by decide +kernel
theorem dy_X0_parameterOf : DY yX0_parameterOf 1 := by decide +kernel
abbrev rm_X0_parameterOf : Room := { frames := 1, cells := 0, slots := 0, locals := 22 }
def f_X0_parameterOf (n : Nat) (S : St) (a1 : Int64) : Option (St × Int32) :=
  bI (f_X0_markAt n S a1 0) fun S1 v3 =>
  some (S1, (v3 - 5))
set_option maxRecDepth 100000 in
set_option maxHeartbeats 4000000 in
theorem t_X0_parameterOf_0 {n : Nat} {x : XC} (hx : CX x cX0_parameterOf 2 RX0) (hR : x_R x = rm_X0_parameterOf) (hKS : ∀ k ∈ KK, k ∈ x_K x) {out : St × Int32} (hE : EI x cX0_parameterOf out) {S : St} {a1 : Int64} (h : f_X0_parameterOf n S a1 = some out) : WX x 2 0 0 S 0 [(0, .long a1)] [] := by
  unfold f_X0_parameterOf at h
  refine r_lload_n (k0 := 0) hx dX0_parameterOf_0 rfl rfl ?_
  refine r_iconst (v := 0) hx dX0_parameterOf_1 (by decide) ?_
  obtain ⟨S1, v3, c2, h⟩ := bI_some h
  refine r_Si (As := [.long a1, .int 0]) (rest := []) hx (C_X0_markAt (c := x_y x) hKS c2) wl_X0_19 wt_X0_markAt wn_X0 wc_X0_markAt dy_X0_markAt rfl (by rw [hR]; decide +kernel) rfl (Nat.le_of_ble_eq_true rfl) dX0_parameterOf_2 ?_
  refine r_iconst (v := 5) hx dX0_parameterOf_5 (by decide) ?_
  refine r_isub hx dX0_parameterOf_6 ?_
  exact r_iret hE h dX0_parameterOf_7
set_option maxHeartbeats 4000000 in
theorem C_X0_parameterOf {n : Nat} {c : YC} (hKS : ∀ k ∈ KK, k ∈ c.2.2.2.2) {S : St} {a1 : Int64} {out : St × Int32} (h : f_X0_parameterOf n S a1 = some out) : MI c yX0_parameterOf cX0_parameterOf 2 (some .int) rm_X0_parameterOf S [.long a1] out := mk_I (own := RX0) (by decide +kernel) rfl (Nat.le_of_ble_eq_true rfl) (fun x hx hR hy hE => by subst hy; exact t_X0_parameterOf_0 hx hR hKS hE h)
theorem dX0_partsOf_0 : decode cX0_partsOf 0 = .ok (.iload_n 0, 1) := by decide +kernel
theorem dX0_partsOf_1 : decode cX0_partsOf 1 = .ok (.iconst 1, 1) := by decide +kernel
theorem dX0_partsOf_2 : decode cX0_partsOf 2 = .ok (.isub, 1) := by decide +kernel
theorem dX0_partsOf_3 : decode cX0_partsOf 3 = .ok (.istore_n 1, 1) := by decide +kernel
theorem dX0_partsOf_4 : decode cX0_partsOf 4 = .ok (.iload_n 1, 1) := by decide +kernel
theorem dX0_partsOf_5 : decode cX0_partsOf 5 = .ok (.iconst 1, 1) := by decide +kernel
theorem dX0_partsOf_6 : decode cX0_partsOf 6 = .ok (.if_icmp .ne 7, 3) := by decide +kernel
theorem dX0_partsOf_9 : decode cX0_partsOf 9 = .ok (.iconst 1, 1) := by decide +kernel
theorem dX0_partsOf_10 : decode cX0_partsOf 10 = .ok (.goto 18, 3) := by decide +kernel
theorem dX0_partsOf_13 : decode cX0_partsOf 13 = .ok (.iload_n 1, 1) := by decide +kernel
theorem dX0_partsOf_14 : decode cX0_partsOf 14 = .ok (.iconst 2, 1) := by decide +kernel
theorem dX0_partsOf_15 : decode cX0_partsOf 15 = .ok (.if_icmp .eq 8, 3) := by decide +kernel
theorem dX0_partsOf_18 : decode cX0_partsOf 18 = .ok (.iload_n 1, 1) := by decide +kernel
theorem dX0_partsOf_19 : decode cX0_partsOf 19 = .ok (.iconst 3, 1) := by decide +kernel
theorem dX0_partsOf_20 : decode cX0_partsOf 20 = .ok (.if_icmp .ne 7, 3) := by decide +kernel
theorem dX0_partsOf_23 : decode cX0_partsOf 23 = .ok (.iconst 2, 1) := by decide +kernel
theorem dX0_partsOf_24 : decode cX0_partsOf 24 = .ok (.goto 4, 3) := by decide +kernel
theorem dX0_partsOf_27 : decode cX0_partsOf 27 = .ok (.iconst 0, 1) := by decide +kernel
theorem dX0_partsOf_28 : decode cX0_partsOf 28 = .ok (.ireturn, 1) := by decide +kernel
theorem dy_X0_partsOf : DY yX0_partsOf 1 := by decide +kernel
abbrev rm_X0_partsOf : Room := { frames := 0, cells := 0, slots := 0, locals := 0 }
def f_X0_partsOf (n : Nat) (S : St) (a1 : Int32) : Option (St × Int32) :=
  bV (a1 - 1) fun v1 =>
  if v1 = 1 then
    some (S, 1)
  else
    if v1 = 2 then
      some (S, 2)
    else
      if v1 = 3 then
        some (S, 2)
      else
        some (S, 0)
set_option maxRecDepth 100000 in
set_option maxHeartbeats 4000000 in
theorem t_X0_partsOf_0 {n : Nat} {x : XC} (hx : CX x cX0_partsOf 2 RX0) (hR : x_R x = rm_X0_partsOf) (hKS : ∀ k ∈ KK, k ∈ x_K x) {out : St × Int32} (hE : EI x cX0_partsOf out) {S : St} {a1 : Int32} (h : f_X0_partsOf n S a1 = some out) : WX x 2 0 0 S 0 [(0, .int a1)] [] := by
  unfold f_X0_partsOf at h
  refine r_iload_n (k0 := 0) hx dX0_partsOf_0 rfl rfl ?_
  refine r_iconst (v := 1) hx dX0_partsOf_1 (by decide) ?_
  refine r_isub hx dX0_partsOf_2 ?_
  obtain ⟨v1, e2, h⟩ := bV_some h
  rw [← e2]
  refine r_istore_n (lv' := [(1, .int v1), (0, .int a1)]) hx dX0_partsOf_3 rfl (by decide) rfl ?_
  refine r_iload_n (k0 := 0) hx dX0_partsOf_4 rfl rfl ?_
  refine r_iconst (v := 1) hx dX0_partsOf_5 (by decide) ?_
  refine r_icmp_ne (tgt := 13) hx dX0_partsOf_6 (by decide) (fun c3 => ?_) (fun c3 => ?_)
  · have h := ite_f h c3
    refine r_iload_n (k0 := 0) hx dX0_partsOf_13 rfl rfl ?_
    refine r_iconst (v := 2) hx dX0_partsOf_14 (by decide) ?_
    refine r_icmp_eq (tgt := 23) hx dX0_partsOf_15 (by decide) (fun c4 => ?_) (fun c4 => ?_)
    · have h := ite_t h c4
      refine r_iconst (v := 2) hx dX0_partsOf_23 (by decide) ?_
      refine r_goto (tgt := 28) hx dX0_partsOf_24 (by decide) ?_
      exact r_iret hE h dX0_partsOf_28
    · have h := ite_f h c4
      refine r_iload_n (k0 := 0) hx dX0_partsOf_18 rfl rfl ?_
      refine r_iconst (v := 3) hx dX0_partsOf_19 (by decide) ?_
      refine r_icmp_ne (tgt := 27) hx dX0_partsOf_20 (by decide) (fun c5 => ?_) (fun c5 => ?_)
      · have h := ite_f h c5
        refine r_iconst (v := 0) hx dX0_partsOf_27 (by decide) ?_
        exact r_iret hE h dX0_partsOf_28
      · have h := ite_t h c5
        refine r_iconst (v := 2) hx dX0_partsOf_23 (by decide) ?_
        refine r_goto (tgt := 28) hx dX0_partsOf_24 (by decide) ?_
        exact r_iret hE h dX0_partsOf_28
  · have h := ite_t h c3
    refine r_iconst (v := 1) hx dX0_partsOf_9 (by decide) ?_
    refine r_goto (tgt := 28) hx dX0_partsOf_10 (by decide) ?_
    exact r_iret hE h dX0_partsOf_28
set_option maxHeartbeats 4000000 in
theorem C_X0_partsOf {n : Nat} {c : YC} (hKS : ∀ k ∈ KK, k ∈ c.2.2.2.2) {S : St} {a1 : Int32} {out : St × Int32} (h : f_X0_partsOf n S a1 = some out) : MI c yX0_partsOf cX0_partsOf 2 (some .int) rm_X0_partsOf S [.int a1] out := mk_I (own := RX0) (by decide +kernel) rfl (Nat.le_of_ble_eq_true rfl) (fun x hx hR hy hE => by subst hy; exact t_X0_partsOf_0 hx hR hKS hE h)
theorem dX0_firstPartSize_0 : decode cX0_firstPartSize 0 = .ok (.iconst 1, 1) := by decide +kernel
theorem dX0_firstPartSize_1 : decode cX0_firstPartSize 1 = .ok (.istore_n 2, 1) := by decide +kernel
theorem dX0_firstPartSize_2 : decode cX0_firstPartSize 2 = .ok (.iconst 1, 1) := by decide +kernel
theorem dX0_firstPartSize_3 : decode cX0_firstPartSize 3 = .ok (.istore_n 3, 1) := by decide +kernel
theorem dX0_firstPartSize_4 : decode cX0_firstPartSize 4 = .ok (.iload_n 3, 1) := by decide +kernel
theorem dX0_firstPartSize_5 : decode cX0_firstPartSize 5 = .ok (.bipush 16, 2) := by decide +kernel
theorem dX0_firstPartSize_7 : decode cX0_firstPartSize 7 = .ok (.if_icmp .ge 26, 3) := by decide +kernel
theorem dX0_firstPartSize_10 : decode cX0_firstPartSize 10 = .ok (.iload_n 2, 1) := by decide +kernel
theorem dX0_firstPartSize_11 : decode cX0_firstPartSize 11 = .ok (.ifCond .le 22, 3) := by decide +kernel
theorem dX0_firstPartSize_14 : decode cX0_firstPartSize 14 = .ok (.iload_n 2, 1) := by decide +kernel
theorem dX0_firstPartSize_15 : decode cX0_firstPartSize 15 = .ok (.lload_n 0, 1) := by decide +kernel
theorem dX0_firstPartSize_16 : decode cX0_firstPartSize 16 = .ok (.iload_n 3, 1) := by decide +kernel
theorem dX0_firstPartSize_17 : decode cX0_firstPartSize 17 = .ok (.invokestatic 19, 3) := by decide +kernel
theorem dX0_firstPartSize_20 : decode cX0_firstPartSize 20 = .ok (.invokestatic 29, 3) := by decide +kernel
theorem dX0_firstPartSize_23 : decode cX0_firstPartSize 23 = .ok (.iconst 1, 1) := by decide +kernel
theorem dX0_firstPartSize_24 : decode cX0_firstPartSize 24 = .ok (.isub, 1) := by decide +kernel
theorem dX0_firstPartSize_25 : decode cX0_firstPartSize 25 = .ok (.iadd, 1) := by decide +kernel
theorem dX0_firstPartSize_26 : decode cX0_firstPartSize 26 = .ok (.istore_n 2, 1) := by decide +kernel
theorem dX0_firstPartSize_27 : decode cX0_firstPartSize 27 = .ok (.iinc 3 1, 3) := by decide +kernel
theorem dX0_firstPartSize_30 : decode cX0_firstPartSize 30 = .ok (.goto (-26), 3) := by decide +kernel
theorem dX0_firstPartSize_33 : decode cX0_firstPartSize 33 = .ok (.iload_n 3, 1) := by decide +kernel
theorem dX0_firstPartSize_34 : decode cX0_firstPartSize 34 = .ok (.iconst 1, 1) := by decide +kernel
theorem dX0_firstPartSize_35 : decode cX0_firstPartSize 35 = .ok (.isub, 1) := by decide +kernel
theorem dX0_firstPartSize_36 : decode cX0_firstPartSize 36 = .ok (.ireturn, 1) := by decide +kernel
theorem dy_X0_firstPartSize : DY yX0_firstPartSize 1 := by decide +kernel
abbrev rm_X0_firstPartSize : Room := { frames := 1, cells := 0, slots := 0, locals := 22 }
def l_X0_firstPartSize_4 (n : Nat) : Nat → St → Int64 → Int32 → Int32 → Option (St × Int32)
  | 0, _, _, _, _ => none
  | m + 1, S, l0, l2, l3 =>
    if 16 ≤ l3 then
      some (S, (l3 - 1))
    else
      if l2 ≤ 0 then
        some (S, (l3 - 1))
      else
        bI (f_X0_markAt n S l0 l3) fun S3 v5 =>
        bI (f_X0_partsOf n S3 v5) fun S6 v8 =>
        bV (l2 + (v8 - 1)) fun v9 =>
        bV (l3 + 1) fun v11 =>
        l_X0_firstPartSize_4 n m S6 l0 v9 v11
def f_X0_firstPartSize (n : Nat) (S : St) (a1 : Int64) : Option (St × Int32) :=
  l_X0_firstPartSize_4 n n S a1 1 1
set_option maxRecDepth 100000 in
set_option maxHeartbeats 4000000 in
theorem t_X0_firstPartSize_4 {n : Nat} {x : XC} (hx : CX x cX0_firstPartSize 4 RX0) (hR : x_R x = rm_X0_firstPartSize) (hKS : ∀ k ∈ KK, k ∈ x_K x) {out : St × Int32} (hE : EI x cX0_firstPartSize out) : ∀ {m : Nat} {S : St} {l0 : Int64} {l2 : Int32} {l3 : Int32} (h : l_X0_firstPartSize_4 n m S l0 l2 l3 = some out), WX x 4 0 0 S 4 [(0, .long l0), (2, .int l2), (3, .int l3)] [] := by
  intro m
  induction m with
  | zero => intro S l0 l2 l3 h; cases h
  | succ m ih =>
    intro S l0 l2 l3 h
    unfold l_X0_firstPartSize_4 at h
    refine r_iload_n (k0 := 2) hx dX0_firstPartSize_4 rfl rfl ?_
    refine r_bipush (v := 16) hx dX0_firstPartSize_5 (by decide) ?_
    refine r_icmp_ge (tgt := 33) hx dX0_firstPartSize_7 (by decide) (fun c1 => ?_) (fun c1 => ?_)
    · have h := ite_t h c1
      refine r_iload_n (k0 := 2) hx dX0_firstPartSize_33 rfl rfl ?_
      refine r_iconst (v := 1) hx dX0_firstPartSize_34 (by decide) ?_
      refine r_isub hx dX0_firstPartSize_35 ?_
      exact r_iret hE h dX0_firstPartSize_36
    · have h := ite_f h c1
      refine r_iload_n (k0 := 1) hx dX0_firstPartSize_10 rfl rfl ?_
      refine r_if_le (tgt := 33) hx dX0_firstPartSize_11 (by decide) (fun c2 => ?_) (fun c2 => ?_)
      · have h := ite_t h c2
        refine r_iload_n (k0 := 2) hx dX0_firstPartSize_33 rfl rfl ?_
        refine r_iconst (v := 1) hx dX0_firstPartSize_34 (by decide) ?_
        refine r_isub hx dX0_firstPartSize_35 ?_
        exact r_iret hE h dX0_firstPartSize_36
      · have h := ite_f h c2
        refine r_iload_n (k0 := 1) hx dX0_firstPartSize_14 rfl rfl ?_
        refine r_lload_n (k0 := 0) hx dX0_firstPartSize_15 rfl rfl ?_
        refine r_iload_n (k0 := 2) hx dX0_firstPartSize_16 rfl rfl ?_
        obtain ⟨S3, v5, c4, h⟩ := bI_some h
        refine r_Si (As := [.long l0, .int l3]) (rest := [.int l2]) hx (C_X0_markAt (c := x_y x) hKS c4) wl_X0_19 wt_X0_markAt wn_X0 wc_X0_markAt dy_X0_markAt rfl (by rw [hR]; decide +kernel) rfl (Nat.le_of_ble_eq_true rfl) dX0_firstPartSize_17 ?_
        obtain ⟨S6, v8, c7, h⟩ := bI_some h
        refine r_Si (As := [.int v5]) (rest := [.int l2]) hx (C_X0_partsOf (c := x_y x) hKS c7) wl_X0_29 wt_X0_partsOf wn_X0 wc_X0_partsOf dy_X0_partsOf rfl (by rw [hR]; decide +kernel) rfl (Nat.le_of_ble_eq_true rfl) dX0_firstPartSize_20 ?_
        refine r_iconst (v := 1) hx dX0_firstPartSize_23 (by decide) ?_
        refine r_isub hx dX0_firstPartSize_24 ?_
        refine r_iadd hx dX0_firstPartSize_25 ?_
        obtain ⟨v9, e10, h⟩ := bV_some h
        rw [← e10]
        refine r_istore_n (lv' := [(2, .int v9), (0, .long l0), (3, .int l3)]) hx dX0_firstPartSize_26 rfl (by decide) rfl ?_
        obtain ⟨v11, e12, h⟩ := bV_some h
        refine r_iinc (k := 2) (v := v11) (lv' := [(3, .int v11), (2, .int v9), (0, .long l0)]) hx dX0_firstPartSize_27 rfl (by rw [e12]; rfl) (by decide) rfl ?_
        refine r_goto (tgt := 4) hx dX0_firstPartSize_30 (by decide) ?_
        refine WX.sub (lv' := [(0, .long l0), (2, .int v9), (3, .int v11)]) ?_ [2, 1, 0] rfl
        exact ih  h
set_option maxRecDepth 100000 in
set_option maxHeartbeats 4000000 in
theorem t_X0_firstPartSize_0 {n : Nat} {x : XC} (hx : CX x cX0_firstPartSize 4 RX0) (hR : x_R x = rm_X0_firstPartSize) (hKS : ∀ k ∈ KK, k ∈ x_K x) {out : St × Int32} (hE : EI x cX0_firstPartSize out) {S : St} {a1 : Int64} (h : f_X0_firstPartSize n S a1 = some out) : WX x 4 0 0 S 0 [(0, .long a1)] [] := by
  unfold f_X0_firstPartSize at h
  refine r_iconst (v := 1) hx dX0_firstPartSize_0 (by decide) ?_
  refine r_istore_n (lv' := [(2, .int 1), (0, .long a1)]) hx dX0_firstPartSize_1 rfl (by decide) rfl ?_
  refine r_iconst (v := 1) hx dX0_firstPartSize_2 (by decide) ?_
  refine r_istore_n (lv' := [(3, .int 1), (2, .int 1), (0, .long a1)]) hx dX0_firstPartSize_3 rfl (by decide) rfl ?_
  refine WX.sub (lv' := [(0, .long a1), (2, .int 1), (3, .int 1)]) ?_ [2, 1, 0] rfl
  exact t_X0_firstPartSize_4 hx hR hKS hE h
set_option maxHeartbeats 4000000 in
theorem C_X0_firstPartSize {n : Nat} {c : YC} (hKS : ∀ k ∈ KK, k ∈ c.2.2.2.2) {S : St} {a1 : Int64} {out : St × Int32} (h : f_X0_firstPartSize n S a1 = some out) : MI c yX0_firstPartSize cX0_firstPartSize 4 (some .int) rm_X0_firstPartSize S [.long a1] out := mk_I (own := RX0) (by decide +kernel) rfl (Nat.le_of_ble_eq_true rfl) (fun x hx hR hy hE => by subst hy; exact t_X0_firstPartSize_0 hx hR hKS hE h)
theorem dX0_cut_0 : decode cX0_cut 0 = .ok (.lload_n 0, 1) := by decide +kernel
theorem dX0_cut_1 : decode cX0_cut 1 = .ok (.iconst 3, 1) := by decide +kernel
theorem dX0_cut_2 : decode cX0_cut 2 = .ok (.iload_n 2, 1) := by decide +kernel
theorem dX0_cut_3 : decode cX0_cut 3 = .ok (.imul, 1) := by decide +kernel
theorem dX0_cut_4 : decode cX0_cut 4 = .ok (.lushr, 1) := by decide +kernel
theorem dX0_cut_5 : decode cX0_cut 5 = .ok (.lconst 1, 1) := by decide +kernel
theorem dX0_cut_6 : decode cX0_cut 6 = .ok (.iconst 3, 1) := by decide +kernel
theorem dX0_cut_7 : decode cX0_cut 7 = .ok (.iload_n 3, 1) := by decide +kernel
theorem dX0_cut_8 : decode cX0_cut 8 = .ok (.imul, 1) := by decide +kernel
theorem dX0_cut_9 : decode cX0_cut 9 = .ok (.lshl, 1) := by decide +kernel
theorem dX0_cut_10 : decode cX0_cut 10 = .ok (.lconst 1, 1) := by decide +kernel
theorem dX0_cut_11 : decode cX0_cut 11 = .ok (.lsub, 1) := by decide +kernel
theorem dX0_cut_12 : decode cX0_cut 12 = .ok (.land, 1) := by decide +kernel
theorem dX0_cut_13 : decode cX0_cut 13 = .ok (.lreturn, 1) := by decide +kernel
theorem dy_X0_cut : DY yX0_cut 3 := by decide +kernel
abbrev rm_X0_cut : Room := { frames := 0, cells := 0, slots := 0, locals := 0 }
def f_X0_cut (n : Nat) (S : St) (a1 : Int64) (a2 : Int32) (a3 : Int32) : Option (St × Int64) :=
  some (S, ((l_ushr a1 (3 * a2)) &&& ((l_shl 1 (3 * a3)) - 1)))
set_option maxRecDepth 100000 in
set_option maxHeartbeats 4000000 in
theorem t_X0_cut_0 {n : Nat} {x : XC} (hx : CX x cX0_cut 4 RX0) (hR : x_R x = rm_X0_cut) (hKS : ∀ k ∈ KK, k ∈ x_K x) {out : St × Int64} (hE : EL x cX0_cut out) {S : St} {a1 : Int64} {a2 : Int32} {a3 : Int32} (h : f_X0_cut n S a1 a2 a3 = some out) : WX x 4 0 0 S 0 [(0, .long a1), (2, .int a2), (3, .int a3)] [] := by
  unfold f_X0_cut at h
  refine r_lload_n (k0 := 0) hx dX0_cut_0 rfl rfl ?_
  refine r_iconst (v := 3) hx dX0_cut_1 (by decide) ?_
  refine r_iload_n (k0 := 1) hx dX0_cut_2 rfl rfl ?_
  refine r_imul hx dX0_cut_3 ?_
  refine r_lushr hx dX0_cut_4 ?_
  refine r_lconst (v := 1) hx dX0_cut_5 (by decide) ?_
  refine r_iconst (v := 3) hx dX0_cut_6 (by decide) ?_
  refine r_iload_n (k0 := 2) hx dX0_cut_7 rfl rfl ?_
  refine r_imul hx dX0_cut_8 ?_
  refine r_lshl hx dX0_cut_9 ?_
  refine r_lconst (v := 1) hx dX0_cut_10 (by decide) ?_
  refine r_lsub hx dX0_cut_11 ?_
  refine r_land hx dX0_cut_12 ?_
  exact r_lret hE h dX0_cut_13
set_option maxHeartbeats 4000000 in
theorem C_X0_cut {n : Nat} {c : YC} (hKS : ∀ k ∈ KK, k ∈ c.2.2.2.2) {S : St} {a1 : Int64} {a2 : Int32} {a3 : Int32} {out : St × Int64} (h : f_X0_cut n S a1 a2 a3 = some out) : ML c yX0_cut cX0_cut 4 (some .long) rm_X0_cut S [.long a1, .int a2, .int a3] out := mk_L (own := RX0) (by decide +kernel) rfl (Nat.le_of_ble_eq_true rfl) (fun x hx hR hy hE => by subst hy; exact t_X0_cut_0 hx hR hKS hE h)
theorem dX0_hasParameterFrom_0 : decode cX0_hasParameterFrom 0 = .ok (.iconst 0, 1) := by decide +kernel
theorem dX0_hasParameterFrom_1 : decode cX0_hasParameterFrom 1 = .ok (.istore_n 3, 1) := by decide +kernel
theorem dX0_hasParameterFrom_2 : decode cX0_hasParameterFrom 2 = .ok (.iload_n 3, 1) := by decide +kernel
theorem dX0_hasParameterFrom_3 : decode cX0_hasParameterFrom 3 = .ok (.bipush 16, 2) := by decide +kernel
theorem dX0_hasParameterFrom_5 : decode cX0_hasParameterFrom 5 = .ok (.if_icmp .ge 32, 3) := by decide +kernel
theorem dX0_hasParameterFrom_8 : decode cX0_hasParameterFrom 8 = .ok (.lload_n 0, 1) := by decide +kernel
theorem dX0_hasParameterFrom_9 : decode cX0_hasParameterFrom 9 = .ok (.iconst 3, 1) := by decide +kernel
theorem dX0_hasParameterFrom_10 : decode cX0_hasParameterFrom 10 = .ok (.iload_n 3, 1) := by decide +kernel
theorem dX0_hasParameterFrom_11 : decode cX0_hasParameterFrom 11 = .ok (.imul, 1) := by decide +kernel
theorem dX0_hasParameterFrom_12 : decode cX0_hasParameterFrom 12 = .ok (.lushr, 1) := by decide +kernel
theorem dX0_hasParameterFrom_13 : decode cX0_hasParameterFrom 13 = .ok (.lconst 0, 1) := by decide +kernel
theorem dX0_hasParameterFrom_14 : decode cX0_hasParameterFrom 14 = .ok (.lcmp, 1) := by decide +kernel
theorem dX0_hasParameterFrom_15 : decode cX0_hasParameterFrom 15 = .ok (.ifCond .eq 22, 3) := by decide +kernel
theorem dX0_hasParameterFrom_18 : decode cX0_hasParameterFrom 18 = .ok (.lload_n 0, 1) := by decide +kernel
theorem dX0_hasParameterFrom_19 : decode cX0_hasParameterFrom 19 = .ok (.iload_n 3, 1) := by decide +kernel
theorem dX0_hasParameterFrom_20 : decode cX0_hasParameterFrom 20 = .ok (.invokestatic 19, 3) := by decide +kernel
theorem dX0_hasParameterFrom_23 : decode cX0_hasParameterFrom 23 = .ok (.iconst 5, 1) := by decide +kernel
theorem dX0_hasParameterFrom_24 : decode cX0_hasParameterFrom 24 = .ok (.iload_n 2, 1) := by decide +kernel
theorem dX0_hasParameterFrom_25 : decode cX0_hasParameterFrom 25 = .ok (.iadd, 1) := by decide +kernel
theorem dX0_hasParameterFrom_26 : decode cX0_hasParameterFrom 26 = .ok (.if_icmp .lt 5, 3) := by decide +kernel
theorem dX0_hasParameterFrom_29 : decode cX0_hasParameterFrom 29 = .ok (.iconst 1, 1) := by decide +kernel
theorem dX0_hasParameterFrom_30 : decode cX0_hasParameterFrom 30 = .ok (.ireturn, 1) := by decide +kernel
theorem dX0_hasParameterFrom_31 : decode cX0_hasParameterFrom 31 = .ok (.iinc 3 1, 3) := by decide +kernel
theorem dX0_hasParameterFrom_34 : decode cX0_hasParameterFrom 34 = .ok (.goto (-32), 3) := by decide +kernel
theorem dX0_hasParameterFrom_37 : decode cX0_hasParameterFrom 37 = .ok (.iconst 0, 1) := by decide +kernel
theorem dX0_hasParameterFrom_38 : decode cX0_hasParameterFrom 38 = .ok (.ireturn, 1) := by decide +kernel
theorem dy_X0_hasParameterFrom : DY yX0_hasParameterFrom 2 := by decide +kernel
abbrev rm_X0_hasParameterFrom : Room := { frames := 1, cells := 0, slots := 0, locals := 22 }
def l_X0_hasParameterFrom_2 (n : Nat) : Nat → St → Int64 → Int32 → Int32 → Option (St × Int32)
  | 0, _, _, _, _ => none
  | m + 1, S, l0, l2, l3 =>
    if 16 ≤ l3 then
      some (S, 0)
    else
      if (lg_cmp (l_ushr l0 (3 * l3)) 0) = 0 then
        some (S, 0)
      else
        bI (f_X0_markAt n S l0 l3) fun S3 v5 =>
        if v5 < (5 + l2) then
          bV (l3 + 1) fun v7 =>
          l_X0_hasParameterFrom_2 n m S3 l0 l2 v7
        else
          some (S3, 1)
def g_X0_hasParameterFrom (n : Nat) (S : St) (a1 : Int64) (a2 : Int32) : Option (St × Int32) :=
  l_X0_hasParameterFrom_2 n n S a1 a2 0
set_option maxRecDepth 100000 in
set_option maxHeartbeats 4000000 in
theorem t_X0_hasParameterFrom_2 {n : Nat} {x : XC} (hx : CX x cX0_hasParameterFrom 4 RX0) (hR : x_R x = rm_X0_hasParameterFrom) (hKS : ∀ k ∈ KK, k ∈ x_K x) {out : St × Int32} (hE : EI x cX0_hasParameterFrom out) : ∀ {m : Nat} {S : St} {l0 : Int64} {l2 : Int32} {l3 : Int32} (h : l_X0_hasParameterFrom_2 n m S l0 l2 l3 = some out), WX x 4 0 0 S 2 [(0, .long l0), (2, .int l2), (3, .int l3)] [] := by
  intro m
  induction m with
  | zero => intro S l0 l2 l3 h; cases h
  | succ m ih =>
    intro S l0 l2 l3 h
    unfold l_X0_hasParameterFrom_2 at h
    refine r_iload_n (k0 := 2) hx dX0_hasParameterFrom_2 rfl rfl ?_
    refine r_bipush (v := 16) hx dX0_hasParameterFrom_3 (by decide) ?_
    refine r_icmp_ge (tgt := 37) hx dX0_hasParameterFrom_5 (by decide) (fun c1 => ?_) (fun c1 => ?_)
    · have h := ite_t h c1
      refine r_iconst (v := 0) hx dX0_hasParameterFrom_37 (by decide) ?_
      exact r_iret hE h dX0_hasParameterFrom_38
    · have h := ite_f h c1
      refine r_lload_n (k0 := 0) hx dX0_hasParameterFrom_8 rfl rfl ?_
      refine r_iconst (v := 3) hx dX0_hasParameterFrom_9 (by decide) ?_
      refine r_iload_n (k0 := 2) hx dX0_hasParameterFrom_10 rfl rfl ?_
      refine r_imul hx dX0_hasParameterFrom_11 ?_
      refine r_lushr hx dX0_hasParameterFrom_12 ?_
      refine r_lconst (v := 0) hx dX0_hasParameterFrom_13 (by decide) ?_
      refine r_lcmp hx dX0_hasParameterFrom_14 ?_
      refine r_if_eq (tgt := 37) hx dX0_hasParameterFrom_15 (by decide) (fun c2 => ?_) (fun c2 => ?_)
      · have h := ite_t h c2
        refine r_iconst (v := 0) hx dX0_hasParameterFrom_37 (by decide) ?_
        exact r_iret hE h dX0_hasParameterFrom_38
      · have h := ite_f h c2
        refine r_lload_n (k0 := 0) hx dX0_hasParameterFrom_18 rfl rfl ?_
        refine r_iload_n (k0 := 2) hx dX0_hasParameterFrom_19 rfl rfl ?_
        obtain ⟨S3, v5, c4, h⟩ := bI_some h
        refine r_Si (As := [.long l0, .int l3]) (rest := []) hx (C_X0_markAt (c := x_y x) hKS c4) wl_X0_19 wt_X0_markAt wn_X0 wc_X0_markAt dy_X0_markAt rfl (by rw [hR]; decide +kernel) rfl (Nat.le_of_ble_eq_true rfl) dX0_hasParameterFrom_20 ?_
        refine r_iconst (v := 5) hx dX0_hasParameterFrom_23 (by decide) ?_
        refine r_iload_n (k0 := 1) hx dX0_hasParameterFrom_24 rfl rfl ?_
        refine r_iadd hx dX0_hasParameterFrom_25 ?_
        refine r_icmp_lt (tgt := 31) hx dX0_hasParameterFrom_26 (by decide) (fun c6 => ?_) (fun c6 => ?_)
        · have h := ite_t h c6
          obtain ⟨v7, e8, h⟩ := bV_some h
          refine r_iinc (k := 2) (v := v7) (lv' := [(3, .int v7), (0, .long l0), (2, .int l2)]) hx dX0_hasParameterFrom_31 rfl (by rw [e8]; rfl) (by decide) rfl ?_
          refine r_goto (tgt := 2) hx dX0_hasParameterFrom_34 (by decide) ?_
          refine WX.sub (lv' := [(0, .long l0), (2, .int l2), (3, .int v7)]) ?_ [1, 2, 0] rfl
          exact ih  h
        · have h := ite_f h c6
          refine r_iconst (v := 1) hx dX0_hasParameterFrom_29 (by decide) ?_
          exact r_iret hE h dX0_hasParameterFrom_30
set_option maxRecDepth 100000 in
set_option maxHeartbeats 4000000 in
theorem t_X0_hasParameterFrom_0 {n : Nat} {x : XC} (hx : CX x cX0_hasParameterFrom 4 RX0) (hR : x_R x = rm_X0_hasParameterFrom) (hKS : ∀ k ∈ KK, k ∈ x_K x) {out : St × Int32} (hE : EI x cX0_hasParameterFrom out) {S : St} {a1 : Int64} {a2 : Int32} (h : g_X0_hasParameterFrom n S a1 a2 = some out) : WX x 4 0 0 S 0 [(0, .long a1), (2, .int a2)] [] := by
  unfold g_X0_hasParameterFrom at h
  refine r_iconst (v := 0) hx dX0_hasParameterFrom_0 (by decide) ?_
  refine r_istore_n (lv' := [(3, .int 0), (0, .long a1), (2, .int a2)]) hx dX0_hasParameterFrom_1 rfl (by decide) rfl ?_
  refine WX.sub (lv' := [(0, .long a1), (2, .int a2), (3, .int 0)]) ?_ [1, 2, 0] rfl
  exact t_X0_hasParameterFrom_2 hx hR hKS hE h
def f_X0_hasParameterFrom (n : Nat) (S : St) (a1 : Int64) (a2 : Int32) : Option (St × Int32) := zW (g_X0_hasParameterFrom n S a1 a2)
set_option maxHeartbeats 4000000 in
theorem C_X0_hasParameterFrom {n : Nat} {c : YC} (hKS : ∀ k ∈ KK, k ∈ c.2.2.2.2) {S : St} {a1 : Int64} {a2 : Int32} {out : St × Int32} (h : f_X0_hasParameterFrom n S a1 a2 = some out) : MI c yX0_hasParameterFrom cX0_hasParameterFrom 4 (some .boolean) rm_X0_hasParameterFrom S [.long a1, .int a2] out := mk_Z (own := RX0) (by decide +kernel) rfl (Nat.le_of_ble_eq_true rfl) (zW_some h).2 (fun x hx hR hy hE => by subst hy; exact t_X0_hasParameterFrom_0 hx hR hKS hE (zW_some h).1)
theorem dX0_withLevels_0 : decode cX0_withLevels 0 = .ok (.lconst 0, 1) := by decide +kernel
theorem dX0_withLevels_1 : decode cX0_withLevels 1 = .ok (.lstore 6, 2) := by decide +kernel
theorem dX0_withLevels_3 : decode cX0_withLevels 3 = .ok (.iconst 0, 1) := by decide +kernel
theorem dX0_withLevels_4 : decode cX0_withLevels 4 = .ok (.istore 8, 2) := by decide +kernel
theorem dX0_withLevels_6 : decode cX0_withLevels 6 = .ok (.iconst 0, 1) := by decide +kernel
theorem dX0_withLevels_7 : decode cX0_withLevels 7 = .ok (.istore 9, 2) := by decide +kernel
theorem dX0_withLevels_9 : decode cX0_withLevels 9 = .ok (.iload 9, 2) := by decide +kernel
theorem dX0_withLevels_11 : decode cX0_withLevels 11 = .ok (.bipush 16, 2) := by decide +kernel
theorem dX0_withLevels_13 : decode cX0_withLevels 13 = .ok (.if_icmp .ge 126, 3) := by decide +kernel
theorem dX0_withLevels_16 : decode cX0_withLevels 16 = .ok (.lload_n 0, 1) := by decide +kernel
theorem dX0_withLevels_17 : decode cX0_withLevels 17 = .ok (.iconst 3, 1) := by decide +kernel
theorem dX0_withLevels_18 : decode cX0_withLevels 18 = .ok (.iload 9, 2) := by decide +kernel
theorem dX0_withLevels_20 : decode cX0_withLevels 20 = .ok (.imul, 1) := by decide +kernel
theorem dX0_withLevels_21 : decode cX0_withLevels 21 = .ok (.lushr, 1) := by decide +kernel
theorem dX0_withLevels_22 : decode cX0_withLevels 22 = .ok (.lconst 0, 1) := by decide +kernel
theorem dX0_withLevels_23 : decode cX0_withLevels 23 = .ok (.lcmp, 1) := by decide +kernel
theorem dX0_withLevels_24 : decode cX0_withLevels 24 = .ok (.ifCond .eq 115, 3) := by decide +kernel
theorem dX0_withLevels_27 : decode cX0_withLevels 27 = .ok (.lload_n 0, 1) := by decide +kernel
theorem dX0_withLevels_28 : decode cX0_withLevels 28 = .ok (.iconst 3, 1) := by decide +kernel
theorem dX0_withLevels_29 : decode cX0_withLevels 29 = .ok (.iload 9, 2) := by decide +kernel
theorem dX0_withLevels_31 : decode cX0_withLevels 31 = .ok (.imul, 1) := by decide +kernel
theorem dX0_withLevels_32 : decode cX0_withLevels 32 = .ok (.lushr, 1) := by decide +kernel
theorem dX0_withLevels_33 : decode cX0_withLevels 33 = .ok (.ldc2_w 33, 3) := by decide +kernel
theorem dX0_withLevels_36 : decode cX0_withLevels 36 = .ok (.land, 1) := by decide +kernel
theorem dX0_withLevels_37 : decode cX0_withLevels 37 = .ok (.lstore 10, 2) := by decide +kernel
theorem dX0_withLevels_39 : decode cX0_withLevels 39 = .ok (.lload 10, 2) := by decide +kernel
theorem dX0_withLevels_41 : decode cX0_withLevels 41 = .ok (.ldc2_w 35, 3) := by decide +kernel
theorem dX0_withLevels_44 : decode cX0_withLevels 44 = .ok (.lcmp, 1) := by decide +kernel
theorem dX0_withLevels_45 : decode cX0_withLevels 45 = .ok (.ifCond .ne 7, 3) := by decide +kernel
theorem dX0_withLevels_48 : decode cX0_withLevels 48 = .ok (.lload_n 2, 1) := by decide +kernel
theorem dX0_withLevels_49 : decode cX0_withLevels 49 = .ok (.goto 19, 3) := by decide +kernel
theorem dX0_withLevels_52 : decode cX0_withLevels 52 = .ok (.lload 10, 2) := by decide +kernel
theorem dX0_withLevels_54 : decode cX0_withLevels 54 = .ok (.ldc2_w 37, 3) := by decide +kernel
theorem dX0_withLevels_57 : decode cX0_withLevels 57 = .ok (.lcmp, 1) := by decide +kernel
theorem dX0_withLevels_58 : decode cX0_withLevels 58 = .ok (.ifCond .ne 8, 3) := by decide +kernel
theorem dX0_withLevels_61 : decode cX0_withLevels 61 = .ok (.lload 4, 2) := by decide +kernel
theorem dX0_withLevels_63 : decode cX0_withLevels 63 = .ok (.goto 5, 3) := by decide +kernel
theorem dX0_withLevels_66 : decode cX0_withLevels 66 = .ok (.lload 10, 2) := by decide +kernel
theorem dX0_withLevels_68 : decode cX0_withLevels 68 = .ok (.lstore 12, 2) := by decide +kernel
theorem dX0_withLevels_70 : decode cX0_withLevels 70 = .ok (.iconst 0, 1) := by decide +kernel
theorem dX0_withLevels_71 : decode cX0_withLevels 71 = .ok (.istore 14, 2) := by decide +kernel
theorem dX0_withLevels_73 : decode cX0_withLevels 73 = .ok (.iload 14, 2) := by decide +kernel
theorem dX0_withLevels_75 : decode cX0_withLevels 75 = .ok (.bipush 16, 2) := by decide +kernel
theorem dX0_withLevels_77 : decode cX0_withLevels 77 = .ok (.if_icmp .ge 56, 3) := by decide +kernel
theorem dX0_withLevels_80 : decode cX0_withLevels 80 = .ok (.lload 12, 2) := by decide +kernel
theorem dX0_withLevels_82 : decode cX0_withLevels 82 = .ok (.iconst 3, 1) := by decide +kernel
theorem dX0_withLevels_83 : decode cX0_withLevels 83 = .ok (.iload 14, 2) := by decide +kernel
theorem dX0_withLevels_85 : decode cX0_withLevels 85 = .ok (.imul, 1) := by decide +kernel
theorem dX0_withLevels_86 : decode cX0_withLevels 86 = .ok (.lushr, 1) := by decide +kernel
theorem dX0_withLevels_87 : decode cX0_withLevels 87 = .ok (.lconst 0, 1) := by decide +kernel
theorem dX0_withLevels_88 : decode cX0_withLevels 88 = .ok (.lcmp, 1) := by decide +kernel
theorem dX0_withLevels_89 : decode cX0_withLevels 89 = .ok (.ifCond .eq 44, 3) := by decide +kernel
theorem dX0_withLevels_92 : decode cX0_withLevels 92 = .ok (.iload 8, 2) := by decide +kernel
theorem dX0_withLevels_94 : decode cX0_withLevels 94 = .ok (.bipush 16, 2) := by decide +kernel
theorem dX0_withLevels_96 : decode cX0_withLevels 96 = .ok (.if_icmp .lt 7, 3) := by decide +kernel
theorem dX0_withLevels_99 : decode cX0_withLevels 99 = .ok (.ldc2_w 17, 3) := by decide +kernel
theorem dX0_withLevels_102 : decode cX0_withLevels 102 = .ok (.lreturn, 1) := by decide +kernel
theorem dX0_withLevels_103 : decode cX0_withLevels 103 = .ok (.lload 6, 2) := by decide +kernel
theorem dX0_withLevels_105 : decode cX0_withLevels 105 = .ok (.lload 12, 2) := by decide +kernel
theorem dX0_withLevels_107 : decode cX0_withLevels 107 = .ok (.iconst 3, 1) := by decide +kernel
theorem dX0_withLevels_108 : decode cX0_withLevels 108 = .ok (.iload 14, 2) := by decide +kernel
theorem dX0_withLevels_110 : decode cX0_withLevels 110 = .ok (.imul, 1) := by decide +kernel
theorem dX0_withLevels_111 : decode cX0_withLevels 111 = .ok (.lushr, 1) := by decide +kernel
theorem dX0_withLevels_112 : decode cX0_withLevels 112 = .ok (.ldc2_w 33, 3) := by decide +kernel
theorem dX0_withLevels_115 : decode cX0_withLevels 115 = .ok (.land, 1) := by decide +kernel
theorem dX0_withLevels_116 : decode cX0_withLevels 116 = .ok (.iconst 3, 1) := by decide +kernel
theorem dX0_withLevels_117 : decode cX0_withLevels 117 = .ok (.iload 8, 2) := by decide +kernel
theorem dX0_withLevels_119 : decode cX0_withLevels 119 = .ok (.imul, 1) := by decide +kernel
theorem dX0_withLevels_120 : decode cX0_withLevels 120 = .ok (.lshl, 1) := by decide +kernel
theorem dX0_withLevels_121 : decode cX0_withLevels 121 = .ok (.lor, 1) := by decide +kernel
theorem dX0_withLevels_122 : decode cX0_withLevels 122 = .ok (.lstore 6, 2) := by decide +kernel
theorem dX0_withLevels_124 : decode cX0_withLevels 124 = .ok (.iinc 8 1, 3) := by decide +kernel
theorem dX0_withLevels_127 : decode cX0_withLevels 127 = .ok (.iinc 14 1, 3) := by decide +kernel
theorem dX0_withLevels_130 : decode cX0_withLevels 130 = .ok (.goto (-57), 3) := by decide +kernel
theorem dX0_withLevels_133 : decode cX0_withLevels 133 = .ok (.iinc 9 1, 3) := by decide +kernel
theorem dX0_withLevels_136 : decode cX0_withLevels 136 = .ok (.goto (-127), 3) := by decide +kernel
theorem dX0_withLevels_139 : decode cX0_withLevels 139 = .ok (.lload 6, 2) := by decide +kernel
theorem dX0_withLevels_141 : decode cX0_withLevels 141 = .ok (.lreturn, 1) := by decide +kernel
theorem dy_X0_withLevels : DY yX0_withLevels 3 := by decide +kernel
abbrev rm_X0_withLevels : Room := { frames := 0, cells := 0, slots := 0, locals := 0 }
def j_X0_withLevels_133 (n : Nat) (K9 : St → Int64 → Int64 → Int64 → Int64 → Int32 → Int32 → Option (St × Int64)) (S : St) (l0 : Int64) (l2 : Int64) (l4 : Int64) (l6 : Int64) (l8 : Int32) (l9 : Int32) : Option (St × Int64) :=
  bV (l9 + 1) fun v1 =>
  K9 S l0 l2 l4 l6 l8 v1
def l_X0_withLevels_73 (n : Nat) (K9 : St → Int64 → Int64 → Int64 → Int64 → Int32 → Int32 → Option (St × Int64)) : Nat → St → Int64 → Int64 → Int64 → Int64 → Int32 → Int32 → Int64 → Int32 → Option (St × Int64)
  | 0, _, _, _, _, _, _, _, _, _ => none
  | m + 1, S, l0, l2, l4, l6, l8, l9, l12, l14 =>
    if 16 ≤ l14 then
      j_X0_withLevels_133 n K9 S l0 l2 l4 l6 l8 l9
    else
      if (lg_cmp (l_ushr l12 (3 * l14)) 0) = 0 then
        j_X0_withLevels_133 n K9 S l0 l2 l4 l6 l8 l9
      else
        if l8 < 16 then
          bV (l6 ||| (l_shl ((l_ushr l12 (3 * l14)) &&& 7) (3 * l8))) fun v4 =>
          bV (l8 + 1) fun v6 =>
          bV (l14 + 1) fun v8 =>
          l_X0_withLevels_73 n K9 m S l0 l2 l4 v4 v6 l9 l12 v8
        else
          some (S, (-1))
def j_X0_withLevels_68 (n : Nat) (K9 : St → Int64 → Int64 → Int64 → Int64 → Int32 → Int32 → Option (St × Int64)) (S : St) (l0 : Int64) (l2 : Int64) (l4 : Int64) (l6 : Int64) (l8 : Int32) (l9 : Int32) (s0 : Int64) : Option (St × Int64) :=
  l_X0_withLevels_73 n K9 n S l0 l2 l4 l6 l8 l9 s0 0
def l_X0_withLevels_9 (n : Nat) : Nat → St → Int64 → Int64 → Int64 → Int64 → Int32 → Int32 → Option (St × Int64)
  | 0, _, _, _, _, _, _, _ => none
  | m + 1, S, l0, l2, l4, l6, l8, l9 =>
    if 16 ≤ l9 then
      some (S, l6)
    else
      if (lg_cmp (l_ushr l0 (3 * l9)) 0) = 0 then
        some (S, l6)
      else
        bV ((l_ushr l0 (3 * l9)) &&& 7) fun v3 =>
        if (lg_cmp v3 5) = 0 then
          j_X0_withLevels_68 n (fun S l0 l2 l4 l6 l8 l9 => l_X0_withLevels_9 n m S l0 l2 l4 l6 l8 l9) S l0 l2 l4 l6 l8 l9 l2
        else
          if (lg_cmp v3 6) = 0 then
            j_X0_withLevels_68 n (fun S l0 l2 l4 l6 l8 l9 => l_X0_withLevels_9 n m S l0 l2 l4 l6 l8 l9) S l0 l2 l4 l6 l8 l9 l4
          else
            j_X0_withLevels_68 n (fun S l0 l2 l4 l6 l8 l9 => l_X0_withLevels_9 n m S l0 l2 l4 l6 l8 l9) S l0 l2 l4 l6 l8 l9 v3
def f_X0_withLevels (n : Nat) (S : St) (a1 : Int64) (a2 : Int64) (a3 : Int64) : Option (St × Int64) :=
  l_X0_withLevels_9 n n S a1 a2 a3 0 0 0
set_option maxRecDepth 100000 in
set_option maxHeartbeats 4000000 in
theorem t_X0_withLevels_133 {n : Nat} {K9 : St → Int64 → Int64 → Int64 → Int64 → Int32 → Int32 → Option (St × Int64)} {x : XC} (hx : CX x cX0_withLevels 15 RX0) (hR : x_R x = rm_X0_withLevels) (hKS : ∀ k ∈ KK, k ∈ x_K x) {out : St × Int64} (hE : EL x cX0_withLevels out) (hK9 : ∀ {S : St} {l0 : Int64} {l2 : Int64} {l4 : Int64} {l6 : Int64} {l8 : Int32} {l9 : Int32}, K9 S l0 l2 l4 l6 l8 l9 = some out → WX x 15 0 0 S 9 [(0, .long l0), (2, .long l2), (4, .long l4), (6, .long l6), (8, .int l8), (9, .int l9)] []) {S : St} {l0 : Int64} {l2 : Int64} {l4 : Int64} {l6 : Int64} {l8 : Int32} {l9 : Int32} (h : j_X0_withLevels_133 n K9 S l0 l2 l4 l6 l8 l9 = some out) : WX x 15 0 0 S 133 [(0, .long l0), (2, .long l2), (4, .long l4), (6, .long l6), (8, .int l8), (9, .int l9)] [] := by
  unfold j_X0_withLevels_133 at h
  obtain ⟨v1, e2, h⟩ := bV_some h
  refine r_iinc (k := 5) (v := v1) (lv' := [(9, .int v1), (0, .long l0), (2, .long l2), (4, .long l4), (6, .long l6), (8, .int l8)]) hx dX0_withLevels_133 rfl (by rw [e2]; rfl) (by decide) rfl ?_
  refine r_goto (tgt := 9) hx dX0_withLevels_136 (by decide) ?_
  refine WX.sub (lv' := [(0, .long l0), (2, .long l2), (4, .long l4), (6, .long l6), (8, .int l8), (9, .int v1)]) ?_ [1, 2, 3, 4, 5, 0] rfl
  exact hK9  h
set_option maxRecDepth 100000 in
set_option maxHeartbeats 4000000 in
theorem t_X0_withLevels_73 {n : Nat} {K9 : St → Int64 → Int64 → Int64 → Int64 → Int32 → Int32 → Option (St × Int64)} {x : XC} (hx : CX x cX0_withLevels 15 RX0) (hR : x_R x = rm_X0_withLevels) (hKS : ∀ k ∈ KK, k ∈ x_K x) {out : St × Int64} (hE : EL x cX0_withLevels out) (hK9 : ∀ {S : St} {l0 : Int64} {l2 : Int64} {l4 : Int64} {l6 : Int64} {l8 : Int32} {l9 : Int32}, K9 S l0 l2 l4 l6 l8 l9 = some out → WX x 15 0 0 S 9 [(0, .long l0), (2, .long l2), (4, .long l4), (6, .long l6), (8, .int l8), (9, .int l9)] []) : ∀ {m : Nat} {S : St} {l0 : Int64} {l2 : Int64} {l4 : Int64} {l6 : Int64} {l8 : Int32} {l9 : Int32} {l12 : Int64} {l14 : Int32} (h : l_X0_withLevels_73 n K9 m S l0 l2 l4 l6 l8 l9 l12 l14 = some out), WX x 15 0 0 S 73 [(0, .long l0), (2, .long l2), (4, .long l4), (6, .long l6), (8, .int l8), (9, .int l9), (12, .long l12), (14, .int l14)] [] := by
  intro m
  induction m with
  | zero => intro S l0 l2 l4 l6 l8 l9 l12 l14 h; cases h
  | succ m ih =>
    intro S l0 l2 l4 l6 l8 l9 l12 l14 h
    unfold l_X0_withLevels_73 at h
    refine r_iload (k0 := 7) hx dX0_withLevels_73 rfl ?_
    refine r_bipush (v := 16) hx dX0_withLevels_75 (by decide) ?_
    refine r_icmp_ge (tgt := 133) hx dX0_withLevels_77 (by decide) (fun c1 => ?_) (fun c1 => ?_)
    · have h := ite_t h c1
      refine WX.sub (lv' := [(0, .long l0), (2, .long l2), (4, .long l4), (6, .long l6), (8, .int l8), (9, .int l9)]) ?_ [0, 1, 2, 3, 4, 5] rfl
      exact t_X0_withLevels_133 hx hR hKS hE hK9 h
    · have h := ite_f h c1
      refine r_lload (k0 := 6) hx dX0_withLevels_80 rfl ?_
      refine r_iconst (v := 3) hx dX0_withLevels_82 (by decide) ?_
      refine r_iload (k0 := 7) hx dX0_withLevels_83 rfl ?_
      refine r_imul hx dX0_withLevels_85 ?_
      refine r_lushr hx dX0_withLevels_86 ?_
      refine r_lconst (v := 0) hx dX0_withLevels_87 (by decide) ?_
      refine r_lcmp hx dX0_withLevels_88 ?_
      refine r_if_eq (tgt := 133) hx dX0_withLevels_89 (by decide) (fun c2 => ?_) (fun c2 => ?_)
      · have h := ite_t h c2
        refine WX.sub (lv' := [(0, .long l0), (2, .long l2), (4, .long l4), (6, .long l6), (8, .int l8), (9, .int l9)]) ?_ [0, 1, 2, 3, 4, 5] rfl
        exact t_X0_withLevels_133 hx hR hKS hE hK9 h
      · have h := ite_f h c2
        refine r_iload (k0 := 4) hx dX0_withLevels_92 rfl ?_
        refine r_bipush (v := 16) hx dX0_withLevels_94 (by decide) ?_
        refine r_icmp_lt (tgt := 103) hx dX0_withLevels_96 (by decide) (fun c3 => ?_) (fun c3 => ?_)
        · have h := ite_t h c3
          refine r_lload (k0 := 3) hx dX0_withLevels_103 rfl ?_
          refine r_lload (k0 := 6) hx dX0_withLevels_105 rfl ?_
          refine r_iconst (v := 3) hx dX0_withLevels_107 (by decide) ?_
          refine r_iload (k0 := 7) hx dX0_withLevels_108 rfl ?_
          refine r_imul hx dX0_withLevels_110 ?_
          refine r_lushr hx dX0_withLevels_111 ?_
          refine r_ldc2 (v := 7) hx dX0_withLevels_112 wk_X0_33 ?_
          refine r_land hx dX0_withLevels_115 ?_
          refine r_iconst (v := 3) hx dX0_withLevels_116 (by decide) ?_
          refine r_iload (k0 := 4) hx dX0_withLevels_117 rfl ?_
          refine r_imul hx dX0_withLevels_119 ?_
          refine r_lshl hx dX0_withLevels_120 ?_
          refine r_lor hx dX0_withLevels_121 ?_
          obtain ⟨v4, e5, h⟩ := bV_some h
          rw [← e5]
          refine r_lstore (lv' := [(6, .long v4), (0, .long l0), (2, .long l2), (4, .long l4), (8, .int l8), (9, .int l9), (12, .long l12), (14, .int l14)]) hx dX0_withLevels_122 (by decide) rfl ?_
          obtain ⟨v6, e7, h⟩ := bV_some h
          refine r_iinc (k := 4) (v := v6) (lv' := [(8, .int v6), (6, .long v4), (0, .long l0), (2, .long l2), (4, .long l4), (9, .int l9), (12, .long l12), (14, .int l14)]) hx dX0_withLevels_124 rfl (by rw [e7]; rfl) (by decide) rfl ?_
          obtain ⟨v8, e9, h⟩ := bV_some h
          refine r_iinc (k := 7) (v := v8) (lv' := [(14, .int v8), (8, .int v6), (6, .long v4), (0, .long l0), (2, .long l2), (4, .long l4), (9, .int l9), (12, .long l12)]) hx dX0_withLevels_127 rfl (by rw [e9]; rfl) (by decide) rfl ?_
          refine r_goto (tgt := 73) hx dX0_withLevels_130 (by decide) ?_
          refine WX.sub (lv' := [(0, .long l0), (2, .long l2), (4, .long l4), (6, .long v4), (8, .int v6), (9, .int l9), (12, .long l12), (14, .int v8)]) ?_ [3, 4, 5, 2, 1, 6, 7, 0] rfl
          exact ih  h
        · have h := ite_f h c3
          refine r_ldc2 (v := -1) hx dX0_withLevels_99 wk_X0_17 ?_
          exact r_lret hE h dX0_withLevels_102
set_option maxRecDepth 100000 in
set_option maxHeartbeats 4000000 in
theorem t_X0_withLevels_68 {n : Nat} {K9 : St → Int64 → Int64 → Int64 → Int64 → Int32 → Int32 → Option (St × Int64)} {x : XC} (hx : CX x cX0_withLevels 15 RX0) (hR : x_R x = rm_X0_withLevels) (hKS : ∀ k ∈ KK, k ∈ x_K x) {out : St × Int64} (hE : EL x cX0_withLevels out) (hK9 : ∀ {S : St} {l0 : Int64} {l2 : Int64} {l4 : Int64} {l6 : Int64} {l8 : Int32} {l9 : Int32}, K9 S l0 l2 l4 l6 l8 l9 = some out → WX x 15 0 0 S 9 [(0, .long l0), (2, .long l2), (4, .long l4), (6, .long l6), (8, .int l8), (9, .int l9)] []) {S : St} {l0 : Int64} {l2 : Int64} {l4 : Int64} {l6 : Int64} {l8 : Int32} {l9 : Int32} {s0 : Int64} (h : j_X0_withLevels_68 n K9 S l0 l2 l4 l6 l8 l9 s0 = some out) : WX x 15 0 0 S 68 [(0, .long l0), (2, .long l2), (4, .long l4), (6, .long l6), (8, .int l8), (9, .int l9)] [.long s0] := by
  unfold j_X0_withLevels_68 at h
  refine r_lstore (lv' := [(12, .long s0), (0, .long l0), (2, .long l2), (4, .long l4), (6, .long l6), (8, .int l8), (9, .int l9)]) hx dX0_withLevels_68 (by decide) rfl ?_
  refine r_iconst (v := 0) hx dX0_withLevels_70 (by decide) ?_
  refine r_istore (lv' := [(14, .int 0), (12, .long s0), (0, .long l0), (2, .long l2), (4, .long l4), (6, .long l6), (8, .int l8), (9, .int l9)]) hx dX0_withLevels_71 (by decide) rfl ?_
  refine WX.sub (lv' := [(0, .long l0), (2, .long l2), (4, .long l4), (6, .long l6), (8, .int l8), (9, .int l9), (12, .long s0), (14, .int 0)]) ?_ [2, 3, 4, 5, 6, 7, 1, 0] rfl
  exact t_X0_withLevels_73 hx hR hKS hE hK9 h
set_option maxRecDepth 100000 in
set_option maxHeartbeats 4000000 in
theorem t_X0_withLevels_9 {n : Nat} {x : XC} (hx : CX x cX0_withLevels 15 RX0) (hR : x_R x = rm_X0_withLevels) (hKS : ∀ k ∈ KK, k ∈ x_K x) {out : St × Int64} (hE : EL x cX0_withLevels out) : ∀ {m : Nat} {S : St} {l0 : Int64} {l2 : Int64} {l4 : Int64} {l6 : Int64} {l8 : Int32} {l9 : Int32} (h : l_X0_withLevels_9 n m S l0 l2 l4 l6 l8 l9 = some out), WX x 15 0 0 S 9 [(0, .long l0), (2, .long l2), (4, .long l4), (6, .long l6), (8, .int l8), (9, .int l9)] [] := by
  intro m
  induction m with
  | zero => intro S l0 l2 l4 l6 l8 l9 h; cases h
  | succ m ih =>
    intro S l0 l2 l4 l6 l8 l9 h
    unfold l_X0_withLevels_9 at h
    refine r_iload (k0 := 5) hx dX0_withLevels_9 rfl ?_
    refine r_bipush (v := 16) hx dX0_withLevels_11 (by decide) ?_
    refine r_icmp_ge (tgt := 139) hx dX0_withLevels_13 (by decide) (fun c1 => ?_) (fun c1 => ?_)
    · have h := ite_t h c1
      refine r_lload (k0 := 3) hx dX0_withLevels_139 rfl ?_
      exact r_lret hE h dX0_withLevels_141
    · have h := ite_f h c1
      refine r_lload_n (k0 := 0) hx dX0_withLevels_16 rfl rfl ?_
      refine r_iconst (v := 3) hx dX0_withLevels_17 (by decide) ?_
      refine r_iload (k0 := 5) hx dX0_withLevels_18 rfl ?_
      refine r_imul hx dX0_withLevels_20 ?_
      refine r_lushr hx dX0_withLevels_21 ?_
      refine r_lconst (v := 0) hx dX0_withLevels_22 (by decide) ?_
      refine r_lcmp hx dX0_withLevels_23 ?_
      refine r_if_eq (tgt := 139) hx dX0_withLevels_24 (by decide) (fun c2 => ?_) (fun c2 => ?_)
      · have h := ite_t h c2
        refine r_lload (k0 := 3) hx dX0_withLevels_139 rfl ?_
        exact r_lret hE h dX0_withLevels_141
      · have h := ite_f h c2
        refine r_lload_n (k0 := 0) hx dX0_withLevels_27 rfl rfl ?_
        refine r_iconst (v := 3) hx dX0_withLevels_28 (by decide) ?_
        refine r_iload (k0 := 5) hx dX0_withLevels_29 rfl ?_
        refine r_imul hx dX0_withLevels_31 ?_
        refine r_lushr hx dX0_withLevels_32 ?_
        refine r_ldc2 (v := 7) hx dX0_withLevels_33 wk_X0_33 ?_
        refine r_land hx dX0_withLevels_36 ?_
        obtain ⟨v3, e4, h⟩ := bV_some h
        rw [← e4]
        refine r_lstore (lv' := [(10, .long v3), (0, .long l0), (2, .long l2), (4, .long l4), (6, .long l6), (8, .int l8), (9, .int l9)]) hx dX0_withLevels_37 (by decide) rfl ?_
        refine r_lload (k0 := 0) hx dX0_withLevels_39 rfl ?_
        refine r_ldc2 (v := 5) hx dX0_withLevels_41 wk_X0_35 ?_
        refine r_lcmp hx dX0_withLevels_44 ?_
        refine r_if_ne (tgt := 52) hx dX0_withLevels_45 (by decide) (fun c5 => ?_) (fun c5 => ?_)
        · have h := ite_f h c5
          refine r_lload (k0 := 0) hx dX0_withLevels_52 rfl ?_
          refine r_ldc2 (v := 6) hx dX0_withLevels_54 wk_X0_37 ?_
          refine r_lcmp hx dX0_withLevels_57 ?_
          refine r_if_ne (tgt := 66) hx dX0_withLevels_58 (by decide) (fun c6 => ?_) (fun c6 => ?_)
          · have h := ite_f h c6
            refine r_lload (k0 := 0) hx dX0_withLevels_66 rfl ?_
            refine WX.sub (lv' := [(0, .long l0), (2, .long l2), (4, .long l4), (6, .long l6), (8, .int l8), (9, .int l9)]) ?_ [1, 2, 3, 4, 5, 6] rfl
            exact t_X0_withLevels_68 hx hR hKS hE ih h
          · have h := ite_t h c6
            refine r_lload (k0 := 3) hx dX0_withLevels_61 rfl ?_
            refine r_goto (tgt := 68) hx dX0_withLevels_63 (by decide) ?_
            refine WX.sub (lv' := [(0, .long l0), (2, .long l2), (4, .long l4), (6, .long l6), (8, .int l8), (9, .int l9)]) ?_ [1, 2, 3, 4, 5, 6] rfl
            exact t_X0_withLevels_68 hx hR hKS hE ih h
        · have h := ite_t h c5
          refine r_lload_n (k0 := 2) hx dX0_withLevels_48 rfl rfl ?_
          refine r_goto (tgt := 68) hx dX0_withLevels_49 (by decide) ?_
          refine WX.sub (lv' := [(0, .long l0), (2, .long l2), (4, .long l4), (6, .long l6), (8, .int l8), (9, .int l9)]) ?_ [1, 2, 3, 4, 5, 6] rfl
          exact t_X0_withLevels_68 hx hR hKS hE ih h
set_option maxRecDepth 100000 in
set_option maxHeartbeats 4000000 in
theorem t_X0_withLevels_0 {n : Nat} {x : XC} (hx : CX x cX0_withLevels 15 RX0) (hR : x_R x = rm_X0_withLevels) (hKS : ∀ k ∈ KK, k ∈ x_K x) {out : St × Int64} (hE : EL x cX0_withLevels out) {S : St} {a1 : Int64} {a2 : Int64} {a3 : Int64} (h : f_X0_withLevels n S a1 a2 a3 = some out) : WX x 15 0 0 S 0 [(0, .long a1), (2, .long a2), (4, .long a3)] [] := by
  unfold f_X0_withLevels at h
  refine r_lconst (v := 0) hx dX0_withLevels_0 (by decide) ?_
  refine r_lstore (lv' := [(6, .long 0), (0, .long a1), (2, .long a2), (4, .long a3)]) hx dX0_withLevels_1 (by decide) rfl ?_
  refine r_iconst (v := 0) hx dX0_withLevels_3 (by decide) ?_
  refine r_istore (lv' := [(8, .int 0), (6, .long 0), (0, .long a1), (2, .long a2), (4, .long a3)]) hx dX0_withLevels_4 (by decide) rfl ?_
  refine r_iconst (v := 0) hx dX0_withLevels_6 (by decide) ?_
  refine r_istore (lv' := [(9, .int 0), (8, .int 0), (6, .long 0), (0, .long a1), (2, .long a2), (4, .long a3)]) hx dX0_withLevels_7 (by decide) rfl ?_
  refine WX.sub (lv' := [(0, .long a1), (2, .long a2), (4, .long a3), (6, .long 0), (8, .int 0), (9, .int 0)]) ?_ [3, 4, 5, 2, 1, 0] rfl
  exact t_X0_withLevels_9 hx hR hKS hE h
set_option maxHeartbeats 4000000 in
theorem C_X0_withLevels {n : Nat} {c : YC} (hKS : ∀ k ∈ KK, k ∈ c.2.2.2.2) {S : St} {a1 : Int64} {a2 : Int64} {a3 : Int64} {out : St × Int64} (h : f_X0_withLevels n S a1 a2 a3 = some out) : ML c yX0_withLevels cX0_withLevels 15 (some .long) rm_X0_withLevels S [.long a1, .long a2, .long a3] out := mk_L (own := RX0) (by decide +kernel) rfl (Nat.le_of_ble_eq_true rfl) (fun x hx hR hy hE => by subst hy; exact t_X0_withLevels_0 hx hR hKS hE h)
