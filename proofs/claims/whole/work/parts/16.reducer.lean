theorem dX3_nextStep_0 : decode cX3_nextStep 0 = .ok (.iconst 0, 1) := by decide +kernel
theorem dX3_nextStep_1 : decode cX3_nextStep 1 = .ok (.istore_n 2, 1) := by decide +kernel
theorem dX3_nextStep_2 : decode cX3_nextStep 2 = .ok (.iload_n 2, 1) := by decide +kernel
theorem dX3_nextStep_3 : decode cX3_nextStep 3 = .ok (.aload_n 1, 1) := by decide +kernel
theorem dX3_nextStep_4 : decode cX3_nextStep 4 = .ok (.getfield 36, 3) := by decide +kernel
theorem dX3_nextStep_7 : decode cX3_nextStep 7 = .ok (.if_icmp .ge 62, 3) := by decide +kernel
theorem dX3_nextStep_10 : decode cX3_nextStep 10 = .ok (.aload_n 1, 1) := by decide +kernel
theorem dX3_nextStep_11 : decode cX3_nextStep 11 = .ok (.getfield 48, 3) := by decide +kernel
theorem dX3_nextStep_14 : decode cX3_nextStep 14 = .ok (.iload_n 2, 1) := by decide +kernel
theorem dX3_nextStep_15 : decode cX3_nextStep 15 = .ok (.iaload, 1) := by decide +kernel
theorem dX3_nextStep_16 : decode cX3_nextStep 16 = .ok (.istore_n 3, 1) := by decide +kernel
theorem dX3_nextStep_17 : decode cX3_nextStep 17 = .ok (.iload_n 3, 1) := by decide +kernel
theorem dX3_nextStep_18 : decode cX3_nextStep 18 = .ok (.bipush 6, 2) := by decide +kernel
theorem dX3_nextStep_20 : decode cX3_nextStep 20 = .ok (.if_icmp .eq 41, 3) := by decide +kernel
theorem dX3_nextStep_23 : decode cX3_nextStep 23 = .ok (.iload_n 3, 1) := by decide +kernel
theorem dX3_nextStep_24 : decode cX3_nextStep 24 = .ok (.iconst 5, 1) := by decide +kernel
theorem dX3_nextStep_25 : decode cX3_nextStep 25 = .ok (.if_icmp .ne 14, 3) := by decide +kernel
theorem dX3_nextStep_28 : decode cX3_nextStep 28 = .ok (.aload_n 1, 1) := by decide +kernel
theorem dX3_nextStep_29 : decode cX3_nextStep 29 = .ok (.iload_n 2, 1) := by decide +kernel
theorem dX3_nextStep_30 : decode cX3_nextStep 30 = .ok (.iconst 1, 1) := by decide +kernel
theorem dX3_nextStep_31 : decode cX3_nextStep 31 = .ok (.iadd, 1) := by decide +kernel
theorem dX3_nextStep_32 : decode cX3_nextStep 32 = .ok (.invokevirtual 52, 3) := by decide +kernel
theorem dX3_nextStep_35 : decode cX3_nextStep 35 = .ok (.iconst 4, 1) := by decide +kernel
theorem dX3_nextStep_36 : decode cX3_nextStep 36 = .ok (.if_icmp .eq 25, 3) := by decide +kernel
theorem dX3_nextStep_39 : decode cX3_nextStep 39 = .ok (.iload_n 3, 1) := by decide +kernel
theorem dX3_nextStep_40 : decode cX3_nextStep 40 = .ok (.iconst 2, 1) := by decide +kernel
theorem dX3_nextStep_41 : decode cX3_nextStep 41 = .ok (.if_icmp .ne 22, 3) := by decide +kernel
theorem dX3_nextStep_44 : decode cX3_nextStep 44 = .ok (.aload_n 0, 1) := by decide +kernel
theorem dX3_nextStep_45 : decode cX3_nextStep 45 = .ok (.getfield 15, 3) := by decide +kernel
theorem dX3_nextStep_48 : decode cX3_nextStep 48 = .ok (.aload_n 1, 1) := by decide +kernel
theorem dX3_nextStep_49 : decode cX3_nextStep 49 = .ok (.getfield 56, 3) := by decide +kernel
theorem dX3_nextStep_52 : decode cX3_nextStep 52 = .ok (.iload_n 2, 1) := by decide +kernel
theorem dX3_nextStep_53 : decode cX3_nextStep 53 = .ok (.iaload, 1) := by decide +kernel
theorem dX3_nextStep_54 : decode cX3_nextStep 54 = .ok (.invokevirtual 59, 3) := by decide +kernel
theorem dX3_nextStep_57 : decode cX3_nextStep 57 = .ok (.iconst (-1), 1) := by decide +kernel
theorem dX3_nextStep_58 : decode cX3_nextStep 58 = .ok (.if_icmp .eq 5, 3) := by decide +kernel
theorem dX3_nextStep_61 : decode cX3_nextStep 61 = .ok (.iload_n 2, 1) := by decide +kernel
theorem dX3_nextStep_62 : decode cX3_nextStep 62 = .ok (.ireturn, 1) := by decide +kernel
theorem dX3_nextStep_63 : decode cX3_nextStep 63 = .ok (.iinc 2 1, 3) := by decide +kernel
theorem dX3_nextStep_66 : decode cX3_nextStep 66 = .ok (.goto (-64), 3) := by decide +kernel
theorem dX3_nextStep_69 : decode cX3_nextStep 69 = .ok (.iconst (-1), 1) := by decide +kernel
theorem dX3_nextStep_70 : decode cX3_nextStep 70 = .ok (.ireturn, 1) := by decide +kernel
theorem dy_X3_nextStep : DY yX3_nextStep 1 := by decide +kernel
abbrev rm_X3_nextStep : Room := { frames := 1, cells := 0, slots := 0, locals := 21 }
def j_X3_nextStep_63 (n : Nat) (K2 : St → Nat → Int32 → Option (St × Int32)) (S : St) (a1 : Nat) (l2 : Int32) : Option (St × Int32) :=
  bV (l2 + 1) fun v1 =>
  K2 S a1 v1
def j_X3_nextStep_39 (n : Nat) (K2 : St → Nat → Int32 → Option (St × Int32)) (S : St) (a1 : Nat) (l2 : Int32) (l3 : Int32) : Option (St × Int32) :=
  if l3 = 2 then
    gI S 152 a1 l2 200 fun v2 =>
    bI (f_X2_valueOf n S v2) fun S5 v7 =>
    if v7 = (-1) then
      j_X3_nextStep_63 n K2 S5 a1 l2
    else
      some (S5, l2)
  else
    j_X3_nextStep_63 n K2 S a1 l2
def l_X3_nextStep_2 (n : Nat) : Nat → St → Nat → Int32 → Option (St × Int32)
  | 0, _, _, _ => none
  | m + 1, S, a1, l2 =>
    if (S.1 150 a1) ≤ l2 then
      some (S, (-1))
    else
      gI S 151 a1 l2 200 fun v2 =>
      if v2 = 6 then
        some (S, l2)
      else
        if v2 = 5 then
          bI (f_X4_kindAt n S a1 (l2 + 1)) fun S7 v9 =>
          if v9 = 4 then
            some (S7, l2)
          else
            j_X3_nextStep_39 n (fun S a1 l2 => l_X3_nextStep_2 n m S a1 l2) S7 a1 l2 v2
        else
          j_X3_nextStep_39 n (fun S a1 l2 => l_X3_nextStep_2 n m S a1 l2) S a1 l2 v2
def f_X3_nextStep (n : Nat) (S : St) (a1 : Nat) : Option (St × Int32) :=
  l_X3_nextStep_2 n n S a1 0
set_option maxRecDepth 100000 in
set_option maxHeartbeats 4000000 in
theorem t_X3_nextStep_63 {n : Nat} {K2 : St → Nat → Int32 → Option (St × Int32)} {x : XC} (hx : CX x cX3_nextStep 4 RX3) (hR : x_R x = rm_X3_nextStep) (hKS : ∀ k ∈ KK, k ∈ x_K x) {out : St × Int32} (hE : EI x cX3_nextStep out) (hK2 : ∀ {S : St} {a1 : Nat} {l2 : Int32} (_ : a1 < 107), K2 S a1 l2 = some out → WX x 4 0 0 S 2 [(0, .ref (x_ad x 0 2 0)), (1, .ref (x_ad x 0 3 a1)), (2, .int l2)] []) {S : St} {a1 : Nat} {l2 : Int32} (h_a1 : a1 < 107) (h : j_X3_nextStep_63 n K2 S a1 l2 = some out) : WX x 4 0 0 S 63 [(0, .ref (x_ad x 0 2 0)), (1, .ref (x_ad x 0 3 a1)), (2, .int l2)] [] := by
  unfold j_X3_nextStep_63 at h
  obtain ⟨v1, e2, h⟩ := bV_some h
  refine r_iinc (k := 2) (v := v1) (lv' := [(2, .int v1), (0, .ref (x_ad x 0 2 0)), (1, .ref (x_ad x 0 3 a1))]) hx dX3_nextStep_63 rfl (by rw [e2]; rfl) (by decide) rfl ?_
  refine r_goto (tgt := 2) hx dX3_nextStep_66 (by decide) ?_
  refine WX.sub (lv' := [(0, .ref (x_ad x 0 2 0)), (1, .ref (x_ad x 0 3 a1)), (2, .int v1)]) ?_ [1, 2, 0] rfl
  exact hK2 h_a1 h
set_option maxRecDepth 100000 in
set_option maxHeartbeats 4000000 in
theorem t_X3_nextStep_39 {n : Nat} {K2 : St → Nat → Int32 → Option (St × Int32)} {x : XC} (hx : CX x cX3_nextStep 4 RX3) (hR : x_R x = rm_X3_nextStep) (hKS : ∀ k ∈ KK, k ∈ x_K x) {out : St × Int32} (hE : EI x cX3_nextStep out) (hK2 : ∀ {S : St} {a1 : Nat} {l2 : Int32} (_ : a1 < 107), K2 S a1 l2 = some out → WX x 4 0 0 S 2 [(0, .ref (x_ad x 0 2 0)), (1, .ref (x_ad x 0 3 a1)), (2, .int l2)] []) {S : St} {a1 : Nat} {l2 : Int32} {l3 : Int32} (h_a1 : a1 < 107) (h : j_X3_nextStep_39 n K2 S a1 l2 l3 = some out) : WX x 4 0 0 S 39 [(0, .ref (x_ad x 0 2 0)), (1, .ref (x_ad x 0 3 a1)), (2, .int l2), (3, .int l3)] [] := by
  unfold j_X3_nextStep_39 at h
  refine r_iload_n (k0 := 3) hx dX3_nextStep_39 rfl rfl ?_
  refine r_iconst (v := 2) hx dX3_nextStep_40 (by decide) ?_
  refine r_icmp_ne (tgt := 63) hx dX3_nextStep_41 (by decide) (fun c1 => ?_) (fun c1 => ?_)
  · have h := ite_f h c1
    refine WX.sub (lv' := [(0, .ref (x_ad x 0 2 0)), (1, .ref (x_ad x 0 3 a1)), (2, .int l2)]) ?_ [0, 1, 2] rfl
    exact t_X3_nextStep_63 hx hR hKS hE hK2 h_a1 h
  · have h := ite_t h c1
    refine r_aload_n (k0 := 0) hx dX3_nextStep_44 rfl rfl ?_
    refine g_101 hx (k_0_2 hKS) wf_X3_15 dX3_nextStep_45 ?_
    refine r_aload_n (k0 := 1) hx dX3_nextStep_48 rfl rfl ?_
    refine g_152 hx (kr_0 hKS h_a1) wf_X3_56 dX3_nextStep_49 ?_
    refine r_iload_n (k0 := 2) hx dX3_nextStep_52 rfl rfl ?_
    obtain ⟨v2, e3, i4, h⟩ := gI_some h
    refine r_iald hx (kr_152 hKS h_a1) rfl i4 e3 dX3_nextStep_53 ?_
    obtain ⟨S5, v7, c6, h⟩ := bI_some h
    refine r_Vi (ci := 1) (As := [.int v2]) (rest := []) hx (C_X2_valueOf (c := x_y x) hKS c6) (k_0_1 hKS) rfl wl_X3_59 wi_X2_valueOf we_X2_valueOf wn_X2 wc_X2_valueOf dy_X2_valueOf rfl (by rw [hR]; decide +kernel) rfl (Nat.le_of_ble_eq_true rfl) dX3_nextStep_54 ?_
    refine r_iconst (v := -1) hx dX3_nextStep_57 (by decide) ?_
    refine r_icmp_eq (tgt := 63) hx dX3_nextStep_58 (by decide) (fun c8 => ?_) (fun c8 => ?_)
    · have h := ite_t h c8
      refine WX.sub (lv' := [(0, .ref (x_ad x 0 2 0)), (1, .ref (x_ad x 0 3 a1)), (2, .int l2)]) ?_ [0, 1, 2] rfl
      exact t_X3_nextStep_63 hx hR hKS hE hK2 h_a1 h
    · have h := ite_f h c8
      refine r_iload_n (k0 := 2) hx dX3_nextStep_61 rfl rfl ?_
      exact r_iret hE h dX3_nextStep_62
set_option maxRecDepth 100000 in
set_option maxHeartbeats 4000000 in
theorem t_X3_nextStep_2 {n : Nat} {x : XC} (hx : CX x cX3_nextStep 4 RX3) (hR : x_R x = rm_X3_nextStep) (hKS : ∀ k ∈ KK, k ∈ x_K x) {out : St × Int32} (hE : EI x cX3_nextStep out) : ∀ {m : Nat} {S : St} {a1 : Nat} {l2 : Int32} (h_a1 : a1 < 107) (h : l_X3_nextStep_2 n m S a1 l2 = some out), WX x 4 0 0 S 2 [(0, .ref (x_ad x 0 2 0)), (1, .ref (x_ad x 0 3 a1)), (2, .int l2)] [] := by
  intro m
  induction m with
  | zero => intro S a1 l2 h_a1 h; cases h
  | succ m ih =>
    intro S a1 l2 h_a1 h
    unfold l_X3_nextStep_2 at h
    refine r_iload_n (k0 := 2) hx dX3_nextStep_2 rfl rfl ?_
    refine r_aload_n (k0 := 1) hx dX3_nextStep_3 rfl rfl ?_
    refine g_150 hx (kr_0 hKS h_a1) wf_X3_36 dX3_nextStep_4 ?_
    refine r_icmp_ge (tgt := 69) hx dX3_nextStep_7 (by decide) (fun c1 => ?_) (fun c1 => ?_)
    · have h := ite_t h c1
      refine r_iconst (v := -1) hx dX3_nextStep_69 (by decide) ?_
      exact r_iret hE h dX3_nextStep_70
    · have h := ite_f h c1
      refine r_aload_n (k0 := 1) hx dX3_nextStep_10 rfl rfl ?_
      refine g_151 hx (kr_0 hKS h_a1) wf_X3_48 dX3_nextStep_11 ?_
      refine r_iload_n (k0 := 2) hx dX3_nextStep_14 rfl rfl ?_
      obtain ⟨v2, e3, i4, h⟩ := gI_some h
      refine r_iald hx (kr_151 hKS h_a1) rfl i4 e3 dX3_nextStep_15 ?_
      refine r_istore_n (lv' := [(3, .int v2), (0, .ref (x_ad x 0 2 0)), (1, .ref (x_ad x 0 3 a1)), (2, .int l2)]) hx dX3_nextStep_16 rfl (by decide) rfl ?_
      refine r_iload_n (k0 := 0) hx dX3_nextStep_17 rfl rfl ?_
      refine r_bipush (v := 6) hx dX3_nextStep_18 (by decide) ?_
      refine r_icmp_eq (tgt := 61) hx dX3_nextStep_20 (by decide) (fun c5 => ?_) (fun c5 => ?_)
      · have h := ite_t h c5
        refine r_iload_n (k0 := 3) hx dX3_nextStep_61 rfl rfl ?_
        exact r_iret hE h dX3_nextStep_62
      · have h := ite_f h c5
        refine r_iload_n (k0 := 0) hx dX3_nextStep_23 rfl rfl ?_
        refine r_iconst (v := 5) hx dX3_nextStep_24 (by decide) ?_
        refine r_icmp_ne (tgt := 39) hx dX3_nextStep_25 (by decide) (fun c6 => ?_) (fun c6 => ?_)
        · have h := ite_f h c6
          refine WX.sub (lv' := [(0, .ref (x_ad x 0 2 0)), (1, .ref (x_ad x 0 3 a1)), (2, .int l2), (3, .int v2)]) ?_ [1, 2, 3, 0] rfl
          exact t_X3_nextStep_39 hx hR hKS hE ih h_a1 h
        · have h := ite_t h c6
          refine r_aload_n (k0 := 2) hx dX3_nextStep_28 rfl rfl ?_
          refine r_iload_n (k0 := 3) hx dX3_nextStep_29 rfl rfl ?_
          refine r_iconst (v := 1) hx dX3_nextStep_30 (by decide) ?_
          refine r_iadd hx dX3_nextStep_31 ?_
          obtain ⟨S7, v9, c8, h⟩ := bI_some h
          refine r_Vi (ci := 3) (As := [.int (l2 + 1)]) (rest := []) hx (C_X4_kindAt (c := x_y x) hKS h_a1 c8) (kr_0 hKS h_a1) rfl wl_X3_52 wi_X4_kindAt we_X4_kindAt wn_X4 wc_X4_kindAt dy_X4_kindAt rfl (by rw [hR]; decide +kernel) rfl (Nat.le_of_ble_eq_true rfl) dX3_nextStep_32 ?_
          refine r_iconst (v := 4) hx dX3_nextStep_35 (by decide) ?_
          refine r_icmp_eq (tgt := 61) hx dX3_nextStep_36 (by decide) (fun c10 => ?_) (fun c10 => ?_)
          · have h := ite_t h c10
            refine r_iload_n (k0 := 3) hx dX3_nextStep_61 rfl rfl ?_
            exact r_iret hE h dX3_nextStep_62
          · have h := ite_f h c10
            refine WX.sub (lv' := [(0, .ref (x_ad x 0 2 0)), (1, .ref (x_ad x 0 3 a1)), (2, .int l2), (3, .int v2)]) ?_ [1, 2, 3, 0] rfl
            exact t_X3_nextStep_39 hx hR hKS hE ih h_a1 h
set_option maxRecDepth 100000 in
set_option maxHeartbeats 4000000 in
theorem t_X3_nextStep_0 {n : Nat} {x : XC} (hx : CX x cX3_nextStep 4 RX3) (hR : x_R x = rm_X3_nextStep) (hKS : ∀ k ∈ KK, k ∈ x_K x) {out : St × Int32} (hE : EI x cX3_nextStep out) {S : St} {a1 : Nat} (h_a1 : a1 < 107) (h : f_X3_nextStep n S a1 = some out) : WX x 4 0 0 S 0 [(0, .ref (x_ad x 0 2 0)), (1, .ref (x_ad x 0 3 a1))] [] := by
  unfold f_X3_nextStep at h
  refine r_iconst (v := 0) hx dX3_nextStep_0 (by decide) ?_
  refine r_istore_n (lv' := [(2, .int 0), (0, .ref (x_ad x 0 2 0)), (1, .ref (x_ad x 0 3 a1))]) hx dX3_nextStep_1 rfl (by decide) rfl ?_
  refine WX.sub (lv' := [(0, .ref (x_ad x 0 2 0)), (1, .ref (x_ad x 0 3 a1)), (2, .int 0)]) ?_ [1, 2, 0] rfl
  exact t_X3_nextStep_2 hx hR hKS hE h_a1 h
set_option maxHeartbeats 4000000 in
theorem C_X3_nextStep {n : Nat} {c : YC} (hKS : ∀ k ∈ KK, k ∈ c.2.2.2.2) {S : St} {a1 : Nat} {out : St × Int32} (h_a1 : a1 < 107) (h : f_X3_nextStep n S a1 = some out) : MI c yX3_nextStep cX3_nextStep 4 (some .int) rm_X3_nextStep S [.ref (c.2.2.1 0 2 0), .ref (c.2.2.1 0 3 a1)] out := mk_I (own := RX3) (by decide +kernel) rfl (Nat.le_of_ble_eq_true rfl) (fun x hx hR hy hE => by subst hy; exact t_X3_nextStep_0 hx hR hKS hE h_a1 h)
theorem dX3_shrink_0 : decode cX3_shrink 0 = .ok (.aload_n 1, 1) := by decide +kernel
theorem dX3_shrink_1 : decode cX3_shrink 1 = .ok (.iload_n 2, 1) := by decide +kernel
theorem dX3_shrink_2 : decode cX3_shrink 2 = .ok (.invokevirtual 52, 3) := by decide +kernel
theorem dX3_shrink_5 : decode cX3_shrink 5 = .ok (.iconst 4, 1) := by decide +kernel
theorem dX3_shrink_6 : decode cX3_shrink 6 = .ok (.if_icmp .eq 4, 3) := by decide +kernel
theorem dX3_shrink_9 : decode cX3_shrink 9 = .ok (.return_, 1) := by decide +kernel
theorem dX3_shrink_10 : decode cX3_shrink 10 = .ok (.aload_n 1, 1) := by decide +kernel
theorem dX3_shrink_11 : decode cX3_shrink 11 = .ok (.iload_n 2, 1) := by decide +kernel
theorem dX3_shrink_12 : decode cX3_shrink 12 = .ok (.iconst 1, 1) := by decide +kernel
theorem dX3_shrink_13 : decode cX3_shrink 13 = .ok (.iadd, 1) := by decide +kernel
theorem dX3_shrink_14 : decode cX3_shrink 14 = .ok (.invokevirtual 85, 3) := by decide +kernel
theorem dX3_shrink_17 : decode cX3_shrink 17 = .ok (.istore_n 3, 1) := by decide +kernel
theorem dX3_shrink_18 : decode cX3_shrink 18 = .ok (.aload_n 1, 1) := by decide +kernel
theorem dX3_shrink_19 : decode cX3_shrink 19 = .ok (.iload_n 3, 1) := by decide +kernel
theorem dX3_shrink_20 : decode cX3_shrink 20 = .ok (.invokevirtual 52, 3) := by decide +kernel
theorem dX3_shrink_23 : decode cX3_shrink 23 = .ok (.iconst 5, 1) := by decide +kernel
theorem dX3_shrink_24 : decode cX3_shrink 24 = .ok (.if_icmp .eq 4, 3) := by decide +kernel
theorem dX3_shrink_27 : decode cX3_shrink 27 = .ok (.return_, 1) := by decide +kernel
theorem dX3_shrink_28 : decode cX3_shrink 28 = .ok (.aload_n 1, 1) := by decide +kernel
theorem dX3_shrink_29 : decode cX3_shrink 29 = .ok (.iload_n 3, 1) := by decide +kernel
theorem dX3_shrink_30 : decode cX3_shrink 30 = .ok (.iconst 1, 1) := by decide +kernel
theorem dX3_shrink_31 : decode cX3_shrink 31 = .ok (.iadd, 1) := by decide +kernel
theorem dX3_shrink_32 : decode cX3_shrink 32 = .ok (.invokevirtual 85, 3) := by decide +kernel
theorem dX3_shrink_35 : decode cX3_shrink 35 = .ok (.istore 4, 2) := by decide +kernel
theorem dX3_shrink_37 : decode cX3_shrink 37 = .ok (.aload_n 1, 1) := by decide +kernel
theorem dX3_shrink_38 : decode cX3_shrink 38 = .ok (.iload 4, 2) := by decide +kernel
theorem dX3_shrink_40 : decode cX3_shrink 40 = .ok (.invokevirtual 52, 3) := by decide +kernel
theorem dX3_shrink_43 : decode cX3_shrink 43 = .ok (.iconst 1, 1) := by decide +kernel
theorem dX3_shrink_44 : decode cX3_shrink 44 = .ok (.if_icmp .ne 13, 3) := by decide +kernel
theorem dX3_shrink_47 : decode cX3_shrink 47 = .ok (.aload_n 1, 1) := by decide +kernel
theorem dX3_shrink_48 : decode cX3_shrink 48 = .ok (.getfield 56, 3) := by decide +kernel
theorem dX3_shrink_51 : decode cX3_shrink 51 = .ok (.iload 4, 2) := by decide +kernel
theorem dX3_shrink_53 : decode cX3_shrink 53 = .ok (.iaload, 1) := by decide +kernel
theorem dX3_shrink_54 : decode cX3_shrink 54 = .ok (.ifCond .eq 4, 3) := by decide +kernel
theorem dX3_shrink_57 : decode cX3_shrink 57 = .ok (.return_, 1) := by decide +kernel
theorem dX3_shrink_58 : decode cX3_shrink 58 = .ok (.aload_n 0, 1) := by decide +kernel
theorem dX3_shrink_59 : decode cX3_shrink 59 = .ok (.getfield 29, 3) := by decide +kernel
theorem dX3_shrink_62 : decode cX3_shrink 62 = .ok (.aload_n 1, 1) := by decide +kernel
theorem dX3_shrink_63 : decode cX3_shrink 63 = .ok (.iload_n 3, 1) := by decide +kernel
theorem dX3_shrink_64 : decode cX3_shrink 64 = .ok (.iconst 1, 1) := by decide +kernel
theorem dX3_shrink_65 : decode cX3_shrink 65 = .ok (.iadd, 1) := by decide +kernel
theorem dX3_shrink_66 : decode cX3_shrink 66 = .ok (.iload 4, 2) := by decide +kernel
theorem dX3_shrink_68 : decode cX3_shrink 68 = .ok (.invokevirtual 88, 3) := by decide +kernel
theorem dX3_shrink_71 : decode cX3_shrink 71 = .ok (.aload_n 0, 1) := by decide +kernel
theorem dX3_shrink_72 : decode cX3_shrink 72 = .ok (.getfield 29, 3) := by decide +kernel
theorem dX3_shrink_75 : decode cX3_shrink 75 = .ok (.invokevirtual 96, 3) := by decide +kernel
theorem dX3_shrink_78 : decode cX3_shrink 78 = .ok (.ifCond .le 4, 3) := by decide +kernel
theorem dX3_shrink_81 : decode cX3_shrink 81 = .ok (.return_, 1) := by decide +kernel
theorem dX3_shrink_82 : decode cX3_shrink 82 = .ok (.aload_n 0, 1) := by decide +kernel
theorem dX3_shrink_83 : decode cX3_shrink 83 = .ok (.getfield 29, 3) := by decide +kernel
theorem dX3_shrink_86 : decode cX3_shrink 86 = .ok (.iconst (-1), 1) := by decide +kernel
theorem dX3_shrink_87 : decode cX3_shrink 87 = .ok (.invokevirtual 100, 3) := by decide +kernel
theorem dX3_shrink_90 : decode cX3_shrink 90 = .ok (.aload_n 1, 1) := by decide +kernel
theorem dX3_shrink_91 : decode cX3_shrink 91 = .ok (.iload_n 2, 1) := by decide +kernel
theorem dX3_shrink_92 : decode cX3_shrink 92 = .ok (.iload 4, 2) := by decide +kernel
theorem dX3_shrink_94 : decode cX3_shrink 94 = .ok (.iconst 1, 1) := by decide +kernel
theorem dX3_shrink_95 : decode cX3_shrink 95 = .ok (.iadd, 1) := by decide +kernel
theorem dX3_shrink_96 : decode cX3_shrink 96 = .ok (.aload_n 0, 1) := by decide +kernel
theorem dX3_shrink_97 : decode cX3_shrink 97 = .ok (.getfield 29, 3) := by decide +kernel
theorem dX3_shrink_100 : decode cX3_shrink 100 = .ok (.invokevirtual 81, 3) := by decide +kernel
theorem dX3_shrink_103 : decode cX3_shrink 103 = .ok (.pop, 1) := by decide +kernel
theorem dX3_shrink_104 : decode cX3_shrink 104 = .ok (.return_, 1) := by decide +kernel
theorem dy_X3_shrink : DY yX3_shrink 2 := by decide +kernel
abbrev rm_X3_shrink : Room := { frames := 3, cells := 0, slots := 0, locals := 148 }
def f_X3_shrink (n : Nat) (S : St) (a1 : Nat) (a2 : Int32) : Option (St) :=
  bI (f_X4_kindAt n S a1 a2) fun S1 v3 =>
  if v3 = 4 then
    bI (f_X4_endOf n S1 a1 (a2 + 1)) fun S5 v7 =>
    bI (f_X4_kindAt n S5 a1 v7) fun S8 v10 =>
    if v10 = 5 then
      bI (f_X4_endOf n S8 a1 (v7 + 1)) fun S12 v14 =>
      bI (f_X4_kindAt n S12 a1 v14) fun S15 v17 =>
      if v17 = 1 then
        gI S15 152 a1 v14 200 fun v19 =>
        if v19 = 0 then
          bU (f_X4_takePart n S15 4 a1 (v7 + 1) v14) fun S23 =>
          bI (f_X4_countNextOuter n S23 4) fun S25 v27 =>
          if v27 ≤ 0 then
            bU (f_X4_raise n S25 4 (-1)) fun S29 =>
            bI (f_X4_replace n S29 a1 a2 (v14 + 1) 4) fun S31 v33 =>
            some S31
          else
            some S25
        else
          some S15
      else
        some S15
    else
      some S8
  else
    some S1
set_option maxRecDepth 100000 in
set_option maxHeartbeats 4000000 in
theorem t_X3_shrink_0 {n : Nat} {x : XC} (hx : CX x cX3_shrink 5 RX3) (hR : x_R x = rm_X3_shrink) (hKS : ∀ k ∈ KK, k ∈ x_K x) {out : St} (hE : EV x cX3_shrink out) {S : St} {a1 : Nat} {a2 : Int32} (h_a1 : a1 < 107) (h : f_X3_shrink n S a1 a2 = some out) : WX x 5 0 0 S 0 [(0, .ref (x_ad x 0 2 0)), (1, .ref (x_ad x 0 3 a1)), (2, .int a2)] [] := by
  unfold f_X3_shrink at h
  refine r_aload_n (k0 := 1) hx dX3_shrink_0 rfl rfl ?_
  refine r_iload_n (k0 := 2) hx dX3_shrink_1 rfl rfl ?_
  obtain ⟨S1, v3, c2, h⟩ := bI_some h
  refine r_Vi (ci := 3) (As := [.int a2]) (rest := []) hx (C_X4_kindAt (c := x_y x) hKS h_a1 c2) (kr_0 hKS h_a1) rfl wl_X3_52 wi_X4_kindAt we_X4_kindAt wn_X4 wc_X4_kindAt dy_X4_kindAt rfl (by rw [hR]; decide +kernel) rfl (Nat.le_of_ble_eq_true rfl) dX3_shrink_2 ?_
  refine r_iconst (v := 4) hx dX3_shrink_5 (by decide) ?_
  refine r_icmp_eq (tgt := 10) hx dX3_shrink_6 (by decide) (fun c4 => ?_) (fun c4 => ?_)
  · have h := ite_t h c4
    refine r_aload_n (k0 := 1) hx dX3_shrink_10 rfl rfl ?_
    refine r_iload_n (k0 := 2) hx dX3_shrink_11 rfl rfl ?_
    refine r_iconst (v := 1) hx dX3_shrink_12 (by decide) ?_
    refine r_iadd hx dX3_shrink_13 ?_
    obtain ⟨S5, v7, c6, h⟩ := bI_some h
    refine r_Vi (ci := 3) (As := [.int (a2 + 1)]) (rest := []) hx (C_X4_endOf (c := x_y x) hKS h_a1 c6) (kr_0 hKS h_a1) rfl wl_X3_85 wi_X4_endOf we_X4_endOf wn_X4 wc_X4_endOf dy_X4_endOf rfl (by rw [hR]; decide +kernel) rfl (Nat.le_of_ble_eq_true rfl) dX3_shrink_14 ?_
    refine r_istore_n (lv' := [(3, .int v7), (0, .ref (x_ad x 0 2 0)), (1, .ref (x_ad x 0 3 a1)), (2, .int a2)]) hx dX3_shrink_17 rfl (by decide) rfl ?_
    refine r_aload_n (k0 := 2) hx dX3_shrink_18 rfl rfl ?_
    refine r_iload_n (k0 := 0) hx dX3_shrink_19 rfl rfl ?_
    obtain ⟨S8, v10, c9, h⟩ := bI_some h
    refine r_Vi (ci := 3) (As := [.int v7]) (rest := []) hx (C_X4_kindAt (c := x_y x) hKS h_a1 c9) (kr_0 hKS h_a1) rfl wl_X3_52 wi_X4_kindAt we_X4_kindAt wn_X4 wc_X4_kindAt dy_X4_kindAt rfl (by rw [hR]; decide +kernel) rfl (Nat.le_of_ble_eq_true rfl) dX3_shrink_20 ?_
    refine r_iconst (v := 5) hx dX3_shrink_23 (by decide) ?_
    refine r_icmp_eq (tgt := 28) hx dX3_shrink_24 (by decide) (fun c11 => ?_) (fun c11 => ?_)
    · have h := ite_t h c11
      refine r_aload_n (k0 := 2) hx dX3_shrink_28 rfl rfl ?_
      refine r_iload_n (k0 := 0) hx dX3_shrink_29 rfl rfl ?_
      refine r_iconst (v := 1) hx dX3_shrink_30 (by decide) ?_
      refine r_iadd hx dX3_shrink_31 ?_
      obtain ⟨S12, v14, c13, h⟩ := bI_some h
      refine r_Vi (ci := 3) (As := [.int (v7 + 1)]) (rest := []) hx (C_X4_endOf (c := x_y x) hKS h_a1 c13) (kr_0 hKS h_a1) rfl wl_X3_85 wi_X4_endOf we_X4_endOf wn_X4 wc_X4_endOf dy_X4_endOf rfl (by rw [hR]; decide +kernel) rfl (Nat.le_of_ble_eq_true rfl) dX3_shrink_32 ?_
      refine r_istore (lv' := [(4, .int v14), (3, .int v7), (0, .ref (x_ad x 0 2 0)), (1, .ref (x_ad x 0 3 a1)), (2, .int a2)]) hx dX3_shrink_35 (by decide) rfl ?_
      refine r_aload_n (k0 := 3) hx dX3_shrink_37 rfl rfl ?_
      refine r_iload (k0 := 0) hx dX3_shrink_38 rfl ?_
      obtain ⟨S15, v17, c16, h⟩ := bI_some h
      refine r_Vi (ci := 3) (As := [.int v14]) (rest := []) hx (C_X4_kindAt (c := x_y x) hKS h_a1 c16) (kr_0 hKS h_a1) rfl wl_X3_52 wi_X4_kindAt we_X4_kindAt wn_X4 wc_X4_kindAt dy_X4_kindAt rfl (by rw [hR]; decide +kernel) rfl (Nat.le_of_ble_eq_true rfl) dX3_shrink_40 ?_
      refine r_iconst (v := 1) hx dX3_shrink_43 (by decide) ?_
      refine r_icmp_ne (tgt := 57) hx dX3_shrink_44 (by decide) (fun c18 => ?_) (fun c18 => ?_)
      · have h := ite_f h c18
        exact r_vret hE h dX3_shrink_57
      · have h := ite_t h c18
        refine r_aload_n (k0 := 3) hx dX3_shrink_47 rfl rfl ?_
        refine g_152 hx (kr_0 hKS h_a1) wf_X3_56 dX3_shrink_48 ?_
        refine r_iload (k0 := 0) hx dX3_shrink_51 rfl ?_
        obtain ⟨v19, e20, i21, h⟩ := gI_some h
        refine r_iald hx (kr_152 hKS h_a1) rfl i21 e20 dX3_shrink_53 ?_
        refine r_if_eq (tgt := 58) hx dX3_shrink_54 (by decide) (fun c22 => ?_) (fun c22 => ?_)
        · have h := ite_t h c22
          refine r_aload_n (k0 := 2) hx dX3_shrink_58 rfl rfl ?_
          refine g_104 hx (k_0_2 hKS) wf_X3_29 dX3_shrink_59 ?_
          refine r_aload_n (k0 := 3) hx dX3_shrink_62 rfl rfl ?_
          refine r_iload_n (k0 := 1) hx dX3_shrink_63 rfl rfl ?_
          refine r_iconst (v := 1) hx dX3_shrink_64 (by decide) ?_
          refine r_iadd hx dX3_shrink_65 ?_
          refine r_iload (k0 := 0) hx dX3_shrink_66 rfl ?_
          obtain ⟨S23, c24, h⟩ := bU_some h
          refine r_Vv (ci := 3) (As := [.ref (x_ad x 0 3 a1), .int (v7 + 1), .int v14]) (rest := []) hx (C_X4_takePart (c := x_y x) hKS (by decide) h_a1 c24) (kr_0 hKS (by decide)) rfl wl_X3_88 wi_X4_takePart we_X4_takePart wn_X4 wc_X4_takePart dy_X4_takePart rfl (by rw [hR]; decide +kernel) rfl (Nat.le_of_ble_eq_true rfl) dX3_shrink_68 ?_
          refine r_aload_n (k0 := 2) hx dX3_shrink_71 rfl rfl ?_
          refine g_104 hx (k_0_2 hKS) wf_X3_29 dX3_shrink_72 ?_
          obtain ⟨S25, v27, c26, h⟩ := bI_some h
          refine r_Vi (ci := 3) (As := []) (rest := []) hx (C_X4_countNextOuter (c := x_y x) hKS (by decide) c26) (kr_0 hKS (by decide)) rfl wl_X3_96 wi_X4_countNextOuter we_X4_countNextOuter wn_X4 wc_X4_countNextOuter dy_X4_countNextOuter rfl (by rw [hR]; decide +kernel) rfl (Nat.le_of_ble_eq_true rfl) dX3_shrink_75 ?_
          refine r_if_le (tgt := 82) hx dX3_shrink_78 (by decide) (fun c28 => ?_) (fun c28 => ?_)
          · have h := ite_t h c28
            refine r_aload_n (k0 := 2) hx dX3_shrink_82 rfl rfl ?_
            refine g_104 hx (k_0_2 hKS) wf_X3_29 dX3_shrink_83 ?_
            refine r_iconst (v := -1) hx dX3_shrink_86 (by decide) ?_
            obtain ⟨S29, c30, h⟩ := bU_some h
            refine r_Vv (ci := 3) (As := [.int (-1)]) (rest := []) hx (C_X4_raise (c := x_y x) hKS (by decide) c30) (kr_0 hKS (by decide)) rfl wl_X3_100 wi_X4_raise we_X4_raise wn_X4 wc_X4_raise dy_X4_raise rfl (by rw [hR]; decide +kernel) rfl (Nat.le_of_ble_eq_true rfl) dX3_shrink_87 ?_
            refine r_aload_n (k0 := 3) hx dX3_shrink_90 rfl rfl ?_
            refine r_iload_n (k0 := 4) hx dX3_shrink_91 rfl rfl ?_
            refine r_iload (k0 := 0) hx dX3_shrink_92 rfl ?_
            refine r_iconst (v := 1) hx dX3_shrink_94 (by decide) ?_
            refine r_iadd hx dX3_shrink_95 ?_
            refine r_aload_n (k0 := 2) hx dX3_shrink_96 rfl rfl ?_
            refine g_104 hx (k_0_2 hKS) wf_X3_29 dX3_shrink_97 ?_
            obtain ⟨S31, v33, c32, h⟩ := bI_some h
            refine r_Vi (ci := 3) (As := [.int a2, .int (v14 + 1), .ref (x_ad x 0 3 4)]) (rest := []) hx (C_X4_replace (c := x_y x) hKS h_a1 (by decide) c32) (kr_0 hKS h_a1) rfl wl_X3_81 wi_X4_replace we_X4_replace wn_X4 wc_X4_replace dy_X4_replace rfl (by rw [hR]; decide +kernel) rfl (Nat.le_of_ble_eq_true rfl) dX3_shrink_100 ?_
            refine r_pop hx dX3_shrink_103 rfl ?_
            exact r_vret hE h dX3_shrink_104
          · have h := ite_f h c28
            exact r_vret hE h dX3_shrink_81
        · have h := ite_f h c22
          exact r_vret hE h dX3_shrink_57
    · have h := ite_f h c11
      exact r_vret hE h dX3_shrink_27
  · have h := ite_f h c4
    exact r_vret hE h dX3_shrink_9
set_option maxHeartbeats 4000000 in
theorem C_X3_shrink {n : Nat} {c : YC} (hKS : ∀ k ∈ KK, k ∈ c.2.2.2.2) {S : St} {a1 : Nat} {a2 : Int32} {out : St} (h_a1 : a1 < 107) (h : f_X3_shrink n S a1 a2 = some out) : MV c yX3_shrink cX3_shrink 5 none rm_X3_shrink S [.ref (c.2.2.1 0 2 0), .ref (c.2.2.1 0 3 a1), .int a2] out := mk_V (own := RX3) (by decide +kernel) rfl (Nat.le_of_ble_eq_true rfl) (fun x hx hR hy hE => by subst hy; exact t_X3_shrink_0 hx hR hKS hE h_a1 h)
theorem dX3_takeStep_0 : decode cX3_takeStep 0 = .ok (.aload_n 1, 1) := by decide +kernel
theorem dX3_takeStep_1 : decode cX3_takeStep 1 = .ok (.iload_n 2, 1) := by decide +kernel
theorem dX3_takeStep_2 : decode cX3_takeStep 2 = .ok (.invokevirtual 52, 3) := by decide +kernel
theorem dX3_takeStep_5 : decode cX3_takeStep 5 = .ok (.istore_n 3, 1) := by decide +kernel
theorem dX3_takeStep_6 : decode cX3_takeStep 6 = .ok (.iload_n 3, 1) := by decide +kernel
theorem dX3_takeStep_7 : decode cX3_takeStep 7 = .ok (.iconst 2, 1) := by decide +kernel
theorem dX3_takeStep_8 : decode cX3_takeStep 8 = .ok (.if_icmp .ne 70, 3) := by decide +kernel
theorem dX3_takeStep_11 : decode cX3_takeStep 11 = .ok (.aload_n 0, 1) := by decide +kernel
theorem dX3_takeStep_12 : decode cX3_takeStep 12 = .ok (.getfield 9, 3) := by decide +kernel
theorem dX3_takeStep_15 : decode cX3_takeStep 15 = .ok (.aload_n 0, 1) := by decide +kernel
theorem dX3_takeStep_16 : decode cX3_takeStep 16 = .ok (.getfield 15, 3) := by decide +kernel
theorem dX3_takeStep_19 : decode cX3_takeStep 19 = .ok (.aload_n 1, 1) := by decide +kernel
theorem dX3_takeStep_20 : decode cX3_takeStep 20 = .ok (.getfield 56, 3) := by decide +kernel
theorem dX3_takeStep_23 : decode cX3_takeStep 23 = .ok (.iload_n 2, 1) := by decide +kernel
theorem dX3_takeStep_24 : decode cX3_takeStep 24 = .ok (.iaload, 1) := by decide +kernel
theorem dX3_takeStep_25 : decode cX3_takeStep 25 = .ok (.invokevirtual 59, 3) := by decide +kernel
theorem dX3_takeStep_28 : decode cX3_takeStep 28 = .ok (.aload_n 0, 1) := by decide +kernel
theorem dX3_takeStep_29 : decode cX3_takeStep 29 = .ok (.getfield 29, 3) := by decide +kernel
theorem dX3_takeStep_32 : decode cX3_takeStep 32 = .ok (.invokevirtual 64, 3) := by decide +kernel
theorem dX3_takeStep_35 : decode cX3_takeStep 35 = .ok (.aload_n 0, 1) := by decide +kernel
theorem dX3_takeStep_36 : decode cX3_takeStep 36 = .ok (.getfield 29, 3) := by decide +kernel
theorem dX3_takeStep_39 : decode cX3_takeStep 39 = .ok (.aload_n 1, 1) := by decide +kernel
theorem dX3_takeStep_40 : decode cX3_takeStep 40 = .ok (.getfield 70, 3) := by decide +kernel
theorem dX3_takeStep_43 : decode cX3_takeStep 43 = .ok (.iload_n 2, 1) := by decide +kernel
theorem dX3_takeStep_44 : decode cX3_takeStep 44 = .ok (.laload, 1) := by decide +kernel
theorem dX3_takeStep_45 : decode cX3_takeStep 45 = .ok (.aload_n 1, 1) := by decide +kernel
theorem dX3_takeStep_46 : decode cX3_takeStep 46 = .ok (.getfield 74, 3) := by decide +kernel
theorem dX3_takeStep_49 : decode cX3_takeStep 49 = .ok (.iload_n 2, 1) := by decide +kernel
theorem dX3_takeStep_50 : decode cX3_takeStep 50 = .ok (.laload, 1) := by decide +kernel
theorem dX3_takeStep_51 : decode cX3_takeStep 51 = .ok (.invokevirtual 77, 3) := by decide +kernel
theorem dX3_takeStep_54 : decode cX3_takeStep 54 = .ok (.ifCond .eq 22, 3) := by decide +kernel
theorem dX3_takeStep_57 : decode cX3_takeStep 57 = .ok (.aload_n 1, 1) := by decide +kernel
theorem dX3_takeStep_58 : decode cX3_takeStep 58 = .ok (.iload_n 2, 1) := by decide +kernel
theorem dX3_takeStep_59 : decode cX3_takeStep 59 = .ok (.iload_n 2, 1) := by decide +kernel
theorem dX3_takeStep_60 : decode cX3_takeStep 60 = .ok (.iconst 1, 1) := by decide +kernel
theorem dX3_takeStep_61 : decode cX3_takeStep 61 = .ok (.iadd, 1) := by decide +kernel
theorem dX3_takeStep_62 : decode cX3_takeStep 62 = .ok (.aload_n 0, 1) := by decide +kernel
theorem dX3_takeStep_63 : decode cX3_takeStep 63 = .ok (.getfield 29, 3) := by decide +kernel
theorem dX3_takeStep_66 : decode cX3_takeStep 66 = .ok (.invokevirtual 81, 3) := by decide +kernel
theorem dX3_takeStep_69 : decode cX3_takeStep 69 = .ok (.ifCond .eq 7, 3) := by decide +kernel
theorem dX3_takeStep_72 : decode cX3_takeStep 72 = .ok (.iconst 1, 1) := by decide +kernel
theorem dX3_takeStep_73 : decode cX3_takeStep 73 = .ok (.goto 4, 3) := by decide +kernel
theorem dX3_takeStep_76 : decode cX3_takeStep 76 = .ok (.iconst 0, 1) := by decide +kernel
theorem dX3_takeStep_77 : decode cX3_takeStep 77 = .ok (.ireturn, 1) := by decide +kernel
theorem dX3_takeStep_78 : decode cX3_takeStep 78 = .ok (.iload_n 3, 1) := by decide +kernel
theorem dX3_takeStep_79 : decode cX3_takeStep 79 = .ok (.bipush 6, 2) := by decide +kernel
theorem dX3_takeStep_81 : decode cX3_takeStep 81 = .ok (.if_icmp .ne 7, 3) := by decide +kernel
theorem dX3_takeStep_84 : decode cX3_takeStep 84 = .ok (.iload_n 2, 1) := by decide +kernel
theorem dX3_takeStep_85 : decode cX3_takeStep 85 = .ok (.goto 6, 3) := by decide +kernel
theorem dX3_takeStep_88 : decode cX3_takeStep 88 = .ok (.iload_n 2, 1) := by decide +kernel
theorem dX3_takeStep_89 : decode cX3_takeStep 89 = .ok (.iconst 1, 1) := by decide +kernel
theorem dX3_takeStep_90 : decode cX3_takeStep 90 = .ok (.iadd, 1) := by decide +kernel
theorem dX3_takeStep_91 : decode cX3_takeStep 91 = .ok (.istore 4, 2) := by decide +kernel
theorem dX3_takeStep_93 : decode cX3_takeStep 93 = .ok (.aload_n 1, 1) := by decide +kernel
theorem dX3_takeStep_94 : decode cX3_takeStep 94 = .ok (.iload 4, 2) := by decide +kernel
theorem dX3_takeStep_96 : decode cX3_takeStep 96 = .ok (.iconst 1, 1) := by decide +kernel
theorem dX3_takeStep_97 : decode cX3_takeStep 97 = .ok (.iadd, 1) := by decide +kernel
theorem dX3_takeStep_98 : decode cX3_takeStep 98 = .ok (.invokevirtual 85, 3) := by decide +kernel
theorem dX3_takeStep_101 : decode cX3_takeStep 101 = .ok (.istore 5, 2) := by decide +kernel
theorem dX3_takeStep_103 : decode cX3_takeStep 103 = .ok (.aload_n 1, 1) := by decide +kernel
theorem dX3_takeStep_104 : decode cX3_takeStep 104 = .ok (.iload 5, 2) := by decide +kernel
theorem dX3_takeStep_106 : decode cX3_takeStep 106 = .ok (.invokevirtual 85, 3) := by decide +kernel
theorem dX3_takeStep_109 : decode cX3_takeStep 109 = .ok (.istore 6, 2) := by decide +kernel
theorem dX3_takeStep_111 : decode cX3_takeStep 111 = .ok (.aload_n 1, 1) := by decide +kernel
theorem dX3_takeStep_112 : decode cX3_takeStep 112 = .ok (.iload 6, 2) := by decide +kernel
theorem dX3_takeStep_114 : decode cX3_takeStep 114 = .ok (.invokevirtual 85, 3) := by decide +kernel
theorem dX3_takeStep_117 : decode cX3_takeStep 117 = .ok (.istore 7, 2) := by decide +kernel
theorem dX3_takeStep_119 : decode cX3_takeStep 119 = .ok (.iload_n 3, 1) := by decide +kernel
theorem dX3_takeStep_120 : decode cX3_takeStep 120 = .ok (.bipush 6, 2) := by decide +kernel
theorem dX3_takeStep_122 : decode cX3_takeStep 122 = .ok (.if_icmp .ne 30, 3) := by decide +kernel
theorem dX3_takeStep_125 : decode cX3_takeStep 125 = .ok (.aload_n 0, 1) := by decide +kernel
theorem dX3_takeStep_126 : decode cX3_takeStep 126 = .ok (.getfield 26, 3) := by decide +kernel
theorem dX3_takeStep_129 : decode cX3_takeStep 129 = .ok (.aload_n 1, 1) := by decide +kernel
theorem dX3_takeStep_130 : decode cX3_takeStep 130 = .ok (.iload 5, 2) := by decide +kernel
theorem dX3_takeStep_132 : decode cX3_takeStep 132 = .ok (.iload 6, 2) := by decide +kernel
theorem dX3_takeStep_134 : decode cX3_takeStep 134 = .ok (.invokevirtual 88, 3) := by decide +kernel
theorem dX3_takeStep_137 : decode cX3_takeStep 137 = .ok (.aload_n 0, 1) := by decide +kernel
theorem dX3_takeStep_138 : decode cX3_takeStep 138 = .ok (.getfield 22, 3) := by decide +kernel
theorem dX3_takeStep_141 : decode cX3_takeStep 141 = .ok (.aload_n 1, 1) := by decide +kernel
theorem dX3_takeStep_142 : decode cX3_takeStep 142 = .ok (.iload 6, 2) := by decide +kernel
theorem dX3_takeStep_144 : decode cX3_takeStep 144 = .ok (.iload 7, 2) := by decide +kernel
theorem dX3_takeStep_146 : decode cX3_takeStep 146 = .ok (.invokevirtual 88, 3) := by decide +kernel
theorem dX3_takeStep_149 : decode cX3_takeStep 149 = .ok (.goto 27, 3) := by decide +kernel
theorem dX3_takeStep_152 : decode cX3_takeStep 152 = .ok (.aload_n 0, 1) := by decide +kernel
theorem dX3_takeStep_153 : decode cX3_takeStep 153 = .ok (.getfield 22, 3) := by decide +kernel
theorem dX3_takeStep_156 : decode cX3_takeStep 156 = .ok (.aload_n 1, 1) := by decide +kernel
theorem dX3_takeStep_157 : decode cX3_takeStep 157 = .ok (.iload 5, 2) := by decide +kernel
theorem dX3_takeStep_159 : decode cX3_takeStep 159 = .ok (.iload 6, 2) := by decide +kernel
theorem dX3_takeStep_161 : decode cX3_takeStep 161 = .ok (.invokevirtual 88, 3) := by decide +kernel
theorem dX3_takeStep_164 : decode cX3_takeStep 164 = .ok (.aload_n 0, 1) := by decide +kernel
theorem dX3_takeStep_165 : decode cX3_takeStep 165 = .ok (.getfield 26, 3) := by decide +kernel
theorem dX3_takeStep_168 : decode cX3_takeStep 168 = .ok (.aload_n 1, 1) := by decide +kernel
theorem dX3_takeStep_169 : decode cX3_takeStep 169 = .ok (.iload 6, 2) := by decide +kernel
theorem dX3_takeStep_171 : decode cX3_takeStep 171 = .ok (.iload 7, 2) := by decide +kernel
theorem dX3_takeStep_173 : decode cX3_takeStep 173 = .ok (.invokevirtual 88, 3) := by decide +kernel
theorem dX3_takeStep_176 : decode cX3_takeStep 176 = .ok (.aload_n 0, 1) := by decide +kernel
theorem dX3_takeStep_177 : decode cX3_takeStep 177 = .ok (.getfield 29, 3) := by decide +kernel
theorem dX3_takeStep_180 : decode cX3_takeStep 180 = .ok (.aload_n 0, 1) := by decide +kernel
theorem dX3_takeStep_181 : decode cX3_takeStep 181 = .ok (.getfield 22, 3) := by decide +kernel
theorem dX3_takeStep_184 : decode cX3_takeStep 184 = .ok (.aload_n 0, 1) := by decide +kernel
theorem dX3_takeStep_185 : decode cX3_takeStep 185 = .ok (.getfield 26, 3) := by decide +kernel
theorem dX3_takeStep_188 : decode cX3_takeStep 188 = .ok (.invokevirtual 92, 3) := by decide +kernel
theorem dX3_takeStep_191 : decode cX3_takeStep 191 = .ok (.ifCond .eq 21, 3) := by decide +kernel
theorem dX3_takeStep_194 : decode cX3_takeStep 194 = .ok (.aload_n 1, 1) := by decide +kernel
theorem dX3_takeStep_195 : decode cX3_takeStep 195 = .ok (.iload_n 2, 1) := by decide +kernel
theorem dX3_takeStep_196 : decode cX3_takeStep 196 = .ok (.iload 7, 2) := by decide +kernel
theorem dX3_takeStep_198 : decode cX3_takeStep 198 = .ok (.aload_n 0, 1) := by decide +kernel
theorem dX3_takeStep_199 : decode cX3_takeStep 199 = .ok (.getfield 29, 3) := by decide +kernel
theorem dX3_takeStep_202 : decode cX3_takeStep 202 = .ok (.invokevirtual 81, 3) := by decide +kernel
theorem dX3_takeStep_205 : decode cX3_takeStep 205 = .ok (.ifCond .eq 7, 3) := by decide +kernel
theorem dX3_takeStep_208 : decode cX3_takeStep 208 = .ok (.iconst 1, 1) := by decide +kernel
theorem dX3_takeStep_209 : decode cX3_takeStep 209 = .ok (.goto 4, 3) := by decide +kernel
theorem dX3_takeStep_212 : decode cX3_takeStep 212 = .ok (.iconst 0, 1) := by decide +kernel
theorem dX3_takeStep_213 : decode cX3_takeStep 213 = .ok (.ireturn, 1) := by decide +kernel
theorem dy_X3_takeStep : DY yX3_takeStep 2 := by decide +kernel
abbrev rm_X3_takeStep : Room := { frames := 3, cells := 0, slots := 0, locals := 148 }
def j_X3_takeStep_176 (n : Nat) (S : St) (a1 : Nat) (l2 : Int32) (l7 : Int32) : Option (St × Int32) :=
  bI (f_X4_fillWith n S 4 2 3) fun S1 v3 =>
  if v3 = 0 then
    some (S1, 0)
  else
    bI (f_X4_replace n S1 a1 l2 l7 4) fun S5 v7 =>
    if v7 = 0 then
      some (S5, 0)
    else
      some (S5, 1)
def j_X3_takeStep_91 (n : Nat) (S : St) (a1 : Nat) (l2 : Int32) (l3 : Int32) (s0 : Int32) : Option (St × Int32) :=
  bI (f_X4_endOf n S a1 (s0 + 1)) fun S1 v3 =>
  bI (f_X4_endOf n S1 a1 v3) fun S4 v6 =>
  bI (f_X4_endOf n S4 a1 v6) fun S7 v9 =>
  if l3 = 6 then
    bU (f_X4_takePart n S7 3 a1 v3 v6) fun S15 =>
    bU (f_X4_takePart n S15 2 a1 v6 v9) fun S17 =>
    j_X3_takeStep_176 n S17 a1 l2 v9
  else
    bU (f_X4_takePart n S7 2 a1 v3 v6) fun S11 =>
    bU (f_X4_takePart n S11 3 a1 v6 v9) fun S13 =>
    j_X3_takeStep_176 n S13 a1 l2 v9
def g_X3_takeStep (n : Nat) (S : St) (a1 : Nat) (a2 : Int32) : Option (St × Int32) :=
  bI (f_X4_kindAt n S a1 a2) fun S1 v3 =>
  if v3 = 2 then
    gI S1 152 a1 a2 200 fun v6 =>
    bI (f_X2_valueOf n S1 v6) fun S9 v11 =>
    bU (f_X5_spread n S9 v11 4) fun S12 =>
    gL S12 154 a1 a2 200 fun v14 =>
    gL S12 155 a1 a2 200 fun v17 =>
    bI (f_X4_giveLevels n S12 4 v14 v17) fun S20 v22 =>
    if v22 = 0 then
      some (S20, 0)
    else
      bI (f_X4_replace n S20 a1 a2 (a2 + 1) 4) fun S24 v26 =>
      if v26 = 0 then
        some (S24, 0)
      else
        some (S24, 1)
  else
    if v3 = 6 then
      j_X3_takeStep_91 n S1 a1 a2 v3 a2
    else
      j_X3_takeStep_91 n S1 a1 a2 v3 (a2 + 1)
set_option maxRecDepth 100000 in
set_option maxHeartbeats 4000000 in
theorem t_X3_takeStep_176 {n : Nat} {x : XC} (hx : CX x cX3_takeStep 8 RX3) (hR : x_R x = rm_X3_takeStep) (hKS : ∀ k ∈ KK, k ∈ x_K x) {out : St × Int32} (hE : EI x cX3_takeStep out) {S : St} {a1 : Nat} {l2 : Int32} {l7 : Int32} (h_a1 : a1 < 107) (h : j_X3_takeStep_176 n S a1 l2 l7 = some out) : WX x 8 0 0 S 176 [(0, .ref (x_ad x 0 2 0)), (1, .ref (x_ad x 0 3 a1)), (2, .int l2), (7, .int l7)] [] := by
  unfold j_X3_takeStep_176 at h
  refine r_aload_n (k0 := 0) hx dX3_takeStep_176 rfl rfl ?_
  refine g_104 hx (k_0_2 hKS) wf_X3_29 dX3_takeStep_177 ?_
  refine r_aload_n (k0 := 0) hx dX3_takeStep_180 rfl rfl ?_
  refine g_102 hx (k_0_2 hKS) wf_X3_22 dX3_takeStep_181 ?_
  refine r_aload_n (k0 := 0) hx dX3_takeStep_184 rfl rfl ?_
  refine g_103 hx (k_0_2 hKS) wf_X3_26 dX3_takeStep_185 ?_
  obtain ⟨S1, v3, c2, h⟩ := bI_some h
  refine r_Vi (ci := 3) (As := [.ref (x_ad x 0 3 2), .ref (x_ad x 0 3 3)]) (rest := []) hx (C_X4_fillWith (c := x_y x) hKS (by decide) (by decide) (by decide) c2) (kr_0 hKS (by decide)) rfl wl_X3_92 wi_X4_fillWith we_X4_fillWith wn_X4 wc_X4_fillWith dy_X4_fillWith rfl (by rw [hR]; decide +kernel) rfl (Nat.le_of_ble_eq_true rfl) dX3_takeStep_188 ?_
  refine r_if_eq (tgt := 212) hx dX3_takeStep_191 (by decide) (fun c4 => ?_) (fun c4 => ?_)
  · have h := ite_t h c4
    refine r_iconst (v := 0) hx dX3_takeStep_212 (by decide) ?_
    exact r_iret hE h dX3_takeStep_213
  · have h := ite_f h c4
    refine r_aload_n (k0 := 1) hx dX3_takeStep_194 rfl rfl ?_
    refine r_iload_n (k0 := 2) hx dX3_takeStep_195 rfl rfl ?_
    refine r_iload (k0 := 3) hx dX3_takeStep_196 rfl ?_
    refine r_aload_n (k0 := 0) hx dX3_takeStep_198 rfl rfl ?_
    refine g_104 hx (k_0_2 hKS) wf_X3_29 dX3_takeStep_199 ?_
    obtain ⟨S5, v7, c6, h⟩ := bI_some h
    refine r_Vi (ci := 3) (As := [.int l2, .int l7, .ref (x_ad x 0 3 4)]) (rest := []) hx (C_X4_replace (c := x_y x) hKS h_a1 (by decide) c6) (kr_0 hKS h_a1) rfl wl_X3_81 wi_X4_replace we_X4_replace wn_X4 wc_X4_replace dy_X4_replace rfl (by rw [hR]; decide +kernel) rfl (Nat.le_of_ble_eq_true rfl) dX3_takeStep_202 ?_
    refine r_if_eq (tgt := 212) hx dX3_takeStep_205 (by decide) (fun c8 => ?_) (fun c8 => ?_)
    · have h := ite_t h c8
      refine r_iconst (v := 0) hx dX3_takeStep_212 (by decide) ?_
      exact r_iret hE h dX3_takeStep_213
    · have h := ite_f h c8
      refine r_iconst (v := 1) hx dX3_takeStep_208 (by decide) ?_
      refine r_goto (tgt := 213) hx dX3_takeStep_209 (by decide) ?_
      exact r_iret hE h dX3_takeStep_213
set_option maxRecDepth 100000 in
set_option maxHeartbeats 4000000 in
theorem t_X3_takeStep_91 {n : Nat} {x : XC} (hx : CX x cX3_takeStep 8 RX3) (hR : x_R x = rm_X3_takeStep) (hKS : ∀ k ∈ KK, k ∈ x_K x) {out : St × Int32} (hE : EI x cX3_takeStep out) {S : St} {a1 : Nat} {l2 : Int32} {l3 : Int32} {s0 : Int32} (h_a1 : a1 < 107) (h : j_X3_takeStep_91 n S a1 l2 l3 s0 = some out) : WX x 8 0 0 S 91 [(0, .ref (x_ad x 0 2 0)), (1, .ref (x_ad x 0 3 a1)), (2, .int l2), (3, .int l3)] [.int s0] := by
  unfold j_X3_takeStep_91 at h
  refine r_istore (lv' := [(4, .int s0), (0, .ref (x_ad x 0 2 0)), (1, .ref (x_ad x 0 3 a1)), (2, .int l2), (3, .int l3)]) hx dX3_takeStep_91 (by decide) rfl ?_
  refine r_aload_n (k0 := 2) hx dX3_takeStep_93 rfl rfl ?_
  refine r_iload (k0 := 0) hx dX3_takeStep_94 rfl ?_
  refine r_iconst (v := 1) hx dX3_takeStep_96 (by decide) ?_
  refine r_iadd hx dX3_takeStep_97 ?_
  obtain ⟨S1, v3, c2, h⟩ := bI_some h
  refine r_Vi (ci := 3) (As := [.int (s0 + 1)]) (rest := []) hx (C_X4_endOf (c := x_y x) hKS h_a1 c2) (kr_0 hKS h_a1) rfl wl_X3_85 wi_X4_endOf we_X4_endOf wn_X4 wc_X4_endOf dy_X4_endOf rfl (by rw [hR]; decide +kernel) rfl (Nat.le_of_ble_eq_true rfl) dX3_takeStep_98 ?_
  refine r_istore (lv' := [(5, .int v3), (4, .int s0), (0, .ref (x_ad x 0 2 0)), (1, .ref (x_ad x 0 3 a1)), (2, .int l2), (3, .int l3)]) hx dX3_takeStep_101 (by decide) rfl ?_
  refine r_aload_n (k0 := 3) hx dX3_takeStep_103 rfl rfl ?_
  refine r_iload (k0 := 0) hx dX3_takeStep_104 rfl ?_
  obtain ⟨S4, v6, c5, h⟩ := bI_some h
  refine r_Vi (ci := 3) (As := [.int v3]) (rest := []) hx (C_X4_endOf (c := x_y x) hKS h_a1 c5) (kr_0 hKS h_a1) rfl wl_X3_85 wi_X4_endOf we_X4_endOf wn_X4 wc_X4_endOf dy_X4_endOf rfl (by rw [hR]; decide +kernel) rfl (Nat.le_of_ble_eq_true rfl) dX3_takeStep_106 ?_
  refine r_istore (lv' := [(6, .int v6), (5, .int v3), (4, .int s0), (0, .ref (x_ad x 0 2 0)), (1, .ref (x_ad x 0 3 a1)), (2, .int l2), (3, .int l3)]) hx dX3_takeStep_109 (by decide) rfl ?_
  refine r_aload_n (k0 := 4) hx dX3_takeStep_111 rfl rfl ?_
  refine r_iload (k0 := 0) hx dX3_takeStep_112 rfl ?_
  obtain ⟨S7, v9, c8, h⟩ := bI_some h
  refine r_Vi (ci := 3) (As := [.int v6]) (rest := []) hx (C_X4_endOf (c := x_y x) hKS h_a1 c8) (kr_0 hKS h_a1) rfl wl_X3_85 wi_X4_endOf we_X4_endOf wn_X4 wc_X4_endOf dy_X4_endOf rfl (by rw [hR]; decide +kernel) rfl (Nat.le_of_ble_eq_true rfl) dX3_takeStep_114 ?_
  refine r_istore (lv' := [(7, .int v9), (6, .int v6), (5, .int v3), (4, .int s0), (0, .ref (x_ad x 0 2 0)), (1, .ref (x_ad x 0 3 a1)), (2, .int l2), (3, .int l3)]) hx dX3_takeStep_117 (by decide) rfl ?_
  refine r_iload_n (k0 := 7) hx dX3_takeStep_119 rfl rfl ?_
  refine r_bipush (v := 6) hx dX3_takeStep_120 (by decide) ?_
  refine r_icmp_ne (tgt := 152) hx dX3_takeStep_122 (by decide) (fun c10 => ?_) (fun c10 => ?_)
  · have h := ite_f h c10
    refine r_aload_n (k0 := 4) hx dX3_takeStep_152 rfl rfl ?_
    refine g_102 hx (k_0_2 hKS) wf_X3_22 dX3_takeStep_153 ?_
    refine r_aload_n (k0 := 5) hx dX3_takeStep_156 rfl rfl ?_
    refine r_iload (k0 := 2) hx dX3_takeStep_157 rfl ?_
    refine r_iload (k0 := 1) hx dX3_takeStep_159 rfl ?_
    obtain ⟨S11, c12, h⟩ := bU_some h
    refine r_Vv (ci := 3) (As := [.ref (x_ad x 0 3 a1), .int v3, .int v6]) (rest := []) hx (C_X4_takePart (c := x_y x) hKS (by decide) h_a1 c12) (kr_0 hKS (by decide)) rfl wl_X3_88 wi_X4_takePart we_X4_takePart wn_X4 wc_X4_takePart dy_X4_takePart rfl (by rw [hR]; decide +kernel) rfl (Nat.le_of_ble_eq_true rfl) dX3_takeStep_161 ?_
    refine r_aload_n (k0 := 4) hx dX3_takeStep_164 rfl rfl ?_
    refine g_103 hx (k_0_2 hKS) wf_X3_26 dX3_takeStep_165 ?_
    refine r_aload_n (k0 := 5) hx dX3_takeStep_168 rfl rfl ?_
    refine r_iload (k0 := 1) hx dX3_takeStep_169 rfl ?_
    refine r_iload (k0 := 0) hx dX3_takeStep_171 rfl ?_
    obtain ⟨S13, c14, h⟩ := bU_some h
    refine r_Vv (ci := 3) (As := [.ref (x_ad x 0 3 a1), .int v6, .int v9]) (rest := []) hx (C_X4_takePart (c := x_y x) hKS (by decide) h_a1 c14) (kr_0 hKS (by decide)) rfl wl_X3_88 wi_X4_takePart we_X4_takePart wn_X4 wc_X4_takePart dy_X4_takePart rfl (by rw [hR]; decide +kernel) rfl (Nat.le_of_ble_eq_true rfl) dX3_takeStep_173 ?_
    refine WX.sub (lv' := [(0, .ref (x_ad x 0 2 0)), (1, .ref (x_ad x 0 3 a1)), (2, .int l2), (7, .int v9)]) ?_ [4, 5, 6, 0] rfl
    exact t_X3_takeStep_176 hx hR hKS hE h_a1 h
  · have h := ite_t h c10
    refine r_aload_n (k0 := 4) hx dX3_takeStep_125 rfl rfl ?_
    refine g_103 hx (k_0_2 hKS) wf_X3_26 dX3_takeStep_126 ?_
    refine r_aload_n (k0 := 5) hx dX3_takeStep_129 rfl rfl ?_
    refine r_iload (k0 := 2) hx dX3_takeStep_130 rfl ?_
    refine r_iload (k0 := 1) hx dX3_takeStep_132 rfl ?_
    obtain ⟨S15, c16, h⟩ := bU_some h
    refine r_Vv (ci := 3) (As := [.ref (x_ad x 0 3 a1), .int v3, .int v6]) (rest := []) hx (C_X4_takePart (c := x_y x) hKS (by decide) h_a1 c16) (kr_0 hKS (by decide)) rfl wl_X3_88 wi_X4_takePart we_X4_takePart wn_X4 wc_X4_takePart dy_X4_takePart rfl (by rw [hR]; decide +kernel) rfl (Nat.le_of_ble_eq_true rfl) dX3_takeStep_134 ?_
    refine r_aload_n (k0 := 4) hx dX3_takeStep_137 rfl rfl ?_
    refine g_102 hx (k_0_2 hKS) wf_X3_22 dX3_takeStep_138 ?_
    refine r_aload_n (k0 := 5) hx dX3_takeStep_141 rfl rfl ?_
    refine r_iload (k0 := 1) hx dX3_takeStep_142 rfl ?_
    refine r_iload (k0 := 0) hx dX3_takeStep_144 rfl ?_
    obtain ⟨S17, c18, h⟩ := bU_some h
    refine r_Vv (ci := 3) (As := [.ref (x_ad x 0 3 a1), .int v6, .int v9]) (rest := []) hx (C_X4_takePart (c := x_y x) hKS (by decide) h_a1 c18) (kr_0 hKS (by decide)) rfl wl_X3_88 wi_X4_takePart we_X4_takePart wn_X4 wc_X4_takePart dy_X4_takePart rfl (by rw [hR]; decide +kernel) rfl (Nat.le_of_ble_eq_true rfl) dX3_takeStep_146 ?_
    refine r_goto (tgt := 176) hx dX3_takeStep_149 (by decide) ?_
    refine WX.sub (lv' := [(0, .ref (x_ad x 0 2 0)), (1, .ref (x_ad x 0 3 a1)), (2, .int l2), (7, .int v9)]) ?_ [4, 5, 6, 0] rfl
    exact t_X3_takeStep_176 hx hR hKS hE h_a1 h
set_option maxRecDepth 100000 in
set_option maxHeartbeats 4000000 in
theorem t_X3_takeStep_0 {n : Nat} {x : XC} (hx : CX x cX3_takeStep 8 RX3) (hR : x_R x = rm_X3_takeStep) (hKS : ∀ k ∈ KK, k ∈ x_K x) {out : St × Int32} (hE : EI x cX3_takeStep out) {S : St} {a1 : Nat} {a2 : Int32} (h_a1 : a1 < 107) (h : g_X3_takeStep n S a1 a2 = some out) : WX x 8 0 0 S 0 [(0, .ref (x_ad x 0 2 0)), (1, .ref (x_ad x 0 3 a1)), (2, .int a2)] [] := by
  unfold g_X3_takeStep at h
  refine r_aload_n (k0 := 1) hx dX3_takeStep_0 rfl rfl ?_
  refine r_iload_n (k0 := 2) hx dX3_takeStep_1 rfl rfl ?_
  obtain ⟨S1, v3, c2, h⟩ := bI_some h
  refine r_Vi (ci := 3) (As := [.int a2]) (rest := []) hx (C_X4_kindAt (c := x_y x) hKS h_a1 c2) (kr_0 hKS h_a1) rfl wl_X3_52 wi_X4_kindAt we_X4_kindAt wn_X4 wc_X4_kindAt dy_X4_kindAt rfl (by rw [hR]; decide +kernel) rfl (Nat.le_of_ble_eq_true rfl) dX3_takeStep_2 ?_
  refine r_istore_n (lv' := [(3, .int v3), (0, .ref (x_ad x 0 2 0)), (1, .ref (x_ad x 0 3 a1)), (2, .int a2)]) hx dX3_takeStep_5 rfl (by decide) rfl ?_
  refine r_iload_n (k0 := 0) hx dX3_takeStep_6 rfl rfl ?_
  refine r_iconst (v := 2) hx dX3_takeStep_7 (by decide) ?_
  refine r_icmp_ne (tgt := 78) hx dX3_takeStep_8 (by decide) (fun c4 => ?_) (fun c4 => ?_)
  · have h := ite_f h c4
    refine r_iload_n (k0 := 0) hx dX3_takeStep_78 rfl rfl ?_
    refine r_bipush (v := 6) hx dX3_takeStep_79 (by decide) ?_
    refine r_icmp_ne (tgt := 88) hx dX3_takeStep_81 (by decide) (fun c5 => ?_) (fun c5 => ?_)
    · have h := ite_f h c5
      refine r_iload_n (k0 := 3) hx dX3_takeStep_88 rfl rfl ?_
      refine r_iconst (v := 1) hx dX3_takeStep_89 (by decide) ?_
      refine r_iadd hx dX3_takeStep_90 ?_
      refine WX.sub (lv' := [(0, .ref (x_ad x 0 2 0)), (1, .ref (x_ad x 0 3 a1)), (2, .int a2), (3, .int v3)]) ?_ [1, 2, 3, 0] rfl
      exact t_X3_takeStep_91 hx hR hKS hE h_a1 h
    · have h := ite_t h c5
      refine r_iload_n (k0 := 3) hx dX3_takeStep_84 rfl rfl ?_
      refine r_goto (tgt := 91) hx dX3_takeStep_85 (by decide) ?_
      refine WX.sub (lv' := [(0, .ref (x_ad x 0 2 0)), (1, .ref (x_ad x 0 3 a1)), (2, .int a2), (3, .int v3)]) ?_ [1, 2, 3, 0] rfl
      exact t_X3_takeStep_91 hx hR hKS hE h_a1 h
  · have h := ite_t h c4
    refine r_aload_n (k0 := 1) hx dX3_takeStep_11 rfl rfl ?_
    refine g_100 hx (k_0_2 hKS) wf_X3_9 dX3_takeStep_12 ?_
    refine r_aload_n (k0 := 1) hx dX3_takeStep_15 rfl rfl ?_
    refine g_101 hx (k_0_2 hKS) wf_X3_15 dX3_takeStep_16 ?_
    refine r_aload_n (k0 := 2) hx dX3_takeStep_19 rfl rfl ?_
    refine g_152 hx (kr_0 hKS h_a1) wf_X3_56 dX3_takeStep_20 ?_
    refine r_iload_n (k0 := 3) hx dX3_takeStep_23 rfl rfl ?_
    obtain ⟨v6, e7, i8, h⟩ := gI_some h
    refine r_iald hx (kr_152 hKS h_a1) rfl i8 e7 dX3_takeStep_24 ?_
    obtain ⟨S9, v11, c10, h⟩ := bI_some h
    refine r_Vi (ci := 1) (As := [.int v6]) (rest := [.ref (x_ad x 0 4 0)]) hx (C_X2_valueOf (c := x_y x) hKS c10) (k_0_1 hKS) rfl wl_X3_59 wi_X2_valueOf we_X2_valueOf wn_X2 wc_X2_valueOf dy_X2_valueOf rfl (by rw [hR]; decide +kernel) rfl (Nat.le_of_ble_eq_true rfl) dX3_takeStep_25 ?_
    refine r_aload_n (k0 := 1) hx dX3_takeStep_28 rfl rfl ?_
    refine g_104 hx (k_0_2 hKS) wf_X3_29 dX3_takeStep_29 ?_
    obtain ⟨S12, c13, h⟩ := bU_some h
    refine r_Vv (ci := 4) (As := [.int v11, .ref (x_ad x 0 3 4)]) (rest := []) hx (C_X5_spread (c := x_y x) hKS (by decide) c13) (k_0_4 hKS) rfl wl_X3_64 wi_X5_spread we_X5_spread wn_X5 wc_X5_spread dy_X5_spread rfl (by rw [hR]; decide +kernel) rfl (Nat.le_of_ble_eq_true rfl) dX3_takeStep_32 ?_
    refine r_aload_n (k0 := 1) hx dX3_takeStep_35 rfl rfl ?_
    refine g_104 hx (k_0_2 hKS) wf_X3_29 dX3_takeStep_36 ?_
    refine r_aload_n (k0 := 2) hx dX3_takeStep_39 rfl rfl ?_
    refine g_154 hx (kr_0 hKS h_a1) wf_X3_70 dX3_takeStep_40 ?_
    refine r_iload_n (k0 := 3) hx dX3_takeStep_43 rfl rfl ?_
    obtain ⟨v14, e15, i16, h⟩ := gL_some h
    refine r_lald hx (kr_154 hKS h_a1) rfl i16 e15 dX3_takeStep_44 ?_
    refine r_aload_n (k0 := 2) hx dX3_takeStep_45 rfl rfl ?_
    refine g_155 hx (kr_0 hKS h_a1) wf_X3_74 dX3_takeStep_46 ?_
    refine r_iload_n (k0 := 3) hx dX3_takeStep_49 rfl rfl ?_
    obtain ⟨v17, e18, i19, h⟩ := gL_some h
    refine r_lald hx (kr_155 hKS h_a1) rfl i19 e18 dX3_takeStep_50 ?_
    obtain ⟨S20, v22, c21, h⟩ := bI_some h
    refine r_Vi (ci := 3) (As := [.long v14, .long v17]) (rest := []) hx (C_X4_giveLevels (c := x_y x) hKS (by decide) c21) (kr_0 hKS (by decide)) rfl wl_X3_77 wi_X4_giveLevels we_X4_giveLevels wn_X4 wc_X4_giveLevels dy_X4_giveLevels rfl (by rw [hR]; decide +kernel) rfl (Nat.le_of_ble_eq_true rfl) dX3_takeStep_51 ?_
    refine r_if_eq (tgt := 76) hx dX3_takeStep_54 (by decide) (fun c23 => ?_) (fun c23 => ?_)
    · have h := ite_t h c23
      refine r_iconst (v := 0) hx dX3_takeStep_76 (by decide) ?_
      exact r_iret hE h dX3_takeStep_77
    · have h := ite_f h c23
      refine r_aload_n (k0 := 2) hx dX3_takeStep_57 rfl rfl ?_
      refine r_iload_n (k0 := 3) hx dX3_takeStep_58 rfl rfl ?_
      refine r_iload_n (k0 := 3) hx dX3_takeStep_59 rfl rfl ?_
      refine r_iconst (v := 1) hx dX3_takeStep_60 (by decide) ?_
      refine r_iadd hx dX3_takeStep_61 ?_
      refine r_aload_n (k0 := 1) hx dX3_takeStep_62 rfl rfl ?_
      refine g_104 hx (k_0_2 hKS) wf_X3_29 dX3_takeStep_63 ?_
      obtain ⟨S24, v26, c25, h⟩ := bI_some h
      refine r_Vi (ci := 3) (As := [.int a2, .int (a2 + 1), .ref (x_ad x 0 3 4)]) (rest := []) hx (C_X4_replace (c := x_y x) hKS h_a1 (by decide) c25) (kr_0 hKS h_a1) rfl wl_X3_81 wi_X4_replace we_X4_replace wn_X4 wc_X4_replace dy_X4_replace rfl (by rw [hR]; decide +kernel) rfl (Nat.le_of_ble_eq_true rfl) dX3_takeStep_66 ?_
      refine r_if_eq (tgt := 76) hx dX3_takeStep_69 (by decide) (fun c27 => ?_) (fun c27 => ?_)
      · have h := ite_t h c27
        refine r_iconst (v := 0) hx dX3_takeStep_76 (by decide) ?_
        exact r_iret hE h dX3_takeStep_77
      · have h := ite_f h c27
        refine r_iconst (v := 1) hx dX3_takeStep_72 (by decide) ?_
        refine r_goto (tgt := 77) hx dX3_takeStep_73 (by decide) ?_
        exact r_iret hE h dX3_takeStep_77
def f_X3_takeStep (n : Nat) (S : St) (a1 : Nat) (a2 : Int32) : Option (St × Int32) := zW (g_X3_takeStep n S a1 a2)
set_option maxHeartbeats 4000000 in
theorem C_X3_takeStep {n : Nat} {c : YC} (hKS : ∀ k ∈ KK, k ∈ c.2.2.2.2) {S : St} {a1 : Nat} {a2 : Int32} {out : St × Int32} (h_a1 : a1 < 107) (h : f_X3_takeStep n S a1 a2 = some out) : MI c yX3_takeStep cX3_takeStep 8 (some .boolean) rm_X3_takeStep S [.ref (c.2.2.1 0 2 0), .ref (c.2.2.1 0 3 a1), .int a2] out := mk_Z (own := RX3) (by decide +kernel) rfl (Nat.le_of_ble_eq_true rfl) (zW_some h).2 (fun x hx hR hy hE => by subst hy; exact t_X3_takeStep_0 hx hR hKS hE h_a1 (zW_some h).1)
theorem dX3_reduce_0 : decode cX3_reduce 0 = .ok (.iconst 0, 1) := by decide +kernel
theorem dX3_reduce_1 : decode cX3_reduce 1 = .ok (.istore_n 2, 1) := by decide +kernel
theorem dX3_reduce_2 : decode cX3_reduce 2 = .ok (.iload_n 2, 1) := by decide +kernel
theorem dX3_reduce_3 : decode cX3_reduce 3 = .ok (.bipush 30, 2) := by decide +kernel
theorem dX3_reduce_5 : decode cX3_reduce 5 = .ok (.if_icmp .gt 66, 3) := by decide +kernel
theorem dX3_reduce_8 : decode cX3_reduce 8 = .ok (.aload_n 0, 1) := by decide +kernel
theorem dX3_reduce_9 : decode cX3_reduce 9 = .ok (.aload_n 1, 1) := by decide +kernel
theorem dX3_reduce_10 : decode cX3_reduce 10 = .ok (.invokevirtual 32, 3) := by decide +kernel
theorem dX3_reduce_13 : decode cX3_reduce 13 = .ok (.istore_n 3, 1) := by decide +kernel
theorem dX3_reduce_14 : decode cX3_reduce 14 = .ok (.iload_n 3, 1) := by decide +kernel
theorem dX3_reduce_15 : decode cX3_reduce 15 = .ok (.iconst (-1), 1) := by decide +kernel
theorem dX3_reduce_16 : decode cX3_reduce 16 = .ok (.if_icmp .ne 31, 3) := by decide +kernel
theorem dX3_reduce_19 : decode cX3_reduce 19 = .ok (.aload_n 1, 1) := by decide +kernel
theorem dX3_reduce_20 : decode cX3_reduce 20 = .ok (.getfield 36, 3) := by decide +kernel
theorem dX3_reduce_23 : decode cX3_reduce 23 = .ok (.iconst 1, 1) := by decide +kernel
theorem dX3_reduce_24 : decode cX3_reduce 24 = .ok (.isub, 1) := by decide +kernel
theorem dX3_reduce_25 : decode cX3_reduce 25 = .ok (.istore 4, 2) := by decide +kernel
theorem dX3_reduce_27 : decode cX3_reduce 27 = .ok (.iload 4, 2) := by decide +kernel
theorem dX3_reduce_29 : decode cX3_reduce 29 = .ok (.ifCond .lt 16, 3) := by decide +kernel
theorem dX3_reduce_32 : decode cX3_reduce 32 = .ok (.aload_n 0, 1) := by decide +kernel
theorem dX3_reduce_33 : decode cX3_reduce 33 = .ok (.aload_n 1, 1) := by decide +kernel
theorem dX3_reduce_34 : decode cX3_reduce 34 = .ok (.iload 4, 2) := by decide +kernel
theorem dX3_reduce_36 : decode cX3_reduce 36 = .ok (.invokevirtual 40, 3) := by decide +kernel
theorem dX3_reduce_39 : decode cX3_reduce 39 = .ok (.iinc 4 (-1), 3) := by decide +kernel
theorem dX3_reduce_42 : decode cX3_reduce 42 = .ok (.goto (-15), 3) := by decide +kernel
theorem dX3_reduce_45 : decode cX3_reduce 45 = .ok (.iload_n 2, 1) := by decide +kernel
theorem dX3_reduce_46 : decode cX3_reduce 46 = .ok (.ireturn, 1) := by decide +kernel
theorem dX3_reduce_47 : decode cX3_reduce 47 = .ok (.iload_n 2, 1) := by decide +kernel
theorem dX3_reduce_48 : decode cX3_reduce 48 = .ok (.bipush 30, 2) := by decide +kernel
theorem dX3_reduce_50 : decode cX3_reduce 50 = .ok (.if_icmp .eq 12, 3) := by decide +kernel
theorem dX3_reduce_53 : decode cX3_reduce 53 = .ok (.aload_n 0, 1) := by decide +kernel
theorem dX3_reduce_54 : decode cX3_reduce 54 = .ok (.aload_n 1, 1) := by decide +kernel
theorem dX3_reduce_55 : decode cX3_reduce 55 = .ok (.iload_n 3, 1) := by decide +kernel
theorem dX3_reduce_56 : decode cX3_reduce 56 = .ok (.invokevirtual 44, 3) := by decide +kernel
theorem dX3_reduce_59 : decode cX3_reduce 59 = .ok (.ifCond .ne 6, 3) := by decide +kernel
theorem dX3_reduce_62 : decode cX3_reduce 62 = .ok (.bipush (-6), 2) := by decide +kernel
theorem dX3_reduce_64 : decode cX3_reduce 64 = .ok (.ireturn, 1) := by decide +kernel
theorem dX3_reduce_65 : decode cX3_reduce 65 = .ok (.iinc 2 1, 3) := by decide +kernel
theorem dX3_reduce_68 : decode cX3_reduce 68 = .ok (.goto (-66), 3) := by decide +kernel
theorem dX3_reduce_71 : decode cX3_reduce 71 = .ok (.bipush (-6), 2) := by decide +kernel
theorem dX3_reduce_73 : decode cX3_reduce 73 = .ok (.ireturn, 1) := by decide +kernel
theorem dy_X3_reduce : DY yX3_reduce 1 := by decide +kernel
abbrev rm_X3_reduce : Room := { frames := 4, cells := 0, slots := 0, locals := 175 }
def l_X3_reduce_27 (n : Nat) : Nat → St → Nat → Int32 → Int32 → Option (St × Int32)
  | 0, _, _, _, _ => none
  | m + 1, S, a1, l2, l4 =>
    if l4 < 0 then
      some (S, l2)
    else
      bU (f_X3_shrink n S a1 l4) fun S2 =>
      bV (l4 + (-1)) fun v4 =>
      l_X3_reduce_27 n m S2 a1 l2 v4
def l_X3_reduce_2 (n : Nat) : Nat → St → Nat → Int32 → Option (St × Int32)
  | 0, _, _, _ => none
  | m + 1, S, a1, l2 =>
    if 30 < l2 then
      some (S, (-6))
    else
      bI (f_X3_nextStep n S a1) fun S2 v4 =>
      if v4 = (-1) then
        bV ((S2.1 150 a1) - 1) fun v13 =>
        l_X3_reduce_27 n n S2 a1 l2 v13
      else
        if l2 = 30 then
          some (S2, (-6))
        else
          bI (f_X3_takeStep n S2 a1 v4) fun S7 v9 =>
          if v9 = 0 then
            some (S7, (-6))
          else
            bV (l2 + 1) fun v11 =>
            l_X3_reduce_2 n m S7 a1 v11
def f_X3_reduce (n : Nat) (S : St) (a1 : Nat) : Option (St × Int32) :=
  l_X3_reduce_2 n n S a1 0
set_option maxRecDepth 100000 in
set_option maxHeartbeats 4000000 in
theorem t_X3_reduce_27 {n : Nat} {x : XC} (hx : CX x cX3_reduce 5 RX3) (hR : x_R x = rm_X3_reduce) (hKS : ∀ k ∈ KK, k ∈ x_K x) {out : St × Int32} (hE : EI x cX3_reduce out) : ∀ {m : Nat} {S : St} {a1 : Nat} {l2 : Int32} {l4 : Int32} (h_a1 : a1 < 107) (h : l_X3_reduce_27 n m S a1 l2 l4 = some out), WX x 5 0 0 S 27 [(0, .ref (x_ad x 0 2 0)), (1, .ref (x_ad x 0 3 a1)), (2, .int l2), (4, .int l4)] [] := by
  intro m
  induction m with
  | zero => intro S a1 l2 l4 h_a1 h; cases h
  | succ m ih =>
    intro S a1 l2 l4 h_a1 h
    unfold l_X3_reduce_27 at h
    refine r_iload (k0 := 3) hx dX3_reduce_27 rfl ?_
    refine r_if_lt (tgt := 45) hx dX3_reduce_29 (by decide) (fun c1 => ?_) (fun c1 => ?_)
    · have h := ite_t h c1
      refine r_iload_n (k0 := 2) hx dX3_reduce_45 rfl rfl ?_
      exact r_iret hE h dX3_reduce_46
    · have h := ite_f h c1
      refine r_aload_n (k0 := 0) hx dX3_reduce_32 rfl rfl ?_
      refine r_aload_n (k0 := 1) hx dX3_reduce_33 rfl rfl ?_
      refine r_iload (k0 := 3) hx dX3_reduce_34 rfl ?_
      obtain ⟨S2, c3, h⟩ := bU_some h
      refine r_Vv (ci := 2) (As := [.ref (x_ad x 0 3 a1), .int l4]) (rest := []) hx (C_X3_shrink (c := x_y x) hKS h_a1 c3) (k_0_2 hKS) rfl wl_X3_40 wi_X3_shrink we_X3_shrink wn_X3 wc_X3_shrink dy_X3_shrink rfl (by rw [hR]; decide +kernel) rfl (Nat.le_of_ble_eq_true rfl) dX3_reduce_36 ?_
      obtain ⟨v4, e5, h⟩ := bV_some h
      refine r_iinc (k := 3) (v := v4) (lv' := [(4, .int v4), (0, .ref (x_ad x 0 2 0)), (1, .ref (x_ad x 0 3 a1)), (2, .int l2)]) hx dX3_reduce_39 rfl (by rw [e5]; rfl) (by decide) rfl ?_
      refine r_goto (tgt := 27) hx dX3_reduce_42 (by decide) ?_
      refine WX.sub (lv' := [(0, .ref (x_ad x 0 2 0)), (1, .ref (x_ad x 0 3 a1)), (2, .int l2), (4, .int v4)]) ?_ [1, 2, 3, 0] rfl
      exact ih h_a1 h
set_option maxRecDepth 100000 in
set_option maxHeartbeats 4000000 in
theorem t_X3_reduce_2 {n : Nat} {x : XC} (hx : CX x cX3_reduce 5 RX3) (hR : x_R x = rm_X3_reduce) (hKS : ∀ k ∈ KK, k ∈ x_K x) {out : St × Int32} (hE : EI x cX3_reduce out) : ∀ {m : Nat} {S : St} {a1 : Nat} {l2 : Int32} (h_a1 : a1 < 107) (h : l_X3_reduce_2 n m S a1 l2 = some out), WX x 5 0 0 S 2 [(0, .ref (x_ad x 0 2 0)), (1, .ref (x_ad x 0 3 a1)), (2, .int l2)] [] := by
  intro m
  induction m with
  | zero => intro S a1 l2 h_a1 h; cases h
  | succ m ih =>
    intro S a1 l2 h_a1 h
    unfold l_X3_reduce_2 at h
    refine r_iload_n (k0 := 2) hx dX3_reduce_2 rfl rfl ?_
    refine r_bipush (v := 30) hx dX3_reduce_3 (by decide) ?_
    refine r_icmp_gt (tgt := 71) hx dX3_reduce_5 (by decide) (fun c1 => ?_) (fun c1 => ?_)
    · have h := ite_t h c1
      refine r_bipush (v := -6) hx dX3_reduce_71 (by decide) ?_
      exact r_iret hE h dX3_reduce_73
    · have h := ite_f h c1
      refine r_aload_n (k0 := 0) hx dX3_reduce_8 rfl rfl ?_
      refine r_aload_n (k0 := 1) hx dX3_reduce_9 rfl rfl ?_
      obtain ⟨S2, v4, c3, h⟩ := bI_some h
      refine r_Vi (ci := 2) (As := [.ref (x_ad x 0 3 a1)]) (rest := []) hx (C_X3_nextStep (c := x_y x) hKS h_a1 c3) (k_0_2 hKS) rfl wl_X3_32 wi_X3_nextStep we_X3_nextStep wn_X3 wc_X3_nextStep dy_X3_nextStep rfl (by rw [hR]; decide +kernel) rfl (Nat.le_of_ble_eq_true rfl) dX3_reduce_10 ?_
      refine r_istore_n (lv' := [(3, .int v4), (0, .ref (x_ad x 0 2 0)), (1, .ref (x_ad x 0 3 a1)), (2, .int l2)]) hx dX3_reduce_13 rfl (by decide) rfl ?_
      refine r_iload_n (k0 := 0) hx dX3_reduce_14 rfl rfl ?_
      refine r_iconst (v := -1) hx dX3_reduce_15 (by decide) ?_
      refine r_icmp_ne (tgt := 47) hx dX3_reduce_16 (by decide) (fun c5 => ?_) (fun c5 => ?_)
      · have h := ite_f h c5
        refine r_iload_n (k0 := 3) hx dX3_reduce_47 rfl rfl ?_
        refine r_bipush (v := 30) hx dX3_reduce_48 (by decide) ?_
        refine r_icmp_eq (tgt := 62) hx dX3_reduce_50 (by decide) (fun c6 => ?_) (fun c6 => ?_)
        · have h := ite_t h c6
          refine r_bipush (v := -6) hx dX3_reduce_62 (by decide) ?_
          exact r_iret hE h dX3_reduce_64
        · have h := ite_f h c6
          refine r_aload_n (k0 := 1) hx dX3_reduce_53 rfl rfl ?_
          refine r_aload_n (k0 := 2) hx dX3_reduce_54 rfl rfl ?_
          refine r_iload_n (k0 := 0) hx dX3_reduce_55 rfl rfl ?_
          obtain ⟨S7, v9, c8, h⟩ := bI_some h
          refine r_Vi (ci := 2) (As := [.ref (x_ad x 0 3 a1), .int v4]) (rest := []) hx (C_X3_takeStep (c := x_y x) hKS h_a1 c8) (k_0_2 hKS) rfl wl_X3_44 wi_X3_takeStep we_X3_takeStep wn_X3 wc_X3_takeStep dy_X3_takeStep rfl (by rw [hR]; decide +kernel) rfl (Nat.le_of_ble_eq_true rfl) dX3_reduce_56 ?_
          refine r_if_ne (tgt := 65) hx dX3_reduce_59 (by decide) (fun c10 => ?_) (fun c10 => ?_)
          · have h := ite_f h c10
            obtain ⟨v11, e12, h⟩ := bV_some h
            refine r_iinc (k := 3) (v := v11) (lv' := [(2, .int v11), (3, .int v4), (0, .ref (x_ad x 0 2 0)), (1, .ref (x_ad x 0 3 a1))]) hx dX3_reduce_65 rfl (by rw [e12]; rfl) (by decide) rfl ?_
            refine r_goto (tgt := 2) hx dX3_reduce_68 (by decide) ?_
            refine WX.sub (lv' := [(0, .ref (x_ad x 0 2 0)), (1, .ref (x_ad x 0 3 a1)), (2, .int v11)]) ?_ [2, 3, 0] rfl
            exact ih h_a1 h
          · have h := ite_t h c10
            refine r_bipush (v := -6) hx dX3_reduce_62 (by decide) ?_
            exact r_iret hE h dX3_reduce_64
      · have h := ite_t h c5
        refine r_aload_n (k0 := 2) hx dX3_reduce_19 rfl rfl ?_
        refine g_150 hx (kr_0 hKS h_a1) wf_X3_36 dX3_reduce_20 ?_
        refine r_iconst (v := 1) hx dX3_reduce_23 (by decide) ?_
        refine r_isub hx dX3_reduce_24 ?_
        obtain ⟨v13, e14, h⟩ := bV_some h
        rw [← e14]
        refine r_istore (lv' := [(4, .int v13), (3, .int v4), (0, .ref (x_ad x 0 2 0)), (1, .ref (x_ad x 0 3 a1)), (2, .int l2)]) hx dX3_reduce_25 (by decide) rfl ?_
        refine WX.sub (lv' := [(0, .ref (x_ad x 0 2 0)), (1, .ref (x_ad x 0 3 a1)), (2, .int l2), (4, .int v13)]) ?_ [2, 3, 4, 0] rfl
        exact t_X3_reduce_27 hx hR hKS hE h_a1 h
set_option maxRecDepth 100000 in
set_option maxHeartbeats 4000000 in
theorem t_X3_reduce_0 {n : Nat} {x : XC} (hx : CX x cX3_reduce 5 RX3) (hR : x_R x = rm_X3_reduce) (hKS : ∀ k ∈ KK, k ∈ x_K x) {out : St × Int32} (hE : EI x cX3_reduce out) {S : St} {a1 : Nat} (h_a1 : a1 < 107) (h : f_X3_reduce n S a1 = some out) : WX x 5 0 0 S 0 [(0, .ref (x_ad x 0 2 0)), (1, .ref (x_ad x 0 3 a1))] [] := by
  unfold f_X3_reduce at h
  refine r_iconst (v := 0) hx dX3_reduce_0 (by decide) ?_
  refine r_istore_n (lv' := [(2, .int 0), (0, .ref (x_ad x 0 2 0)), (1, .ref (x_ad x 0 3 a1))]) hx dX3_reduce_1 rfl (by decide) rfl ?_
  refine WX.sub (lv' := [(0, .ref (x_ad x 0 2 0)), (1, .ref (x_ad x 0 3 a1)), (2, .int 0)]) ?_ [1, 2, 0] rfl
  exact t_X3_reduce_2 hx hR hKS hE h_a1 h
set_option maxHeartbeats 4000000 in
theorem C_X3_reduce {n : Nat} {c : YC} (hKS : ∀ k ∈ KK, k ∈ c.2.2.2.2) {S : St} {a1 : Nat} {out : St × Int32} (h_a1 : a1 < 107) (h : f_X3_reduce n S a1 = some out) : MI c yX3_reduce cX3_reduce 5 (some .int) rm_X3_reduce S [.ref (c.2.2.1 0 2 0), .ref (c.2.2.1 0 3 a1)] out := mk_I (own := RX3) (by decide +kernel) rfl (Nat.le_of_ble_eq_true rfl) (fun x hx hR hy hE => by subst hy; exact t_X3_reduce_0 hx hR hKS hE h_a1 h)
