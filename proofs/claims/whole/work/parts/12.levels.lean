theorem dX1_codeOf_0 : decode cX1_codeOf 0 = .ok (.iload_n 1, 1) := by decide +kernel
theorem dX1_codeOf_1 : decode cX1_codeOf 1 = .ok (.ifCond .lt 20, 3) := by decide +kernel
theorem dX1_codeOf_4 : decode cX1_codeOf 4 = .ok (.iload_n 1, 1) := by decide +kernel
theorem dX1_codeOf_5 : decode cX1_codeOf 5 = .ok (.aload_n 0, 1) := by decide +kernel
theorem dX1_codeOf_6 : decode cX1_codeOf 6 = .ok (.getfield 27, 3) := by decide +kernel
theorem dX1_codeOf_9 : decode cX1_codeOf 9 = .ok (.if_icmp .ge 12, 3) := by decide +kernel
theorem dX1_codeOf_12 : decode cX1_codeOf 12 = .ok (.aload_n 0, 1) := by decide +kernel
theorem dX1_codeOf_13 : decode cX1_codeOf 13 = .ok (.getfield 9, 3) := by decide +kernel
theorem dX1_codeOf_16 : decode cX1_codeOf 16 = .ok (.iload_n 1, 1) := by decide +kernel
theorem dX1_codeOf_17 : decode cX1_codeOf 17 = .ok (.laload, 1) := by decide +kernel
theorem dX1_codeOf_18 : decode cX1_codeOf 18 = .ok (.goto 4, 3) := by decide +kernel
theorem dX1_codeOf_21 : decode cX1_codeOf 21 = .ok (.lconst 1, 1) := by decide +kernel
theorem dX1_codeOf_22 : decode cX1_codeOf 22 = .ok (.lreturn, 1) := by decide +kernel
theorem dy_X1_codeOf : DY yX1_codeOf 1 := by decide +kernel
abbrev rm_X1_codeOf : Room := { frames := 0, cells := 0, slots := 0, locals := 0 }
def f_X1_codeOf (n : Nat) (S : St) (a1 : Int32) : Option (St × Int64) :=
  if a1 < 0 then
    some (S, 1)
  else
    if (S.1 0 0) ≤ a1 then
      some (S, 1)
    else
      gL S 1 0 a1 300 fun v3 =>
      some (S, v3)
set_option maxRecDepth 100000 in
set_option maxHeartbeats 4000000 in
theorem t_X1_codeOf_0 {n : Nat} {x : XC} (hx : CX x cX1_codeOf 2 RX1) (hR : x_R x = rm_X1_codeOf) (hKS : ∀ k ∈ KK, k ∈ x_K x) {out : St × Int64} (hE : EL x cX1_codeOf out) {S : St} {a1 : Int32} (h : f_X1_codeOf n S a1 = some out) : WX x 2 0 0 S 0 [(0, .ref (x_ad x 0 0 0)), (1, .int a1)] [] := by
  unfold f_X1_codeOf at h
  refine r_iload_n (k0 := 1) hx dX1_codeOf_0 rfl rfl ?_
  refine r_if_lt (tgt := 21) hx dX1_codeOf_1 (by decide) (fun c1 => ?_) (fun c1 => ?_)
  · have h := ite_t h c1
    refine r_lconst (v := 1) hx dX1_codeOf_21 (by decide) ?_
    exact r_lret hE h dX1_codeOf_22
  · have h := ite_f h c1
    refine r_iload_n (k0 := 1) hx dX1_codeOf_4 rfl rfl ?_
    refine r_aload_n (k0 := 0) hx dX1_codeOf_5 rfl rfl ?_
    refine g_0 hx (k_0_0 hKS) wf_X1_27 dX1_codeOf_6 ?_
    refine r_icmp_ge (tgt := 21) hx dX1_codeOf_9 (by decide) (fun c2 => ?_) (fun c2 => ?_)
    · have h := ite_t h c2
      refine r_lconst (v := 1) hx dX1_codeOf_21 (by decide) ?_
      exact r_lret hE h dX1_codeOf_22
    · have h := ite_f h c2
      refine r_aload_n (k0 := 0) hx dX1_codeOf_12 rfl rfl ?_
      refine g_1 hx (k_0_0 hKS) wf_X1_9 dX1_codeOf_13 ?_
      refine r_iload_n (k0 := 1) hx dX1_codeOf_16 rfl rfl ?_
      obtain ⟨v3, e4, i5, h⟩ := gL_some h
      refine r_lald hx (k_2_1 hKS) rfl i5 e4 dX1_codeOf_17 ?_
      refine r_goto (tgt := 22) hx dX1_codeOf_18 (by decide) ?_
      exact r_lret hE h dX1_codeOf_22
set_option maxHeartbeats 4000000 in
theorem C_X1_codeOf {n : Nat} {c : YC} (hKS : ∀ k ∈ KK, k ∈ c.2.2.2.2) {S : St} {a1 : Int32} {out : St × Int64} (h : f_X1_codeOf n S a1 = some out) : ML c yX1_codeOf cX1_codeOf 2 (some .long) rm_X1_codeOf S [.ref (c.2.2.1 0 0 0), .int a1] out := mk_L (own := RX1) (by decide +kernel) rfl (Nat.le_of_ble_eq_true rfl) (fun x hx hR hy hE => by subst hy; exact t_X1_codeOf_0 hx hR hKS hE h)
theorem dX1_find_0 : decode cX1_find 0 = .ok (.iconst 0, 1) := by decide +kernel
theorem dX1_find_1 : decode cX1_find 1 = .ok (.istore_n 3, 1) := by decide +kernel
theorem dX1_find_2 : decode cX1_find 2 = .ok (.iload_n 3, 1) := by decide +kernel
theorem dX1_find_3 : decode cX1_find 3 = .ok (.aload_n 0, 1) := by decide +kernel
theorem dX1_find_4 : decode cX1_find 4 = .ok (.getfield 27, 3) := by decide +kernel
theorem dX1_find_7 : decode cX1_find 7 = .ok (.if_icmp .ge 22, 3) := by decide +kernel
theorem dX1_find_10 : decode cX1_find 10 = .ok (.aload_n 0, 1) := by decide +kernel
theorem dX1_find_11 : decode cX1_find 11 = .ok (.getfield 9, 3) := by decide +kernel
theorem dX1_find_14 : decode cX1_find 14 = .ok (.iload_n 3, 1) := by decide +kernel
theorem dX1_find_15 : decode cX1_find 15 = .ok (.laload, 1) := by decide +kernel
theorem dX1_find_16 : decode cX1_find 16 = .ok (.lload_n 1, 1) := by decide +kernel
theorem dX1_find_17 : decode cX1_find 17 = .ok (.lcmp, 1) := by decide +kernel
theorem dX1_find_18 : decode cX1_find 18 = .ok (.ifCond .ne 5, 3) := by decide +kernel
theorem dX1_find_21 : decode cX1_find 21 = .ok (.iload_n 3, 1) := by decide +kernel
theorem dX1_find_22 : decode cX1_find 22 = .ok (.ireturn, 1) := by decide +kernel
theorem dX1_find_23 : decode cX1_find 23 = .ok (.iinc 3 1, 3) := by decide +kernel
theorem dX1_find_26 : decode cX1_find 26 = .ok (.goto (-24), 3) := by decide +kernel
theorem dX1_find_29 : decode cX1_find 29 = .ok (.iconst (-1), 1) := by decide +kernel
theorem dX1_find_30 : decode cX1_find 30 = .ok (.ireturn, 1) := by decide +kernel
theorem dy_X1_find : DY yX1_find 1 := by decide +kernel
abbrev rm_X1_find : Room := { frames := 0, cells := 0, slots := 0, locals := 0 }
def l_X1_find_2 (n : Nat) : Nat → St → Int64 → Int32 → Option (St × Int32)
  | 0, _, _, _ => none
  | m + 1, S, l1, l3 =>
    if (S.1 0 0) ≤ l3 then
      some (S, (-1))
    else
      gL S 1 0 l3 300 fun v2 =>
      if (lg_cmp v2 l1) = 0 then
        some (S, l3)
      else
        bV (l3 + 1) fun v6 =>
        l_X1_find_2 n m S l1 v6
def f_X1_find (n : Nat) (S : St) (a1 : Int64) : Option (St × Int32) :=
  l_X1_find_2 n n S a1 0
set_option maxRecDepth 100000 in
set_option maxHeartbeats 4000000 in
theorem t_X1_find_2 {n : Nat} {x : XC} (hx : CX x cX1_find 4 RX1) (hR : x_R x = rm_X1_find) (hKS : ∀ k ∈ KK, k ∈ x_K x) {out : St × Int32} (hE : EI x cX1_find out) : ∀ {m : Nat} {S : St} {l1 : Int64} {l3 : Int32} (h : l_X1_find_2 n m S l1 l3 = some out), WX x 4 0 0 S 2 [(0, .ref (x_ad x 0 0 0)), (1, .long l1), (3, .int l3)] [] := by
  intro m
  induction m with
  | zero => intro S l1 l3 h; cases h
  | succ m ih =>
    intro S l1 l3 h
    unfold l_X1_find_2 at h
    refine r_iload_n (k0 := 2) hx dX1_find_2 rfl rfl ?_
    refine r_aload_n (k0 := 0) hx dX1_find_3 rfl rfl ?_
    refine g_0 hx (k_0_0 hKS) wf_X1_27 dX1_find_4 ?_
    refine r_icmp_ge (tgt := 29) hx dX1_find_7 (by decide) (fun c1 => ?_) (fun c1 => ?_)
    · have h := ite_t h c1
      refine r_iconst (v := -1) hx dX1_find_29 (by decide) ?_
      exact r_iret hE h dX1_find_30
    · have h := ite_f h c1
      refine r_aload_n (k0 := 0) hx dX1_find_10 rfl rfl ?_
      refine g_1 hx (k_0_0 hKS) wf_X1_9 dX1_find_11 ?_
      refine r_iload_n (k0 := 2) hx dX1_find_14 rfl rfl ?_
      obtain ⟨v2, e3, i4, h⟩ := gL_some h
      refine r_lald hx (k_2_1 hKS) rfl i4 e3 dX1_find_15 ?_
      refine r_lload_n (k0 := 1) hx dX1_find_16 rfl rfl ?_
      refine r_lcmp hx dX1_find_17 ?_
      refine r_if_ne (tgt := 23) hx dX1_find_18 (by decide) (fun c5 => ?_) (fun c5 => ?_)
      · have h := ite_f h c5
        obtain ⟨v6, e7, h⟩ := bV_some h
        refine r_iinc (k := 2) (v := v6) (lv' := [(3, .int v6), (0, .ref (x_ad x 0 0 0)), (1, .long l1)]) hx dX1_find_23 rfl (by rw [e7]; rfl) (by decide) rfl ?_
        refine r_goto (tgt := 2) hx dX1_find_26 (by decide) ?_
        refine WX.sub (lv' := [(0, .ref (x_ad x 0 0 0)), (1, .long l1), (3, .int v6)]) ?_ [1, 2, 0] rfl
        exact ih  h
      · have h := ite_t h c5
        refine r_iload_n (k0 := 2) hx dX1_find_21 rfl rfl ?_
        exact r_iret hE h dX1_find_22
set_option maxRecDepth 100000 in
set_option maxHeartbeats 4000000 in
theorem t_X1_find_0 {n : Nat} {x : XC} (hx : CX x cX1_find 4 RX1) (hR : x_R x = rm_X1_find) (hKS : ∀ k ∈ KK, k ∈ x_K x) {out : St × Int32} (hE : EI x cX1_find out) {S : St} {a1 : Int64} (h : f_X1_find n S a1 = some out) : WX x 4 0 0 S 0 [(0, .ref (x_ad x 0 0 0)), (1, .long a1)] [] := by
  unfold f_X1_find at h
  refine r_iconst (v := 0) hx dX1_find_0 (by decide) ?_
  refine r_istore_n (lv' := [(3, .int 0), (0, .ref (x_ad x 0 0 0)), (1, .long a1)]) hx dX1_find_1 rfl (by decide) rfl ?_
  refine WX.sub (lv' := [(0, .ref (x_ad x 0 0 0)), (1, .long a1), (3, .int 0)]) ?_ [1, 2, 0] rfl
  exact t_X1_find_2 hx hR hKS hE h
set_option maxHeartbeats 4000000 in
theorem C_X1_find {n : Nat} {c : YC} (hKS : ∀ k ∈ KK, k ∈ c.2.2.2.2) {S : St} {a1 : Int64} {out : St × Int32} (h : f_X1_find n S a1 = some out) : MI c yX1_find cX1_find 4 (some .int) rm_X1_find S [.ref (c.2.2.1 0 0 0), .long a1] out := mk_I (own := RX1) (by decide +kernel) rfl (Nat.le_of_ble_eq_true rfl) (fun x hx hR hy hE => by subst hy; exact t_X1_find_0 hx hR hKS hE h)
theorem dX1_worth_0 : decode cX1_worth 0 = .ok (.iconst 0, 1) := by decide +kernel
theorem dX1_worth_1 : decode cX1_worth 1 = .ok (.istore 6, 2) := by decide +kernel
theorem dX1_worth_3 : decode cX1_worth 3 = .ok (.aload_n 0, 1) := by decide +kernel
theorem dX1_worth_4 : decode cX1_worth 4 = .ok (.getfield 22, 3) := by decide +kernel
theorem dX1_worth_7 : decode cX1_worth 7 = .ok (.iconst 0, 1) := by decide +kernel
theorem dX1_worth_8 : decode cX1_worth 8 = .ok (.iconst 0, 1) := by decide +kernel
theorem dX1_worth_9 : decode cX1_worth 9 = .ok (.iastore, 1) := by decide +kernel
theorem dX1_worth_10 : decode cX1_worth 10 = .ok (.bipush 15, 2) := by decide +kernel
theorem dX1_worth_12 : decode cX1_worth 12 = .ok (.istore 7, 2) := by decide +kernel
theorem dX1_worth_14 : decode cX1_worth 14 = .ok (.iload 7, 2) := by decide +kernel
theorem dX1_worth_16 : decode cX1_worth 16 = .ok (.ifCond .lt 196, 3) := by decide +kernel
theorem dX1_worth_19 : decode cX1_worth 19 = .ok (.lload_n 1, 1) := by decide +kernel
theorem dX1_worth_20 : decode cX1_worth 20 = .ok (.iconst 3, 1) := by decide +kernel
theorem dX1_worth_21 : decode cX1_worth 21 = .ok (.iload 7, 2) := by decide +kernel
theorem dX1_worth_23 : decode cX1_worth 23 = .ok (.imul, 1) := by decide +kernel
theorem dX1_worth_24 : decode cX1_worth 24 = .ok (.lushr, 1) := by decide +kernel
theorem dX1_worth_25 : decode cX1_worth 25 = .ok (.ldc2_w 59, 3) := by decide +kernel
theorem dX1_worth_28 : decode cX1_worth 28 = .ok (.land, 1) := by decide +kernel
theorem dX1_worth_29 : decode cX1_worth 29 = .ok (.l2i, 1) := by decide +kernel
theorem dX1_worth_30 : decode cX1_worth 30 = .ok (.iconst 1, 1) := by decide +kernel
theorem dX1_worth_31 : decode cX1_worth 31 = .ok (.isub, 1) := by decide +kernel
theorem dX1_worth_32 : decode cX1_worth 32 = .ok (.istore 8, 2) := by decide +kernel
theorem dX1_worth_34 : decode cX1_worth 34 = .ok (.iload 8, 2) := by decide +kernel
theorem dX1_worth_36 : decode cX1_worth 36 = .ok (.iconst 1, 1) := by decide +kernel
theorem dX1_worth_37 : decode cX1_worth 37 = .ok (.if_icmp .ne 24, 3) := by decide +kernel
theorem dX1_worth_40 : decode cX1_worth 40 = .ok (.iload 6, 2) := by decide +kernel
theorem dX1_worth_42 : decode cX1_worth 42 = .ok (.ifCond .le 19, 3) := by decide +kernel
theorem dX1_worth_45 : decode cX1_worth 45 = .ok (.aload_n 0, 1) := by decide +kernel
theorem dX1_worth_46 : decode cX1_worth 46 = .ok (.getfield 22, 3) := by decide +kernel
theorem dX1_worth_49 : decode cX1_worth 49 = .ok (.iload 6, 2) := by decide +kernel
theorem dX1_worth_51 : decode cX1_worth 51 = .ok (.iconst 1, 1) := by decide +kernel
theorem dX1_worth_52 : decode cX1_worth 52 = .ok (.isub, 1) := by decide +kernel
theorem dX1_worth_53 : decode cX1_worth 53 = .ok (.dup2, 1) := by decide +kernel
theorem dX1_worth_54 : decode cX1_worth 54 = .ok (.iaload, 1) := by decide +kernel
theorem dX1_worth_55 : decode cX1_worth 55 = .ok (.iconst 1, 1) := by decide +kernel
theorem dX1_worth_56 : decode cX1_worth 56 = .ok (.iadd, 1) := by decide +kernel
theorem dX1_worth_57 : decode cX1_worth 57 = .ok (.iastore, 1) := by decide +kernel
theorem dX1_worth_58 : decode cX1_worth 58 = .ok (.goto 148, 3) := by decide +kernel
theorem dX1_worth_61 : decode cX1_worth 61 = .ok (.iload 8, 2) := by decide +kernel
theorem dX1_worth_63 : decode cX1_worth 63 = .ok (.iconst 2, 1) := by decide +kernel
theorem dX1_worth_64 : decode cX1_worth 64 = .ok (.if_icmp .eq 9, 3) := by decide +kernel
theorem dX1_worth_67 : decode cX1_worth 67 = .ok (.iload 8, 2) := by decide +kernel
theorem dX1_worth_69 : decode cX1_worth 69 = .ok (.iconst 3, 1) := by decide +kernel
theorem dX1_worth_70 : decode cX1_worth 70 = .ok (.if_icmp .ne 68, 3) := by decide +kernel
theorem dX1_worth_73 : decode cX1_worth 73 = .ok (.iload 6, 2) := by decide +kernel
theorem dX1_worth_75 : decode cX1_worth 75 = .ok (.iconst 1, 1) := by decide +kernel
theorem dX1_worth_76 : decode cX1_worth 76 = .ok (.if_icmp .le 62, 3) := by decide +kernel
theorem dX1_worth_79 : decode cX1_worth 79 = .ok (.aload_n 0, 1) := by decide +kernel
theorem dX1_worth_80 : decode cX1_worth 80 = .ok (.getfield 22, 3) := by decide +kernel
theorem dX1_worth_83 : decode cX1_worth 83 = .ok (.iload 6, 2) := by decide +kernel
theorem dX1_worth_85 : decode cX1_worth 85 = .ok (.iconst 1, 1) := by decide +kernel
theorem dX1_worth_86 : decode cX1_worth 86 = .ok (.isub, 1) := by decide +kernel
theorem dX1_worth_87 : decode cX1_worth 87 = .ok (.iaload, 1) := by decide +kernel
theorem dX1_worth_88 : decode cX1_worth 88 = .ok (.istore 9, 2) := by decide +kernel
theorem dX1_worth_90 : decode cX1_worth 90 = .ok (.aload_n 0, 1) := by decide +kernel
theorem dX1_worth_91 : decode cX1_worth 91 = .ok (.getfield 22, 3) := by decide +kernel
theorem dX1_worth_94 : decode cX1_worth 94 = .ok (.iload 6, 2) := by decide +kernel
theorem dX1_worth_96 : decode cX1_worth 96 = .ok (.iconst 2, 1) := by decide +kernel
theorem dX1_worth_97 : decode cX1_worth 97 = .ok (.isub, 1) := by decide +kernel
theorem dX1_worth_98 : decode cX1_worth 98 = .ok (.iaload, 1) := by decide +kernel
theorem dX1_worth_99 : decode cX1_worth 99 = .ok (.istore 10, 2) := by decide +kernel
theorem dX1_worth_101 : decode cX1_worth 101 = .ok (.aload_n 0, 1) := by decide +kernel
theorem dX1_worth_102 : decode cX1_worth 102 = .ok (.getfield 22, 3) := by decide +kernel
theorem dX1_worth_105 : decode cX1_worth 105 = .ok (.iload 6, 2) := by decide +kernel
theorem dX1_worth_107 : decode cX1_worth 107 = .ok (.iconst 2, 1) := by decide +kernel
theorem dX1_worth_108 : decode cX1_worth 108 = .ok (.isub, 1) := by decide +kernel
theorem dX1_worth_109 : decode cX1_worth 109 = .ok (.iload 8, 2) := by decide +kernel
theorem dX1_worth_111 : decode cX1_worth 111 = .ok (.iconst 3, 1) := by decide +kernel
theorem dX1_worth_112 : decode cX1_worth 112 = .ok (.if_icmp .ne 12, 3) := by decide +kernel
theorem dX1_worth_115 : decode cX1_worth 115 = .ok (.iload 10, 2) := by decide +kernel
theorem dX1_worth_117 : decode cX1_worth 117 = .ok (.ifCond .ne 7, 3) := by decide +kernel
theorem dX1_worth_120 : decode cX1_worth 120 = .ok (.iconst 0, 1) := by decide +kernel
theorem dX1_worth_121 : decode cX1_worth 121 = .ok (.goto 10, 3) := by decide +kernel
theorem dX1_worth_124 : decode cX1_worth 124 = .ok (.iload 9, 2) := by decide +kernel
theorem dX1_worth_126 : decode cX1_worth 126 = .ok (.iload 10, 2) := by decide +kernel
theorem dX1_worth_128 : decode cX1_worth 128 = .ok (.invokestatic 61, 3) := by decide +kernel
theorem dX1_worth_131 : decode cX1_worth 131 = .ok (.iastore, 1) := by decide +kernel
theorem dX1_worth_132 : decode cX1_worth 132 = .ok (.iinc 6 (-1), 3) := by decide +kernel
theorem dX1_worth_135 : decode cX1_worth 135 = .ok (.goto 71, 3) := by decide +kernel
theorem dX1_worth_138 : decode cX1_worth 138 = .ok (.iload 8, 2) := by decide +kernel
theorem dX1_worth_140 : decode cX1_worth 140 = .ok (.ifCond .eq 9, 3) := by decide +kernel
theorem dX1_worth_143 : decode cX1_worth 143 = .ok (.iload 8, 2) := by decide +kernel
theorem dX1_worth_145 : decode cX1_worth 145 = .ok (.iconst 4, 1) := by decide +kernel
theorem dX1_worth_146 : decode cX1_worth 146 = .ok (.if_icmp .lt 60, 3) := by decide +kernel
theorem dX1_worth_149 : decode cX1_worth 149 = .ok (.iload 6, 2) := by decide +kernel
theorem dX1_worth_151 : decode cX1_worth 151 = .ok (.aload_n 0, 1) := by decide +kernel
theorem dX1_worth_152 : decode cX1_worth 152 = .ok (.getfield 22, 3) := by decide +kernel
theorem dX1_worth_155 : decode cX1_worth 155 = .ok (.arraylength, 1) := by decide +kernel
theorem dX1_worth_156 : decode cX1_worth 156 = .ok (.if_icmp .ge 50, 3) := by decide +kernel
theorem dX1_worth_159 : decode cX1_worth 159 = .ok (.iload 8, 2) := by decide +kernel
theorem dX1_worth_161 : decode cX1_worth 161 = .ok (.iconst 4, 1) := by decide +kernel
theorem dX1_worth_162 : decode cX1_worth 162 = .ok (.isub, 1) := by decide +kernel
theorem dX1_worth_163 : decode cX1_worth 163 = .ok (.istore 9, 2) := by decide +kernel
theorem dX1_worth_165 : decode cX1_worth 165 = .ok (.aload_n 0, 1) := by decide +kernel
theorem dX1_worth_166 : decode cX1_worth 166 = .ok (.getfield 22, 3) := by decide +kernel
theorem dX1_worth_169 : decode cX1_worth 169 = .ok (.iload 6, 2) := by decide +kernel
theorem dX1_worth_171 : decode cX1_worth 171 = .ok (.iload 8, 2) := by decide +kernel
theorem dX1_worth_173 : decode cX1_worth 173 = .ok (.ifCond .ne 7, 3) := by decide +kernel
theorem dX1_worth_176 : decode cX1_worth 176 = .ok (.iconst 0, 1) := by decide +kernel
theorem dX1_worth_177 : decode cX1_worth 177 = .ok (.goto 25, 3) := by decide +kernel
theorem dX1_worth_180 : decode cX1_worth 180 = .ok (.iload 9, 2) := by decide +kernel
theorem dX1_worth_182 : decode cX1_worth 182 = .ok (.ifCond .ne 7, 3) := by decide +kernel
theorem dX1_worth_185 : decode cX1_worth 185 = .ok (.iload_n 3, 1) := by decide +kernel
theorem dX1_worth_186 : decode cX1_worth 186 = .ok (.goto 16, 3) := by decide +kernel
theorem dX1_worth_189 : decode cX1_worth 189 = .ok (.iload 9, 2) := by decide +kernel
theorem dX1_worth_191 : decode cX1_worth 191 = .ok (.iconst 1, 1) := by decide +kernel
theorem dX1_worth_192 : decode cX1_worth 192 = .ok (.if_icmp .ne 8, 3) := by decide +kernel
theorem dX1_worth_195 : decode cX1_worth 195 = .ok (.iload 4, 2) := by decide +kernel
theorem dX1_worth_197 : decode cX1_worth 197 = .ok (.goto 5, 3) := by decide +kernel
theorem dX1_worth_200 : decode cX1_worth 200 = .ok (.iload 5, 2) := by decide +kernel
theorem dX1_worth_202 : decode cX1_worth 202 = .ok (.iastore, 1) := by decide +kernel
theorem dX1_worth_203 : decode cX1_worth 203 = .ok (.iinc 6 1, 3) := by decide +kernel
theorem dX1_worth_206 : decode cX1_worth 206 = .ok (.iinc 7 (-1), 3) := by decide +kernel
theorem dX1_worth_209 : decode cX1_worth 209 = .ok (.goto (-195), 3) := by decide +kernel
theorem dX1_worth_212 : decode cX1_worth 212 = .ok (.aload_n 0, 1) := by decide +kernel
theorem dX1_worth_213 : decode cX1_worth 213 = .ok (.getfield 22, 3) := by decide +kernel
theorem dX1_worth_216 : decode cX1_worth 216 = .ok (.iconst 0, 1) := by decide +kernel
theorem dX1_worth_217 : decode cX1_worth 217 = .ok (.iaload, 1) := by decide +kernel
theorem dX1_worth_218 : decode cX1_worth 218 = .ok (.ireturn, 1) := by decide +kernel
theorem dy_X1_worth : DY yX1_worth 4 := by decide +kernel
abbrev rm_X1_worth : Room := { frames := 1, cells := 0, slots := 0, locals := 30 }
def j_X1_worth_206 (n : Nat) (K14 : St → Int64 → Int32 → Int32 → Int32 → Int32 → Int32 → Option (St × Int32)) (S : St) (l1 : Int64) (l3 : Int32) (l4 : Int32) (l5 : Int32) (l6 : Int32) (l7 : Int32) : Option (St × Int32) :=
  bV (l7 + (-1)) fun v1 =>
  K14 S l1 l3 l4 l5 l6 v1
def j_X1_worth_131 (n : Nat) (K14 : St → Int64 → Int32 → Int32 → Int32 → Int32 → Int32 → Option (St × Int32)) (S : St) (l1 : Int64) (l3 : Int32) (l4 : Int32) (l5 : Int32) (l6 : Int32) (l7 : Int32) (s0 : Int32) (s1 : Int32) : Option (St × Int32) :=
  pI S 4 0 s1 16 s0 fun S1 =>
  bV (l6 + (-1)) fun v4 =>
  j_X1_worth_206 n K14 S1 l1 l3 l4 l5 v4 l7
def j_X1_worth_124 (n : Nat) (K14 : St → Int64 → Int32 → Int32 → Int32 → Int32 → Int32 → Option (St × Int32)) (S : St) (l1 : Int64) (l3 : Int32) (l4 : Int32) (l5 : Int32) (l6 : Int32) (l7 : Int32) (l9 : Int32) (l10 : Int32) (s0 : Int32) : Option (St × Int32) :=
  bV (if l9 < l10 then l10 else l9) fun v1 =>
  j_X1_worth_131 n K14 S l1 l3 l4 l5 l6 l7 v1 s0
def j_X1_worth_202 (n : Nat) (K14 : St → Int64 → Int32 → Int32 → Int32 → Int32 → Int32 → Option (St × Int32)) (S : St) (l1 : Int64) (l3 : Int32) (l4 : Int32) (l5 : Int32) (l6 : Int32) (l7 : Int32) (s0 : Int32) (s1 : Int32) : Option (St × Int32) :=
  pI S 4 0 s1 16 s0 fun S1 =>
  bV (l6 + 1) fun v4 =>
  j_X1_worth_206 n K14 S1 l1 l3 l4 l5 v4 l7
def j_X1_worth_149 (n : Nat) (K14 : St → Int64 → Int32 → Int32 → Int32 → Int32 → Int32 → Option (St × Int32)) (S : St) (l1 : Int64) (l3 : Int32) (l4 : Int32) (l5 : Int32) (l6 : Int32) (l7 : Int32) (l8 : Int32) : Option (St × Int32) :=
  if 16 ≤ l6 then
    j_X1_worth_206 n K14 S l1 l3 l4 l5 l6 l7
  else
    bV (l8 - 4) fun v2 =>
    if l8 = 0 then
      j_X1_worth_202 n K14 S l1 l3 l4 l5 l6 l7 0 l6
    else
      if v2 = 0 then
        j_X1_worth_202 n K14 S l1 l3 l4 l5 l6 l7 l3 l6
      else
        if v2 = 1 then
          j_X1_worth_202 n K14 S l1 l3 l4 l5 l6 l7 l4 l6
        else
          j_X1_worth_202 n K14 S l1 l3 l4 l5 l6 l7 l5 l6
def j_X1_worth_138 (n : Nat) (K14 : St → Int64 → Int32 → Int32 → Int32 → Int32 → Int32 → Option (St × Int32)) (S : St) (l1 : Int64) (l3 : Int32) (l4 : Int32) (l5 : Int32) (l6 : Int32) (l7 : Int32) (l8 : Int32) : Option (St × Int32) :=
  if l8 = 0 then
    j_X1_worth_149 n K14 S l1 l3 l4 l5 l6 l7 l8
  else
    if l8 < 4 then
      j_X1_worth_206 n K14 S l1 l3 l4 l5 l6 l7
    else
      j_X1_worth_149 n K14 S l1 l3 l4 l5 l6 l7 l8
def j_X1_worth_73 (n : Nat) (K14 : St → Int64 → Int32 → Int32 → Int32 → Int32 → Int32 → Option (St × Int32)) (S : St) (l1 : Int64) (l3 : Int32) (l4 : Int32) (l5 : Int32) (l6 : Int32) (l7 : Int32) (l8 : Int32) : Option (St × Int32) :=
  if l6 ≤ 1 then
    j_X1_worth_138 n K14 S l1 l3 l4 l5 l6 l7 l8
  else
    gI S 4 0 (l6 - 1) 16 fun v2 =>
    gI S 4 0 (l6 - 2) 16 fun v5 =>
    if l8 = 3 then
      if v5 = 0 then
        j_X1_worth_131 n K14 S l1 l3 l4 l5 l6 l7 0 (l6 - 2)
      else
        j_X1_worth_124 n K14 S l1 l3 l4 l5 l6 l7 v2 v5 (l6 - 2)
    else
      j_X1_worth_124 n K14 S l1 l3 l4 l5 l6 l7 v2 v5 (l6 - 2)
def j_X1_worth_61 (n : Nat) (K14 : St → Int64 → Int32 → Int32 → Int32 → Int32 → Int32 → Option (St × Int32)) (S : St) (l1 : Int64) (l3 : Int32) (l4 : Int32) (l5 : Int32) (l6 : Int32) (l7 : Int32) (l8 : Int32) : Option (St × Int32) :=
  if l8 = 2 then
    j_X1_worth_73 n K14 S l1 l3 l4 l5 l6 l7 l8
  else
    if l8 = 3 then
      j_X1_worth_73 n K14 S l1 l3 l4 l5 l6 l7 l8
    else
      j_X1_worth_138 n K14 S l1 l3 l4 l5 l6 l7 l8
def l_X1_worth_14 (n : Nat) : Nat → St → Int64 → Int32 → Int32 → Int32 → Int32 → Int32 → Option (St × Int32)
  | 0, _, _, _, _, _, _, _ => none
  | m + 1, S, l1, l3, l4, l5, l6, l7 =>
    if l7 < 0 then
      gI S 4 0 0 16 fun v2 =>
      some (S, v2)
    else
      bV ((((l_ushr l1 (3 * l7)) &&& 7) : Int64).toInt32 - 1) fun v5 =>
      if v5 = 1 then
        if l6 ≤ 0 then
          j_X1_worth_61 n (fun S l1 l3 l4 l5 l6 l7 => l_X1_worth_14 n m S l1 l3 l4 l5 l6 l7) S l1 l3 l4 l5 l6 l7 v5
        else
          gI S 4 0 (l6 - 1) 16 fun v9 =>
          pI S 4 0 (l6 - 1) 16 (v9 + 1) fun S12 =>
          j_X1_worth_206 n (fun S l1 l3 l4 l5 l6 l7 => l_X1_worth_14 n m S l1 l3 l4 l5 l6 l7) S12 l1 l3 l4 l5 l6 l7
      else
        j_X1_worth_61 n (fun S l1 l3 l4 l5 l6 l7 => l_X1_worth_14 n m S l1 l3 l4 l5 l6 l7) S l1 l3 l4 l5 l6 l7 v5
def f_X1_worth (n : Nat) (S : St) (a1 : Int64) (a2 : Int32) (a3 : Int32) (a4 : Int32) : Option (St × Int32) :=
  pI S 4 0 0 16 0 fun S1 =>
  l_X1_worth_14 n n S1 a1 a2 a3 a4 0 15
set_option maxRecDepth 100000 in
set_option maxHeartbeats 4000000 in
theorem t_X1_worth_206 {n : Nat} {K14 : St → Int64 → Int32 → Int32 → Int32 → Int32 → Int32 → Option (St × Int32)} {x : XC} (hx : CX x cX1_worth 11 RX1) (hR : x_R x = rm_X1_worth) (hKS : ∀ k ∈ KK, k ∈ x_K x) {out : St × Int32} (hE : EI x cX1_worth out) (hK14 : ∀ {S : St} {l1 : Int64} {l3 : Int32} {l4 : Int32} {l5 : Int32} {l6 : Int32} {l7 : Int32}, K14 S l1 l3 l4 l5 l6 l7 = some out → WX x 11 0 0 S 14 [(0, .ref (x_ad x 0 0 0)), (1, .long l1), (3, .int l3), (4, .int l4), (5, .int l5), (6, .int l6), (7, .int l7)] []) {S : St} {l1 : Int64} {l3 : Int32} {l4 : Int32} {l5 : Int32} {l6 : Int32} {l7 : Int32} (h : j_X1_worth_206 n K14 S l1 l3 l4 l5 l6 l7 = some out) : WX x 11 0 0 S 206 [(0, .ref (x_ad x 0 0 0)), (1, .long l1), (3, .int l3), (4, .int l4), (5, .int l5), (6, .int l6), (7, .int l7)] [] := by
  unfold j_X1_worth_206 at h
  obtain ⟨v1, e2, h⟩ := bV_some h
  refine r_iinc (k := 6) (v := v1) (lv' := [(7, .int v1), (0, .ref (x_ad x 0 0 0)), (1, .long l1), (3, .int l3), (4, .int l4), (5, .int l5), (6, .int l6)]) hx dX1_worth_206 rfl (by rw [e2]; rfl) (by decide) rfl ?_
  refine r_goto (tgt := 14) hx dX1_worth_209 (by decide) ?_
  refine WX.sub (lv' := [(0, .ref (x_ad x 0 0 0)), (1, .long l1), (3, .int l3), (4, .int l4), (5, .int l5), (6, .int l6), (7, .int v1)]) ?_ [1, 2, 3, 4, 5, 6, 0] rfl
  exact hK14  h
set_option maxRecDepth 100000 in
set_option maxHeartbeats 4000000 in
theorem t_X1_worth_131 {n : Nat} {K14 : St → Int64 → Int32 → Int32 → Int32 → Int32 → Int32 → Option (St × Int32)} {x : XC} (hx : CX x cX1_worth 11 RX1) (hR : x_R x = rm_X1_worth) (hKS : ∀ k ∈ KK, k ∈ x_K x) {out : St × Int32} (hE : EI x cX1_worth out) (hK14 : ∀ {S : St} {l1 : Int64} {l3 : Int32} {l4 : Int32} {l5 : Int32} {l6 : Int32} {l7 : Int32}, K14 S l1 l3 l4 l5 l6 l7 = some out → WX x 11 0 0 S 14 [(0, .ref (x_ad x 0 0 0)), (1, .long l1), (3, .int l3), (4, .int l4), (5, .int l5), (6, .int l6), (7, .int l7)] []) {S : St} {l1 : Int64} {l3 : Int32} {l4 : Int32} {l5 : Int32} {l6 : Int32} {l7 : Int32} {s0 : Int32} {s1 : Int32} (h : j_X1_worth_131 n K14 S l1 l3 l4 l5 l6 l7 s0 s1 = some out) : WX x 11 0 0 S 131 [(0, .ref (x_ad x 0 0 0)), (1, .long l1), (3, .int l3), (4, .int l4), (5, .int l5), (6, .int l6), (7, .int l7)] [.int s0, .int s1, .ref (x_ad x 1 4 0)] := by
  unfold j_X1_worth_131 at h
  obtain ⟨S1, e2, i3, h⟩ := pI_some h
  refine r_iast hx (k_1_4 hKS) rfl i3 e2 dX1_worth_131 ?_
  obtain ⟨v4, e5, h⟩ := bV_some h
  refine r_iinc (k := 5) (v := v4) (lv' := [(6, .int v4), (0, .ref (x_ad x 0 0 0)), (1, .long l1), (3, .int l3), (4, .int l4), (5, .int l5), (7, .int l7)]) hx dX1_worth_132 rfl (by rw [e5]; rfl) (by decide) rfl ?_
  refine r_goto (tgt := 206) hx dX1_worth_135 (by decide) ?_
  refine WX.sub (lv' := [(0, .ref (x_ad x 0 0 0)), (1, .long l1), (3, .int l3), (4, .int l4), (5, .int l5), (6, .int v4), (7, .int l7)]) ?_ [1, 2, 3, 4, 5, 0, 6] rfl
  exact t_X1_worth_206 hx hR hKS hE hK14 h
set_option maxRecDepth 100000 in
set_option maxHeartbeats 4000000 in
theorem t_X1_worth_124 {n : Nat} {K14 : St → Int64 → Int32 → Int32 → Int32 → Int32 → Int32 → Option (St × Int32)} {x : XC} (hx : CX x cX1_worth 11 RX1) (hR : x_R x = rm_X1_worth) (hKS : ∀ k ∈ KK, k ∈ x_K x) {out : St × Int32} (hE : EI x cX1_worth out) (hK14 : ∀ {S : St} {l1 : Int64} {l3 : Int32} {l4 : Int32} {l5 : Int32} {l6 : Int32} {l7 : Int32}, K14 S l1 l3 l4 l5 l6 l7 = some out → WX x 11 0 0 S 14 [(0, .ref (x_ad x 0 0 0)), (1, .long l1), (3, .int l3), (4, .int l4), (5, .int l5), (6, .int l6), (7, .int l7)] []) {S : St} {l1 : Int64} {l3 : Int32} {l4 : Int32} {l5 : Int32} {l6 : Int32} {l7 : Int32} {l9 : Int32} {l10 : Int32} {s0 : Int32} (h : j_X1_worth_124 n K14 S l1 l3 l4 l5 l6 l7 l9 l10 s0 = some out) : WX x 11 0 0 S 124 [(0, .ref (x_ad x 0 0 0)), (1, .long l1), (3, .int l3), (4, .int l4), (5, .int l5), (6, .int l6), (7, .int l7), (9, .int l9), (10, .int l10)] [.int s0, .ref (x_ad x 1 4 0)] := by
  unfold j_X1_worth_124 at h
  refine r_iload (k0 := 7) hx dX1_worth_124 rfl ?_
  refine r_iload (k0 := 8) hx dX1_worth_126 rfl ?_
  obtain ⟨v1, e2, h⟩ := bV_some h
  refine r_max hx wl_X1_61 (by rw [hR]; decide +kernel) (by rw [hR]; exact Nat.le_of_ble_eq_true rfl) (Nat.zero_le _) (Nat.zero_le _) dX1_worth_128 ?_
  rw [← e2]
  refine WX.sub (lv' := [(0, .ref (x_ad x 0 0 0)), (1, .long l1), (3, .int l3), (4, .int l4), (5, .int l5), (6, .int l6), (7, .int l7)]) ?_ [0, 1, 2, 3, 4, 5, 6] rfl
  exact t_X1_worth_131 hx hR hKS hE hK14 h
set_option maxRecDepth 100000 in
set_option maxHeartbeats 4000000 in
theorem t_X1_worth_202 {n : Nat} {K14 : St → Int64 → Int32 → Int32 → Int32 → Int32 → Int32 → Option (St × Int32)} {x : XC} (hx : CX x cX1_worth 11 RX1) (hR : x_R x = rm_X1_worth) (hKS : ∀ k ∈ KK, k ∈ x_K x) {out : St × Int32} (hE : EI x cX1_worth out) (hK14 : ∀ {S : St} {l1 : Int64} {l3 : Int32} {l4 : Int32} {l5 : Int32} {l6 : Int32} {l7 : Int32}, K14 S l1 l3 l4 l5 l6 l7 = some out → WX x 11 0 0 S 14 [(0, .ref (x_ad x 0 0 0)), (1, .long l1), (3, .int l3), (4, .int l4), (5, .int l5), (6, .int l6), (7, .int l7)] []) {S : St} {l1 : Int64} {l3 : Int32} {l4 : Int32} {l5 : Int32} {l6 : Int32} {l7 : Int32} {s0 : Int32} {s1 : Int32} (h : j_X1_worth_202 n K14 S l1 l3 l4 l5 l6 l7 s0 s1 = some out) : WX x 11 0 0 S 202 [(0, .ref (x_ad x 0 0 0)), (1, .long l1), (3, .int l3), (4, .int l4), (5, .int l5), (6, .int l6), (7, .int l7)] [.int s0, .int s1, .ref (x_ad x 1 4 0)] := by
  unfold j_X1_worth_202 at h
  obtain ⟨S1, e2, i3, h⟩ := pI_some h
  refine r_iast hx (k_1_4 hKS) rfl i3 e2 dX1_worth_202 ?_
  obtain ⟨v4, e5, h⟩ := bV_some h
  refine r_iinc (k := 5) (v := v4) (lv' := [(6, .int v4), (0, .ref (x_ad x 0 0 0)), (1, .long l1), (3, .int l3), (4, .int l4), (5, .int l5), (7, .int l7)]) hx dX1_worth_203 rfl (by rw [e5]; rfl) (by decide) rfl ?_
  refine WX.sub (lv' := [(0, .ref (x_ad x 0 0 0)), (1, .long l1), (3, .int l3), (4, .int l4), (5, .int l5), (6, .int v4), (7, .int l7)]) ?_ [1, 2, 3, 4, 5, 0, 6] rfl
  exact t_X1_worth_206 hx hR hKS hE hK14 h
set_option maxRecDepth 100000 in
set_option maxHeartbeats 4000000 in
theorem t_X1_worth_149 {n : Nat} {K14 : St → Int64 → Int32 → Int32 → Int32 → Int32 → Int32 → Option (St × Int32)} {x : XC} (hx : CX x cX1_worth 11 RX1) (hR : x_R x = rm_X1_worth) (hKS : ∀ k ∈ KK, k ∈ x_K x) {out : St × Int32} (hE : EI x cX1_worth out) (hK14 : ∀ {S : St} {l1 : Int64} {l3 : Int32} {l4 : Int32} {l5 : Int32} {l6 : Int32} {l7 : Int32}, K14 S l1 l3 l4 l5 l6 l7 = some out → WX x 11 0 0 S 14 [(0, .ref (x_ad x 0 0 0)), (1, .long l1), (3, .int l3), (4, .int l4), (5, .int l5), (6, .int l6), (7, .int l7)] []) {S : St} {l1 : Int64} {l3 : Int32} {l4 : Int32} {l5 : Int32} {l6 : Int32} {l7 : Int32} {l8 : Int32} (h : j_X1_worth_149 n K14 S l1 l3 l4 l5 l6 l7 l8 = some out) : WX x 11 0 0 S 149 [(0, .ref (x_ad x 0 0 0)), (1, .long l1), (3, .int l3), (4, .int l4), (5, .int l5), (6, .int l6), (7, .int l7), (8, .int l8)] [] := by
  unfold j_X1_worth_149 at h
  refine r_iload (k0 := 5) hx dX1_worth_149 rfl ?_
  refine r_aload_n (k0 := 0) hx dX1_worth_151 rfl rfl ?_
  refine g_4 hx (k_0_0 hKS) wf_X1_22 dX1_worth_152 ?_
  refine r_alenI (v := 16) hx (k_1_4 hKS) (by decide +kernel) dX1_worth_155 ?_
  refine r_icmp_ge (tgt := 206) hx dX1_worth_156 (by decide) (fun c1 => ?_) (fun c1 => ?_)
  · have h := ite_t h c1
    refine WX.sub (lv' := [(0, .ref (x_ad x 0 0 0)), (1, .long l1), (3, .int l3), (4, .int l4), (5, .int l5), (6, .int l6), (7, .int l7)]) ?_ [0, 1, 2, 3, 4, 5, 6] rfl
    exact t_X1_worth_206 hx hR hKS hE hK14 h
  · have h := ite_f h c1
    refine r_iload (k0 := 7) hx dX1_worth_159 rfl ?_
    refine r_iconst (v := 4) hx dX1_worth_161 (by decide) ?_
    refine r_isub hx dX1_worth_162 ?_
    obtain ⟨v2, e3, h⟩ := bV_some h
    rw [← e3]
    refine r_istore (lv' := [(9, .int v2), (0, .ref (x_ad x 0 0 0)), (1, .long l1), (3, .int l3), (4, .int l4), (5, .int l5), (6, .int l6), (7, .int l7), (8, .int l8)]) hx dX1_worth_163 (by decide) rfl ?_
    refine r_aload_n (k0 := 1) hx dX1_worth_165 rfl rfl ?_
    refine g_4 hx (k_0_0 hKS) wf_X1_22 dX1_worth_166 ?_
    refine r_iload (k0 := 6) hx dX1_worth_169 rfl ?_
    refine r_iload (k0 := 8) hx dX1_worth_171 rfl ?_
    refine r_if_ne (tgt := 180) hx dX1_worth_173 (by decide) (fun c4 => ?_) (fun c4 => ?_)
    · have h := ite_f h c4
      refine r_iload (k0 := 0) hx dX1_worth_180 rfl ?_
      refine r_if_ne (tgt := 189) hx dX1_worth_182 (by decide) (fun c5 => ?_) (fun c5 => ?_)
      · have h := ite_f h c5
        refine r_iload (k0 := 0) hx dX1_worth_189 rfl ?_
        refine r_iconst (v := 1) hx dX1_worth_191 (by decide) ?_
        refine r_icmp_ne (tgt := 200) hx dX1_worth_192 (by decide) (fun c6 => ?_) (fun c6 => ?_)
        · have h := ite_f h c6
          refine r_iload (k0 := 5) hx dX1_worth_200 rfl ?_
          refine WX.sub (lv' := [(0, .ref (x_ad x 0 0 0)), (1, .long l1), (3, .int l3), (4, .int l4), (5, .int l5), (6, .int l6), (7, .int l7)]) ?_ [1, 2, 3, 4, 5, 6, 7] rfl
          exact t_X1_worth_202 hx hR hKS hE hK14 h
        · have h := ite_t h c6
          refine r_iload (k0 := 4) hx dX1_worth_195 rfl ?_
          refine r_goto (tgt := 202) hx dX1_worth_197 (by decide) ?_
          refine WX.sub (lv' := [(0, .ref (x_ad x 0 0 0)), (1, .long l1), (3, .int l3), (4, .int l4), (5, .int l5), (6, .int l6), (7, .int l7)]) ?_ [1, 2, 3, 4, 5, 6, 7] rfl
          exact t_X1_worth_202 hx hR hKS hE hK14 h
      · have h := ite_t h c5
        refine r_iload_n (k0 := 3) hx dX1_worth_185 rfl rfl ?_
        refine r_goto (tgt := 202) hx dX1_worth_186 (by decide) ?_
        refine WX.sub (lv' := [(0, .ref (x_ad x 0 0 0)), (1, .long l1), (3, .int l3), (4, .int l4), (5, .int l5), (6, .int l6), (7, .int l7)]) ?_ [1, 2, 3, 4, 5, 6, 7] rfl
        exact t_X1_worth_202 hx hR hKS hE hK14 h
    · have h := ite_t h c4
      refine r_iconst (v := 0) hx dX1_worth_176 (by decide) ?_
      refine r_goto (tgt := 202) hx dX1_worth_177 (by decide) ?_
      refine WX.sub (lv' := [(0, .ref (x_ad x 0 0 0)), (1, .long l1), (3, .int l3), (4, .int l4), (5, .int l5), (6, .int l6), (7, .int l7)]) ?_ [1, 2, 3, 4, 5, 6, 7] rfl
      exact t_X1_worth_202 hx hR hKS hE hK14 h
set_option maxRecDepth 100000 in
set_option maxHeartbeats 4000000 in
theorem t_X1_worth_138 {n : Nat} {K14 : St → Int64 → Int32 → Int32 → Int32 → Int32 → Int32 → Option (St × Int32)} {x : XC} (hx : CX x cX1_worth 11 RX1) (hR : x_R x = rm_X1_worth) (hKS : ∀ k ∈ KK, k ∈ x_K x) {out : St × Int32} (hE : EI x cX1_worth out) (hK14 : ∀ {S : St} {l1 : Int64} {l3 : Int32} {l4 : Int32} {l5 : Int32} {l6 : Int32} {l7 : Int32}, K14 S l1 l3 l4 l5 l6 l7 = some out → WX x 11 0 0 S 14 [(0, .ref (x_ad x 0 0 0)), (1, .long l1), (3, .int l3), (4, .int l4), (5, .int l5), (6, .int l6), (7, .int l7)] []) {S : St} {l1 : Int64} {l3 : Int32} {l4 : Int32} {l5 : Int32} {l6 : Int32} {l7 : Int32} {l8 : Int32} (h : j_X1_worth_138 n K14 S l1 l3 l4 l5 l6 l7 l8 = some out) : WX x 11 0 0 S 138 [(0, .ref (x_ad x 0 0 0)), (1, .long l1), (3, .int l3), (4, .int l4), (5, .int l5), (6, .int l6), (7, .int l7), (8, .int l8)] [] := by
  unfold j_X1_worth_138 at h
  refine r_iload (k0 := 7) hx dX1_worth_138 rfl ?_
  refine r_if_eq (tgt := 149) hx dX1_worth_140 (by decide) (fun c1 => ?_) (fun c1 => ?_)
  · have h := ite_t h c1
    exact t_X1_worth_149 hx hR hKS hE hK14 h
  · have h := ite_f h c1
    refine r_iload (k0 := 7) hx dX1_worth_143 rfl ?_
    refine r_iconst (v := 4) hx dX1_worth_145 (by decide) ?_
    refine r_icmp_lt (tgt := 206) hx dX1_worth_146 (by decide) (fun c2 => ?_) (fun c2 => ?_)
    · have h := ite_t h c2
      refine WX.sub (lv' := [(0, .ref (x_ad x 0 0 0)), (1, .long l1), (3, .int l3), (4, .int l4), (5, .int l5), (6, .int l6), (7, .int l7)]) ?_ [0, 1, 2, 3, 4, 5, 6] rfl
      exact t_X1_worth_206 hx hR hKS hE hK14 h
    · have h := ite_f h c2
      exact t_X1_worth_149 hx hR hKS hE hK14 h
set_option maxRecDepth 100000 in
set_option maxHeartbeats 4000000 in
theorem t_X1_worth_73 {n : Nat} {K14 : St → Int64 → Int32 → Int32 → Int32 → Int32 → Int32 → Option (St × Int32)} {x : XC} (hx : CX x cX1_worth 11 RX1) (hR : x_R x = rm_X1_worth) (hKS : ∀ k ∈ KK, k ∈ x_K x) {out : St × Int32} (hE : EI x cX1_worth out) (hK14 : ∀ {S : St} {l1 : Int64} {l3 : Int32} {l4 : Int32} {l5 : Int32} {l6 : Int32} {l7 : Int32}, K14 S l1 l3 l4 l5 l6 l7 = some out → WX x 11 0 0 S 14 [(0, .ref (x_ad x 0 0 0)), (1, .long l1), (3, .int l3), (4, .int l4), (5, .int l5), (6, .int l6), (7, .int l7)] []) {S : St} {l1 : Int64} {l3 : Int32} {l4 : Int32} {l5 : Int32} {l6 : Int32} {l7 : Int32} {l8 : Int32} (h : j_X1_worth_73 n K14 S l1 l3 l4 l5 l6 l7 l8 = some out) : WX x 11 0 0 S 73 [(0, .ref (x_ad x 0 0 0)), (1, .long l1), (3, .int l3), (4, .int l4), (5, .int l5), (6, .int l6), (7, .int l7), (8, .int l8)] [] := by
  unfold j_X1_worth_73 at h
  refine r_iload (k0 := 5) hx dX1_worth_73 rfl ?_
  refine r_iconst (v := 1) hx dX1_worth_75 (by decide) ?_
  refine r_icmp_le (tgt := 138) hx dX1_worth_76 (by decide) (fun c1 => ?_) (fun c1 => ?_)
  · have h := ite_t h c1
    exact t_X1_worth_138 hx hR hKS hE hK14 h
  · have h := ite_f h c1
    refine r_aload_n (k0 := 0) hx dX1_worth_79 rfl rfl ?_
    refine g_4 hx (k_0_0 hKS) wf_X1_22 dX1_worth_80 ?_
    refine r_iload (k0 := 5) hx dX1_worth_83 rfl ?_
    refine r_iconst (v := 1) hx dX1_worth_85 (by decide) ?_
    refine r_isub hx dX1_worth_86 ?_
    obtain ⟨v2, e3, i4, h⟩ := gI_some h
    refine r_iald hx (k_1_4 hKS) rfl i4 e3 dX1_worth_87 ?_
    refine r_istore (lv' := [(9, .int v2), (0, .ref (x_ad x 0 0 0)), (1, .long l1), (3, .int l3), (4, .int l4), (5, .int l5), (6, .int l6), (7, .int l7), (8, .int l8)]) hx dX1_worth_88 (by decide) rfl ?_
    refine r_aload_n (k0 := 1) hx dX1_worth_90 rfl rfl ?_
    refine g_4 hx (k_0_0 hKS) wf_X1_22 dX1_worth_91 ?_
    refine r_iload (k0 := 6) hx dX1_worth_94 rfl ?_
    refine r_iconst (v := 2) hx dX1_worth_96 (by decide) ?_
    refine r_isub hx dX1_worth_97 ?_
    obtain ⟨v5, e6, i7, h⟩ := gI_some h
    refine r_iald hx (k_1_4 hKS) rfl i7 e6 dX1_worth_98 ?_
    refine r_istore (lv' := [(10, .int v5), (9, .int v2), (0, .ref (x_ad x 0 0 0)), (1, .long l1), (3, .int l3), (4, .int l4), (5, .int l5), (6, .int l6), (7, .int l7), (8, .int l8)]) hx dX1_worth_99 (by decide) rfl ?_
    refine r_aload_n (k0 := 2) hx dX1_worth_101 rfl rfl ?_
    refine g_4 hx (k_0_0 hKS) wf_X1_22 dX1_worth_102 ?_
    refine r_iload (k0 := 7) hx dX1_worth_105 rfl ?_
    refine r_iconst (v := 2) hx dX1_worth_107 (by decide) ?_
    refine r_isub hx dX1_worth_108 ?_
    refine r_iload (k0 := 9) hx dX1_worth_109 rfl ?_
    refine r_iconst (v := 3) hx dX1_worth_111 (by decide) ?_
    refine r_icmp_ne (tgt := 124) hx dX1_worth_112 (by decide) (fun c8 => ?_) (fun c8 => ?_)
    · have h := ite_f h c8
      refine WX.sub (lv' := [(0, .ref (x_ad x 0 0 0)), (1, .long l1), (3, .int l3), (4, .int l4), (5, .int l5), (6, .int l6), (7, .int l7), (9, .int v2), (10, .int v5)]) ?_ [2, 3, 4, 5, 6, 7, 8, 1, 0] rfl
      exact t_X1_worth_124 hx hR hKS hE hK14 h
    · have h := ite_t h c8
      refine r_iload (k0 := 0) hx dX1_worth_115 rfl ?_
      refine r_if_ne (tgt := 124) hx dX1_worth_117 (by decide) (fun c9 => ?_) (fun c9 => ?_)
      · have h := ite_f h c9
        refine WX.sub (lv' := [(0, .ref (x_ad x 0 0 0)), (1, .long l1), (3, .int l3), (4, .int l4), (5, .int l5), (6, .int l6), (7, .int l7), (9, .int v2), (10, .int v5)]) ?_ [2, 3, 4, 5, 6, 7, 8, 1, 0] rfl
        exact t_X1_worth_124 hx hR hKS hE hK14 h
      · have h := ite_t h c9
        refine r_iconst (v := 0) hx dX1_worth_120 (by decide) ?_
        refine r_goto (tgt := 131) hx dX1_worth_121 (by decide) ?_
        refine WX.sub (lv' := [(0, .ref (x_ad x 0 0 0)), (1, .long l1), (3, .int l3), (4, .int l4), (5, .int l5), (6, .int l6), (7, .int l7)]) ?_ [2, 3, 4, 5, 6, 7, 8] rfl
        exact t_X1_worth_131 hx hR hKS hE hK14 h
set_option maxRecDepth 100000 in
set_option maxHeartbeats 4000000 in
theorem t_X1_worth_61 {n : Nat} {K14 : St → Int64 → Int32 → Int32 → Int32 → Int32 → Int32 → Option (St × Int32)} {x : XC} (hx : CX x cX1_worth 11 RX1) (hR : x_R x = rm_X1_worth) (hKS : ∀ k ∈ KK, k ∈ x_K x) {out : St × Int32} (hE : EI x cX1_worth out) (hK14 : ∀ {S : St} {l1 : Int64} {l3 : Int32} {l4 : Int32} {l5 : Int32} {l6 : Int32} {l7 : Int32}, K14 S l1 l3 l4 l5 l6 l7 = some out → WX x 11 0 0 S 14 [(0, .ref (x_ad x 0 0 0)), (1, .long l1), (3, .int l3), (4, .int l4), (5, .int l5), (6, .int l6), (7, .int l7)] []) {S : St} {l1 : Int64} {l3 : Int32} {l4 : Int32} {l5 : Int32} {l6 : Int32} {l7 : Int32} {l8 : Int32} (h : j_X1_worth_61 n K14 S l1 l3 l4 l5 l6 l7 l8 = some out) : WX x 11 0 0 S 61 [(0, .ref (x_ad x 0 0 0)), (1, .long l1), (3, .int l3), (4, .int l4), (5, .int l5), (6, .int l6), (7, .int l7), (8, .int l8)] [] := by
  unfold j_X1_worth_61 at h
  refine r_iload (k0 := 7) hx dX1_worth_61 rfl ?_
  refine r_iconst (v := 2) hx dX1_worth_63 (by decide) ?_
  refine r_icmp_eq (tgt := 73) hx dX1_worth_64 (by decide) (fun c1 => ?_) (fun c1 => ?_)
  · have h := ite_t h c1
    exact t_X1_worth_73 hx hR hKS hE hK14 h
  · have h := ite_f h c1
    refine r_iload (k0 := 7) hx dX1_worth_67 rfl ?_
    refine r_iconst (v := 3) hx dX1_worth_69 (by decide) ?_
    refine r_icmp_ne (tgt := 138) hx dX1_worth_70 (by decide) (fun c2 => ?_) (fun c2 => ?_)
    · have h := ite_f h c2
      exact t_X1_worth_138 hx hR hKS hE hK14 h
    · have h := ite_t h c2
      exact t_X1_worth_73 hx hR hKS hE hK14 h
set_option maxRecDepth 100000 in
set_option maxHeartbeats 4000000 in
theorem t_X1_worth_14 {n : Nat} {x : XC} (hx : CX x cX1_worth 11 RX1) (hR : x_R x = rm_X1_worth) (hKS : ∀ k ∈ KK, k ∈ x_K x) {out : St × Int32} (hE : EI x cX1_worth out) : ∀ {m : Nat} {S : St} {l1 : Int64} {l3 : Int32} {l4 : Int32} {l5 : Int32} {l6 : Int32} {l7 : Int32} (h : l_X1_worth_14 n m S l1 l3 l4 l5 l6 l7 = some out), WX x 11 0 0 S 14 [(0, .ref (x_ad x 0 0 0)), (1, .long l1), (3, .int l3), (4, .int l4), (5, .int l5), (6, .int l6), (7, .int l7)] [] := by
  intro m
  induction m with
  | zero => intro S l1 l3 l4 l5 l6 l7 h; cases h
  | succ m ih =>
    intro S l1 l3 l4 l5 l6 l7 h
    unfold l_X1_worth_14 at h
    refine r_iload (k0 := 6) hx dX1_worth_14 rfl ?_
    refine r_if_lt (tgt := 212) hx dX1_worth_16 (by decide) (fun c1 => ?_) (fun c1 => ?_)
    · have h := ite_t h c1
      refine r_aload_n (k0 := 0) hx dX1_worth_212 rfl rfl ?_
      refine g_4 hx (k_0_0 hKS) wf_X1_22 dX1_worth_213 ?_
      refine r_iconst (v := 0) hx dX1_worth_216 (by decide) ?_
      obtain ⟨v2, e3, i4, h⟩ := gI_some h
      refine r_iald hx (k_1_4 hKS) rfl i4 e3 dX1_worth_217 ?_
      exact r_iret hE h dX1_worth_218
    · have h := ite_f h c1
      refine r_lload_n (k0 := 1) hx dX1_worth_19 rfl rfl ?_
      refine r_iconst (v := 3) hx dX1_worth_20 (by decide) ?_
      refine r_iload (k0 := 6) hx dX1_worth_21 rfl ?_
      refine r_imul hx dX1_worth_23 ?_
      refine r_lushr hx dX1_worth_24 ?_
      refine r_ldc2 (v := 7) hx dX1_worth_25 wk_X1_59 ?_
      refine r_land hx dX1_worth_28 ?_
      refine r_l2i hx dX1_worth_29 ?_
      refine r_iconst (v := 1) hx dX1_worth_30 (by decide) ?_
      refine r_isub hx dX1_worth_31 ?_
      obtain ⟨v5, e6, h⟩ := bV_some h
      rw [← e6]
      refine r_istore (lv' := [(8, .int v5), (0, .ref (x_ad x 0 0 0)), (1, .long l1), (3, .int l3), (4, .int l4), (5, .int l5), (6, .int l6), (7, .int l7)]) hx dX1_worth_32 (by decide) rfl ?_
      refine r_iload (k0 := 0) hx dX1_worth_34 rfl ?_
      refine r_iconst (v := 1) hx dX1_worth_36 (by decide) ?_
      refine r_icmp_ne (tgt := 61) hx dX1_worth_37 (by decide) (fun c7 => ?_) (fun c7 => ?_)
      · have h := ite_f h c7
        refine WX.sub (lv' := [(0, .ref (x_ad x 0 0 0)), (1, .long l1), (3, .int l3), (4, .int l4), (5, .int l5), (6, .int l6), (7, .int l7), (8, .int v5)]) ?_ [1, 2, 3, 4, 5, 6, 7, 0] rfl
        exact t_X1_worth_61 hx hR hKS hE ih h
      · have h := ite_t h c7
        refine r_iload (k0 := 6) hx dX1_worth_40 rfl ?_
        refine r_if_le (tgt := 61) hx dX1_worth_42 (by decide) (fun c8 => ?_) (fun c8 => ?_)
        · have h := ite_t h c8
          refine WX.sub (lv' := [(0, .ref (x_ad x 0 0 0)), (1, .long l1), (3, .int l3), (4, .int l4), (5, .int l5), (6, .int l6), (7, .int l7), (8, .int v5)]) ?_ [1, 2, 3, 4, 5, 6, 7, 0] rfl
          exact t_X1_worth_61 hx hR hKS hE ih h
        · have h := ite_f h c8
          refine r_aload_n (k0 := 1) hx dX1_worth_45 rfl rfl ?_
          refine g_4 hx (k_0_0 hKS) wf_X1_22 dX1_worth_46 ?_
          refine r_iload (k0 := 6) hx dX1_worth_49 rfl ?_
          refine r_iconst (v := 1) hx dX1_worth_51 (by decide) ?_
          refine r_isub hx dX1_worth_52 ?_
          refine r_dup2 hx dX1_worth_53 rfl rfl ?_
          obtain ⟨v9, e10, i11, h⟩ := gI_some h
          refine r_iald hx (k_1_4 hKS) rfl i11 e10 dX1_worth_54 ?_
          refine r_iconst (v := 1) hx dX1_worth_55 (by decide) ?_
          refine r_iadd hx dX1_worth_56 ?_
          obtain ⟨S12, e13, i14, h⟩ := pI_some h
          refine r_iast hx (k_1_4 hKS) rfl i14 e13 dX1_worth_57 ?_
          refine r_goto (tgt := 206) hx dX1_worth_58 (by decide) ?_
          refine WX.sub (lv' := [(0, .ref (x_ad x 0 0 0)), (1, .long l1), (3, .int l3), (4, .int l4), (5, .int l5), (6, .int l6), (7, .int l7)]) ?_ [1, 2, 3, 4, 5, 6, 7] rfl
          exact t_X1_worth_206 hx hR hKS hE ih h
set_option maxRecDepth 100000 in
set_option maxHeartbeats 4000000 in
theorem t_X1_worth_0 {n : Nat} {x : XC} (hx : CX x cX1_worth 11 RX1) (hR : x_R x = rm_X1_worth) (hKS : ∀ k ∈ KK, k ∈ x_K x) {out : St × Int32} (hE : EI x cX1_worth out) {S : St} {a1 : Int64} {a2 : Int32} {a3 : Int32} {a4 : Int32} (h : f_X1_worth n S a1 a2 a3 a4 = some out) : WX x 11 0 0 S 0 [(0, .ref (x_ad x 0 0 0)), (1, .long a1), (3, .int a2), (4, .int a3), (5, .int a4)] [] := by
  unfold f_X1_worth at h
  refine r_iconst (v := 0) hx dX1_worth_0 (by decide) ?_
  refine r_istore (lv' := [(6, .int 0), (0, .ref (x_ad x 0 0 0)), (1, .long a1), (3, .int a2), (4, .int a3), (5, .int a4)]) hx dX1_worth_1 (by decide) rfl ?_
  refine r_aload_n (k0 := 1) hx dX1_worth_3 rfl rfl ?_
  refine g_4 hx (k_0_0 hKS) wf_X1_22 dX1_worth_4 ?_
  refine r_iconst (v := 0) hx dX1_worth_7 (by decide) ?_
  refine r_iconst (v := 0) hx dX1_worth_8 (by decide) ?_
  obtain ⟨S1, e2, i3, h⟩ := pI_some h
  refine r_iast hx (k_1_4 hKS) rfl i3 e2 dX1_worth_9 ?_
  refine r_bipush (v := 15) hx dX1_worth_10 (by decide) ?_
  refine r_istore (lv' := [(7, .int 15), (6, .int 0), (0, .ref (x_ad x 0 0 0)), (1, .long a1), (3, .int a2), (4, .int a3), (5, .int a4)]) hx dX1_worth_12 (by decide) rfl ?_
  refine WX.sub (lv' := [(0, .ref (x_ad x 0 0 0)), (1, .long a1), (3, .int a2), (4, .int a3), (5, .int a4), (6, .int 0), (7, .int 15)]) ?_ [2, 3, 4, 5, 6, 1, 0] rfl
  exact t_X1_worth_14 hx hR hKS hE h
set_option maxHeartbeats 4000000 in
theorem C_X1_worth {n : Nat} {c : YC} (hKS : ∀ k ∈ KK, k ∈ c.2.2.2.2) {S : St} {a1 : Int64} {a2 : Int32} {a3 : Int32} {a4 : Int32} {out : St × Int32} (h : f_X1_worth n S a1 a2 a3 a4 = some out) : MI c yX1_worth cX1_worth 11 (some .int) rm_X1_worth S [.ref (c.2.2.1 0 0 0), .long a1, .int a2, .int a3, .int a4] out := mk_I (own := RX1) (by decide +kernel) rfl (Nat.le_of_ble_eq_true rfl) (fun x hx hR hy hE => by subst hy; exact t_X1_worth_0 hx hR hKS hE h)
theorem dX1_isAtMost_0 : decode cX1_isAtMost 0 = .ok (.getstatic 67, 3) := by decide +kernel
theorem dX1_isAtMost_3 : decode cX1_isAtMost 3 = .ok (.astore 5, 2) := by decide +kernel
theorem dX1_isAtMost_5 : decode cX1_isAtMost 5 = .ok (.aload 5, 2) := by decide +kernel
theorem dX1_isAtMost_7 : decode cX1_isAtMost 7 = .ok (.arraylength, 1) := by decide +kernel
theorem dX1_isAtMost_8 : decode cX1_isAtMost 8 = .ok (.istore 6, 2) := by decide +kernel
theorem dX1_isAtMost_10 : decode cX1_isAtMost 10 = .ok (.iconst 0, 1) := by decide +kernel
theorem dX1_isAtMost_11 : decode cX1_isAtMost 11 = .ok (.istore 7, 2) := by decide +kernel
theorem dX1_isAtMost_13 : decode cX1_isAtMost 13 = .ok (.iload 7, 2) := by decide +kernel
theorem dX1_isAtMost_15 : decode cX1_isAtMost 15 = .ok (.iload 6, 2) := by decide +kernel
theorem dX1_isAtMost_17 : decode cX1_isAtMost 17 = .ok (.if_icmp .ge 109, 3) := by decide +kernel
theorem dX1_isAtMost_20 : decode cX1_isAtMost 20 = .ok (.aload 5, 2) := by decide +kernel
theorem dX1_isAtMost_22 : decode cX1_isAtMost 22 = .ok (.iload 7, 2) := by decide +kernel
theorem dX1_isAtMost_24 : decode cX1_isAtMost 24 = .ok (.iaload, 1) := by decide +kernel
theorem dX1_isAtMost_25 : decode cX1_isAtMost 25 = .ok (.istore 8, 2) := by decide +kernel
theorem dX1_isAtMost_27 : decode cX1_isAtMost 27 = .ok (.getstatic 67, 3) := by decide +kernel
theorem dX1_isAtMost_30 : decode cX1_isAtMost 30 = .ok (.astore 9, 2) := by decide +kernel
theorem dX1_isAtMost_32 : decode cX1_isAtMost 32 = .ok (.aload 9, 2) := by decide +kernel
theorem dX1_isAtMost_34 : decode cX1_isAtMost 34 = .ok (.arraylength, 1) := by decide +kernel
theorem dX1_isAtMost_35 : decode cX1_isAtMost 35 = .ok (.istore 10, 2) := by decide +kernel
theorem dX1_isAtMost_37 : decode cX1_isAtMost 37 = .ok (.iconst 0, 1) := by decide +kernel
theorem dX1_isAtMost_38 : decode cX1_isAtMost 38 = .ok (.istore 11, 2) := by decide +kernel
theorem dX1_isAtMost_40 : decode cX1_isAtMost 40 = .ok (.iload 11, 2) := by decide +kernel
theorem dX1_isAtMost_42 : decode cX1_isAtMost 42 = .ok (.iload 10, 2) := by decide +kernel
theorem dX1_isAtMost_44 : decode cX1_isAtMost 44 = .ok (.if_icmp .ge 76, 3) := by decide +kernel
theorem dX1_isAtMost_47 : decode cX1_isAtMost 47 = .ok (.aload 9, 2) := by decide +kernel
theorem dX1_isAtMost_49 : decode cX1_isAtMost 49 = .ok (.iload 11, 2) := by decide +kernel
theorem dX1_isAtMost_51 : decode cX1_isAtMost 51 = .ok (.iaload, 1) := by decide +kernel
theorem dX1_isAtMost_52 : decode cX1_isAtMost 52 = .ok (.istore 12, 2) := by decide +kernel
theorem dX1_isAtMost_54 : decode cX1_isAtMost 54 = .ok (.getstatic 67, 3) := by decide +kernel
theorem dX1_isAtMost_57 : decode cX1_isAtMost 57 = .ok (.astore 13, 2) := by decide +kernel
theorem dX1_isAtMost_59 : decode cX1_isAtMost 59 = .ok (.aload 13, 2) := by decide +kernel
theorem dX1_isAtMost_61 : decode cX1_isAtMost 61 = .ok (.arraylength, 1) := by decide +kernel
theorem dX1_isAtMost_62 : decode cX1_isAtMost 62 = .ok (.istore 14, 2) := by decide +kernel
theorem dX1_isAtMost_64 : decode cX1_isAtMost 64 = .ok (.iconst 0, 1) := by decide +kernel
theorem dX1_isAtMost_65 : decode cX1_isAtMost 65 = .ok (.istore 15, 2) := by decide +kernel
theorem dX1_isAtMost_67 : decode cX1_isAtMost 67 = .ok (.iload 15, 2) := by decide +kernel
theorem dX1_isAtMost_69 : decode cX1_isAtMost 69 = .ok (.iload 14, 2) := by decide +kernel
theorem dX1_isAtMost_71 : decode cX1_isAtMost 71 = .ok (.if_icmp .ge 43, 3) := by decide +kernel
theorem dX1_isAtMost_74 : decode cX1_isAtMost 74 = .ok (.aload 13, 2) := by decide +kernel
theorem dX1_isAtMost_76 : decode cX1_isAtMost 76 = .ok (.iload 15, 2) := by decide +kernel
theorem dX1_isAtMost_78 : decode cX1_isAtMost 78 = .ok (.iaload, 1) := by decide +kernel
theorem dX1_isAtMost_79 : decode cX1_isAtMost 79 = .ok (.istore 16, 2) := by decide +kernel
theorem dX1_isAtMost_81 : decode cX1_isAtMost 81 = .ok (.aload_n 0, 1) := by decide +kernel
theorem dX1_isAtMost_82 : decode cX1_isAtMost 82 = .ok (.lload_n 1, 1) := by decide +kernel
theorem dX1_isAtMost_83 : decode cX1_isAtMost 83 = .ok (.iload 8, 2) := by decide +kernel
theorem dX1_isAtMost_85 : decode cX1_isAtMost 85 = .ok (.iload 12, 2) := by decide +kernel
theorem dX1_isAtMost_87 : decode cX1_isAtMost 87 = .ok (.iload 16, 2) := by decide +kernel
theorem dX1_isAtMost_89 : decode cX1_isAtMost 89 = .ok (.invokevirtual 70, 3) := by decide +kernel
theorem dX1_isAtMost_92 : decode cX1_isAtMost 92 = .ok (.aload_n 0, 1) := by decide +kernel
theorem dX1_isAtMost_93 : decode cX1_isAtMost 93 = .ok (.lload_n 3, 1) := by decide +kernel
theorem dX1_isAtMost_94 : decode cX1_isAtMost 94 = .ok (.iload 8, 2) := by decide +kernel
theorem dX1_isAtMost_96 : decode cX1_isAtMost 96 = .ok (.iload 12, 2) := by decide +kernel
theorem dX1_isAtMost_98 : decode cX1_isAtMost 98 = .ok (.iload 16, 2) := by decide +kernel
theorem dX1_isAtMost_100 : decode cX1_isAtMost 100 = .ok (.invokevirtual 70, 3) := by decide +kernel
theorem dX1_isAtMost_103 : decode cX1_isAtMost 103 = .ok (.if_icmp .le 5, 3) := by decide +kernel
theorem dX1_isAtMost_106 : decode cX1_isAtMost 106 = .ok (.iconst 0, 1) := by decide +kernel
theorem dX1_isAtMost_107 : decode cX1_isAtMost 107 = .ok (.ireturn, 1) := by decide +kernel
theorem dX1_isAtMost_108 : decode cX1_isAtMost 108 = .ok (.iinc 15 1, 3) := by decide +kernel
theorem dX1_isAtMost_111 : decode cX1_isAtMost 111 = .ok (.goto (-44), 3) := by decide +kernel
theorem dX1_isAtMost_114 : decode cX1_isAtMost 114 = .ok (.iinc 11 1, 3) := by decide +kernel
theorem dX1_isAtMost_117 : decode cX1_isAtMost 117 = .ok (.goto (-77), 3) := by decide +kernel
theorem dX1_isAtMost_120 : decode cX1_isAtMost 120 = .ok (.iinc 7 1, 3) := by decide +kernel
theorem dX1_isAtMost_123 : decode cX1_isAtMost 123 = .ok (.goto (-110), 3) := by decide +kernel
theorem dX1_isAtMost_126 : decode cX1_isAtMost 126 = .ok (.iconst 1, 1) := by decide +kernel
theorem dX1_isAtMost_127 : decode cX1_isAtMost 127 = .ok (.ireturn, 1) := by decide +kernel
theorem dy_X1_isAtMost : DY yX1_isAtMost 2 := by decide +kernel
abbrev rm_X1_isAtMost : Room := { frames := 2, cells := 0, slots := 0, locals := 60 }
def l_X1_isAtMost_67 (n : Nat) (K13 : St → Int64 → Int64 → Int32 → Int32 → Option (St × Int32)) (K40 : St → Int64 → Int64 → Int32 → Int32 → Int32 → Int32 → Int32 → Option (St × Int32)) : Nat → St → Int64 → Int64 → Int32 → Int32 → Int32 → Int32 → Int32 → Int32 → Int32 → Int32 → Option (St × Int32)
  | 0, _, _, _, _, _, _, _, _, _, _, _ => none
  | m + 1, S, l1, l3, l6, l7, l8, l10, l11, l12, l14, l15 =>
    if l14 ≤ l15 then
      bV (l11 + 1) fun v2 =>
      K40 S l1 l3 l6 l7 l8 l10 v2
    else
      gT l15 fun v4 =>
      bI (f_X1_worth n S l1 l8 l12 v4) fun S7 v9 =>
      bI (f_X1_worth n S7 l3 l8 l12 v4) fun S10 v12 =>
      if v9 ≤ v12 then
        bV (l15 + 1) fun v14 =>
        l_X1_isAtMost_67 n K13 K40 m S10 l1 l3 l6 l7 l8 l10 l11 l12 l14 v14
      else
        some (S10, 0)
def l_X1_isAtMost_40 (n : Nat) (K13 : St → Int64 → Int64 → Int32 → Int32 → Option (St × Int32)) : Nat → St → Int64 → Int64 → Int32 → Int32 → Int32 → Int32 → Int32 → Option (St × Int32)
  | 0, _, _, _, _, _, _, _, _ => none
  | m + 1, S, l1, l3, l6, l7, l8, l10, l11 =>
    if l10 ≤ l11 then
      bV (l7 + 1) fun v2 =>
      K13 S l1 l3 l6 v2
    else
      gT l11 fun v4 =>
      l_X1_isAtMost_67 n K13 (fun S l1 l3 l6 l7 l8 l10 l11 => l_X1_isAtMost_40 n K13 m S l1 l3 l6 l7 l8 l10 l11) n S l1 l3 l6 l7 l8 l10 l11 v4 3 0
def l_X1_isAtMost_13 (n : Nat) : Nat → St → Int64 → Int64 → Int32 → Int32 → Option (St × Int32)
  | 0, _, _, _, _, _ => none
  | m + 1, S, l1, l3, l6, l7 =>
    if l6 ≤ l7 then
      some (S, 1)
    else
      gT l7 fun v2 =>
      l_X1_isAtMost_40 n (fun S l1 l3 l6 l7 => l_X1_isAtMost_13 n m S l1 l3 l6 l7) n S l1 l3 l6 l7 v2 3 0
def g_X1_isAtMost (n : Nat) (S : St) (a1 : Int64) (a2 : Int64) : Option (St × Int32) :=
  l_X1_isAtMost_13 n n S a1 a2 3 0
set_option maxRecDepth 100000 in
set_option maxHeartbeats 4000000 in
theorem t_X1_isAtMost_67 {n : Nat} {K13 : St → Int64 → Int64 → Int32 → Int32 → Option (St × Int32)} {K40 : St → Int64 → Int64 → Int32 → Int32 → Int32 → Int32 → Int32 → Option (St × Int32)} {x : XC} (hx : CX x cX1_isAtMost 17 RX1) (hR : x_R x = rm_X1_isAtMost) (hKS : ∀ k ∈ KK, k ∈ x_K x) {out : St × Int32} (hE : EI x cX1_isAtMost out) {tv : Nat} (hT : TVx x tv) (hK13 : ∀ {S : St} {l1 : Int64} {l3 : Int64} {l6 : Int32} {l7 : Int32}, K13 S l1 l3 l6 l7 = some out → WX x 17 0 0 S 13 [(0, .ref (x_ad x 0 0 0)), (1, .long l1), (3, .long l3), (5, .ref tv), (6, .int l6), (7, .int l7)] []) (hK40 : ∀ {S : St} {l1 : Int64} {l3 : Int64} {l6 : Int32} {l7 : Int32} {l8 : Int32} {l10 : Int32} {l11 : Int32}, K40 S l1 l3 l6 l7 l8 l10 l11 = some out → WX x 17 0 0 S 40 [(0, .ref (x_ad x 0 0 0)), (1, .long l1), (3, .long l3), (5, .ref tv), (6, .int l6), (7, .int l7), (8, .int l8), (9, .ref tv), (10, .int l10), (11, .int l11)] []) : ∀ {m : Nat} {S : St} {l1 : Int64} {l3 : Int64} {l6 : Int32} {l7 : Int32} {l8 : Int32} {l10 : Int32} {l11 : Int32} {l12 : Int32} {l14 : Int32} {l15 : Int32} (h : l_X1_isAtMost_67 n K13 K40 m S l1 l3 l6 l7 l8 l10 l11 l12 l14 l15 = some out), WX x 17 0 0 S 67 [(0, .ref (x_ad x 0 0 0)), (1, .long l1), (3, .long l3), (5, .ref tv), (6, .int l6), (7, .int l7), (8, .int l8), (9, .ref tv), (10, .int l10), (11, .int l11), (12, .int l12), (13, .ref tv), (14, .int l14), (15, .int l15)] [] := by
  intro m
  induction m with
  | zero => intro S l1 l3 l6 l7 l8 l10 l11 l12 l14 l15 h; cases h
  | succ m ih =>
    intro S l1 l3 l6 l7 l8 l10 l11 l12 l14 l15 h
    unfold l_X1_isAtMost_67 at h
    refine r_iload (k0 := 13) hx dX1_isAtMost_67 rfl ?_
    refine r_iload (k0 := 12) hx dX1_isAtMost_69 rfl ?_
    refine r_icmp_ge (tgt := 114) hx dX1_isAtMost_71 (by decide) (fun c1 => ?_) (fun c1 => ?_)
    · have h := ite_t h c1
      obtain ⟨v2, e3, h⟩ := bV_some h
      refine r_iinc (k := 9) (v := v2) (lv' := [(11, .int v2), (0, .ref (x_ad x 0 0 0)), (1, .long l1), (3, .long l3), (5, .ref tv), (6, .int l6), (7, .int l7), (8, .int l8), (9, .ref tv), (10, .int l10), (12, .int l12), (13, .ref tv), (14, .int l14), (15, .int l15)]) hx dX1_isAtMost_114 rfl (by rw [e3]; rfl) (by decide) rfl ?_
      refine r_goto (tgt := 40) hx dX1_isAtMost_117 (by decide) ?_
      refine WX.sub (lv' := [(0, .ref (x_ad x 0 0 0)), (1, .long l1), (3, .long l3), (5, .ref tv), (6, .int l6), (7, .int l7), (8, .int l8), (9, .ref tv), (10, .int l10), (11, .int v2)]) ?_ [1, 2, 3, 4, 5, 6, 7, 8, 9, 0] rfl
      exact hK40  h
    · have h := ite_f h c1
      refine r_aload (k0 := 11) hx dX1_isAtMost_74 rfl ?_
      refine r_iload (k0 := 13) hx dX1_isAtMost_76 rfl ?_
      obtain ⟨v4, e5, i6, h⟩ := gT_some h
      refine r_tellAt hx hT i6 e5 dX1_isAtMost_78 ?_
      refine r_istore (lv' := [(16, .int v4), (0, .ref (x_ad x 0 0 0)), (1, .long l1), (3, .long l3), (5, .ref tv), (6, .int l6), (7, .int l7), (8, .int l8), (9, .ref tv), (10, .int l10), (11, .int l11), (12, .int l12), (13, .ref tv), (14, .int l14), (15, .int l15)]) hx dX1_isAtMost_79 (by decide) rfl ?_
      refine r_aload_n (k0 := 1) hx dX1_isAtMost_81 rfl rfl ?_
      refine r_lload_n (k0 := 2) hx dX1_isAtMost_82 rfl rfl ?_
      refine r_iload (k0 := 7) hx dX1_isAtMost_83 rfl ?_
      refine r_iload (k0 := 11) hx dX1_isAtMost_85 rfl ?_
      refine r_iload (k0 := 0) hx dX1_isAtMost_87 rfl ?_
      obtain ⟨S7, v9, c8, h⟩ := bI_some h
      refine r_Vi (ci := 0) (As := [.long l1, .int l8, .int l12, .int v4]) (rest := []) hx (C_X1_worth (c := x_y x) hKS c8) (k_0_0 hKS) rfl wl_X1_70 wi_X1_worth we_X1_worth wn_X1 wc_X1_worth dy_X1_worth rfl (by rw [hR]; decide +kernel) rfl (Nat.le_of_ble_eq_true rfl) dX1_isAtMost_89 ?_
      refine r_aload_n (k0 := 1) hx dX1_isAtMost_92 rfl rfl ?_
      refine r_lload_n (k0 := 3) hx dX1_isAtMost_93 rfl rfl ?_
      refine r_iload (k0 := 7) hx dX1_isAtMost_94 rfl ?_
      refine r_iload (k0 := 11) hx dX1_isAtMost_96 rfl ?_
      refine r_iload (k0 := 0) hx dX1_isAtMost_98 rfl ?_
      obtain ⟨S10, v12, c11, h⟩ := bI_some h
      refine r_Vi (ci := 0) (As := [.long l3, .int l8, .int l12, .int v4]) (rest := [.int v9]) hx (C_X1_worth (c := x_y x) hKS c11) (k_0_0 hKS) rfl wl_X1_70 wi_X1_worth we_X1_worth wn_X1 wc_X1_worth dy_X1_worth rfl (by rw [hR]; decide +kernel) rfl (Nat.le_of_ble_eq_true rfl) dX1_isAtMost_100 ?_
      refine r_icmp_le (tgt := 108) hx dX1_isAtMost_103 (by decide) (fun c13 => ?_) (fun c13 => ?_)
      · have h := ite_t h c13
        obtain ⟨v14, e15, h⟩ := bV_some h
        refine r_iinc (k := 14) (v := v14) (lv' := [(15, .int v14), (16, .int v4), (0, .ref (x_ad x 0 0 0)), (1, .long l1), (3, .long l3), (5, .ref tv), (6, .int l6), (7, .int l7), (8, .int l8), (9, .ref tv), (10, .int l10), (11, .int l11), (12, .int l12), (13, .ref tv), (14, .int l14)]) hx dX1_isAtMost_108 rfl (by rw [e15]; rfl) (by decide) rfl ?_
        refine r_goto (tgt := 67) hx dX1_isAtMost_111 (by decide) ?_
        refine WX.sub (lv' := [(0, .ref (x_ad x 0 0 0)), (1, .long l1), (3, .long l3), (5, .ref tv), (6, .int l6), (7, .int l7), (8, .int l8), (9, .ref tv), (10, .int l10), (11, .int l11), (12, .int l12), (13, .ref tv), (14, .int l14), (15, .int v14)]) ?_ [2, 3, 4, 5, 6, 7, 8, 9, 10, 11, 12, 13, 14, 0] rfl
        exact ih  h
      · have h := ite_f h c13
        refine r_iconst (v := 0) hx dX1_isAtMost_106 (by decide) ?_
        exact r_iret hE h dX1_isAtMost_107
set_option maxRecDepth 100000 in
set_option maxHeartbeats 4000000 in
theorem t_X1_isAtMost_40 {n : Nat} {K13 : St → Int64 → Int64 → Int32 → Int32 → Option (St × Int32)} {x : XC} (hx : CX x cX1_isAtMost 17 RX1) (hR : x_R x = rm_X1_isAtMost) (hKS : ∀ k ∈ KK, k ∈ x_K x) {out : St × Int32} (hE : EI x cX1_isAtMost out) {tv : Nat} (hT : TVx x tv) (hK13 : ∀ {S : St} {l1 : Int64} {l3 : Int64} {l6 : Int32} {l7 : Int32}, K13 S l1 l3 l6 l7 = some out → WX x 17 0 0 S 13 [(0, .ref (x_ad x 0 0 0)), (1, .long l1), (3, .long l3), (5, .ref tv), (6, .int l6), (7, .int l7)] []) : ∀ {m : Nat} {S : St} {l1 : Int64} {l3 : Int64} {l6 : Int32} {l7 : Int32} {l8 : Int32} {l10 : Int32} {l11 : Int32} (h : l_X1_isAtMost_40 n K13 m S l1 l3 l6 l7 l8 l10 l11 = some out), WX x 17 0 0 S 40 [(0, .ref (x_ad x 0 0 0)), (1, .long l1), (3, .long l3), (5, .ref tv), (6, .int l6), (7, .int l7), (8, .int l8), (9, .ref tv), (10, .int l10), (11, .int l11)] [] := by
  intro m
  induction m with
  | zero => intro S l1 l3 l6 l7 l8 l10 l11 h; cases h
  | succ m ih =>
    intro S l1 l3 l6 l7 l8 l10 l11 h
    unfold l_X1_isAtMost_40 at h
    refine r_iload (k0 := 9) hx dX1_isAtMost_40 rfl ?_
    refine r_iload (k0 := 8) hx dX1_isAtMost_42 rfl ?_
    refine r_icmp_ge (tgt := 120) hx dX1_isAtMost_44 (by decide) (fun c1 => ?_) (fun c1 => ?_)
    · have h := ite_t h c1
      obtain ⟨v2, e3, h⟩ := bV_some h
      refine r_iinc (k := 5) (v := v2) (lv' := [(7, .int v2), (0, .ref (x_ad x 0 0 0)), (1, .long l1), (3, .long l3), (5, .ref tv), (6, .int l6), (8, .int l8), (9, .ref tv), (10, .int l10), (11, .int l11)]) hx dX1_isAtMost_120 rfl (by rw [e3]; rfl) (by decide) rfl ?_
      refine r_goto (tgt := 13) hx dX1_isAtMost_123 (by decide) ?_
      refine WX.sub (lv' := [(0, .ref (x_ad x 0 0 0)), (1, .long l1), (3, .long l3), (5, .ref tv), (6, .int l6), (7, .int v2)]) ?_ [1, 2, 3, 4, 5, 0] rfl
      exact hK13  h
    · have h := ite_f h c1
      refine r_aload (k0 := 7) hx dX1_isAtMost_47 rfl ?_
      refine r_iload (k0 := 9) hx dX1_isAtMost_49 rfl ?_
      obtain ⟨v4, e5, i6, h⟩ := gT_some h
      refine r_tellAt hx hT i6 e5 dX1_isAtMost_51 ?_
      refine r_istore (lv' := [(12, .int v4), (0, .ref (x_ad x 0 0 0)), (1, .long l1), (3, .long l3), (5, .ref tv), (6, .int l6), (7, .int l7), (8, .int l8), (9, .ref tv), (10, .int l10), (11, .int l11)]) hx dX1_isAtMost_52 (by decide) rfl ?_
      refine r_tell hx hT wf_X1_67 dX1_isAtMost_54 ?_
      refine r_astore (lv' := [(13, .ref tv), (12, .int v4), (0, .ref (x_ad x 0 0 0)), (1, .long l1), (3, .long l3), (5, .ref tv), (6, .int l6), (7, .int l7), (8, .int l8), (9, .ref tv), (10, .int l10), (11, .int l11)]) hx dX1_isAtMost_57 (by decide) rfl ?_
      refine r_aload (k0 := 0) hx dX1_isAtMost_59 rfl ?_
      refine r_tellLen hx hT dX1_isAtMost_61 ?_
      refine r_istore (lv' := [(14, .int 3), (13, .ref tv), (12, .int v4), (0, .ref (x_ad x 0 0 0)), (1, .long l1), (3, .long l3), (5, .ref tv), (6, .int l6), (7, .int l7), (8, .int l8), (9, .ref tv), (10, .int l10), (11, .int l11)]) hx dX1_isAtMost_62 (by decide) rfl ?_
      refine r_iconst (v := 0) hx dX1_isAtMost_64 (by decide) ?_
      refine r_istore (lv' := [(15, .int 0), (14, .int 3), (13, .ref tv), (12, .int v4), (0, .ref (x_ad x 0 0 0)), (1, .long l1), (3, .long l3), (5, .ref tv), (6, .int l6), (7, .int l7), (8, .int l8), (9, .ref tv), (10, .int l10), (11, .int l11)]) hx dX1_isAtMost_65 (by decide) rfl ?_
      refine WX.sub (lv' := [(0, .ref (x_ad x 0 0 0)), (1, .long l1), (3, .long l3), (5, .ref tv), (6, .int l6), (7, .int l7), (8, .int l8), (9, .ref tv), (10, .int l10), (11, .int l11), (12, .int v4), (13, .ref tv), (14, .int 3), (15, .int 0)]) ?_ [4, 5, 6, 7, 8, 9, 10, 11, 12, 13, 3, 2, 1, 0] rfl
      exact t_X1_isAtMost_67 hx hR hKS hE hT hK13 ih h
set_option maxRecDepth 100000 in
set_option maxHeartbeats 4000000 in
theorem t_X1_isAtMost_13 {n : Nat} {x : XC} (hx : CX x cX1_isAtMost 17 RX1) (hR : x_R x = rm_X1_isAtMost) (hKS : ∀ k ∈ KK, k ∈ x_K x) {out : St × Int32} (hE : EI x cX1_isAtMost out) {tv : Nat} (hT : TVx x tv) : ∀ {m : Nat} {S : St} {l1 : Int64} {l3 : Int64} {l6 : Int32} {l7 : Int32} (h : l_X1_isAtMost_13 n m S l1 l3 l6 l7 = some out), WX x 17 0 0 S 13 [(0, .ref (x_ad x 0 0 0)), (1, .long l1), (3, .long l3), (5, .ref tv), (6, .int l6), (7, .int l7)] [] := by
  intro m
  induction m with
  | zero => intro S l1 l3 l6 l7 h; cases h
  | succ m ih =>
    intro S l1 l3 l6 l7 h
    unfold l_X1_isAtMost_13 at h
    refine r_iload (k0 := 5) hx dX1_isAtMost_13 rfl ?_
    refine r_iload (k0 := 4) hx dX1_isAtMost_15 rfl ?_
    refine r_icmp_ge (tgt := 126) hx dX1_isAtMost_17 (by decide) (fun c1 => ?_) (fun c1 => ?_)
    · have h := ite_t h c1
      refine r_iconst (v := 1) hx dX1_isAtMost_126 (by decide) ?_
      exact r_iret hE h dX1_isAtMost_127
    · have h := ite_f h c1
      refine r_aload (k0 := 3) hx dX1_isAtMost_20 rfl ?_
      refine r_iload (k0 := 5) hx dX1_isAtMost_22 rfl ?_
      obtain ⟨v2, e3, i4, h⟩ := gT_some h
      refine r_tellAt hx hT i4 e3 dX1_isAtMost_24 ?_
      refine r_istore (lv' := [(8, .int v2), (0, .ref (x_ad x 0 0 0)), (1, .long l1), (3, .long l3), (5, .ref tv), (6, .int l6), (7, .int l7)]) hx dX1_isAtMost_25 (by decide) rfl ?_
      refine r_tell hx hT wf_X1_67 dX1_isAtMost_27 ?_
      refine r_astore (lv' := [(9, .ref tv), (8, .int v2), (0, .ref (x_ad x 0 0 0)), (1, .long l1), (3, .long l3), (5, .ref tv), (6, .int l6), (7, .int l7)]) hx dX1_isAtMost_30 (by decide) rfl ?_
      refine r_aload (k0 := 0) hx dX1_isAtMost_32 rfl ?_
      refine r_tellLen hx hT dX1_isAtMost_34 ?_
      refine r_istore (lv' := [(10, .int 3), (9, .ref tv), (8, .int v2), (0, .ref (x_ad x 0 0 0)), (1, .long l1), (3, .long l3), (5, .ref tv), (6, .int l6), (7, .int l7)]) hx dX1_isAtMost_35 (by decide) rfl ?_
      refine r_iconst (v := 0) hx dX1_isAtMost_37 (by decide) ?_
      refine r_istore (lv' := [(11, .int 0), (10, .int 3), (9, .ref tv), (8, .int v2), (0, .ref (x_ad x 0 0 0)), (1, .long l1), (3, .long l3), (5, .ref tv), (6, .int l6), (7, .int l7)]) hx dX1_isAtMost_38 (by decide) rfl ?_
      refine WX.sub (lv' := [(0, .ref (x_ad x 0 0 0)), (1, .long l1), (3, .long l3), (5, .ref tv), (6, .int l6), (7, .int l7), (8, .int v2), (9, .ref tv), (10, .int 3), (11, .int 0)]) ?_ [4, 5, 6, 7, 8, 9, 3, 2, 1, 0] rfl
      exact t_X1_isAtMost_40 hx hR hKS hE hT ih h
set_option maxRecDepth 100000 in
set_option maxHeartbeats 4000000 in
theorem t_X1_isAtMost_0 {n : Nat} {x : XC} (hx : CX x cX1_isAtMost 17 RX1) (hR : x_R x = rm_X1_isAtMost) (hKS : ∀ k ∈ KK, k ∈ x_K x) {out : St × Int32} (hE : EI x cX1_isAtMost out) {tv : Nat} (hT : TVx x tv) {S : St} {a1 : Int64} {a2 : Int64} (h : g_X1_isAtMost n S a1 a2 = some out) : WX x 17 0 0 S 0 [(0, .ref (x_ad x 0 0 0)), (1, .long a1), (3, .long a2)] [] := by
  unfold g_X1_isAtMost at h
  refine r_tell hx hT wf_X1_67 dX1_isAtMost_0 ?_
  refine r_astore (lv' := [(5, .ref tv), (0, .ref (x_ad x 0 0 0)), (1, .long a1), (3, .long a2)]) hx dX1_isAtMost_3 (by decide) rfl ?_
  refine r_aload (k0 := 0) hx dX1_isAtMost_5 rfl ?_
  refine r_tellLen hx hT dX1_isAtMost_7 ?_
  refine r_istore (lv' := [(6, .int 3), (5, .ref tv), (0, .ref (x_ad x 0 0 0)), (1, .long a1), (3, .long a2)]) hx dX1_isAtMost_8 (by decide) rfl ?_
  refine r_iconst (v := 0) hx dX1_isAtMost_10 (by decide) ?_
  refine r_istore (lv' := [(7, .int 0), (6, .int 3), (5, .ref tv), (0, .ref (x_ad x 0 0 0)), (1, .long a1), (3, .long a2)]) hx dX1_isAtMost_11 (by decide) rfl ?_
  refine WX.sub (lv' := [(0, .ref (x_ad x 0 0 0)), (1, .long a1), (3, .long a2), (5, .ref tv), (6, .int 3), (7, .int 0)]) ?_ [3, 4, 5, 2, 1, 0] rfl
  exact t_X1_isAtMost_13 hx hR hKS hE hT h
def f_X1_isAtMost (n : Nat) (S : St) (a1 : Int64) (a2 : Int64) : Option (St × Int32) := zW (g_X1_isAtMost n S a1 a2)
set_option maxHeartbeats 4000000 in
theorem C_X1_isAtMost {n : Nat} {c : YC} (hKS : ∀ k ∈ KK, k ∈ c.2.2.2.2) {S : St} {a1 : Int64} {a2 : Int64} {out : St × Int32} (h : f_X1_isAtMost n S a1 a2 = some out) : MI c yX1_isAtMost cX1_isAtMost 17 (some .boolean) rm_X1_isAtMost S [.ref (c.2.2.1 0 0 0), .long a1, .long a2] out := mk_Z (own := RX1) (by decide +kernel) rfl (Nat.le_of_ble_eq_true rfl) (zW_some h).2 (fun x hx hR hy hE => by subst hy; obtain ⟨tv, hT⟩ := TVx_of hx; exact t_X1_isAtMost_0 hx hR hKS hE hT (zW_some h).1)
theorem dX1_areSame_0 : decode cX1_areSame 0 = .ok (.lload_n 1, 1) := by decide +kernel
theorem dX1_areSame_1 : decode cX1_areSame 1 = .ok (.lload_n 3, 1) := by decide +kernel
theorem dX1_areSame_2 : decode cX1_areSame 2 = .ok (.lcmp, 1) := by decide +kernel
theorem dX1_areSame_3 : decode cX1_areSame 3 = .ok (.ifCond .eq 21, 3) := by decide +kernel
theorem dX1_areSame_6 : decode cX1_areSame 6 = .ok (.aload_n 0, 1) := by decide +kernel
theorem dX1_areSame_7 : decode cX1_areSame 7 = .ok (.lload_n 1, 1) := by decide +kernel
theorem dX1_areSame_8 : decode cX1_areSame 8 = .ok (.lload_n 3, 1) := by decide +kernel
theorem dX1_areSame_9 : decode cX1_areSame 9 = .ok (.invokevirtual 74, 3) := by decide +kernel
theorem dX1_areSame_12 : decode cX1_areSame 12 = .ok (.ifCond .eq 16, 3) := by decide +kernel
theorem dX1_areSame_15 : decode cX1_areSame 15 = .ok (.aload_n 0, 1) := by decide +kernel
theorem dX1_areSame_16 : decode cX1_areSame 16 = .ok (.lload_n 3, 1) := by decide +kernel
theorem dX1_areSame_17 : decode cX1_areSame 17 = .ok (.lload_n 1, 1) := by decide +kernel
theorem dX1_areSame_18 : decode cX1_areSame 18 = .ok (.invokevirtual 74, 3) := by decide +kernel
theorem dX1_areSame_21 : decode cX1_areSame 21 = .ok (.ifCond .eq 7, 3) := by decide +kernel
theorem dX1_areSame_24 : decode cX1_areSame 24 = .ok (.iconst 1, 1) := by decide +kernel
theorem dX1_areSame_25 : decode cX1_areSame 25 = .ok (.goto 4, 3) := by decide +kernel
theorem dX1_areSame_28 : decode cX1_areSame 28 = .ok (.iconst 0, 1) := by decide +kernel
theorem dX1_areSame_29 : decode cX1_areSame 29 = .ok (.ireturn, 1) := by decide +kernel
theorem dy_X1_areSame : DY yX1_areSame 2 := by decide +kernel
abbrev rm_X1_areSame : Room := { frames := 3, cells := 0, slots := 0, locals := 96 }
def g_X1_areSame (n : Nat) (S : St) (a1 : Int64) (a2 : Int64) : Option (St × Int32) :=
  if (lg_cmp a1 a2) = 0 then
    some (S, 1)
  else
    bI (f_X1_isAtMost n S a1 a2) fun S2 v4 =>
    if v4 = 0 then
      some (S2, 0)
    else
      bI (f_X1_isAtMost n S2 a2 a1) fun S6 v8 =>
      if v8 = 0 then
        some (S6, 0)
      else
        some (S6, 1)
set_option maxRecDepth 100000 in
set_option maxHeartbeats 4000000 in
theorem t_X1_areSame_0 {n : Nat} {x : XC} (hx : CX x cX1_areSame 5 RX1) (hR : x_R x = rm_X1_areSame) (hKS : ∀ k ∈ KK, k ∈ x_K x) {out : St × Int32} (hE : EI x cX1_areSame out) {S : St} {a1 : Int64} {a2 : Int64} (h : g_X1_areSame n S a1 a2 = some out) : WX x 5 0 0 S 0 [(0, .ref (x_ad x 0 0 0)), (1, .long a1), (3, .long a2)] [] := by
  unfold g_X1_areSame at h
  refine r_lload_n (k0 := 1) hx dX1_areSame_0 rfl rfl ?_
  refine r_lload_n (k0 := 2) hx dX1_areSame_1 rfl rfl ?_
  refine r_lcmp hx dX1_areSame_2 ?_
  refine r_if_eq (tgt := 24) hx dX1_areSame_3 (by decide) (fun c1 => ?_) (fun c1 => ?_)
  · have h := ite_t h c1
    refine r_iconst (v := 1) hx dX1_areSame_24 (by decide) ?_
    refine r_goto (tgt := 29) hx dX1_areSame_25 (by decide) ?_
    exact r_iret hE h dX1_areSame_29
  · have h := ite_f h c1
    refine r_aload_n (k0 := 0) hx dX1_areSame_6 rfl rfl ?_
    refine r_lload_n (k0 := 1) hx dX1_areSame_7 rfl rfl ?_
    refine r_lload_n (k0 := 2) hx dX1_areSame_8 rfl rfl ?_
    obtain ⟨S2, v4, c3, h⟩ := bI_some h
    refine r_Vi (ci := 0) (As := [.long a1, .long a2]) (rest := []) hx (C_X1_isAtMost (c := x_y x) hKS c3) (k_0_0 hKS) rfl wl_X1_74 wi_X1_isAtMost we_X1_isAtMost wn_X1 wc_X1_isAtMost dy_X1_isAtMost rfl (by rw [hR]; decide +kernel) rfl (Nat.le_of_ble_eq_true rfl) dX1_areSame_9 ?_
    refine r_if_eq (tgt := 28) hx dX1_areSame_12 (by decide) (fun c5 => ?_) (fun c5 => ?_)
    · have h := ite_t h c5
      refine r_iconst (v := 0) hx dX1_areSame_28 (by decide) ?_
      exact r_iret hE h dX1_areSame_29
    · have h := ite_f h c5
      refine r_aload_n (k0 := 0) hx dX1_areSame_15 rfl rfl ?_
      refine r_lload_n (k0 := 2) hx dX1_areSame_16 rfl rfl ?_
      refine r_lload_n (k0 := 1) hx dX1_areSame_17 rfl rfl ?_
      obtain ⟨S6, v8, c7, h⟩ := bI_some h
      refine r_Vi (ci := 0) (As := [.long a2, .long a1]) (rest := []) hx (C_X1_isAtMost (c := x_y x) hKS c7) (k_0_0 hKS) rfl wl_X1_74 wi_X1_isAtMost we_X1_isAtMost wn_X1 wc_X1_isAtMost dy_X1_isAtMost rfl (by rw [hR]; decide +kernel) rfl (Nat.le_of_ble_eq_true rfl) dX1_areSame_18 ?_
      refine r_if_eq (tgt := 28) hx dX1_areSame_21 (by decide) (fun c9 => ?_) (fun c9 => ?_)
      · have h := ite_t h c9
        refine r_iconst (v := 0) hx dX1_areSame_28 (by decide) ?_
        exact r_iret hE h dX1_areSame_29
      · have h := ite_f h c9
        refine r_iconst (v := 1) hx dX1_areSame_24 (by decide) ?_
        refine r_goto (tgt := 29) hx dX1_areSame_25 (by decide) ?_
        exact r_iret hE h dX1_areSame_29
def f_X1_areSame (n : Nat) (S : St) (a1 : Int64) (a2 : Int64) : Option (St × Int32) := zW (g_X1_areSame n S a1 a2)
set_option maxHeartbeats 4000000 in
theorem C_X1_areSame {n : Nat} {c : YC} (hKS : ∀ k ∈ KK, k ∈ c.2.2.2.2) {S : St} {a1 : Int64} {a2 : Int64} {out : St × Int32} (h : f_X1_areSame n S a1 a2 = some out) : MI c yX1_areSame cX1_areSame 5 (some .boolean) rm_X1_areSame S [.ref (c.2.2.1 0 0 0), .long a1, .long a2] out := mk_Z (own := RX1) (by decide +kernel) rfl (Nat.le_of_ble_eq_true rfl) (zW_some h).2 (fun x hx hR hy hE => by subst hy; exact t_X1_areSame_0 hx hR hKS hE (zW_some h).1)
