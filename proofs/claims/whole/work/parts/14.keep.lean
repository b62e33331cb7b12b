theorem dX1_keep_0 : decode cX1_keep 0 = .ok (.aload_n 0, 1) := by decide +kernel
theorem dX1_keep_1 : decode cX1_keep 1 = .ok (.lload_n 1, 1) := by decide +kernel
theorem dX1_keep_2 : decode cX1_keep 2 = .ok (.invokevirtual 31, 3) := by decide +kernel
theorem dX1_keep_5 : decode cX1_keep 5 = .ok (.istore_n 3, 1) := by decide +kernel
theorem dX1_keep_6 : decode cX1_keep 6 = .ok (.iload_n 3, 1) := by decide +kernel
theorem dX1_keep_7 : decode cX1_keep 7 = .ok (.iconst (-1), 1) := by decide +kernel
theorem dX1_keep_8 : decode cX1_keep 8 = .ok (.if_icmp .eq 5, 3) := by decide +kernel
theorem dX1_keep_11 : decode cX1_keep 11 = .ok (.iload_n 3, 1) := by decide +kernel
theorem dX1_keep_12 : decode cX1_keep 12 = .ok (.ireturn, 1) := by decide +kernel
theorem dX1_keep_13 : decode cX1_keep 13 = .ok (.lload_n 1, 1) := by decide +kernel
theorem dX1_keep_14 : decode cX1_keep 14 = .ok (.invokestatic 35, 3) := by decide +kernel
theorem dX1_keep_17 : decode cX1_keep 17 = .ok (.istore 4, 2) := by decide +kernel
theorem dX1_keep_19 : decode cX1_keep 19 = .ok (.iload 4, 2) := by decide +kernel
theorem dX1_keep_21 : decode cX1_keep 21 = .ok (.ifCond .ne 5, 3) := by decide +kernel
theorem dX1_keep_24 : decode cX1_keep 24 = .ok (.iconst (-1), 1) := by decide +kernel
theorem dX1_keep_25 : decode cX1_keep 25 = .ok (.ireturn, 1) := by decide +kernel
theorem dX1_keep_26 : decode cX1_keep 26 = .ok (.lload_n 1, 1) := by decide +kernel
theorem dX1_keep_27 : decode cX1_keep 27 = .ok (.iconst 0, 1) := by decide +kernel
theorem dX1_keep_28 : decode cX1_keep 28 = .ok (.invokestatic 38, 3) := by decide +kernel
theorem dX1_keep_31 : decode cX1_keep 31 = .ok (.invokestatic 42, 3) := by decide +kernel
theorem dX1_keep_34 : decode cX1_keep 34 = .ok (.istore 5, 2) := by decide +kernel
theorem dX1_keep_36 : decode cX1_keep 36 = .ok (.iconst 1, 1) := by decide +kernel
theorem dX1_keep_37 : decode cX1_keep 37 = .ok (.lload_n 1, 1) := by decide +kernel
theorem dX1_keep_38 : decode cX1_keep 38 = .ok (.invokestatic 46, 3) := by decide +kernel
theorem dX1_keep_41 : decode cX1_keep 41 = .ok (.iadd, 1) := by decide +kernel
theorem dX1_keep_42 : decode cX1_keep 42 = .ok (.istore 6, 2) := by decide +kernel
theorem dX1_keep_44 : decode cX1_keep 44 = .ok (.iload 5, 2) := by decide +kernel
theorem dX1_keep_46 : decode cX1_keep 46 = .ok (.ifCond .le 19, 3) := by decide +kernel
theorem dX1_keep_49 : decode cX1_keep 49 = .ok (.aload_n 0, 1) := by decide +kernel
theorem dX1_keep_50 : decode cX1_keep 50 = .ok (.lload_n 1, 1) := by decide +kernel
theorem dX1_keep_51 : decode cX1_keep 51 = .ok (.iconst 1, 1) := by decide +kernel
theorem dX1_keep_52 : decode cX1_keep 52 = .ok (.iload 6, 2) := by decide +kernel
theorem dX1_keep_54 : decode cX1_keep 54 = .ok (.iconst 1, 1) := by decide +kernel
theorem dX1_keep_55 : decode cX1_keep 55 = .ok (.isub, 1) := by decide +kernel
theorem dX1_keep_56 : decode cX1_keep 56 = .ok (.invokestatic 49, 3) := by decide +kernel
theorem dX1_keep_59 : decode cX1_keep 59 = .ok (.invokevirtual 53, 3) := by decide +kernel
theorem dX1_keep_62 : decode cX1_keep 62 = .ok (.goto 4, 3) := by decide +kernel
theorem dX1_keep_65 : decode cX1_keep 65 = .ok (.iconst (-1), 1) := by decide +kernel
theorem dX1_keep_66 : decode cX1_keep 66 = .ok (.istore 7, 2) := by decide +kernel
theorem dX1_keep_68 : decode cX1_keep 68 = .ok (.iload 5, 2) := by decide +kernel
theorem dX1_keep_70 : decode cX1_keep 70 = .ok (.ifCond .le 11, 3) := by decide +kernel
theorem dX1_keep_73 : decode cX1_keep 73 = .ok (.iload 7, 2) := by decide +kernel
theorem dX1_keep_75 : decode cX1_keep 75 = .ok (.iconst (-1), 1) := by decide +kernel
theorem dX1_keep_76 : decode cX1_keep 76 = .ok (.if_icmp .ne 5, 3) := by decide +kernel
theorem dX1_keep_79 : decode cX1_keep 79 = .ok (.iconst (-1), 1) := by decide +kernel
theorem dX1_keep_80 : decode cX1_keep 80 = .ok (.ireturn, 1) := by decide +kernel
theorem dX1_keep_81 : decode cX1_keep 81 = .ok (.iload 5, 2) := by decide +kernel
theorem dX1_keep_83 : decode cX1_keep 83 = .ok (.iconst 1, 1) := by decide +kernel
theorem dX1_keep_84 : decode cX1_keep 84 = .ok (.if_icmp .le 21, 3) := by decide +kernel
theorem dX1_keep_87 : decode cX1_keep 87 = .ok (.aload_n 0, 1) := by decide +kernel
theorem dX1_keep_88 : decode cX1_keep 88 = .ok (.lload_n 1, 1) := by decide +kernel
theorem dX1_keep_89 : decode cX1_keep 89 = .ok (.iload 6, 2) := by decide +kernel
theorem dX1_keep_91 : decode cX1_keep 91 = .ok (.iload 4, 2) := by decide +kernel
theorem dX1_keep_93 : decode cX1_keep 93 = .ok (.iload 6, 2) := by decide +kernel
theorem dX1_keep_95 : decode cX1_keep 95 = .ok (.isub, 1) := by decide +kernel
theorem dX1_keep_96 : decode cX1_keep 96 = .ok (.invokestatic 49, 3) := by decide +kernel
theorem dX1_keep_99 : decode cX1_keep 99 = .ok (.invokevirtual 53, 3) := by decide +kernel
theorem dX1_keep_102 : decode cX1_keep 102 = .ok (.goto 4, 3) := by decide +kernel
theorem dX1_keep_105 : decode cX1_keep 105 = .ok (.iconst (-1), 1) := by decide +kernel
theorem dX1_keep_106 : decode cX1_keep 106 = .ok (.istore 8, 2) := by decide +kernel
theorem dX1_keep_108 : decode cX1_keep 108 = .ok (.iload 5, 2) := by decide +kernel
theorem dX1_keep_110 : decode cX1_keep 110 = .ok (.iconst 1, 1) := by decide +kernel
theorem dX1_keep_111 : decode cX1_keep 111 = .ok (.if_icmp .le 9, 3) := by decide +kernel
theorem dX1_keep_114 : decode cX1_keep 114 = .ok (.iload 8, 2) := by decide +kernel
theorem dX1_keep_116 : decode cX1_keep 116 = .ok (.iconst (-1), 1) := by decide +kernel
theorem dX1_keep_117 : decode cX1_keep 117 = .ok (.if_icmp .eq 13, 3) := by decide +kernel
theorem dX1_keep_120 : decode cX1_keep 120 = .ok (.aload_n 0, 1) := by decide +kernel
theorem dX1_keep_121 : decode cX1_keep 121 = .ok (.getfield 27, 3) := by decide +kernel
theorem dX1_keep_124 : decode cX1_keep 124 = .ok (.sipush 300, 3) := by decide +kernel
theorem dX1_keep_127 : decode cX1_keep 127 = .ok (.if_icmp .lt 5, 3) := by decide +kernel
theorem dX1_keep_130 : decode cX1_keep 130 = .ok (.iconst (-1), 1) := by decide +kernel
theorem dX1_keep_131 : decode cX1_keep 131 = .ok (.ireturn, 1) := by decide +kernel
theorem dX1_keep_132 : decode cX1_keep 132 = .ok (.aload_n 0, 1) := by decide +kernel
theorem dX1_keep_133 : decode cX1_keep 133 = .ok (.getfield 9, 3) := by decide +kernel
theorem dX1_keep_136 : decode cX1_keep 136 = .ok (.aload_n 0, 1) := by decide +kernel
theorem dX1_keep_137 : decode cX1_keep 137 = .ok (.getfield 27, 3) := by decide +kernel
theorem dX1_keep_140 : decode cX1_keep 140 = .ok (.lload_n 1, 1) := by decide +kernel
theorem dX1_keep_141 : decode cX1_keep 141 = .ok (.lastore, 1) := by decide +kernel
theorem dX1_keep_142 : decode cX1_keep 142 = .ok (.aload_n 0, 1) := by decide +kernel
theorem dX1_keep_143 : decode cX1_keep 143 = .ok (.getfield 15, 3) := by decide +kernel
theorem dX1_keep_146 : decode cX1_keep 146 = .ok (.aload_n 0, 1) := by decide +kernel
theorem dX1_keep_147 : decode cX1_keep 147 = .ok (.getfield 27, 3) := by decide +kernel
theorem dX1_keep_150 : decode cX1_keep 150 = .ok (.iload 5, 2) := by decide +kernel
theorem dX1_keep_152 : decode cX1_keep 152 = .ok (.ifCond .le 8, 3) := by decide +kernel
theorem dX1_keep_155 : decode cX1_keep 155 = .ok (.iload 7, 2) := by decide +kernel
theorem dX1_keep_157 : decode cX1_keep 157 = .ok (.goto 7, 3) := by decide +kernel
theorem dX1_keep_160 : decode cX1_keep 160 = .ok (.lload_n 1, 1) := by decide +kernel
theorem dX1_keep_161 : decode cX1_keep 161 = .ok (.invokestatic 56, 3) := by decide +kernel
theorem dX1_keep_164 : decode cX1_keep 164 = .ok (.iastore, 1) := by decide +kernel
theorem dX1_keep_165 : decode cX1_keep 165 = .ok (.aload_n 0, 1) := by decide +kernel
theorem dX1_keep_166 : decode cX1_keep 166 = .ok (.getfield 19, 3) := by decide +kernel
theorem dX1_keep_169 : decode cX1_keep 169 = .ok (.aload_n 0, 1) := by decide +kernel
theorem dX1_keep_170 : decode cX1_keep 170 = .ok (.getfield 27, 3) := by decide +kernel
theorem dX1_keep_173 : decode cX1_keep 173 = .ok (.iload 8, 2) := by decide +kernel
theorem dX1_keep_175 : decode cX1_keep 175 = .ok (.iastore, 1) := by decide +kernel
theorem dX1_keep_176 : decode cX1_keep 176 = .ok (.aload_n 0, 1) := by decide +kernel
theorem dX1_keep_177 : decode cX1_keep 177 = .ok (.dup, 1) := by decide +kernel
theorem dX1_keep_178 : decode cX1_keep 178 = .ok (.getfield 27, 3) := by decide +kernel
theorem dX1_keep_181 : decode cX1_keep 181 = .ok (.iconst 1, 1) := by decide +kernel
theorem dX1_keep_182 : decode cX1_keep 182 = .ok (.iadd, 1) := by decide +kernel
theorem dX1_keep_183 : decode cX1_keep 183 = .ok (.putfield 27, 3) := by decide +kernel
theorem dX1_keep_186 : decode cX1_keep 186 = .ok (.aload_n 0, 1) := by decide +kernel
theorem dX1_keep_187 : decode cX1_keep 187 = .ok (.getfield 27, 3) := by decide +kernel
theorem dX1_keep_190 : decode cX1_keep 190 = .ok (.iconst 1, 1) := by decide +kernel
theorem dX1_keep_191 : decode cX1_keep 191 = .ok (.isub, 1) := by decide +kernel
theorem dX1_keep_192 : decode cX1_keep 192 = .ok (.ireturn, 1) := by decide +kernel
theorem dy_X1_keep : DY yX1_keep 1 := by decide +kernel
abbrev rm_X1_keep (d : Nat) : Room := { frames := 4 * d + 4, cells := 0, slots := 0, locals := 160 * d + 105 }
theorem ry_X1_keep_X0_cut {d : Nat} : RY (rm_X1_keep (d + 1)) rm_X0_cut 4 0 0 := ⟨⟨by show 0 + 1 ≤ 4 * (d + 1) + 4; omega, by show 8 + (4 + 11) + (0) ≤ 160 * (d + 1) + 105; omega⟩, rfl, rfl, Nat.zero_le _, Nat.zero_le _⟩
theorem ry_X1_keep_X0_firstPartSize {d : Nat} : RY (rm_X1_keep (d + 1)) rm_X0_firstPartSize 4 0 0 := ⟨⟨by show 1 + 1 ≤ 4 * (d + 1) + 4; omega, by show 8 + (4 + 11) + (22) ≤ 160 * (d + 1) + 105; omega⟩, rfl, rfl, Nat.zero_le _, Nat.zero_le _⟩
theorem ry_X1_keep_X0_markAt {d : Nat} : RY (rm_X1_keep (d + 1)) rm_X0_markAt 3 0 0 := ⟨⟨by show 0 + 1 ≤ 4 * (d + 1) + 4; omega, by show 8 + (3 + 11) + (0) ≤ 160 * (d + 1) + 105; omega⟩, rfl, rfl, Nat.zero_le _, Nat.zero_le _⟩
theorem ry_X1_keep_X0_parameterOf {d : Nat} : RY (rm_X1_keep (d + 1)) rm_X0_parameterOf 2 0 0 := ⟨⟨by show 1 + 1 ≤ 4 * (d + 1) + 4; omega, by show 8 + (2 + 11) + (22) ≤ 160 * (d + 1) + 105; omega⟩, rfl, rfl, Nat.zero_le _, Nat.zero_le _⟩
theorem ry_X1_keep_X0_partsOf {d : Nat} : RY (rm_X1_keep (d + 1)) rm_X0_partsOf 2 0 0 := ⟨⟨by show 0 + 1 ≤ 4 * (d + 1) + 4; omega, by show 8 + (2 + 11) + (0) ≤ 160 * (d + 1) + 105; omega⟩, rfl, rfl, Nat.zero_le _, Nat.zero_le _⟩
theorem ry_X1_keep_X0_sizeOf {d : Nat} : RY (rm_X1_keep (d + 1)) rm_X0_sizeOf 3 0 0 := ⟨⟨by show 1 + 1 ≤ 4 * (d + 1) + 4; omega, by show 8 + (3 + 11) + (22) ≤ 160 * (d + 1) + 105; omega⟩, rfl, rfl, Nat.zero_le _, Nat.zero_le _⟩
theorem ry_X1_keep_X1_find {d : Nat} : RY (rm_X1_keep (d + 1)) rm_X1_find 4 0 0 := ⟨⟨by show 0 + 1 ≤ 4 * (d + 1) + 4; omega, by show 8 + (4 + 11) + (0) ≤ 160 * (d + 1) + 105; omega⟩, rfl, rfl, Nat.zero_le _, Nat.zero_le _⟩
theorem ry_X1_keep_X1_keep {d : Nat} : RY (rm_X1_keep (d + 1)) (rm_X1_keep d) 9 0 0 := ⟨⟨by show 4 * d + 4 + 1 ≤ 4 * (d + 1) + 4; omega, by show 8 + (9 + 11) + (160 * d + 105) ≤ 160 * (d + 1) + 105; omega⟩, rfl, rfl, Nat.zero_le _, Nat.zero_le _⟩
def j_X1_keep_164 (n : Nat) (F : St → Int64 → Option (St × Int32)) (S : St) (l8 : Int32) (s0 : Int32) (s1 : Int32) : Option (St × Int32) :=
  pI S 2 0 s1 300 s0 fun S1 =>
  pI S1 3 0 (S1.1 0 0) 300 l8 fun S4 =>
  pS S4 0 0 ((S4.1 0 0) + 1) fun S7 =>
  some (S7, ((S7.1 0 0) - 1))
def j_X1_keep_120 (n : Nat) (F : St → Int64 → Option (St × Int32)) (S : St) (l1 : Int64) (l5 : Int32) (l7 : Int32) (l8 : Int32) : Option (St × Int32) :=
  if (S.1 0 0) < 300 then
    pL S 1 0 (S.1 0 0) 300 l1 fun S2 =>
    if l5 ≤ 0 then
      bI (f_X0_parameterOf n S2 l1) fun S6 v8 =>
      j_X1_keep_164 n F S6 l8 v8 (S2.1 0 0)
    else
      j_X1_keep_164 n F S2 l8 l7 (S2.1 0 0)
  else
    some (S, (-1))
def j_X1_keep_106 (n : Nat) (F : St → Int64 → Option (St × Int32)) (S : St) (l1 : Int64) (l5 : Int32) (l7 : Int32) (s0 : Int32) : Option (St × Int32) :=
  if l5 ≤ 1 then
    j_X1_keep_120 n F S l1 l5 l7 s0
  else
    if s0 = (-1) then
      some (S, (-1))
    else
      j_X1_keep_120 n F S l1 l5 l7 s0
def j_X1_keep_81 (n : Nat) (F : St → Int64 → Option (St × Int32)) (S : St) (l1 : Int64) (l4 : Int32) (l5 : Int32) (l6 : Int32) (l7 : Int32) : Option (St × Int32) :=
  if l5 ≤ 1 then
    j_X1_keep_106 n F S l1 l5 l7 (-1)
  else
    bL (f_X0_cut n S l1 l6 (l4 - l6)) fun S2 v4 =>
    bI (F S2 v4) fun S5 v7 =>
    j_X1_keep_106 n F S5 l1 l5 l7 v7
def j_X1_keep_66 (n : Nat) (F : St → Int64 → Option (St × Int32)) (S : St) (l1 : Int64) (l4 : Int32) (l5 : Int32) (l6 : Int32) (s0 : Int32) : Option (St × Int32) :=
  if l5 ≤ 0 then
    j_X1_keep_81 n F S l1 l4 l5 l6 s0
  else
    if s0 = (-1) then
      some (S, (-1))
    else
      j_X1_keep_81 n F S l1 l4 l5 l6 s0
def f_X1_keep (n : Nat) (F : St → Int64 → Option (St × Int32)) (S : St) (a1 : Int64) : Option (St × Int32) :=
  bI (f_X1_find n S a1) fun S1 v3 =>
  if v3 = (-1) then
    bI (f_X0_sizeOf n S1 a1) fun S5 v7 =>
    if v7 = 0 then
      some (S5, (-1))
    else
      bI (f_X0_markAt n S5 a1 0) fun S9 v11 =>
      bI (f_X0_partsOf n S9 v11) fun S12 v14 =>
      bI (f_X0_firstPartSize n S12 a1) fun S15 v17 =>
      bV (1 + v17) fun v18 =>
      if v14 ≤ 0 then
        j_X1_keep_66 n F S15 a1 v7 v14 v18 (-1)
      else
        bL (f_X0_cut n S15 a1 1 (v18 - 1)) fun S21 v23 =>
        bI (F S21 v23) fun S24 v26 =>
        j_X1_keep_66 n F S24 a1 v7 v14 v18 v26
  else
    some (S1, v3)
set_option maxRecDepth 100000 in
set_option maxHeartbeats 4000000 in
theorem t_X1_keep_164 {n : Nat} {d : Nat} {F : St → Int64 → Option (St × Int32)} {x : XC} (hx : CX x cX1_keep 9 RX1) (hR : x_R x = (rm_X1_keep (d + 1))) (hKS : ∀ k ∈ KK, k ∈ x_K x) {out : St × Int32} (hE : EI x cX1_keep out) (hF : ∀ {S : St} {a1 : Int64} {out : St × Int32}, F S a1 = some out → MI (x_y x) yX1_keep cX1_keep 9 (some .int) (rm_X1_keep d) S [.ref (x_ad x 0 0 0), .long a1] out) {S : St} {l8 : Int32} {s0 : Int32} {s1 : Int32} (h : j_X1_keep_164 n F S l8 s0 s1 = some out) : WX x 9 0 0 S 164 [(0, .ref (x_ad x 0 0 0)), (8, .int l8)] [.int s0, .int s1, .ref (x_ad x 1 2 0)] := by
  unfold j_X1_keep_164 at h
  obtain ⟨S1, e2, i3, h⟩ := pI_some h
  refine r_iast hx (k_1_2 hKS) rfl i3 e2 dX1_keep_164 ?_
  refine r_aload_n (k0 := 0) hx dX1_keep_165 rfl rfl ?_
  refine g_3 hx (k_0_0 hKS) wf_X1_19 dX1_keep_166 ?_
  refine r_aload_n (k0 := 0) hx dX1_keep_169 rfl rfl ?_
  refine g_0 hx (k_0_0 hKS) wf_X1_27 dX1_keep_170 ?_
  refine r_iload (k0 := 1) hx dX1_keep_173 rfl ?_
  obtain ⟨S4, e5, i6, h⟩ := pI_some h
  refine r_iast hx (k_1_3 hKS) rfl i6 e5 dX1_keep_175 ?_
  refine r_aload_n (k0 := 0) hx dX1_keep_176 rfl rfl ?_
  refine r_dup hx dX1_keep_177 rfl ?_
  refine g_0 hx (k_0_0 hKS) wf_X1_27 dX1_keep_178 ?_
  refine r_iconst (v := 1) hx dX1_keep_181 (by decide) ?_
  refine r_iadd hx dX1_keep_182 ?_
  obtain ⟨S7, e8, h⟩ := pS_some h
  refine p_0 hx (k_0_0 hKS) wf_X1_27 dX1_keep_183 e8 ?_
  refine r_aload_n (k0 := 0) hx dX1_keep_186 rfl rfl ?_
  refine g_0 hx (k_0_0 hKS) wf_X1_27 dX1_keep_187 ?_
  refine r_iconst (v := 1) hx dX1_keep_190 (by decide) ?_
  refine r_isub hx dX1_keep_191 ?_
  exact r_iret hE h dX1_keep_192
set_option maxRecDepth 100000 in
set_option maxHeartbeats 4000000 in
theorem t_X1_keep_120 {n : Nat} {d : Nat} {F : St → Int64 → Option (St × Int32)} {x : XC} (hx : CX x cX1_keep 9 RX1) (hR : x_R x = (rm_X1_keep (d + 1))) (hKS : ∀ k ∈ KK, k ∈ x_K x) {out : St × Int32} (hE : EI x cX1_keep out) (hF : ∀ {S : St} {a1 : Int64} {out : St × Int32}, F S a1 = some out → MI (x_y x) yX1_keep cX1_keep 9 (some .int) (rm_X1_keep d) S [.ref (x_ad x 0 0 0), .long a1] out) {S : St} {l1 : Int64} {l5 : Int32} {l7 : Int32} {l8 : Int32} (h : j_X1_keep_120 n F S l1 l5 l7 l8 = some out) : WX x 9 0 0 S 120 [(0, .ref (x_ad x 0 0 0)), (1, .long l1), (5, .int l5), (7, .int l7), (8, .int l8)] [] := by
  unfold j_X1_keep_120 at h
  refine r_aload_n (k0 := 0) hx dX1_keep_120 rfl rfl ?_
  refine g_0 hx (k_0_0 hKS) wf_X1_27 dX1_keep_121 ?_
  refine r_sipush (v := 300) hx dX1_keep_124 (by decide) ?_
  refine r_icmp_lt (tgt := 132) hx dX1_keep_127 (by decide) (fun c1 => ?_) (fun c1 => ?_)
  · have h := ite_t h c1
    refine r_aload_n (k0 := 0) hx dX1_keep_132 rfl rfl ?_
    refine g_1 hx (k_0_0 hKS) wf_X1_9 dX1_keep_133 ?_
    refine r_aload_n (k0 := 0) hx dX1_keep_136 rfl rfl ?_
    refine g_0 hx (k_0_0 hKS) wf_X1_27 dX1_keep_137 ?_
    refine r_lload_n (k0 := 1) hx dX1_keep_140 rfl rfl ?_
    obtain ⟨S2, e3, i4, h⟩ := pL_some h
    refine r_last hx (k_2_1 hKS) rfl i4 e3 dX1_keep_141 ?_
    refine r_aload_n (k0 := 0) hx dX1_keep_142 rfl rfl ?_
    refine g_2 hx (k_0_0 hKS) wf_X1_15 dX1_keep_143 ?_
    refine r_aload_n (k0 := 0) hx dX1_keep_146 rfl rfl ?_
    refine g_0 hx (k_0_0 hKS) wf_X1_27 dX1_keep_147 ?_
    refine r_iload (k0 := 2) hx dX1_keep_150 rfl ?_
    refine r_if_le (tgt := 160) hx dX1_keep_152 (by decide) (fun c5 => ?_) (fun c5 => ?_)
    · have h := ite_t h c5
      refine r_lload_n (k0 := 1) hx dX1_keep_160 rfl rfl ?_
      obtain ⟨S6, v8, c7, h⟩ := bI_some h
      refine r_Si (As := [.long l1]) (rest := [.int (S2.1 0 0), .ref (x_ad x 1 2 0)]) hx (C_X0_parameterOf (c := x_y x) hKS c7) wl_X1_56 wt_X0_parameterOf wn_X0 wc_X0_parameterOf dy_X0_parameterOf rfl (by rw [hR]; exact ry_X1_keep_X0_parameterOf) rfl (Nat.le_of_ble_eq_true rfl) dX1_keep_161 ?_
      refine WX.sub (lv' := [(0, .ref (x_ad x 0 0 0)), (8, .int l8)]) ?_ [0, 4] rfl
      exact t_X1_keep_164 hx hR hKS hE hF h
    · have h := ite_f h c5
      refine r_iload (k0 := 3) hx dX1_keep_155 rfl ?_
      refine r_goto (tgt := 164) hx dX1_keep_157 (by decide) ?_
      refine WX.sub (lv' := [(0, .ref (x_ad x 0 0 0)), (8, .int l8)]) ?_ [0, 4] rfl
      exact t_X1_keep_164 hx hR hKS hE hF h
  · have h := ite_f h c1
    refine r_iconst (v := -1) hx dX1_keep_130 (by decide) ?_
    exact r_iret hE h dX1_keep_131
set_option maxRecDepth 100000 in
set_option maxHeartbeats 4000000 in
theorem t_X1_keep_106 {n : Nat} {d : Nat} {F : St → Int64 → Option (St × Int32)} {x : XC} (hx : CX x cX1_keep 9 RX1) (hR : x_R x = (rm_X1_keep (d + 1))) (hKS : ∀ k ∈ KK, k ∈ x_K x) {out : St × Int32} (hE : EI x cX1_keep out) (hF : ∀ {S : St} {a1 : Int64} {out : St × Int32}, F S a1 = some out → MI (x_y x) yX1_keep cX1_keep 9 (some .int) (rm_X1_keep d) S [.ref (x_ad x 0 0 0), .long a1] out) {S : St} {l1 : Int64} {l5 : Int32} {l7 : Int32} {s0 : Int32} (h : j_X1_keep_106 n F S l1 l5 l7 s0 = some out) : WX x 9 0 0 S 106 [(0, .ref (x_ad x 0 0 0)), (1, .long l1), (5, .int l5), (7, .int l7)] [.int s0] := by
  unfold j_X1_keep_106 at h
  refine r_istore (lv' := [(8, .int s0), (0, .ref (x_ad x 0 0 0)), (1, .long l1), (5, .int l5), (7, .int l7)]) hx dX1_keep_106 (by decide) rfl ?_
  refine r_iload (k0 := 3) hx dX1_keep_108 rfl ?_
  refine r_iconst (v := 1) hx dX1_keep_110 (by decide) ?_
  refine r_icmp_le (tgt := 120) hx dX1_keep_111 (by decide) (fun c1 => ?_) (fun c1 => ?_)
  · have h := ite_t h c1
    refine WX.sub (lv' := [(0, .ref (x_ad x 0 0 0)), (1, .long l1), (5, .int l5), (7, .int l7), (8, .int s0)]) ?_ [1, 2, 3, 4, 0] rfl
    exact t_X1_keep_120 hx hR hKS hE hF h
  · have h := ite_f h c1
    refine r_iload (k0 := 0) hx dX1_keep_114 rfl ?_
    refine r_iconst (v := -1) hx dX1_keep_116 (by decide) ?_
    refine r_icmp_eq (tgt := 130) hx dX1_keep_117 (by decide) (fun c2 => ?_) (fun c2 => ?_)
    · have h := ite_t h c2
      refine r_iconst (v := -1) hx dX1_keep_130 (by decide) ?_
      exact r_iret hE h dX1_keep_131
    · have h := ite_f h c2
      refine WX.sub (lv' := [(0, .ref (x_ad x 0 0 0)), (1, .long l1), (5, .int l5), (7, .int l7), (8, .int s0)]) ?_ [1, 2, 3, 4, 0] rfl
      exact t_X1_keep_120 hx hR hKS hE hF h
set_option maxRecDepth 100000 in
set_option maxHeartbeats 4000000 in
theorem t_X1_keep_81 {n : Nat} {d : Nat} {F : St → Int64 → Option (St × Int32)} {x : XC} (hx : CX x cX1_keep 9 RX1) (hR : x_R x = (rm_X1_keep (d + 1))) (hKS : ∀ k ∈ KK, k ∈ x_K x) {out : St × Int32} (hE : EI x cX1_keep out) (hF : ∀ {S : St} {a1 : Int64} {out : St × Int32}, F S a1 = some out → MI (x_y x) yX1_keep cX1_keep 9 (some .int) (rm_X1_keep d) S [.ref (x_ad x 0 0 0), .long a1] out) {S : St} {l1 : Int64} {l4 : Int32} {l5 : Int32} {l6 : Int32} {l7 : Int32} (h : j_X1_keep_81 n F S l1 l4 l5 l6 l7 = some out) : WX x 9 0 0 S 81 [(0, .ref (x_ad x 0 0 0)), (1, .long l1), (4, .int l4), (5, .int l5), (6, .int l6), (7, .int l7)] [] := by
  unfold j_X1_keep_81 at h
  refine r_iload (k0 := 3) hx dX1_keep_81 rfl ?_
  refine r_iconst (v := 1) hx dX1_keep_83 (by decide) ?_
  refine r_icmp_le (tgt := 105) hx dX1_keep_84 (by decide) (fun c1 => ?_) (fun c1 => ?_)
  · have h := ite_t h c1
    refine r_iconst (v := -1) hx dX1_keep_105 (by decide) ?_
    refine WX.sub (lv' := [(0, .ref (x_ad x 0 0 0)), (1, .long l1), (5, .int l5), (7, .int l7)]) ?_ [0, 1, 3, 5] rfl
    exact t_X1_keep_106 hx hR hKS hE hF h
  · have h := ite_f h c1
    refine r_aload_n (k0 := 0) hx dX1_keep_87 rfl rfl ?_
    refine r_lload_n (k0 := 1) hx dX1_keep_88 rfl rfl ?_
    refine r_iload (k0 := 4) hx dX1_keep_89 rfl ?_
    refine r_iload (k0 := 2) hx dX1_keep_91 rfl ?_
    refine r_iload (k0 := 4) hx dX1_keep_93 rfl ?_
    refine r_isub hx dX1_keep_95 ?_
    obtain ⟨S2, v4, c3, h⟩ := bL_some h
    refine r_Sl (As := [.long l1, .int l6, .int (l4 - l6)]) (rest := [.ref (x_ad x 0 0 0)]) hx (C_X0_cut (c := x_y x) hKS c3) wl_X1_49 wt_X0_cut wn_X0 wc_X0_cut dy_X0_cut rfl (by rw [hR]; exact ry_X1_keep_X0_cut) rfl (Nat.le_of_ble_eq_true rfl) dX1_keep_96 ?_
    obtain ⟨S5, v7, c6, h⟩ := bI_some h
    refine r_Vi (ci := 0) (As := [.long v4]) (rest := []) hx (hF c6) (k_0_0 hKS) rfl wl_X1_53 wi_X1_keep we_X1_keep wn_X1 wc_X1_keep dy_X1_keep rfl (by rw [hR]; exact ry_X1_keep_X1_keep) rfl (Nat.le_of_ble_eq_true rfl) dX1_keep_99 ?_
    refine r_goto (tgt := 106) hx dX1_keep_102 (by decide) ?_
    refine WX.sub (lv' := [(0, .ref (x_ad x 0 0 0)), (1, .long l1), (5, .int l5), (7, .int l7)]) ?_ [0, 1, 3, 5] rfl
    exact t_X1_keep_106 hx hR hKS hE hF h
set_option maxRecDepth 100000 in
set_option maxHeartbeats 4000000 in
theorem t_X1_keep_66 {n : Nat} {d : Nat} {F : St → Int64 → Option (St × Int32)} {x : XC} (hx : CX x cX1_keep 9 RX1) (hR : x_R x = (rm_X1_keep (d + 1))) (hKS : ∀ k ∈ KK, k ∈ x_K x) {out : St × Int32} (hE : EI x cX1_keep out) (hF : ∀ {S : St} {a1 : Int64} {out : St × Int32}, F S a1 = some out → MI (x_y x) yX1_keep cX1_keep 9 (some .int) (rm_X1_keep d) S [.ref (x_ad x 0 0 0), .long a1] out) {S : St} {l1 : Int64} {l4 : Int32} {l5 : Int32} {l6 : Int32} {s0 : Int32} (h : j_X1_keep_66 n F S l1 l4 l5 l6 s0 = some out) : WX x 9 0 0 S 66 [(0, .ref (x_ad x 0 0 0)), (1, .long l1), (4, .int l4), (5, .int l5), (6, .int l6)] [.int s0] := by
  unfold j_X1_keep_66 at h
  refine r_istore (lv' := [(7, .int s0), (0, .ref (x_ad x 0 0 0)), (1, .long l1), (4, .int l4), (5, .int l5), (6, .int l6)]) hx dX1_keep_66 (by decide) rfl ?_
  refine r_iload (k0 := 4) hx dX1_keep_68 rfl ?_
  refine r_if_le (tgt := 81) hx dX1_keep_70 (by decide) (fun c1 => ?_) (fun c1 => ?_)
  · have h := ite_t h c1
    refine WX.sub (lv' := [(0, .ref (x_ad x 0 0 0)), (1, .long l1), (4, .int l4), (5, .int l5), (6, .int l6), (7, .int s0)]) ?_ [1, 2, 3, 4, 5, 0] rfl
    exact t_X1_keep_81 hx hR hKS hE hF h
  · have h := ite_f h c1
    refine r_iload (k0 := 0) hx dX1_keep_73 rfl ?_
    refine r_iconst (v := -1) hx dX1_keep_75 (by decide) ?_
    refine r_icmp_ne (tgt := 81) hx dX1_keep_76 (by decide) (fun c2 => ?_) (fun c2 => ?_)
    · have h := ite_f h c2
      refine WX.sub (lv' := [(0, .ref (x_ad x 0 0 0)), (1, .long l1), (4, .int l4), (5, .int l5), (6, .int l6), (7, .int s0)]) ?_ [1, 2, 3, 4, 5, 0] rfl
      exact t_X1_keep_81 hx hR hKS hE hF h
    · have h := ite_t h c2
      refine r_iconst (v := -1) hx dX1_keep_79 (by decide) ?_
      exact r_iret hE h dX1_keep_80
set_option maxRecDepth 100000 in
set_option maxHeartbeats 4000000 in
theorem t_X1_keep_0 {n : Nat} {d : Nat} {F : St → Int64 → Option (St × Int32)} {x : XC} (hx : CX x cX1_keep 9 RX1) (hR : x_R x = (rm_X1_keep (d + 1))) (hKS : ∀ k ∈ KK, k ∈ x_K x) {out : St × Int32} (hE : EI x cX1_keep out) (hF : ∀ {S : St} {a1 : Int64} {out : St × Int32}, F S a1 = some out → MI (x_y x) yX1_keep cX1_keep 9 (some .int) (rm_X1_keep d) S [.ref (x_ad x 0 0 0), .long a1] out) {S : St} {a1 : Int64} (h : f_X1_keep n F S a1 = some out) : WX x 9 0 0 S 0 [(0, .ref (x_ad x 0 0 0)), (1, .long a1)] [] := by
  unfold f_X1_keep at h
  refine r_aload_n (k0 := 0) hx dX1_keep_0 rfl rfl ?_
  refine r_lload_n (k0 := 1) hx dX1_keep_1 rfl rfl ?_
  obtain ⟨S1, v3, c2, h⟩ := bI_some h
  refine r_Vi (ci := 0) (As := [.long a1]) (rest := []) hx (C_X1_find (c := x_y x) hKS c2) (k_0_0 hKS) rfl wl_X1_31 wi_X1_find we_X1_find wn_X1 wc_X1_find dy_X1_find rfl (by rw [hR]; exact ry_X1_keep_X1_find) rfl (Nat.le_of_ble_eq_true rfl) dX1_keep_2 ?_
  refine r_istore_n (lv' := [(3, .int v3), (0, .ref (x_ad x 0 0 0)), (1, .long a1)]) hx dX1_keep_5 rfl (by decide) rfl ?_
  refine r_iload_n (k0 := 0) hx dX1_keep_6 rfl rfl ?_
  refine r_iconst (v := -1) hx dX1_keep_7 (by decide) ?_
  refine r_icmp_eq (tgt := 13) hx dX1_keep_8 (by decide) (fun c4 => ?_) (fun c4 => ?_)
  · have h := ite_t h c4
    refine r_lload_n (k0 := 2) hx dX1_keep_13 rfl rfl ?_
    obtain ⟨S5, v7, c6, h⟩ := bI_some h
    refine r_Si (As := [.long a1]) (rest := []) hx (C_X0_sizeOf (c := x_y x) hKS c6) wl_X1_35 wt_X0_sizeOf wn_X0 wc_X0_sizeOf dy_X0_sizeOf rfl (by rw [hR]; exact ry_X1_keep_X0_sizeOf) rfl (Nat.le_of_ble_eq_true rfl) dX1_keep_14 ?_
    refine r_istore (lv' := [(4, .int v7), (3, .int v3), (0, .ref (x_ad x 0 0 0)), (1, .long a1)]) hx dX1_keep_17 (by decide) rfl ?_
    refine r_iload (k0 := 0) hx dX1_keep_19 rfl ?_
    refine r_if_ne (tgt := 26) hx dX1_keep_21 (by decide) (fun c8 => ?_) (fun c8 => ?_)
    · have h := ite_f h c8
      refine r_lload_n (k0 := 3) hx dX1_keep_26 rfl rfl ?_
      refine r_iconst (v := 0) hx dX1_keep_27 (by decide) ?_
      obtain ⟨S9, v11, c10, h⟩ := bI_some h
      refine r_Si (As := [.long a1, .int 0]) (rest := []) hx (C_X0_markAt (c := x_y x) hKS c10) wl_X1_38 wt_X0_markAt wn_X0 wc_X0_markAt dy_X0_markAt rfl (by rw [hR]; exact ry_X1_keep_X0_markAt) rfl (Nat.le_of_ble_eq_true rfl) dX1_keep_28 ?_
      obtain ⟨S12, v14, c13, h⟩ := bI_some h
      refine r_Si (As := [.int v11]) (rest := []) hx (C_X0_partsOf (c := x_y x) hKS c13) wl_X1_42 wt_X0_partsOf wn_X0 wc_X0_partsOf dy_X0_partsOf rfl (by rw [hR]; exact ry_X1_keep_X0_partsOf) rfl (Nat.le_of_ble_eq_true rfl) dX1_keep_31 ?_
      refine r_istore (lv' := [(5, .int v14), (4, .int v7), (3, .int v3), (0, .ref (x_ad x 0 0 0)), (1, .long a1)]) hx dX1_keep_34 (by decide) rfl ?_
      refine r_iconst (v := 1) hx dX1_keep_36 (by decide) ?_
      refine r_lload_n (k0 := 4) hx dX1_keep_37 rfl rfl ?_
      obtain ⟨S15, v17, c16, h⟩ := bI_some h
      refine r_Si (As := [.long a1]) (rest := [.int 1]) hx (C_X0_firstPartSize (c := x_y x) hKS c16) wl_X1_46 wt_X0_firstPartSize wn_X0 wc_X0_firstPartSize dy_X0_firstPartSize rfl (by rw [hR]; exact ry_X1_keep_X0_firstPartSize) rfl (Nat.le_of_ble_eq_true rfl) dX1_keep_38 ?_
      refine r_iadd hx dX1_keep_41 ?_
      obtain ⟨v18, e19, h⟩ := bV_some h
      rw [← e19]
      refine r_istore (lv' := [(6, .int v18), (5, .int v14), (4, .int v7), (3, .int v3), (0, .ref (x_ad x 0 0 0)), (1, .long a1)]) hx dX1_keep_42 (by decide) rfl ?_
      refine r_iload (k0 := 1) hx dX1_keep_44 rfl ?_
      refine r_if_le (tgt := 65) hx dX1_keep_46 (by decide) (fun c20 => ?_) (fun c20 => ?_)
      · have h := ite_t h c20
        refine r_iconst (v := -1) hx dX1_keep_65 (by decide) ?_
        refine WX.sub (lv' := [(0, .ref (x_ad x 0 0 0)), (1, .long a1), (4, .int v7), (5, .int v14), (6, .int v18)]) ?_ [4, 5, 2, 1, 0] rfl
        exact t_X1_keep_66 hx hR hKS hE hF h
      · have h := ite_f h c20
        refine r_aload_n (k0 := 4) hx dX1_keep_49 rfl rfl ?_
        refine r_lload_n (k0 := 5) hx dX1_keep_50 rfl rfl ?_
        refine r_iconst (v := 1) hx dX1_keep_51 (by decide) ?_
        refine r_iload (k0 := 0) hx dX1_keep_52 rfl ?_
        refine r_iconst (v := 1) hx dX1_keep_54 (by decide) ?_
        refine r_isub hx dX1_keep_55 ?_
        obtain ⟨S21, v23, c22, h⟩ := bL_some h
        refine r_Sl (As := [.long a1, .int 1, .int (v18 - 1)]) (rest := [.ref (x_ad x 0 0 0)]) hx (C_X0_cut (c := x_y x) hKS c22) wl_X1_49 wt_X0_cut wn_X0 wc_X0_cut dy_X0_cut rfl (by rw [hR]; exact ry_X1_keep_X0_cut) rfl (Nat.le_of_ble_eq_true rfl) dX1_keep_56 ?_
        obtain ⟨S24, v26, c25, h⟩ := bI_some h
        refine r_Vi (ci := 0) (As := [.long v23]) (rest := []) hx (hF c25) (k_0_0 hKS) rfl wl_X1_53 wi_X1_keep we_X1_keep wn_X1 wc_X1_keep dy_X1_keep rfl (by rw [hR]; exact ry_X1_keep_X1_keep) rfl (Nat.le_of_ble_eq_true rfl) dX1_keep_59 ?_
        refine r_goto (tgt := 66) hx dX1_keep_62 (by decide) ?_
        refine WX.sub (lv' := [(0, .ref (x_ad x 0 0 0)), (1, .long a1), (4, .int v7), (5, .int v14), (6, .int v18)]) ?_ [4, 5, 2, 1, 0] rfl
        exact t_X1_keep_66 hx hR hKS hE hF h
    · have h := ite_t h c8
      refine r_iconst (v := -1) hx dX1_keep_24 (by decide) ?_
      exact r_iret hE h dX1_keep_25
  · have h := ite_f h c4
    refine r_iload_n (k0 := 0) hx dX1_keep_11 rfl rfl ?_
    exact r_iret hE h dX1_keep_12
def k_X1_keep (n : Nat) : Nat → St → Int64 → Option (St × Int32)
  | 0, _, _ => none
  | d + 1, S, a1 => f_X1_keep n (k_X1_keep n d) S a1
set_option maxHeartbeats 4000000 in
theorem D_X1_keep {n : Nat} {c : YC} (hKS : ∀ k ∈ KK, k ∈ c.2.2.2.2) : ∀ {d : Nat} {S : St} {a1 : Int64} {out : St × Int32} (h : k_X1_keep n d S a1 = some out), MI c yX1_keep cX1_keep 9 (some .int) (rm_X1_keep d) S [.ref (c.2.2.1 0 0 0), .long a1] out := by
  intro d
  induction d with
  | zero => intro S a1 out h; cases h
  | succ d ih =>
    intro S a1 out h
    exact mk_I (own := RX1) (by decide +kernel) rfl (Nat.le_of_ble_eq_true rfl) (fun x hx hR hy hE => by subst hy; exact t_X1_keep_0 hx hR hKS hE ih h)
