/-! the constructor of the reference -/
def adM (h : Nat) (r : Nat → Nat) : Ad := fun g f _ => if g = 0 then h else r f
def SI0 : St := (fun f _ => if f = 355 then 1 else if f = 379 then 1 else 0, fun _ _ _ => 0, fun _ _ _ => 0)
def SM0 : St := sS (sS (sI (sI (sI (sI (sS (sS SI0 350 0 (nI 0)) 355 0 (nI 1)) 351 0 0 (nI 0)) 352 0 0 mI) 353 0 0 mI) 354 0 0 (nI 1)) 362 0 (nI 0)) 366 0 (nI 0)
def X8W (t : Ty3) (h : Nat) (r : Nat → Nat) : va_W := wl (adM h r) t KM SM0
theorem SM0_c {n : Nat} : f_X8_clear n SI0 = some SM0 := by
  unfold f_X8_clear
  ((try simp only [k0, k1, k2, k3, k4, k5, k6, k8, k16, k30, k60, k100, k200, k201, k300, k1500, k8000, kM, k_m6]); repeat (first | rw [zt_eq (by omega)] | rw [zt_ne (by omega) (by omega) (by omega)] | rw [zt_nle (by omega) (by omega)] | rw [zt_le (by omega) (by omega)] | rw [zt_nlt (by omega) (by omega)] | rw [zt_lt (by omega) (by omega)] | rw [zt_nm (by omega)] | rw [zt_mm] | rw [zt_ml] | rw [zt_0m] | rw [zt_m0] | rw [zt_n6 (by omega)] | rw [zt_66] | rw [zt_06] | simp (disch := omega) only [k0, k1, k2, k3, k4, k5, k6, k8, k16, k30, k60, k100, k200, k201, k300, k1500, k8000, kM, k_m6, nIa, nIp, nIs, sI_1, sI_22, sL_1, sL_21, sS_21, sS_22, sI_ne, sL_ne, sS_ne, sS_eq, sI_eq, sI_at, sL_eq, sL_at, Nat.add_zero, if_true, if_false] | rw [bV_e] | rw [pS_e] | rw [bI_s] | rw [bU_s] | rw [bL_s] | rw [gI_n (by omega) (by omega)] | rw [gR_n (by omega)] | rw [pI_n (by omega) (by omega)] | rw [gL_n (by omega) (by omega)] | rw [pL_n (by omega) (by omega)]))
  all_goals rfl
abbrev FS8 : List Value := [.int 0, .null, .null, .null, .null, .int 0, .null, .null, .null, .null, .null, .null, .int 0, .null, .null, .null, .int 0, .null, .null, .null, .null, .null, .int 0, .int 0, .int 0, .int 0, .null, .null, .null, .int 0, .int 0, .null, .null, .int 0, .null, .null, .null, .int 0, .null, .null]
theorem dX8_init_0 : decode cX8_init 0 = .ok (.aload_n 0, 1) := by decide +kernel
theorem dX8_init_1 : decode cX8_init 1 = .ok (.invokespecial 1, 3) := by decide +kernel
theorem dX8_init_4 : decode cX8_init 4 = .ok (.aload_n 0, 1) := by decide +kernel
theorem dX8_init_5 : decode cX8_init 5 = .ok (.sipush 300, 3) := by decide +kernel
theorem dX8_init_8 : decode cX8_init 8 = .ok (.newarray .int, 2) := by decide +kernel
theorem dX8_init_10 : decode cX8_init 10 = .ok (.putfield 7, 3) := by decide +kernel
theorem dX8_init_13 : decode cX8_init 13 = .ok (.aload_n 0, 1) := by decide +kernel
theorem dX8_init_14 : decode cX8_init 14 = .ok (.sipush 300, 3) := by decide +kernel
theorem dX8_init_17 : decode cX8_init 17 = .ok (.newarray .int, 2) := by decide +kernel
theorem dX8_init_19 : decode cX8_init 19 = .ok (.putfield 13, 3) := by decide +kernel
theorem dX8_init_22 : decode cX8_init 22 = .ok (.aload_n 0, 1) := by decide +kernel
theorem dX8_init_23 : decode cX8_init 23 = .ok (.sipush 300, 3) := by decide +kernel
theorem dX8_init_26 : decode cX8_init 26 = .ok (.newarray .int, 2) := by decide +kernel
theorem dX8_init_28 : decode cX8_init 28 = .ok (.putfield 16, 3) := by decide +kernel
theorem dX8_init_31 : decode cX8_init 31 = .ok (.aload_n 0, 1) := by decide +kernel
theorem dX8_init_32 : decode cX8_init 32 = .ok (.sipush 300, 3) := by decide +kernel
theorem dX8_init_35 : decode cX8_init 35 = .ok (.newarray .int, 2) := by decide +kernel
theorem dX8_init_37 : decode cX8_init 37 = .ok (.putfield 19, 3) := by decide +kernel
theorem dX8_init_40 : decode cX8_init 40 = .ok (.aload_n 0, 1) := by decide +kernel
theorem dX8_init_41 : decode cX8_init 41 = .ok (.iconst 1, 1) := by decide +kernel
theorem dX8_init_42 : decode cX8_init 42 = .ok (.putfield 22, 3) := by decide +kernel
theorem dX8_init_45 : decode cX8_init 45 = .ok (.aload_n 0, 1) := by decide +kernel
theorem dX8_init_46 : decode cX8_init 46 = .ok (.sipush 1500, 3) := by decide +kernel
theorem dX8_init_49 : decode cX8_init 49 = .ok (.newarray .int, 2) := by decide +kernel
theorem dX8_init_51 : decode cX8_init 51 = .ok (.putfield 26, 3) := by decide +kernel
theorem dX8_init_54 : decode cX8_init 54 = .ok (.aload_n 0, 1) := by decide +kernel
theorem dX8_init_55 : decode cX8_init 55 = .ok (.sipush 1500, 3) := by decide +kernel
theorem dX8_init_58 : decode cX8_init 58 = .ok (.newarray .int, 2) := by decide +kernel
theorem dX8_init_60 : decode cX8_init 60 = .ok (.putfield 29, 3) := by decide +kernel
theorem dX8_init_63 : decode cX8_init 63 = .ok (.aload_n 0, 1) := by decide +kernel
theorem dX8_init_64 : decode cX8_init 64 = .ok (.sipush 1500, 3) := by decide +kernel
theorem dX8_init_67 : decode cX8_init 67 = .ok (.newarray .int, 2) := by decide +kernel
theorem dX8_init_69 : decode cX8_init 69 = .ok (.putfield 32, 3) := by decide +kernel
theorem dX8_init_72 : decode cX8_init 72 = .ok (.aload_n 0, 1) := by decide +kernel
theorem dX8_init_73 : decode cX8_init 73 = .ok (.sipush 1500, 3) := by decide +kernel
theorem dX8_init_76 : decode cX8_init 76 = .ok (.newarray .int, 2) := by decide +kernel
theorem dX8_init_78 : decode cX8_init 78 = .ok (.putfield 35, 3) := by decide +kernel
theorem dX8_init_81 : decode cX8_init 81 = .ok (.aload_n 0, 1) := by decide +kernel
theorem dX8_init_82 : decode cX8_init 82 = .ok (.sipush 1500, 3) := by decide +kernel
theorem dX8_init_85 : decode cX8_init 85 = .ok (.newarray .int, 2) := by decide +kernel
theorem dX8_init_87 : decode cX8_init 87 = .ok (.putfield 38, 3) := by decide +kernel
theorem dX8_init_90 : decode cX8_init 90 = .ok (.aload_n 0, 1) := by decide +kernel
theorem dX8_init_91 : decode cX8_init 91 = .ok (.sipush 1500, 3) := by decide +kernel
theorem dX8_init_94 : decode cX8_init 94 = .ok (.newarray .int, 2) := by decide +kernel
theorem dX8_init_96 : decode cX8_init 96 = .ok (.putfield 41, 3) := by decide +kernel
theorem dX8_init_99 : decode cX8_init 99 = .ok (.aload_n 0, 1) := by decide +kernel
theorem dX8_init_100 : decode cX8_init 100 = .ok (.bipush 40, 2) := by decide +kernel
theorem dX8_init_102 : decode cX8_init 102 = .ok (.newarray .int, 2) := by decide +kernel
theorem dX8_init_104 : decode cX8_init 104 = .ok (.putfield 44, 3) := by decide +kernel
theorem dX8_init_107 : decode cX8_init 107 = .ok (.aload_n 0, 1) := by decide +kernel
theorem dX8_init_108 : decode cX8_init 108 = .ok (.bipush 40, 2) := by decide +kernel
theorem dX8_init_110 : decode cX8_init 110 = .ok (.newarray .int, 2) := by decide +kernel
theorem dX8_init_112 : decode cX8_init 112 = .ok (.putfield 47, 3) := by decide +kernel
theorem dX8_init_115 : decode cX8_init 115 = .ok (.aload_n 0, 1) := by decide +kernel
theorem dX8_init_116 : decode cX8_init 116 = .ok (.bipush 40, 2) := by decide +kernel
theorem dX8_init_118 : decode cX8_init 118 = .ok (.newarray .int, 2) := by decide +kernel
theorem dX8_init_120 : decode cX8_init 120 = .ok (.putfield 50, 3) := by decide +kernel
theorem dX8_init_123 : decode cX8_init 123 = .ok (.aload_n 0, 1) := by decide +kernel
theorem dX8_init_124 : decode cX8_init 124 = .ok (.sipush 8000, 3) := by decide +kernel
theorem dX8_init_127 : decode cX8_init 127 = .ok (.newarray .int, 2) := by decide +kernel
theorem dX8_init_129 : decode cX8_init 129 = .ok (.putfield 53, 3) := by decide +kernel
theorem dX8_init_132 : decode cX8_init 132 = .ok (.aload_n 0, 1) := by decide +kernel
theorem dX8_init_133 : decode cX8_init 133 = .ok (.sipush 8000, 3) := by decide +kernel
theorem dX8_init_136 : decode cX8_init 136 = .ok (.newarray .int, 2) := by decide +kernel
theorem dX8_init_138 : decode cX8_init 138 = .ok (.putfield 56, 3) := by decide +kernel
theorem dX8_init_141 : decode cX8_init 141 = .ok (.aload_n 0, 1) := by decide +kernel
theorem dX8_init_142 : decode cX8_init 142 = .ok (.sipush 8000, 3) := by decide +kernel
theorem dX8_init_145 : decode cX8_init 145 = .ok (.newarray .int, 2) := by decide +kernel
theorem dX8_init_147 : decode cX8_init 147 = .ok (.putfield 59, 3) := by decide +kernel
theorem dX8_init_150 : decode cX8_init 150 = .ok (.aload_n 0, 1) := by decide +kernel
theorem dX8_init_151 : decode cX8_init 151 = .ok (.sipush 8000, 3) := by decide +kernel
theorem dX8_init_154 : decode cX8_init 154 = .ok (.newarray .int, 2) := by decide +kernel
theorem dX8_init_156 : decode cX8_init 156 = .ok (.putfield 62, 3) := by decide +kernel
theorem dX8_init_159 : decode cX8_init 159 = .ok (.aload_n 0, 1) := by decide +kernel
theorem dX8_init_160 : decode cX8_init 160 = .ok (.ldc 65, 2) := by decide +kernel
theorem dX8_init_162 : decode cX8_init 162 = .ok (.newarray .int, 2) := by decide +kernel
theorem dX8_init_164 : decode cX8_init 164 = .ok (.putfield 66, 3) := by decide +kernel
theorem dX8_init_167 : decode cX8_init 167 = .ok (.aload_n 0, 1) := by decide +kernel
theorem dX8_init_168 : decode cX8_init 168 = .ok (.sipush 1000, 3) := by decide +kernel
theorem dX8_init_171 : decode cX8_init 171 = .ok (.newarray .int, 2) := by decide +kernel
theorem dX8_init_173 : decode cX8_init 173 = .ok (.putfield 69, 3) := by decide +kernel
theorem dX8_init_176 : decode cX8_init 176 = .ok (.aload_n 0, 1) := by decide +kernel
theorem dX8_init_177 : decode cX8_init 177 = .ok (.sipush 1000, 3) := by decide +kernel
theorem dX8_init_180 : decode cX8_init 180 = .ok (.newarray .int, 2) := by decide +kernel
theorem dX8_init_182 : decode cX8_init 182 = .ok (.putfield 72, 3) := by decide +kernel
theorem dX8_init_185 : decode cX8_init 185 = .ok (.aload_n 0, 1) := by decide +kernel
theorem dX8_init_186 : decode cX8_init 186 = .ok (.bipush 100, 2) := by decide +kernel
theorem dX8_init_188 : decode cX8_init 188 = .ok (.newarray .int, 2) := by decide +kernel
theorem dX8_init_190 : decode cX8_init 190 = .ok (.putfield 75, 3) := by decide +kernel
theorem dX8_init_193 : decode cX8_init 193 = .ok (.aload_n 0, 1) := by decide +kernel
theorem dX8_init_194 : decode cX8_init 194 = .ok (.iconst 1, 1) := by decide +kernel
theorem dX8_init_195 : decode cX8_init 195 = .ok (.putfield 78, 3) := by decide +kernel
theorem dX8_init_198 : decode cX8_init 198 = .ok (.aload_n 0, 1) := by decide +kernel
theorem dX8_init_199 : decode cX8_init 199 = .ok (.sipush 8000, 3) := by decide +kernel
theorem dX8_init_202 : decode cX8_init 202 = .ok (.newarray .int, 2) := by decide +kernel
theorem dX8_init_204 : decode cX8_init 204 = .ok (.putfield 82, 3) := by decide +kernel
theorem dX8_init_207 : decode cX8_init 207 = .ok (.aload_n 0, 1) := by decide +kernel
theorem dX8_init_208 : decode cX8_init 208 = .ok (.sipush 300, 3) := by decide +kernel
theorem dX8_init_211 : decode cX8_init 211 = .ok (.newarray .int, 2) := by decide +kernel
theorem dX8_init_213 : decode cX8_init 213 = .ok (.putfield 85, 3) := by decide +kernel
theorem dX8_init_216 : decode cX8_init 216 = .ok (.aload_n 0, 1) := by decide +kernel
theorem dX8_init_217 : decode cX8_init 217 = .ok (.sipush 300, 3) := by decide +kernel
theorem dX8_init_220 : decode cX8_init 220 = .ok (.newarray .int, 2) := by decide +kernel
theorem dX8_init_222 : decode cX8_init 222 = .ok (.putfield 88, 3) := by decide +kernel
theorem dX8_init_225 : decode cX8_init 225 = .ok (.aload_n 0, 1) := by decide +kernel
theorem dX8_init_226 : decode cX8_init 226 = .ok (.sipush 300, 3) := by decide +kernel
theorem dX8_init_229 : decode cX8_init 229 = .ok (.newarray .int, 2) := by decide +kernel
theorem dX8_init_231 : decode cX8_init 231 = .ok (.putfield 91, 3) := by decide +kernel
theorem dX8_init_234 : decode cX8_init 234 = .ok (.aload_n 0, 1) := by decide +kernel
theorem dX8_init_235 : decode cX8_init 235 = .ok (.sipush 900, 3) := by decide +kernel
theorem dX8_init_238 : decode cX8_init 238 = .ok (.newarray .int, 2) := by decide +kernel
theorem dX8_init_240 : decode cX8_init 240 = .ok (.putfield 94, 3) := by decide +kernel
theorem dX8_init_243 : decode cX8_init 243 = .ok (.aload_n 0, 1) := by decide +kernel
theorem dX8_init_244 : decode cX8_init 244 = .ok (.bipush 100, 2) := by decide +kernel
theorem dX8_init_246 : decode cX8_init 246 = .ok (.newarray .int, 2) := by decide +kernel
theorem dX8_init_248 : decode cX8_init 248 = .ok (.putfield 97, 3) := by decide +kernel
theorem dX8_init_251 : decode cX8_init 251 = .ok (.aload_n 0, 1) := by decide +kernel
theorem dX8_init_252 : decode cX8_init 252 = .ok (.bipush 100, 2) := by decide +kernel
theorem dX8_init_254 : decode cX8_init 254 = .ok (.newarray .int, 2) := by decide +kernel
theorem dX8_init_256 : decode cX8_init 256 = .ok (.putfield 100, 3) := by decide +kernel
theorem dX8_init_259 : decode cX8_init 259 = .ok (.aload_n 0, 1) := by decide +kernel
theorem dX8_init_260 : decode cX8_init 260 = .ok (.invokevirtual 103, 3) := by decide +kernel
theorem dX8_init_263 : decode cX8_init 263 = .ok (.return_, 1) := by decide +kernel
theorem df_X8 : ∀ j, j < 40 → defaultValue (tyX8 j) = vp_V [.int 0, .null, .null, .null, .null, .int 0, .null, .null, .null, .null, .null, .null, .int 0, .null, .null, .null, .int 0, .null, .null, .null, .null, .null, .int 0, .int 0, .int 0, .int 0, .null, .null, .null, .int 0, .int 0, .null, .null, .int 0, .null, .null, .null, .int 0, .null, .null] j := by
  intro j hj
  match j, hj with
  | 0, _ => rfl
  | 1, _ => rfl
  | 2, _ => rfl
  | 3, _ => rfl
  | 4, _ => rfl
  | 5, _ => rfl
  | 6, _ => rfl
  | 7, _ => rfl
  | 8, _ => rfl
  | 9, _ => rfl
  | 10, _ => rfl
  | 11, _ => rfl
  | 12, _ => rfl
  | 13, _ => rfl
  | 14, _ => rfl
  | 15, _ => rfl
  | 16, _ => rfl
  | 17, _ => rfl
  | 18, _ => rfl
  | 19, _ => rfl
  | 20, _ => rfl
  | 21, _ => rfl
  | 22, _ => rfl
  | 23, _ => rfl
  | 24, _ => rfl
  | 25, _ => rfl
  | 26, _ => rfl
  | 27, _ => rfl
  | 28, _ => rfl
  | 29, _ => rfl
  | 30, _ => rfl
  | 31, _ => rfl
  | 32, _ => rfl
  | 33, _ => rfl
  | 34, _ => rfl
  | 35, _ => rfl
  | 36, _ => rfl
  | 37, _ => rfl
  | 38, _ => rfl
  | 39, _ => rfl
  | j + 40, hj => exact absurd hj (by omega)
abbrev rmN_X8 : Room := { frames := 1, cells := 28, slots := 1554420, locals := 40 }
set_option maxRecDepth 100000 in
set_option maxHeartbeats 4000000 in
theorem N8_0 {x : XC} {h : Nat} (hx : CN x h cX8_init 1 RX8) (hR : x_R x = rmN_X8) (hi : (x_me x).name = "<init>") (kk : ∀ (q1 q2 q3 q4 q5 : Nat), WN x h 1 5 2700 [(h, .inr (7, [.int 0, .ref q1, .ref q2, .ref q3, .ref q4, .int 1, .ref q5, .null, .null, .null, .null, .null, .int 0, .null, .null, .null, .int 0, .null, .null, .null, .null, .null, .int 0, .int 0, .int 0, .int 0, .null, .null, .null, .int 0, .int 0, .null, .null, .int 0, .null, .null, .null, .int 0, .null, .null])), (q1, eI (x_t x) 300 (fun _ => 0)), (q2, eI (x_t x) 300 (fun _ => 0)), (q3, eI (x_t x) 300 (fun _ => 0)), (q4, eI (x_t x) 300 (fun _ => 0)), (q5, eI (x_t x) 1500 (fun _ => 0))] 54 [(0, .ref h)] []) : WN x h 1 0 0 [(h, .inr (7, [.int 0, .null, .null, .null, .null, .int 0, .null, .null, .null, .null, .null, .null, .int 0, .null, .null, .null, .int 0, .null, .null, .null, .null, .null, .int 0, .int 0, .int 0, .int 0, .null, .null, .null, .int 0, .int 0, .null, .null, .int 0, .null, .null, .null, .int 0, .null, .null]))] 0 [(0, .ref h)] [] := by
  refine n_aload_n (k0 := 0) hx dX8_init_0 rfl rfl ?_
  refine n_obj hx wl_X8_1 dX8_init_1 (by rw [hR]; decide) (by rw [hR]; decide) ?_
  refine n_aload_n (k0 := 0) hx dX8_init_4 rfl rfl ?_
  refine n_sipush (v := 300) hx dX8_init_5 (by decide) ?_
  refine n_newi (N := 300) hx (by decide) (by decide +kernel) (by decide +kernel) (by rw [hR]; decide) (by rw [hR]; decide) dX8_init_8 (fun q1 => ?_)
  refine n_putF (C := RX8) (T := TX8) (N := 40) (ci := 7) (k := 1) (ty := .array .int) hx hi rfl (by decide) in_X8 tyX8_ok nmX8 rfl rfl (by decide +kernel) rfl rfl (Nat.le_of_ble_eq_true rfl) rfl wf_X8_7 dX8_init_10 ?_
  show WN x h 1 1 300 [(h, .inr (7, [.int 0, .ref q1, .null, .null, .null, .int 0, .null, .null, .null, .null, .null, .null, .int 0, .null, .null, .null, .int 0, .null, .null, .null, .null, .null, .int 0, .int 0, .int 0, .int 0, .null, .null, .null, .int 0, .int 0, .null, .null, .int 0, .null, .null, .null, .int 0, .null, .null])), (q1, eI (x_t x) 300 (fun _ => 0))] 13 [(0, .ref h)] []
  refine n_aload_n (k0 := 0) hx dX8_init_13 rfl rfl ?_
  refine n_sipush (v := 300) hx dX8_init_14 (by decide) ?_
  refine n_newi (N := 300) hx (by decide) (by decide +kernel) (by decide +kernel) (by rw [hR]; decide) (by rw [hR]; decide) dX8_init_17 (fun q2 => ?_)
  refine n_putF (C := RX8) (T := TX8) (N := 40) (ci := 7) (k := 2) (ty := .array .int) hx hi rfl (by decide) in_X8 tyX8_ok nmX8 rfl rfl (by decide +kernel) rfl rfl (Nat.le_of_ble_eq_true rfl) rfl wf_X8_13 dX8_init_19 ?_
  show WN x h 1 2 600 [(h, .inr (7, [.int 0, .ref q1, .ref q2, .null, .null, .int 0, .null, .null, .null, .null, .null, .null, .int 0, .null, .null, .null, .int 0, .null, .null, .null, .null, .null, .int 0, .int 0, .int 0, .int 0, .null, .null, .null, .int 0, .int 0, .null, .null, .int 0, .null, .null, .null, .int 0, .null, .null])), (q1, eI (x_t x) 300 (fun _ => 0)), (q2, eI (x_t x) 300 (fun _ => 0))] 22 [(0, .ref h)] []
  refine n_aload_n (k0 := 0) hx dX8_init_22 rfl rfl ?_
  refine n_sipush (v := 300) hx dX8_init_23 (by decide) ?_
  refine n_newi (N := 300) hx (by decide) (by decide +kernel) (by decide +kernel) (by rw [hR]; decide) (by rw [hR]; decide) dX8_init_26 (fun q3 => ?_)
  refine n_putF (C := RX8) (T := TX8) (N := 40) (ci := 7) (k := 3) (ty := .array .int) hx hi rfl (by decide) in_X8 tyX8_ok nmX8 rfl rfl (by decide +kernel) rfl rfl (Nat.le_of_ble_eq_true rfl) rfl wf_X8_16 dX8_init_28 ?_
  show WN x h 1 3 900 [(h, .inr (7, [.int 0, .ref q1, .ref q2, .ref q3, .null, .int 0, .null, .null, .null, .null, .null, .null, .int 0, .null, .null, .null, .int 0, .null, .null, .null, .null, .null, .int 0, .int 0, .int 0, .int 0, .null, .null, .null, .int 0, .int 0, .null, .null, .int 0, .null, .null, .null, .int 0, .null, .null])), (q1, eI (x_t x) 300 (fun _ => 0)), (q2, eI (x_t x) 300 (fun _ => 0)), (q3, eI (x_t x) 300 (fun _ => 0))] 31 [(0, .ref h)] []
  refine n_aload_n (k0 := 0) hx dX8_init_31 rfl rfl ?_
  refine n_sipush (v := 300) hx dX8_init_32 (by decide) ?_
  refine n_newi (N := 300) hx (by decide) (by decide +kernel) (by decide +kernel) (by rw [hR]; decide) (by rw [hR]; decide) dX8_init_35 (fun q4 => ?_)
  refine n_putF (C := RX8) (T := TX8) (N := 40) (ci := 7) (k := 4) (ty := .array .int) hx hi rfl (by decide) in_X8 tyX8_ok nmX8 rfl rfl (by decide +kernel) rfl rfl (Nat.le_of_ble_eq_true rfl) rfl wf_X8_19 dX8_init_37 ?_
  show WN x h 1 4 1200 [(h, .inr (7, [.int 0, .ref q1, .ref q2, .ref q3, .ref q4, .int 0, .null, .null, .null, .null, .null, .null, .int 0, .null, .null, .null, .int 0, .null, .null, .null, .null, .null, .int 0, .int 0, .int 0, .int 0, .null, .null, .null, .int 0, .int 0, .null, .null, .int 0, .null, .null, .null, .int 0, .null, .null])), (q1, eI (x_t x) 300 (fun _ => 0)), (q2, eI (x_t x) 300 (fun _ => 0)), (q3, eI (x_t x) 300 (fun _ => 0)), (q4, eI (x_t x) 300 (fun _ => 0))] 40 [(0, .ref h)] []
  refine n_aload_n (k0 := 0) hx dX8_init_40 rfl rfl ?_
  refine n_iconst (v := 1) hx dX8_init_41 (by decide) ?_
  refine n_put (C := RX8) (T := TX8) (N := 40) (ci := 7) (k := 5) (ty := .int) hx rfl (by decide) in_X8 tyX8_ok nmX8 rfl (by decide +kernel) rfl rfl (Nat.le_of_ble_eq_true rfl) rfl wf_X8_22 dX8_init_42 ?_
  show WN x h 1 4 1200 [(h, .inr (7, [.int 0, .ref q1, .ref q2, .ref q3, .ref q4, .int 1, .null, .null, .null, .null, .null, .null, .int 0, .null, .null, .null, .int 0, .null, .null, .null, .null, .null, .int 0, .int 0, .int 0, .int 0, .null, .null, .null, .int 0, .int 0, .null, .null, .int 0, .null, .null, .null, .int 0, .null, .null])), (q1, eI (x_t x) 300 (fun _ => 0)), (q2, eI (x_t x) 300 (fun _ => 0)), (q3, eI (x_t x) 300 (fun _ => 0)), (q4, eI (x_t x) 300 (fun _ => 0))] 45 [(0, .ref h)] []
  refine n_aload_n (k0 := 0) hx dX8_init_45 rfl rfl ?_
  refine n_sipush (v := 1500) hx dX8_init_46 (by decide) ?_
  refine n_newi (N := 1500) hx (by decide) (by decide +kernel) (by decide +kernel) (by rw [hR]; decide) (by rw [hR]; decide) dX8_init_49 (fun q5 => ?_)
  refine n_putF (C := RX8) (T := TX8) (N := 40) (ci := 7) (k := 6) (ty := .array .int) hx hi rfl (by decide) in_X8 tyX8_ok nmX8 rfl rfl (by decide +kernel) rfl rfl (Nat.le_of_ble_eq_true rfl) rfl wf_X8_26 dX8_init_51 ?_
  exact kk q1 q2 q3 q4 q5
set_option maxRecDepth 100000 in
set_option maxHeartbeats 4000000 in
theorem N8_54 {x : XC} {h q1 q2 q3 q4 q5 : Nat} (hx : CN x h cX8_init 1 RX8) (hR : x_R x = rmN_X8) (hi : (x_me x).name = "<init>") (kk : ∀ (q6 q7 q8 q9 q10 q11 : Nat), WN x h 1 11 10240 [(h, .inr (7, [.int 0, .ref q1, .ref q2, .ref q3, .ref q4, .int 1, .ref q5, .ref q6, .ref q7, .ref q8, .ref q9, .ref q10, .int 0, .ref q11, .null, .null, .int 0, .null, .null, .null, .null, .null, .int 0, .int 0, .int 0, .int 0, .null, .null, .null, .int 0, .int 0, .null, .null, .int 0, .null, .null, .null, .int 0, .null, .null])), (q1, eI (x_t x) 300 (fun _ => 0)), (q2, eI (x_t x) 300 (fun _ => 0)), (q3, eI (x_t x) 300 (fun _ => 0)), (q4, eI (x_t x) 300 (fun _ => 0)), (q5, eI (x_t x) 1500 (fun _ => 0)), (q6, eI (x_t x) 1500 (fun _ => 0)), (q7, eI (x_t x) 1500 (fun _ => 0)), (q8, eI (x_t x) 1500 (fun _ => 0)), (q9, eI (x_t x) 1500 (fun _ => 0)), (q10, eI (x_t x) 1500 (fun _ => 0)), (q11, eI (x_t x) 40 (fun _ => 0))] 107 [(0, .ref h)] []) : WN x h 1 5 2700 [(h, .inr (7, [.int 0, .ref q1, .ref q2, .ref q3, .ref q4, .int 1, .ref q5, .null, .null, .null, .null, .null, .int 0, .null, .null, .null, .int 0, .null, .null, .null, .null, .null, .int 0, .int 0, .int 0, .int 0, .null, .null, .null, .int 0, .int 0, .null, .null, .int 0, .null, .null, .null, .int 0, .null, .null])), (q1, eI (x_t x) 300 (fun _ => 0)), (q2, eI (x_t x) 300 (fun _ => 0)), (q3, eI (x_t x) 300 (fun _ => 0)), (q4, eI (x_t x) 300 (fun _ => 0)), (q5, eI (x_t x) 1500 (fun _ => 0))] 54 [(0, .ref h)] [] := by
  refine n_aload_n (k0 := 0) hx dX8_init_54 rfl rfl ?_
  refine n_sipush (v := 1500) hx dX8_init_55 (by decide) ?_
  refine n_newi (N := 1500) hx (by decide) (by decide +kernel) (by decide +kernel) (by rw [hR]; decide) (by rw [hR]; decide) dX8_init_58 (fun q6 => ?_)
  refine n_putF (C := RX8) (T := TX8) (N := 40) (ci := 7) (k := 7) (ty := .array .int) hx hi rfl (by decide) in_X8 tyX8_ok nmX8 rfl rfl (by decide +kernel) rfl rfl (Nat.le_of_ble_eq_true rfl) rfl wf_X8_29 dX8_init_60 ?_
  show WN x h 1 6 4200 [(h, .inr (7, [.int 0, .ref q1, .ref q2, .ref q3, .ref q4, .int 1, .ref q5, .ref q6, .null, .null, .null, .null, .int 0, .null, .null, .null, .int 0, .null, .null, .null, .null, .null, .int 0, .int 0, .int 0, .int 0, .null, .null, .null, .int 0, .int 0, .null, .null, .int 0, .null, .null, .null, .int 0, .null, .null])), (q1, eI (x_t x) 300 (fun _ => 0)), (q2, eI (x_t x) 300 (fun _ => 0)), (q3, eI (x_t x) 300 (fun _ => 0)), (q4, eI (x_t x) 300 (fun _ => 0)), (q5, eI (x_t x) 1500 (fun _ => 0)), (q6, eI (x_t x) 1500 (fun _ => 0))] 63 [(0, .ref h)] []
  refine n_aload_n (k0 := 0) hx dX8_init_63 rfl rfl ?_
  refine n_sipush (v := 1500) hx dX8_init_64 (by decide) ?_
  refine n_newi (N := 1500) hx (by decide) (by decide +kernel) (by decide +kernel) (by rw [hR]; decide) (by rw [hR]; decide) dX8_init_67 (fun q7 => ?_)
  refine n_putF (C := RX8) (T := TX8) (N := 40) (ci := 7) (k := 8) (ty := .array .int) hx hi rfl (by decide) in_X8 tyX8_ok nmX8 rfl rfl (by decide +kernel) rfl rfl (Nat.le_of_ble_eq_true rfl) rfl wf_X8_32 dX8_init_69 ?_
  show WN x h 1 7 5700 [(h, .inr (7, [.int 0, .ref q1, .ref q2, .ref q3, .ref q4, .int 1, .ref q5, .ref q6, .ref q7, .null, .null, .null, .int 0, .null, .null, .null, .int 0, .null, .null, .null, .null, .null, .int 0, .int 0, .int 0, .int 0, .null, .null, .null, .int 0, .int 0, .null, .null, .int 0, .null, .null, .null, .int 0, .null, .null])), (q1, eI (x_t x) 300 (fun _ => 0)), (q2, eI (x_t x) 300 (fun _ => 0)), (q3, eI (x_t x) 300 (fun _ => 0)), (q4, eI (x_t x) 300 (fun _ => 0)), (q5, eI (x_t x) 1500 (fun _ => 0)), (q6, eI (x_t x) 1500 (fun _ => 0)), (q7, eI (x_t x) 1500 (fun _ => 0))] 72 [(0, .ref h)] []
  refine n_aload_n (k0 := 0) hx dX8_init_72 rfl rfl ?_
  refine n_sipush (v := 1500) hx dX8_init_73 (by decide) ?_
  refine n_newi (N := 1500) hx (by decide) (by decide +kernel) (by decide +kernel) (by rw [hR]; decide) (by rw [hR]; decide) dX8_init_76 (fun q8 => ?_)
  refine n_putF (C := RX8) (T := TX8) (N := 40) (ci := 7) (k := 9) (ty := .array .int) hx hi rfl (by decide) in_X8 tyX8_ok nmX8 rfl rfl (by decide +kernel) rfl rfl (Nat.le_of_ble_eq_true rfl) rfl wf_X8_35 dX8_init_78 ?_
  show WN x h 1 8 7200 [(h, .inr (7, [.int 0, .ref q1, .ref q2, .ref q3, .ref q4, .int 1, .ref q5, .ref q6, .ref q7, .ref q8, .null, .null, .int 0, .null, .null, .null, .int 0, .null, .null, .null, .null, .null, .int 0, .int 0, .int 0, .int 0, .null, .null, .null, .int 0, .int 0, .null, .null, .int 0, .null, .null, .null, .int 0, .null, .null])), (q1, eI (x_t x) 300 (fun _ => 0)), (q2, eI (x_t x) 300 (fun _ => 0)), (q3, eI (x_t x) 300 (fun _ => 0)), (q4, eI (x_t x) 300 (fun _ => 0)), (q5, eI (x_t x) 1500 (fun _ => 0)), (q6, eI (x_t x) 1500 (fun _ => 0)), (q7, eI (x_t x) 1500 (fun _ => 0)), (q8, eI (x_t x) 1500 (fun _ => 0))] 81 [(0, .ref h)] []
  refine n_aload_n (k0 := 0) hx dX8_init_81 rfl rfl ?_
  refine n_sipush (v := 1500) hx dX8_init_82 (by decide) ?_
  refine n_newi (N := 1500) hx (by decide) (by decide +kernel) (by decide +kernel) (by rw [hR]; decide) (by rw [hR]; decide) dX8_init_85 (fun q9 => ?_)
  refine n_putF (C := RX8) (T := TX8) (N := 40) (ci := 7) (k := 10) (ty := .array .int) hx hi rfl (by decide) in_X8 tyX8_ok nmX8 rfl rfl (by decide +kernel) rfl rfl (Nat.le_of_ble_eq_true rfl) rfl wf_X8_38 dX8_init_87 ?_
  show WN x h 1 9 8700 [(h, .inr (7, [.int 0, .ref q1, .ref q2, .ref q3, .ref q4, .int 1, .ref q5, .ref q6, .ref q7, .ref q8, .ref q9, .null, .int 0, .null, .null, .null, .int 0, .null, .null, .null, .null, .null, .int 0, .int 0, .int 0, .int 0, .null, .null, .null, .int 0, .int 0, .null, .null, .int 0, .null, .null, .null, .int 0, .null, .null])), (q1, eI (x_t x) 300 (fun _ => 0)), (q2, eI (x_t x) 300 (fun _ => 0)), (q3, eI (x_t x) 300 (fun _ => 0)), (q4, eI (x_t x) 300 (fun _ => 0)), (q5, eI (x_t x) 1500 (fun _ => 0)), (q6, eI (x_t x) 1500 (fun _ => 0)), (q7, eI (x_t x) 1500 (fun _ => 0)), (q8, eI (x_t x) 1500 (fun _ => 0)), (q9, eI (x_t x) 1500 (fun _ => 0))] 90 [(0, .ref h)] []
  refine n_aload_n (k0 := 0) hx dX8_init_90 rfl rfl ?_
  refine n_sipush (v := 1500) hx dX8_init_91 (by decide) ?_
  refine n_newi (N := 1500) hx (by decide) (by decide +kernel) (by decide +kernel) (by rw [hR]; decide) (by rw [hR]; decide) dX8_init_94 (fun q10 => ?_)
  refine n_putF (C := RX8) (T := TX8) (N := 40) (ci := 7) (k := 11) (ty := .array .int) hx hi rfl (by decide) in_X8 tyX8_ok nmX8 rfl rfl (by decide +kernel) rfl rfl (Nat.le_of_ble_eq_true rfl) rfl wf_X8_41 dX8_init_96 ?_
  show WN x h 1 10 10200 [(h, .inr (7, [.int 0, .ref q1, .ref q2, .ref q3, .ref q4, .int 1, .ref q5, .ref q6, .ref q7, .ref q8, .ref q9, .ref q10, .int 0, .null, .null, .null, .int 0, .null, .null, .null, .null, .null, .int 0, .int 0, .int 0, .int 0, .null, .null, .null, .int 0, .int 0, .null, .null, .int 0, .null, .null, .null, .int 0, .null, .null])), (q1, eI (x_t x) 300 (fun _ => 0)), (q2, eI (x_t x) 300 (fun _ => 0)), (q3, eI (x_t x) 300 (fun _ => 0)), (q4, eI (x_t x) 300 (fun _ => 0)), (q5, eI (x_t x) 1500 (fun _ => 0)), (q6, eI (x_t x) 1500 (fun _ => 0)), (q7, eI (x_t x) 1500 (fun _ => 0)), (q8, eI (x_t x) 1500 (fun _ => 0)), (q9, eI (x_t x) 1500 (fun _ => 0)), (q10, eI (x_t x) 1500 (fun _ => 0))] 99 [(0, .ref h)] []
  refine n_aload_n (k0 := 0) hx dX8_init_99 rfl rfl ?_
  refine n_bipush (v := 40) hx dX8_init_100 (by decide) ?_
  refine n_newi (N := 40) hx (by decide) (by decide +kernel) (by decide +kernel) (by rw [hR]; decide) (by rw [hR]; decide) dX8_init_102 (fun q11 => ?_)
  refine n_putF (C := RX8) (T := TX8) (N := 40) (ci := 7) (k := 13) (ty := .array .int) hx hi rfl (by decide) in_X8 tyX8_ok nmX8 rfl rfl (by decide +kernel) rfl rfl (Nat.le_of_ble_eq_true rfl) rfl wf_X8_44 dX8_init_104 ?_
  exact kk q6 q7 q8 q9 q10 q11
set_option maxRecDepth 100000 in
set_option maxHeartbeats 4000000 in
theorem N8_107 {x : XC} {h q1 q2 q3 q4 q5 q6 q7 q8 q9 q10 q11 : Nat} (hx : CN x h cX8_init 1 RX8) (hR : x_R x = rmN_X8) (hi : (x_me x).name = "<init>") (kk : ∀ (q12 q13 q14 q15 q16 q17 : Nat), WN x h 1 17 42320 [(h, .inr (7, [.int 0, .ref q1, .ref q2, .ref q3, .ref q4, .int 1, .ref q5, .ref q6, .ref q7, .ref q8, .ref q9, .ref q10, .int 0, .ref q11, .ref q12, .ref q13, .int 0, .ref q14, .ref q15, .ref q16, .ref q17, .null, .int 0, .int 0, .int 0, .int 0, .null, .null, .null, .int 0, .int 0, .null, .null, .int 0, .null, .null, .null, .int 0, .null, .null])), (q1, eI (x_t x) 300 (fun _ => 0)), (q2, eI (x_t x) 300 (fun _ => 0)), (q3, eI (x_t x) 300 (fun _ => 0)), (q4, eI (x_t x) 300 (fun _ => 0)), (q5, eI (x_t x) 1500 (fun _ => 0)), (q6, eI (x_t x) 1500 (fun _ => 0)), (q7, eI (x_t x) 1500 (fun _ => 0)), (q8, eI (x_t x) 1500 (fun _ => 0)), (q9, eI (x_t x) 1500 (fun _ => 0)), (q10, eI (x_t x) 1500 (fun _ => 0)), (q11, eI (x_t x) 40 (fun _ => 0)), (q12, eI (x_t x) 40 (fun _ => 0)), (q13, eI (x_t x) 40 (fun _ => 0)), (q14, eI (x_t x) 8000 (fun _ => 0)), (q15, eI (x_t x) 8000 (fun _ => 0)), (q16, eI (x_t x) 8000 (fun _ => 0)), (q17, eI (x_t x) 8000 (fun _ => 0))] 159 [(0, .ref h)] []) : WN x h 1 11 10240 [(h, .inr (7, [.int 0, .ref q1, .ref q2, .ref q3, .ref q4, .int 1, .ref q5, .ref q6, .ref q7, .ref q8, .ref q9, .ref q10, .int 0, .ref q11, .null, .null, .int 0, .null, .null, .null, .null, .null, .int 0, .int 0, .int 0, .int 0, .null, .null, .null, .int 0, .int 0, .null, .null, .int 0, .null, .null, .null, .int 0, .null, .null])), (q1, eI (x_t x) 300 (fun _ => 0)), (q2, eI (x_t x) 300 (fun _ => 0)), (q3, eI (x_t x) 300 (fun _ => 0)), (q4, eI (x_t x) 300 (fun _ => 0)), (q5, eI (x_t x) 1500 (fun _ => 0)), (q6, eI (x_t x) 1500 (fun _ => 0)), (q7, eI (x_t x) 1500 (fun _ => 0)), (q8, eI (x_t x) 1500 (fun _ => 0)), (q9, eI (x_t x) 1500 (fun _ => 0)), (q10, eI (x_t x) 1500 (fun _ => 0)), (q11, eI (x_t x) 40 (fun _ => 0))] 107 [(0, .ref h)] [] := by
  refine n_aload_n (k0 := 0) hx dX8_init_107 rfl rfl ?_
  refine n_bipush (v := 40) hx dX8_init_108 (by decide) ?_
  refine n_newi (N := 40) hx (by decide) (by decide +kernel) (by decide +kernel) (by rw [hR]; decide) (by rw [hR]; decide) dX8_init_110 (fun q12 => ?_)
  refine n_putF (C := RX8) (T := TX8) (N := 40) (ci := 7) (k := 14) (ty := .array .int) hx hi rfl (by decide) in_X8 tyX8_ok nmX8 rfl rfl (by decide +kernel) rfl rfl (Nat.le_of_ble_eq_true rfl) rfl wf_X8_47 dX8_init_112 ?_
  show WN x h 1 12 10280 [(h, .inr (7, [.int 0, .ref q1, .ref q2, .ref q3, .ref q4, .int 1, .ref q5, .ref q6, .ref q7, .ref q8, .ref q9, .ref q10, .int 0, .ref q11, .ref q12, .null, .int 0, .null, .null, .null, .null, .null, .int 0, .int 0, .int 0, .int 0, .null, .null, .null, .int 0, .int 0, .null, .null, .int 0, .null, .null, .null, .int 0, .null, .null])), (q1, eI (x_t x) 300 (fun _ => 0)), (q2, eI (x_t x) 300 (fun _ => 0)), (q3, eI (x_t x) 300 (fun _ => 0)), (q4, eI (x_t x) 300 (fun _ => 0)), (q5, eI (x_t x) 1500 (fun _ => 0)), (q6, eI (x_t x) 1500 (fun _ => 0)), (q7, eI (x_t x) 1500 (fun _ => 0)), (q8, eI (x_t x) 1500 (fun _ => 0)), (q9, eI (x_t x) 1500 (fun _ => 0)), (q10, eI (x_t x) 1500 (fun _ => 0)), (q11, eI (x_t x) 40 (fun _ => 0)), (q12, eI (x_t x) 40 (fun _ => 0))] 115 [(0, .ref h)] []
  refine n_aload_n (k0 := 0) hx dX8_init_115 rfl rfl ?_
  refine n_bipush (v := 40) hx dX8_init_116 (by decide) ?_
  refine n_newi (N := 40) hx (by decide) (by decide +kernel) (by decide +kernel) (by rw [hR]; decide) (by rw [hR]; decide) dX8_init_118 (fun q13 => ?_)
  refine n_putF (C := RX8) (T := TX8) (N := 40) (ci := 7) (k := 15) (ty := .array .int) hx hi rfl (by decide) in_X8 tyX8_ok nmX8 rfl rfl (by decide +kernel) rfl rfl (Nat.le_of_ble_eq_true rfl) rfl wf_X8_50 dX8_init_120 ?_
  show WN x h 1 13 10320 [(h, .inr (7, [.int 0, .ref q1, .ref q2, .ref q3, .ref q4, .int 1, .ref q5, .ref q6, .ref q7, .ref q8, .ref q9, .ref q10, .int 0, .ref q11, .ref q12, .ref q13, .int 0, .null, .null, .null, .null, .null, .int 0, .int 0, .int 0, .int 0, .null, .null, .null, .int 0, .int 0, .null, .null, .int 0, .null, .null, .null, .int 0, .null, .null])), (q1, eI (x_t x) 300 (fun _ => 0)), (q2, eI (x_t x) 300 (fun _ => 0)), (q3, eI (x_t x) 300 (fun _ => 0)), (q4, eI (x_t x) 300 (fun _ => 0)), (q5, eI (x_t x) 1500 (fun _ => 0)), (q6, eI (x_t x) 1500 (fun _ => 0)), (q7, eI (x_t x) 1500 (fun _ => 0)), (q8, eI (x_t x) 1500 (fun _ => 0)), (q9, eI (x_t x) 1500 (fun _ => 0)), (q10, eI (x_t x) 1500 (fun _ => 0)), (q11, eI (x_t x) 40 (fun _ => 0)), (q12, eI (x_t x) 40 (fun _ => 0)), (q13, eI (x_t x) 40 (fun _ => 0))] 123 [(0, .ref h)] []
  refine n_aload_n (k0 := 0) hx dX8_init_123 rfl rfl ?_
  refine n_sipush (v := 8000) hx dX8_init_124 (by decide) ?_
  refine n_newi (N := 8000) hx (by decide) (by decide +kernel) (by decide +kernel) (by rw [hR]; decide) (by rw [hR]; decide) dX8_init_127 (fun q14 => ?_)
  refine n_putF (C := RX8) (T := TX8) (N := 40) (ci := 7) (k := 17) (ty := .array .int) hx hi rfl (by decide) in_X8 tyX8_ok nmX8 rfl rfl (by decide +kernel) rfl rfl (Nat.le_of_ble_eq_true rfl) rfl wf_X8_53 dX8_init_129 ?_
  show WN x h 1 14 18320 [(h, .inr (7, [.int 0, .ref q1, .ref q2, .ref q3, .ref q4, .int 1, .ref q5, .ref q6, .ref q7, .ref q8, .ref q9, .ref q10, .int 0, .ref q11, .ref q12, .ref q13, .int 0, .ref q14, .null, .null, .null, .null, .int 0, .int 0, .int 0, .int 0, .null, .null, .null, .int 0, .int 0, .null, .null, .int 0, .null, .null, .null, .int 0, .null, .null])), (q1, eI (x_t x) 300 (fun _ => 0)), (q2, eI (x_t x) 300 (fun _ => 0)), (q3, eI (x_t x) 300 (fun _ => 0)), (q4, eI (x_t x) 300 (fun _ => 0)), (q5, eI (x_t x) 1500 (fun _ => 0)), (q6, eI (x_t x) 1500 (fun _ => 0)), (q7, eI (x_t x) 1500 (fun _ => 0)), (q8, eI (x_t x) 1500 (fun _ => 0)), (q9, eI (x_t x) 1500 (fun _ => 0)), (q10, eI (x_t x) 1500 (fun _ => 0)), (q11, eI (x_t x) 40 (fun _ => 0)), (q12, eI (x_t x) 40 (fun _ => 0)), (q13, eI (x_t x) 40 (fun _ => 0)), (q14, eI (x_t x) 8000 (fun _ => 0))] 132 [(0, .ref h)] []
  refine n_aload_n (k0 := 0) hx dX8_init_132 rfl rfl ?_
  refine n_sipush (v := 8000) hx dX8_init_133 (by decide) ?_
  refine n_newi (N := 8000) hx (by decide) (by decide +kernel) (by decide +kernel) (by rw [hR]; decide) (by rw [hR]; decide) dX8_init_136 (fun q15 => ?_)
  refine n_putF (C := RX8) (T := TX8) (N := 40) (ci := 7) (k := 18) (ty := .array .int) hx hi rfl (by decide) in_X8 tyX8_ok nmX8 rfl rfl (by decide +kernel) rfl rfl (Nat.le_of_ble_eq_true rfl) rfl wf_X8_56 dX8_init_138 ?_
  show WN x h 1 15 26320 [(h, .inr (7, [.int 0, .ref q1, .ref q2, .ref q3, .ref q4, .int 1, .ref q5, .ref q6, .ref q7, .ref q8, .ref q9, .ref q10, .int 0, .ref q11, .ref q12, .ref q13, .int 0, .ref q14, .ref q15, .null, .null, .null, .int 0, .int 0, .int 0, .int 0, .null, .null, .null, .int 0, .int 0, .null, .null, .int 0, .null, .null, .null, .int 0, .null, .null])), (q1, eI (x_t x) 300 (fun _ => 0)), (q2, eI (x_t x) 300 (fun _ => 0)), (q3, eI (x_t x) 300 (fun _ => 0)), (q4, eI (x_t x) 300 (fun _ => 0)), (q5, eI (x_t x) 1500 (fun _ => 0)), (q6, eI (x_t x) 1500 (fun _ => 0)), (q7, eI (x_t x) 1500 (fun _ => 0)), (q8, eI (x_t x) 1500 (fun _ => 0)), (q9, eI (x_t x) 1500 (fun _ => 0)), (q10, eI (x_t x) 1500 (fun _ => 0)), (q11, eI (x_t x) 40 (fun _ => 0)), (q12, eI (x_t x) 40 (fun _ => 0)), (q13, eI (x_t x) 40 (fun _ => 0)), (q14, eI (x_t x) 8000 (fun _ => 0)), (q15, eI (x_t x) 8000 (fun _ => 0))] 141 [(0, .ref h)] []
  refine n_aload_n (k0 := 0) hx dX8_init_141 rfl rfl ?_
  refine n_sipush (v := 8000) hx dX8_init_142 (by decide) ?_
  refine n_newi (N := 8000) hx (by decide) (by decide +kernel) (by decide +kernel) (by rw [hR]; decide) (by rw [hR]; decide) dX8_init_145 (fun q16 => ?_)
  refine n_putF (C := RX8) (T := TX8) (N := 40) (ci := 7) (k := 19) (ty := .array .int) hx hi rfl (by decide) in_X8 tyX8_ok nmX8 rfl rfl (by decide +kernel) rfl rfl (Nat.le_of_ble_eq_true rfl) rfl wf_X8_59 dX8_init_147 ?_
  show WN x h 1 16 34320 [(h, .inr (7, [.int 0, .ref q1, .ref q2, .ref q3, .ref q4, .int 1, .ref q5, .ref q6, .ref q7, .ref q8, .ref q9, .ref q10, .int 0, .ref q11, .ref q12, .ref q13, .int 0, .ref q14, .ref q15, .ref q16, .null, .null, .int 0, .int 0, .int 0, .int 0, .null, .null, .null, .int 0, .int 0, .null, .null, .int 0, .null, .null, .null, .int 0, .null, .null])), (q1, eI (x_t x) 300 (fun _ => 0)), (q2, eI (x_t x) 300 (fun _ => 0)), (q3, eI (x_t x) 300 (fun _ => 0)), (q4, eI (x_t x) 300 (fun _ => 0)), (q5, eI (x_t x) 1500 (fun _ => 0)), (q6, eI (x_t x) 1500 (fun _ => 0)), (q7, eI (x_t x) 1500 (fun _ => 0)), (q8, eI (x_t x) 1500 (fun _ => 0)), (q9, eI (x_t x) 1500 (fun _ => 0)), (q10, eI (x_t x) 1500 (fun _ => 0)), (q11, eI (x_t x) 40 (fun _ => 0)), (q12, eI (x_t x) 40 (fun _ => 0)), (q13, eI (x_t x) 40 (fun _ => 0)), (q14, eI (x_t x) 8000 (fun _ => 0)), (q15, eI (x_t x) 8000 (fun _ => 0)), (q16, eI (x_t x) 8000 (fun _ => 0))] 150 [(0, .ref h)] []
  refine n_aload_n (k0 := 0) hx dX8_init_150 rfl rfl ?_
  refine n_sipush (v := 8000) hx dX8_init_151 (by decide) ?_
  refine n_newi (N := 8000) hx (by decide) (by decide +kernel) (by decide +kernel) (by rw [hR]; decide) (by rw [hR]; decide) dX8_init_154 (fun q17 => ?_)
  refine n_putF (C := RX8) (T := TX8) (N := 40) (ci := 7) (k := 20) (ty := .array .int) hx hi rfl (by decide) in_X8 tyX8_ok nmX8 rfl rfl (by decide +kernel) rfl rfl (Nat.le_of_ble_eq_true rfl) rfl wf_X8_62 dX8_init_156 ?_
  exact kk q12 q13 q14 q15 q16 q17
set_option maxRecDepth 100000 in
set_option maxHeartbeats 4000000 in
theorem N8_159 {x : XC} {h q1 q2 q3 q4 q5 q6 q7 q8 q9 q10 q11 q12 q13 q14 q15 q16 q17 : Nat} (hx : CN x h cX8_init 1 RX8) (hR : x_R x = rmN_X8) (hi : (x_me x).name = "<init>") (kk : ∀ (q18 q19 q20 q21 q22 : Nat), WN x h 1 22 1552420 [(h, .inr (7, [.int 0, .ref q1, .ref q2, .ref q3, .ref q4, .int 1, .ref q5, .ref q6, .ref q7, .ref q8, .ref q9, .ref q10, .int 0, .ref q11, .ref q12, .ref q13, .int 0, .ref q14, .ref q15, .ref q16, .ref q17, .ref q18, .int 0, .int 0, .int 0, .int 0, .ref q19, .ref q20, .ref q21, .int 1, .int 0, .ref q22, .null, .int 0, .null, .null, .null, .int 0, .null, .null])), (q1, eI (x_t x) 300 (fun _ => 0)), (q2, eI (x_t x) 300 (fun _ => 0)), (q3, eI (x_t x) 300 (fun _ => 0)), (q4, eI (x_t x) 300 (fun _ => 0)), (q5, eI (x_t x) 1500 (fun _ => 0)), (q6, eI (x_t x) 1500 (fun _ => 0)), (q7, eI (x_t x) 1500 (fun _ => 0)), (q8, eI (x_t x) 1500 (fun _ => 0)), (q9, eI (x_t x) 1500 (fun _ => 0)), (q10, eI (x_t x) 1500 (fun _ => 0)), (q11, eI (x_t x) 40 (fun _ => 0)), (q12, eI (x_t x) 40 (fun _ => 0)), (q13, eI (x_t x) 40 (fun _ => 0)), (q14, eI (x_t x) 8000 (fun _ => 0)), (q15, eI (x_t x) 8000 (fun _ => 0)), (q16, eI (x_t x) 8000 (fun _ => 0)), (q17, eI (x_t x) 8000 (fun _ => 0)), (q18, eI (x_t x) 1500000 (fun _ => 0)), (q19, eI (x_t x) 1000 (fun _ => 0)), (q20, eI (x_t x) 1000 (fun _ => 0)), (q21, eI (x_t x) 100 (fun _ => 0)), (q22, eI (x_t x) 8000 (fun _ => 0))] 207 [(0, .ref h)] []) : WN x h 1 17 42320 [(h, .inr (7, [.int 0, .ref q1, .ref q2, .ref q3, .ref q4, .int 1, .ref q5, .ref q6, .ref q7, .ref q8, .ref q9, .ref q10, .int 0, .ref q11, .ref q12, .ref q13, .int 0, .ref q14, .ref q15, .ref q16, .ref q17, .null, .int 0, .int 0, .int 0, .int 0, .null, .null, .null, .int 0, .int 0, .null, .null, .int 0, .null, .null, .null, .int 0, .null, .null])), (q1, eI (x_t x) 300 (fun _ => 0)), (q2, eI (x_t x) 300 (fun _ => 0)), (q3, eI (x_t x) 300 (fun _ => 0)), (q4, eI (x_t x) 300 (fun _ => 0)), (q5, eI (x_t x) 1500 (fun _ => 0)), (q6, eI (x_t x) 1500 (fun _ => 0)), (q7, eI (x_t x) 1500 (fun _ => 0)), (q8, eI (x_t x) 1500 (fun _ => 0)), (q9, eI (x_t x) 1500 (fun _ => 0)), (q10, eI (x_t x) 1500 (fun _ => 0)), (q11, eI (x_t x) 40 (fun _ => 0)), (q12, eI (x_t x) 40 (fun _ => 0)), (q13, eI (x_t x) 40 (fun _ => 0)), (q14, eI (x_t x) 8000 (fun _ => 0)), (q15, eI (x_t x) 8000 (fun _ => 0)), (q16, eI (x_t x) 8000 (fun _ => 0)), (q17, eI (x_t x) 8000 (fun _ => 0))] 159 [(0, .ref h)] [] := by
  refine n_aload_n (k0 := 0) hx dX8_init_159 rfl rfl ?_
  refine n_ldc (v := 1500000) hx dX8_init_160 wk_X8_65 ?_
  refine n_newi (N := 1500000) hx (by decide) (by decide +kernel) (by decide +kernel) (by rw [hR]; decide) (by rw [hR]; decide) dX8_init_162 (fun q18 => ?_)
  refine n_putF (C := RX8) (T := TX8) (N := 40) (ci := 7) (k := 21) (ty := .array .int) hx hi rfl (by decide) in_X8 tyX8_ok nmX8 rfl rfl (by decide +kernel) rfl rfl (Nat.le_of_ble_eq_true rfl) rfl wf_X8_66 dX8_init_164 ?_
  show WN x h 1 18 1542320 [(h, .inr (7, [.int 0, .ref q1, .ref q2, .ref q3, .ref q4, .int 1, .ref q5, .ref q6, .ref q7, .ref q8, .ref q9, .ref q10, .int 0, .ref q11, .ref q12, .ref q13, .int 0, .ref q14, .ref q15, .ref q16, .ref q17, .ref q18, .int 0, .int 0, .int 0, .int 0, .null, .null, .null, .int 0, .int 0, .null, .null, .int 0, .null, .null, .null, .int 0, .null, .null])), (q1, eI (x_t x) 300 (fun _ => 0)), (q2, eI (x_t x) 300 (fun _ => 0)), (q3, eI (x_t x) 300 (fun _ => 0)), (q4, eI (x_t x) 300 (fun _ => 0)), (q5, eI (x_t x) 1500 (fun _ => 0)), (q6, eI (x_t x) 1500 (fun _ => 0)), (q7, eI (x_t x) 1500 (fun _ => 0)), (q8, eI (x_t x) 1500 (fun _ => 0)), (q9, eI (x_t x) 1500 (fun _ => 0)), (q10, eI (x_t x) 1500 (fun _ => 0)), (q11, eI (x_t x) 40 (fun _ => 0)), (q12, eI (x_t x) 40 (fun _ => 0)), (q13, eI (x_t x) 40 (fun _ => 0)), (q14, eI (x_t x) 8000 (fun _ => 0)), (q15, eI (x_t x) 8000 (fun _ => 0)), (q16, eI (x_t x) 8000 (fun _ => 0)), (q17, eI (x_t x) 8000 (fun _ => 0)), (q18, eI (x_t x) 1500000 (fun _ => 0))] 167 [(0, .ref h)] []
  refine n_aload_n (k0 := 0) hx dX8_init_167 rfl rfl ?_
  refine n_sipush (v := 1000) hx dX8_init_168 (by decide) ?_
  refine n_newi (N := 1000) hx (by decide) (by decide +kernel) (by decide +kernel) (by rw [hR]; decide) (by rw [hR]; decide) dX8_init_171 (fun q19 => ?_)
  refine n_putF (C := RX8) (T := TX8) (N := 40) (ci := 7) (k := 26) (ty := .array .int) hx hi rfl (by decide) in_X8 tyX8_ok nmX8 rfl rfl (by decide +kernel) rfl rfl (Nat.le_of_ble_eq_true rfl) rfl wf_X8_69 dX8_init_173 ?_
  show WN x h 1 19 1543320 [(h, .inr (7, [.int 0, .ref q1, .ref q2, .ref q3, .ref q4, .int 1, .ref q5, .ref q6, .ref q7, .ref q8, .ref q9, .ref q10, .int 0, .ref q11, .ref q12, .ref q13, .int 0, .ref q14, .ref q15, .ref q16, .ref q17, .ref q18, .int 0, .int 0, .int 0, .int 0, .ref q19, .null, .null, .int 0, .int 0, .null, .null, .int 0, .null, .null, .null, .int 0, .null, .null])), (q1, eI (x_t x) 300 (fun _ => 0)), (q2, eI (x_t x) 300 (fun _ => 0)), (q3, eI (x_t x) 300 (fun _ => 0)), (q4, eI (x_t x) 300 (fun _ => 0)), (q5, eI (x_t x) 1500 (fun _ => 0)), (q6, eI (x_t x) 1500 (fun _ => 0)), (q7, eI (x_t x) 1500 (fun _ => 0)), (q8, eI (x_t x) 1500 (fun _ => 0)), (q9, eI (x_t x) 1500 (fun _ => 0)), (q10, eI (x_t x) 1500 (fun _ => 0)), (q11, eI (x_t x) 40 (fun _ => 0)), (q12, eI (x_t x) 40 (fun _ => 0)), (q13, eI (x_t x) 40 (fun _ => 0)), (q14, eI (x_t x) 8000 (fun _ => 0)), (q15, eI (x_t x) 8000 (fun _ => 0)), (q16, eI (x_t x) 8000 (fun _ => 0)), (q17, eI (x_t x) 8000 (fun _ => 0)), (q18, eI (x_t x) 1500000 (fun _ => 0)), (q19, eI (x_t x) 1000 (fun _ => 0))] 176 [(0, .ref h)] []
  refine n_aload_n (k0 := 0) hx dX8_init_176 rfl rfl ?_
  refine n_sipush (v := 1000) hx dX8_init_177 (by decide) ?_
  refine n_newi (N := 1000) hx (by decide) (by decide +kernel) (by decide +kernel) (by rw [hR]; decide) (by rw [hR]; decide) dX8_init_180 (fun q20 => ?_)
  refine n_putF (C := RX8) (T := TX8) (N := 40) (ci := 7) (k := 27) (ty := .array .int) hx hi rfl (by decide) in_X8 tyX8_ok nmX8 rfl rfl (by decide +kernel) rfl rfl (Nat.le_of_ble_eq_true rfl) rfl wf_X8_72 dX8_init_182 ?_
  show WN x h 1 20 1544320 [(h, .inr (7, [.int 0, .ref q1, .ref q2, .ref q3, .ref q4, .int 1, .ref q5, .ref q6, .ref q7, .ref q8, .ref q9, .ref q10, .int 0, .ref q11, .ref q12, .ref q13, .int 0, .ref q14, .ref q15, .ref q16, .ref q17, .ref q18, .int 0, .int 0, .int 0, .int 0, .ref q19, .ref q20, .null, .int 0, .int 0, .null, .null, .int 0, .null, .null, .null, .int 0, .null, .null])), (q1, eI (x_t x) 300 (fun _ => 0)), (q2, eI (x_t x) 300 (fun _ => 0)), (q3, eI (x_t x) 300 (fun _ => 0)), (q4, eI (x_t x) 300 (fun _ => 0)), (q5, eI (x_t x) 1500 (fun _ => 0)), (q6, eI (x_t x) 1500 (fun _ => 0)), (q7, eI (x_t x) 1500 (fun _ => 0)), (q8, eI (x_t x) 1500 (fun _ => 0)), (q9, eI (x_t x) 1500 (fun _ => 0)), (q10, eI (x_t x) 1500 (fun _ => 0)), (q11, eI (x_t x) 40 (fun _ => 0)), (q12, eI (x_t x) 40 (fun _ => 0)), (q13, eI (x_t x) 40 (fun _ => 0)), (q14, eI (x_t x) 8000 (fun _ => 0)), (q15, eI (x_t x) 8000 (fun _ => 0)), (q16, eI (x_t x) 8000 (fun _ => 0)), (q17, eI (x_t x) 8000 (fun _ => 0)), (q18, eI (x_t x) 1500000 (fun _ => 0)), (q19, eI (x_t x) 1000 (fun _ => 0)), (q20, eI (x_t x) 1000 (fun _ => 0))] 185 [(0, .ref h)] []
  refine n_aload_n (k0 := 0) hx dX8_init_185 rfl rfl ?_
  refine n_bipush (v := 100) hx dX8_init_186 (by decide) ?_
  refine n_newi (N := 100) hx (by decide) (by decide +kernel) (by decide +kernel) (by rw [hR]; decide) (by rw [hR]; decide) dX8_init_188 (fun q21 => ?_)
  refine n_putF (C := RX8) (T := TX8) (N := 40) (ci := 7) (k := 28) (ty := .array .int) hx hi rfl (by decide) in_X8 tyX8_ok nmX8 rfl rfl (by decide +kernel) rfl rfl (Nat.le_of_ble_eq_true rfl) rfl wf_X8_75 dX8_init_190 ?_
  show WN x h 1 21 1544420 [(h, .inr (7, [.int 0, .ref q1, .ref q2, .ref q3, .ref q4, .int 1, .ref q5, .ref q6, .ref q7, .ref q8, .ref q9, .ref q10, .int 0, .ref q11, .ref q12, .ref q13, .int 0, .ref q14, .ref q15, .ref q16, .ref q17, .ref q18, .int 0, .int 0, .int 0, .int 0, .ref q19, .ref q20, .ref q21, .int 0, .int 0, .null, .null, .int 0, .null, .null, .null, .int 0, .null, .null])), (q1, eI (x_t x) 300 (fun _ => 0)), (q2, eI (x_t x) 300 (fun _ => 0)), (q3, eI (x_t x) 300 (fun _ => 0)), (q4, eI (x_t x) 300 (fun _ => 0)), (q5, eI (x_t x) 1500 (fun _ => 0)), (q6, eI (x_t x) 1500 (fun _ => 0)), (q7, eI (x_t x) 1500 (fun _ => 0)), (q8, eI (x_t x) 1500 (fun _ => 0)), (q9, eI (x_t x) 1500 (fun _ => 0)), (q10, eI (x_t x) 1500 (fun _ => 0)), (q11, eI (x_t x) 40 (fun _ => 0)), (q12, eI (x_t x) 40 (fun _ => 0)), (q13, eI (x_t x) 40 (fun _ => 0)), (q14, eI (x_t x) 8000 (fun _ => 0)), (q15, eI (x_t x) 8000 (fun _ => 0)), (q16, eI (x_t x) 8000 (fun _ => 0)), (q17, eI (x_t x) 8000 (fun _ => 0)), (q18, eI (x_t x) 1500000 (fun _ => 0)), (q19, eI (x_t x) 1000 (fun _ => 0)), (q20, eI (x_t x) 1000 (fun _ => 0)), (q21, eI (x_t x) 100 (fun _ => 0))] 193 [(0, .ref h)] []
  refine n_aload_n (k0 := 0) hx dX8_init_193 rfl rfl ?_
  refine n_iconst (v := 1) hx dX8_init_194 (by decide) ?_
  refine n_put (C := RX8) (T := TX8) (N := 40) (ci := 7) (k := 29) (ty := .boolean) hx rfl (by decide) in_X8 tyX8_ok nmX8 rfl (by decide +kernel) rfl rfl (Nat.le_of_ble_eq_true rfl) rfl wf_X8_78 dX8_init_195 ?_
  show WN x h 1 21 1544420 [(h, .inr (7, [.int 0, .ref q1, .ref q2, .ref q3, .ref q4, .int 1, .ref q5, .ref q6, .ref q7, .ref q8, .ref q9, .ref q10, .int 0, .ref q11, .ref q12, .ref q13, .int 0, .ref q14, .ref q15, .ref q16, .ref q17, .ref q18, .int 0, .int 0, .int 0, .int 0, .ref q19, .ref q20, .ref q21, .int 1, .int 0, .null, .null, .int 0, .null, .null, .null, .int 0, .null, .null])), (q1, eI (x_t x) 300 (fun _ => 0)), (q2, eI (x_t x) 300 (fun _ => 0)), (q3, eI (x_t x) 300 (fun _ => 0)), (q4, eI (x_t x) 300 (fun _ => 0)), (q5, eI (x_t x) 1500 (fun _ => 0)), (q6, eI (x_t x) 1500 (fun _ => 0)), (q7, eI (x_t x) 1500 (fun _ => 0)), (q8, eI (x_t x) 1500 (fun _ => 0)), (q9, eI (x_t x) 1500 (fun _ => 0)), (q10, eI (x_t x) 1500 (fun _ => 0)), (q11, eI (x_t x) 40 (fun _ => 0)), (q12, eI (x_t x) 40 (fun _ => 0)), (q13, eI (x_t x) 40 (fun _ => 0)), (q14, eI (x_t x) 8000 (fun _ => 0)), (q15, eI (x_t x) 8000 (fun _ => 0)), (q16, eI (x_t x) 8000 (fun _ => 0)), (q17, eI (x_t x) 8000 (fun _ => 0)), (q18, eI (x_t x) 1500000 (fun _ => 0)), (q19, eI (x_t x) 1000 (fun _ => 0)), (q20, eI (x_t x) 1000 (fun _ => 0)), (q21, eI (x_t x) 100 (fun _ => 0))] 198 [(0, .ref h)] []
  refine n_aload_n (k0 := 0) hx dX8_init_198 rfl rfl ?_
  refine n_sipush (v := 8000) hx dX8_init_199 (by decide) ?_
  refine n_newi (N := 8000) hx (by decide) (by decide +kernel) (by decide +kernel) (by rw [hR]; decide) (by rw [hR]; decide) dX8_init_202 (fun q22 => ?_)
  refine n_putF (C := RX8) (T := TX8) (N := 40) (ci := 7) (k := 31) (ty := .array .int) hx hi rfl (by decide) in_X8 tyX8_ok nmX8 rfl rfl (by decide +kernel) rfl rfl (Nat.le_of_ble_eq_true rfl) rfl wf_X8_82 dX8_init_204 ?_
  exact kk q18 q19 q20 q21 q22
set_option maxRecDepth 100000 in
set_option maxHeartbeats 4000000 in
theorem N8_207 {x : XC} {h q1 q2 q3 q4 q5 q6 q7 q8 q9 q10 q11 q12 q13 q14 q15 q16 q17 q18 q19 q20 q21 q22 : Nat} (hx : CN x h cX8_init 1 RX8) (hR : x_R x = rmN_X8) (hi : (x_me x).name = "<init>") (kk : ∀ (q23 q24 q25 q26 q27 q28 : Nat), WN x h 1 28 1554420 [(h, .inr (7, [.int 0, .ref q1, .ref q2, .ref q3, .ref q4, .int 1, .ref q5, .ref q6, .ref q7, .ref q8, .ref q9, .ref q10, .int 0, .ref q11, .ref q12, .ref q13, .int 0, .ref q14, .ref q15, .ref q16, .ref q17, .ref q18, .int 0, .int 0, .int 0, .int 0, .ref q19, .ref q20, .ref q21, .int 1, .int 0, .ref q22, .ref q23, .int 0, .ref q24, .ref q25, .ref q26, .int 0, .ref q27, .ref q28])), (q1, eI (x_t x) 300 (fun _ => 0)), (q2, eI (x_t x) 300 (fun _ => 0)), (q3, eI (x_t x) 300 (fun _ => 0)), (q4, eI (x_t x) 300 (fun _ => 0)), (q5, eI (x_t x) 1500 (fun _ => 0)), (q6, eI (x_t x) 1500 (fun _ => 0)), (q7, eI (x_t x) 1500 (fun _ => 0)), (q8, eI (x_t x) 1500 (fun _ => 0)), (q9, eI (x_t x) 1500 (fun _ => 0)), (q10, eI (x_t x) 1500 (fun _ => 0)), (q11, eI (x_t x) 40 (fun _ => 0)), (q12, eI (x_t x) 40 (fun _ => 0)), (q13, eI (x_t x) 40 (fun _ => 0)), (q14, eI (x_t x) 8000 (fun _ => 0)), (q15, eI (x_t x) 8000 (fun _ => 0)), (q16, eI (x_t x) 8000 (fun _ => 0)), (q17, eI (x_t x) 8000 (fun _ => 0)), (q18, eI (x_t x) 1500000 (fun _ => 0)), (q19, eI (x_t x) 1000 (fun _ => 0)), (q20, eI (x_t x) 1000 (fun _ => 0)), (q21, eI (x_t x) 100 (fun _ => 0)), (q22, eI (x_t x) 8000 (fun _ => 0)), (q23, eI (x_t x) 300 (fun _ => 0)), (q24, eI (x_t x) 300 (fun _ => 0)), (q25, eI (x_t x) 300 (fun _ => 0)), (q26, eI (x_t x) 900 (fun _ => 0)), (q27, eI (x_t x) 100 (fun _ => 0)), (q28, eI (x_t x) 100 (fun _ => 0))] 259 [(0, .ref h)] []) : WN x h 1 22 1552420 [(h, .inr (7, [.int 0, .ref q1, .ref q2, .ref q3, .ref q4, .int 1, .ref q5, .ref q6, .ref q7, .ref q8, .ref q9, .ref q10, .int 0, .ref q11, .ref q12, .ref q13, .int 0, .ref q14, .ref q15, .ref q16, .ref q17, .ref q18, .int 0, .int 0, .int 0, .int 0, .ref q19, .ref q20, .ref q21, .int 1, .int 0, .ref q22, .null, .int 0, .null, .null, .null, .int 0, .null, .null])), (q1, eI (x_t x) 300 (fun _ => 0)), (q2, eI (x_t x) 300 (fun _ => 0)), (q3, eI (x_t x) 300 (fun _ => 0)), (q4, eI (x_t x) 300 (fun _ => 0)), (q5, eI (x_t x) 1500 (fun _ => 0)), (q6, eI (x_t x) 1500 (fun _ => 0)), (q7, eI (x_t x) 1500 (fun _ => 0)), (q8, eI (x_t x) 1500 (fun _ => 0)), (q9, eI (x_t x) 1500 (fun _ => 0)), (q10, eI (x_t x) 1500 (fun _ => 0)), (q11, eI (x_t x) 40 (fun _ => 0)), (q12, eI (x_t x) 40 (fun _ => 0)), (q13, eI (x_t x) 40 (fun _ => 0)), (q14, eI (x_t x) 8000 (fun _ => 0)), (q15, eI (x_t x) 8000 (fun _ => 0)), (q16, eI (x_t x) 8000 (fun _ => 0)), (q17, eI (x_t x) 8000 (fun _ => 0)), (q18, eI (x_t x) 1500000 (fun _ => 0)), (q19, eI (x_t x) 1000 (fun _ => 0)), (q20, eI (x_t x) 1000 (fun _ => 0)), (q21, eI (x_t x) 100 (fun _ => 0)), (q22, eI (x_t x) 8000 (fun _ => 0))] 207 [(0, .ref h)] [] := by
  refine n_aload_n (k0 := 0) hx dX8_init_207 rfl rfl ?_
  refine n_sipush (v := 300) hx dX8_init_208 (by decide) ?_
  refine n_newi (N := 300) hx (by decide) (by decide +kernel) (by decide +kernel) (by rw [hR]; decide) (by rw [hR]; decide) dX8_init_211 (fun q23 => ?_)
  refine n_putF (C := RX8) (T := TX8) (N := 40) (ci := 7) (k := 32) (ty := .array .int) hx hi rfl (by decide) in_X8 tyX8_ok nmX8 rfl rfl (by decide +kernel) rfl rfl (Nat.le_of_ble_eq_true rfl) rfl wf_X8_85 dX8_init_213 ?_
  show WN x h 1 23 1552720 [(h, .inr (7, [.int 0, .ref q1, .ref q2, .ref q3, .ref q4, .int 1, .ref q5, .ref q6, .ref q7, .ref q8, .ref q9, .ref q10, .int 0, .ref q11, .ref q12, .ref q13, .int 0, .ref q14, .ref q15, .ref q16, .ref q17, .ref q18, .int 0, .int 0, .int 0, .int 0, .ref q19, .ref q20, .ref q21, .int 1, .int 0, .ref q22, .ref q23, .int 0, .null, .null, .null, .int 0, .null, .null])), (q1, eI (x_t x) 300 (fun _ => 0)), (q2, eI (x_t x) 300 (fun _ => 0)), (q3, eI (x_t x) 300 (fun _ => 0)), (q4, eI (x_t x) 300 (fun _ => 0)), (q5, eI (x_t x) 1500 (fun _ => 0)), (q6, eI (x_t x) 1500 (fun _ => 0)), (q7, eI (x_t x) 1500 (fun _ => 0)), (q8, eI (x_t x) 1500 (fun _ => 0)), (q9, eI (x_t x) 1500 (fun _ => 0)), (q10, eI (x_t x) 1500 (fun _ => 0)), (q11, eI (x_t x) 40 (fun _ => 0)), (q12, eI (x_t x) 40 (fun _ => 0)), (q13, eI (x_t x) 40 (fun _ => 0)), (q14, eI (x_t x) 8000 (fun _ => 0)), (q15, eI (x_t x) 8000 (fun _ => 0)), (q16, eI (x_t x) 8000 (fun _ => 0)), (q17, eI (x_t x) 8000 (fun _ => 0)), (q18, eI (x_t x) 1500000 (fun _ => 0)), (q19, eI (x_t x) 1000 (fun _ => 0)), (q20, eI (x_t x) 1000 (fun _ => 0)), (q21, eI (x_t x) 100 (fun _ => 0)), (q22, eI (x_t x) 8000 (fun _ => 0)), (q23, eI (x_t x) 300 (fun _ => 0))] 216 [(0, .ref h)] []
  refine n_aload_n (k0 := 0) hx dX8_init_216 rfl rfl ?_
  refine n_sipush (v := 300) hx dX8_init_217 (by decide) ?_
  refine n_newi (N := 300) hx (by decide) (by decide +kernel) (by decide +kernel) (by rw [hR]; decide) (by rw [hR]; decide) dX8_init_220 (fun q24 => ?_)
  refine n_putF (C := RX8) (T := TX8) (N := 40) (ci := 7) (k := 34) (ty := .array .int) hx hi rfl (by decide) in_X8 tyX8_ok nmX8 rfl rfl (by decide +kernel) rfl rfl (Nat.le_of_ble_eq_true rfl) rfl wf_X8_88 dX8_init_222 ?_
  show WN x h 1 24 1553020 [(h, .inr (7, [.int 0, .ref q1, .ref q2, .ref q3, .ref q4, .int 1, .ref q5, .ref q6, .ref q7, .ref q8, .ref q9, .ref q10, .int 0, .ref q11, .ref q12, .ref q13, .int 0, .ref q14, .ref q15, .ref q16, .ref q17, .ref q18, .int 0, .int 0, .int 0, .int 0, .ref q19, .ref q20, .ref q21, .int 1, .int 0, .ref q22, .ref q23, .int 0, .ref q24, .null, .null, .int 0, .null, .null])), (q1, eI (x_t x) 300 (fun _ => 0)), (q2, eI (x_t x) 300 (fun _ => 0)), (q3, eI (x_t x) 300 (fun _ => 0)), (q4, eI (x_t x) 300 (fun _ => 0)), (q5, eI (x_t x) 1500 (fun _ => 0)), (q6, eI (x_t x) 1500 (fun _ => 0)), (q7, eI (x_t x) 1500 (fun _ => 0)), (q8, eI (x_t x) 1500 (fun _ => 0)), (q9, eI (x_t x) 1500 (fun _ => 0)), (q10, eI (x_t x) 1500 (fun _ => 0)), (q11, eI (x_t x) 40 (fun _ => 0)), (q12, eI (x_t x) 40 (fun _ => 0)), (q13, eI (x_t x) 40 (fun _ => 0)), (q14, eI (x_t x) 8000 (fun _ => 0)), (q15, eI (x_t x) 8000 (fun _ => 0)), (q16, eI (x_t x) 8000 (fun _ => 0)), (q17, eI (x_t x) 8000 (fun _ => 0)), (q18, eI (x_t x) 1500000 (fun _ => 0)), (q19, eI (x_t x) 1000 (fun _ => 0)), (q20, eI (x_t x) 1000 (fun _ => 0)), (q21, eI (x_t x) 100 (fun _ => 0)), (q22, eI (x_t x) 8000 (fun _ => 0)), (q23, eI (x_t x) 300 (fun _ => 0)), (q24, eI (x_t x) 300 (fun _ => 0))] 225 [(0, .ref h)] []
  refine n_aload_n (k0 := 0) hx dX8_init_225 rfl rfl ?_
  refine n_sipush (v := 300) hx dX8_init_226 (by decide) ?_
  refine n_newi (N := 300) hx (by decide) (by decide +kernel) (by decide +kernel) (by rw [hR]; decide) (by rw [hR]; decide) dX8_init_229 (fun q25 => ?_)
  refine n_putF (C := RX8) (T := TX8) (N := 40) (ci := 7) (k := 35) (ty := .array .int) hx hi rfl (by decide) in_X8 tyX8_ok nmX8 rfl rfl (by decide +kernel) rfl rfl (Nat.le_of_ble_eq_true rfl) rfl wf_X8_91 dX8_init_231 ?_
  show WN x h 1 25 1553320 [(h, .inr (7, [.int 0, .ref q1, .ref q2, .ref q3, .ref q4, .int 1, .ref q5, .ref q6, .ref q7, .ref q8, .ref q9, .ref q10, .int 0, .ref q11, .ref q12, .ref q13, .int 0, .ref q14, .ref q15, .ref q16, .ref q17, .ref q18, .int 0, .int 0, .int 0, .int 0, .ref q19, .ref q20, .ref q21, .int 1, .int 0, .ref q22, .ref q23, .int 0, .ref q24, .ref q25, .null, .int 0, .null, .null])), (q1, eI (x_t x) 300 (fun _ => 0)), (q2, eI (x_t x) 300 (fun _ => 0)), (q3, eI (x_t x) 300 (fun _ => 0)), (q4, eI (x_t x) 300 (fun _ => 0)), (q5, eI (x_t x) 1500 (fun _ => 0)), (q6, eI (x_t x) 1500 (fun _ => 0)), (q7, eI (x_t x) 1500 (fun _ => 0)), (q8, eI (x_t x) 1500 (fun _ => 0)), (q9, eI (x_t x) 1500 (fun _ => 0)), (q10, eI (x_t x) 1500 (fun _ => 0)), (q11, eI (x_t x) 40 (fun _ => 0)), (q12, eI (x_t x) 40 (fun _ => 0)), (q13, eI (x_t x) 40 (fun _ => 0)), (q14, eI (x_t x) 8000 (fun _ => 0)), (q15, eI (x_t x) 8000 (fun _ => 0)), (q16, eI (x_t x) 8000 (fun _ => 0)), (q17, eI (x_t x) 8000 (fun _ => 0)), (q18, eI (x_t x) 1500000 (fun _ => 0)), (q19, eI (x_t x) 1000 (fun _ => 0)), (q20, eI (x_t x) 1000 (fun _ => 0)), (q21, eI (x_t x) 100 (fun _ => 0)), (q22, eI (x_t x) 8000 (fun _ => 0)), (q23, eI (x_t x) 300 (fun _ => 0)), (q24, eI (x_t x) 300 (fun _ => 0)), (q25, eI (x_t x) 300 (fun _ => 0))] 234 [(0, .ref h)] []
  refine n_aload_n (k0 := 0) hx dX8_init_234 rfl rfl ?_
  refine n_sipush (v := 900) hx dX8_init_235 (by decide) ?_
  refine n_newi (N := 900) hx (by decide) (by decide +kernel) (by decide +kernel) (by rw [hR]; decide) (by rw [hR]; decide) dX8_init_238 (fun q26 => ?_)
  refine n_putF (C := RX8) (T := TX8) (N := 40) (ci := 7) (k := 36) (ty := .array .int) hx hi rfl (by decide) in_X8 tyX8_ok nmX8 rfl rfl (by decide +kernel) rfl rfl (Nat.le_of_ble_eq_true rfl) rfl wf_X8_94 dX8_init_240 ?_
  show WN x h 1 26 1554220 [(h, .inr (7, [.int 0, .ref q1, .ref q2, .ref q3, .ref q4, .int 1, .ref q5, .ref q6, .ref q7, .ref q8, .ref q9, .ref q10, .int 0, .ref q11, .ref q12, .ref q13, .int 0, .ref q14, .ref q15, .ref q16, .ref q17, .ref q18, .int 0, .int 0, .int 0, .int 0, .ref q19, .ref q20, .ref q21, .int 1, .int 0, .ref q22, .ref q23, .int 0, .ref q24, .ref q25, .ref q26, .int 0, .null, .null])), (q1, eI (x_t x) 300 (fun _ => 0)), (q2, eI (x_t x) 300 (fun _ => 0)), (q3, eI (x_t x) 300 (fun _ => 0)), (q4, eI (x_t x) 300 (fun _ => 0)), (q5, eI (x_t x) 1500 (fun _ => 0)), (q6, eI (x_t x) 1500 (fun _ => 0)), (q7, eI (x_t x) 1500 (fun _ => 0)), (q8, eI (x_t x) 1500 (fun _ => 0)), (q9, eI (x_t x) 1500 (fun _ => 0)), (q10, eI (x_t x) 1500 (fun _ => 0)), (q11, eI (x_t x) 40 (fun _ => 0)), (q12, eI (x_t x) 40 (fun _ => 0)), (q13, eI (x_t x) 40 (fun _ => 0)), (q14, eI (x_t x) 8000 (fun _ => 0)), (q15, eI (x_t x) 8000 (fun _ => 0)), (q16, eI (x_t x) 8000 (fun _ => 0)), (q17, eI (x_t x) 8000 (fun _ => 0)), (q18, eI (x_t x) 1500000 (fun _ => 0)), (q19, eI (x_t x) 1000 (fun _ => 0)), (q20, eI (x_t x) 1000 (fun _ => 0)), (q21, eI (x_t x) 100 (fun _ => 0)), (q22, eI (x_t x) 8000 (fun _ => 0)), (q23, eI (x_t x) 300 (fun _ => 0)), (q24, eI (x_t x) 300 (fun _ => 0)), (q25, eI (x_t x) 300 (fun _ => 0)), (q26, eI (x_t x) 900 (fun _ => 0))] 243 [(0, .ref h)] []
  refine n_aload_n (k0 := 0) hx dX8_init_243 rfl rfl ?_
  refine n_bipush (v := 100) hx dX8_init_244 (by decide) ?_
  refine n_newi (N := 100) hx (by decide) (by decide +kernel) (by decide +kernel) (by rw [hR]; decide) (by rw [hR]; decide) dX8_init_246 (fun q27 => ?_)
  refine n_putF (C := RX8) (T := TX8) (N := 40) (ci := 7) (k := 38) (ty := .array .int) hx hi rfl (by decide) in_X8 tyX8_ok nmX8 rfl rfl (by decide +kernel) rfl rfl (Nat.le_of_ble_eq_true rfl) rfl wf_X8_97 dX8_init_248 ?_
  show WN x h 1 27 1554320 [(h, .inr (7, [.int 0, .ref q1, .ref q2, .ref q3, .ref q4, .int 1, .ref q5, .ref q6, .ref q7, .ref q8, .ref q9, .ref q10, .int 0, .ref q11, .ref q12, .ref q13, .int 0, .ref q14, .ref q15, .ref q16, .ref q17, .ref q18, .int 0, .int 0, .int 0, .int 0, .ref q19, .ref q20, .ref q21, .int 1, .int 0, .ref q22, .ref q23, .int 0, .ref q24, .ref q25, .ref q26, .int 0, .ref q27, .null])), (q1, eI (x_t x) 300 (fun _ => 0)), (q2, eI (x_t x) 300 (fun _ => 0)), (q3, eI (x_t x) 300 (fun _ => 0)), (q4, eI (x_t x) 300 (fun _ => 0)), (q5, eI (x_t x) 1500 (fun _ => 0)), (q6, eI (x_t x) 1500 (fun _ => 0)), (q7, eI (x_t x) 1500 (fun _ => 0)), (q8, eI (x_t x) 1500 (fun _ => 0)), (q9, eI (x_t x) 1500 (fun _ => 0)), (q10, eI (x_t x) 1500 (fun _ => 0)), (q11, eI (x_t x) 40 (fun _ => 0)), (q12, eI (x_t x) 40 (fun _ => 0)), (q13, eI (x_t x) 40 (fun _ => 0)), (q14, eI (x_t x) 8000 (fun _ => 0)), (q15, eI (x_t x) 8000 (fun _ => 0)), (q16, eI (x_t x) 8000 (fun _ => 0)), (q17, eI (x_t x) 8000 (fun _ => 0)), (q18, eI (x_t x) 1500000 (fun _ => 0)), (q19, eI (x_t x) 1000 (fun _ => 0)), (q20, eI (x_t x) 1000 (fun _ => 0)), (q21, eI (x_t x) 100 (fun _ => 0)), (q22, eI (x_t x) 8000 (fun _ => 0)), (q23, eI (x_t x) 300 (fun _ => 0)), (q24, eI (x_t x) 300 (fun _ => 0)), (q25, eI (x_t x) 300 (fun _ => 0)), (q26, eI (x_t x) 900 (fun _ => 0)), (q27, eI (x_t x) 100 (fun _ => 0))] 251 [(0, .ref h)] []
  refine n_aload_n (k0 := 0) hx dX8_init_251 rfl rfl ?_
  refine n_bipush (v := 100) hx dX8_init_252 (by decide) ?_
  refine n_newi (N := 100) hx (by decide) (by decide +kernel) (by decide +kernel) (by rw [hR]; decide) (by rw [hR]; decide) dX8_init_254 (fun q28 => ?_)
  refine n_putF (C := RX8) (T := TX8) (N := 40) (ci := 7) (k := 39) (ty := .array .int) hx hi rfl (by decide) in_X8 tyX8_ok nmX8 rfl rfl (by decide +kernel) rfl rfl (Nat.le_of_ble_eq_true rfl) rfl wf_X8_100 dX8_init_256 ?_
  exact kk q23 q24 q25 q26 q27 q28
set_option maxRecDepth 100000 in
set_option maxHeartbeats 4000000 in
theorem N_X8 {l : Launch} {D : va_G} {t : Ty3} {h : Nat} : MN l D t yX8_init cX8_init 1 rmN_X8 28 1554420 h (.inr (7, [.int 0, .null, .null, .null, .null, .int 0, .null, .null, .null, .null, .null, .null, .int 0, .null, .null, .null, .int 0, .null, .null, .null, .null, .null, .int 0, .int 0, .int 0, .int 0, .null, .null, .null, .int 0, .int 0, .null, .null, .int 0, .null, .null, .null, .int 0, .null, .null])) [.ref h] (fun a => X8W t h a.1) := by
  refine mk_N (own := RX8) (by decide +kernel) rfl (Nat.le_of_ble_eq_true rfl) rfl (fun x hx hR hl hDD htt hi hE => ?_)
  subst hl
  subst hDD
  subst htt
  refine N8_0 hx hR hi (fun q1 q2 q3 q4 q5 => ?_)
  refine N8_54 hx hR hi (fun q6 q7 q8 q9 q10 q11 => ?_)
  refine N8_107 hx hR hi (fun q12 q13 q14 q15 q16 q17 => ?_)
  refine N8_159 hx hR hi (fun q18 q19 q20 q21 q22 => ?_)
  refine N8_207 hx hR hi (fun q23 q24 q25 q26 q27 q28 => ?_)
  refine n_aload_n (k0 := 0) hx dX8_init_259 rfl rfl ?_
  show WN x h 1 28 1554420 (wl (adM h (fun f => if f = 351 then q1 else if f = 352 then q2 else if f = 353 then q3 else if f = 354 then q4 else if f = 356 then q5 else if f = 357 then q6 else if f = 358 then q7 else if f = 359 then q8 else if f = 360 then q9 else if f = 361 then q10 else if f = 363 then q11 else if f = 364 then q12 else if f = 365 then q13 else if f = 367 then q14 else if f = 368 then q15 else if f = 369 then q16 else if f = 370 then q17 else if f = 371 then q18 else if f = 376 then q19 else if f = 377 then q20 else if f = 378 then q21 else if f = 381 then q22 else if f = 382 then q23 else if f = 384 then q24 else if f = 385 then q25 else if f = 386 then q26 else if f = 388 then q27 else if f = 389 then q28 else 0)) (x_t x) KM SI0) 260 [(0, .ref h)] [.ref (adM h (fun f => if f = 351 then q1 else if f = 352 then q2 else if f = 353 then q3 else if f = 354 then q4 else if f = 356 then q5 else if f = 357 then q6 else if f = 358 then q7 else if f = 359 then q8 else if f = 360 then q9 else if f = 361 then q10 else if f = 363 then q11 else if f = 364 then q12 else if f = 365 then q13 else if f = 367 then q14 else if f = 368 then q15 else if f = 369 then q16 else if f = 370 then q17 else if f = 371 then q18 else if f = 376 then q19 else if f = 377 then q20 else if f = 378 then q21 else if f = 381 then q22 else if f = 382 then q23 else if f = 384 then q24 else if f = 385 then q25 else if f = 386 then q26 else if f = 388 then q27 else if f = 389 then q28 else 0) 0 7 0)]
  refine n_mv (C := RX8) (T := TX8) (N := 40) (n := 0) (As := []) (rest := []) hx (C_X8_clear (n := 0) (fun _ hk => hk) SM0_c) (k_0_7 (fun _ hk => hk)) rfl wl_X8_103 wi_X8_clear we_X8_clear wn_X8 wc_X8_clear (by decide +kernel) rfl (by rw [hR]; exact ⟨by decide +kernel, rfl, rfl, by decide +kernel, by decide +kernel⟩) rfl (Nat.le_of_ble_eq_true rfl) dX8_init_260 ?_
  exact n_ret hE ((fun f => if f = 351 then q1 else if f = 352 then q2 else if f = 353 then q3 else if f = 354 then q4 else if f = 356 then q5 else if f = 357 then q6 else if f = 358 then q7 else if f = 359 then q8 else if f = 360 then q9 else if f = 361 then q10 else if f = 363 then q11 else if f = 364 then q12 else if f = 365 then q13 else if f = 367 then q14 else if f = 368 then q15 else if f = 369 then q16 else if f = 370 then q17 else if f = 371 then q18 else if f = 376 then q19 else if f = 377 then q20 else if f = 378 then q21 else if f = 381 then q22 else if f = 382 then q23 else if f = 384 then q24 else if f = 385 then q25 else if f = 386 then q26 else if f = 388 then q27 else if f = 389 then q28 else 0), fun _ _ => 0) (by decide) (by decide) rfl dX8_init_263
