theorem dL_law_124 : decode code 124 = .ok (.aload_n 1, 1) := by decide +kernel
theorem dL_law_125 : decode code 125 = .ok (.aload_n 0, 1) := by decide +kernel
theorem dL_law_126 : decode code 126 = .ok (.iload 4, 2) := by decide +kernel
theorem dL_law_128 : decode code 128 = .ok (.iconst 1, 1) := by decide +kernel
theorem dL_law_129 : decode code 129 = .ok (.iadd, 1) := by decide +kernel
theorem dL_law_130 : decode code 130 = .ok (.iaload, 1) := by decide +kernel
theorem dL_law_131 : decode code 131 = .ok (.aload_n 0, 1) := by decide +kernel
theorem dL_law_132 : decode code 132 = .ok (.iload 4, 2) := by decide +kernel
theorem dL_law_134 : decode code 134 = .ok (.iconst 2, 1) := by decide +kernel
theorem dL_law_135 : decode code 135 = .ok (.iadd, 1) := by decide +kernel
theorem dL_law_136 : decode code 136 = .ok (.iaload, 1) := by decide +kernel
theorem dL_law_137 : decode code 137 = .ok (.aload_n 0, 1) := by decide +kernel
theorem dL_law_138 : decode code 138 = .ok (.iload 4, 2) := by decide +kernel
theorem dL_law_140 : decode code 140 = .ok (.iconst 3, 1) := by decide +kernel
theorem dL_law_141 : decode code 141 = .ok (.iadd, 1) := by decide +kernel
theorem dL_law_142 : decode code 142 = .ok (.iaload, 1) := by decide +kernel
theorem dL_law_143 : decode code 143 = .ok (.aload_n 3, 1) := by decide +kernel
theorem dL_law_144 : decode code 144 = .ok (.invokestatic 72, 3) := by decide +kernel
theorem dL_law_147 : decode code 147 = .ok (.istore 5, 2) := by decide +kernel
theorem dL_law_149 : decode code 149 = .ok (.aload_n 2, 1) := by decide +kernel
theorem dL_law_150 : decode code 150 = .ok (.aload_n 0, 1) := by decide +kernel
theorem dL_law_151 : decode code 151 = .ok (.iload 4, 2) := by decide +kernel
theorem dL_law_153 : decode code 153 = .ok (.iconst 1, 1) := by decide +kernel
theorem dL_law_154 : decode code 154 = .ok (.iadd, 1) := by decide +kernel
theorem dL_law_155 : decode code 155 = .ok (.iaload, 1) := by decide +kernel
theorem dL_law_156 : decode code 156 = .ok (.aload_n 0, 1) := by decide +kernel
theorem dL_law_157 : decode code 157 = .ok (.iload 4, 2) := by decide +kernel
theorem dL_law_159 : decode code 159 = .ok (.iconst 2, 1) := by decide +kernel
theorem dL_law_160 : decode code 160 = .ok (.iadd, 1) := by decide +kernel
theorem dL_law_161 : decode code 161 = .ok (.iaload, 1) := by decide +kernel
theorem dL_law_162 : decode code 162 = .ok (.aload_n 0, 1) := by decide +kernel
theorem dL_law_163 : decode code 163 = .ok (.iload 4, 2) := by decide +kernel
theorem dL_law_165 : decode code 165 = .ok (.iconst 3, 1) := by decide +kernel
theorem dL_law_166 : decode code 166 = .ok (.iadd, 1) := by decide +kernel
theorem dL_law_167 : decode code 167 = .ok (.iaload, 1) := by decide +kernel
theorem dL_law_168 : decode code 168 = .ok (.invokevirtual 77, 3) := by decide +kernel
theorem dL_law_171 : decode code 171 = .ok (.istore 6, 2) := by decide +kernel
theorem dL_law_173 : decode code 173 = .ok (.aload_n 2, 1) := by decide +kernel
theorem dL_law_174 : decode code 174 = .ok (.invokevirtual 78, 3) := by decide +kernel
theorem dL_law_177 : decode code 177 = .ok (.iload 5, 2) := by decide +kernel
theorem dL_law_179 : decode code 179 = .ok (.if_icmp .eq 5, 3) := by decide +kernel
theorem dL_law_182 : decode code 182 = .ok (.iconst 0, 1) := by decide +kernel
theorem dL_law_183 : decode code 183 = .ok (.ireturn, 1) := by decide +kernel
theorem dL_law_184 : decode code 184 = .ok (.iload 5, 2) := by decide +kernel
theorem dL_law_186 : decode code 186 = .ok (.ifCond .ne 15, 3) := by decide +kernel
theorem dL_law_189 : decode code 189 = .ok (.aload_n 3, 1) := by decide +kernel
theorem dL_law_190 : decode code 190 = .ok (.iconst 0, 1) := by decide +kernel
theorem dL_law_191 : decode code 191 = .ok (.laload, 1) := by decide +kernel
theorem dL_law_192 : decode code 192 = .ok (.iload 6, 2) := by decide +kernel
theorem dL_law_194 : decode code 194 = .ok (.i2l, 1) := by decide +kernel
theorem dL_law_195 : decode code 195 = .ok (.lcmp, 1) := by decide +kernel
theorem dL_law_196 : decode code 196 = .ok (.ifCond .eq 5, 3) := by decide +kernel
theorem dL_law_199 : decode code 199 = .ok (.iconst 0, 1) := by decide +kernel
theorem dL_law_200 : decode code 200 = .ok (.ireturn, 1) := by decide +kernel
theorem dL_law_201 : decode code 201 = .ok (.goto 1078, 3) := by decide +kernel
set_option maxRecDepth 100000 in
set_option maxHeartbeats 4000000 in
theorem w_level {x : XC} {b L : Nat} {xs : Nat → Int32} (h : LX x b L xs) {t kc ks : Nat} (ht : 5 * t + 5 ≤ L) (hk : kc + 4 ≤ 601024 ∧ ks + 24 ≤ 7293034) {SC SM : St} {w : Nat → Int64} {P : PT} {Ns : List Nme} (hI : INV SC SM P Ns) (kk : LK x b t (kc + 4) (ks + 24)) : WX x 7 kc ks (mx SC SM w) 124 (LV x b t) [] := by
  obtain ⟨hx, hR, hK9, hst, -⟩ := id h
  have hD : KD (x_ad x) KLw := by rw [← hK9]; exact hx.2.2.2.2.2.2.1
  have hs8 : SPL (x_ad x) (x_K x) KM (KK ++ [(2, 900, 0)]) := by rw [hK9]; exact spl_M hD
  obtain ⟨SC2, SM2, code, v, bv, P2, Ns2, h1, h2, hI2, h350, hcode, hv⟩ := k_level (n := 10000) (Nat.le_refl _) hI (xs (5 * t + 1)) (xs (5 * t + 2)) (xs (5 * t + 3))
  have hc : code = 0 ∨ code = 1 ∨ code = 2 ∨ code = 3 := hcode
  have hk5 : (if code = 1 then 1 else if code = 2 then 2 else if code = 3 then 3 else 0 : Int32) = SM2.1 350 0 := by rw [h350]; rcases hc with rfl | rfl | rfl | rfl <;> decide
  show WX x 7 kc ks (mx SC SM w) 124 [(0, .ref b), (1, .ref (x_ad x 0 6 0)), (2, .ref (x_ad x 0 7 0)), (3, .ref (x_ad x 2 900 0)), (4, .int (nI (5 * t)))] []
  refine r_aload_n (k0 := 1) hx dL_law_124 rfl rfl ?_
  refine r_cell h (j := 1) (k0 := 0) (k4 := 4) (by omega) (by decide) rfl rfl dL_law_125 dL_law_126 dL_law_128 dL_law_129 dL_law_130 ?_
  refine r_cell h (j := 2) (k0 := 0) (k4 := 4) (by omega) (by decide) rfl rfl dL_law_131 dL_law_132 dL_law_134 dL_law_135 dL_law_136 ?_
  refine r_cell h (j := 3) (k0 := 0) (k4 := 4) (by omega) (by decide) rfl rfl dL_law_137 dL_law_138 dL_law_140 dL_law_141 dL_law_142 ?_
  refine r_aload_n (k0 := 3) hx dL_law_143 rfl rfl ?_
  refine r_SW (As := [.ref (x_ad x 0 6 0), .int (xs (5 * t + 1)), .int (xs (5 * t + 2)), .int (xs (5 * t + 3)), .ref (x_ad x 2 900 0)]) (rest := []) (n := 5) hx (L_level (c := x_y x) hK9 hst h1 hc) wl_L_72 wt_L_level wn_L ww_level (by decide +kernel) rfl (by rw [hR]; exact ⟨by decide +kernel, rfl, rfl, hk.1, hk.2⟩) rfl (Nat.le_of_ble_eq_true rfl) dL_law_144 ?_
  rw [hk5]
  refine r_istore (lv' := [(5, .int (SM2.1 350 0)), (0, .ref b), (1, .ref (x_ad x 0 6 0)), (2, .ref (x_ad x 0 7 0)), (3, .ref (x_ad x 2 900 0)), (4, .int (nI (5 * t)))]) hx dL_law_147 (by decide) rfl ?_
  refine r_aload_n (k0 := 3) hx dL_law_149 rfl rfl ?_
  refine r_cell h (j := 1) (k0 := 1) (k4 := 5) (by omega) (by decide) rfl rfl dL_law_150 dL_law_151 dL_law_153 dL_law_154 dL_law_155 ?_
  refine r_cell h (j := 2) (k0 := 1) (k4 := 5) (by omega) (by decide) rfl rfl dL_law_156 dL_law_157 dL_law_159 dL_law_160 dL_law_161 ?_
  refine r_cell h (j := 3) (k0 := 1) (k4 := 5) (by omega) (by decide) rfl rfl dL_law_162 dL_law_163 dL_law_165 dL_law_166 dL_law_167 ?_
  refine p_Vi (S1 := mx SC2 SM2 (oW w code v.toInt64)) (C := RX8) (T := TX8) (N := 40) (As := [.int (xs (5 * t + 1)), .int (xs (5 * t + 2)), .int (xs (5 * t + 3))]) (rest := []) (n := 3) hx hs8 eM0 (C_X8_level (c := x_yA x KM) (fun _ hk => hk) h2) eM0 eM2 (by rw [hK9]; exact KL_M (k_0_7 (fun _ hk => hk))) rfl wl_L_77 wi_X8_level we_X8_level wn_X8 wc_X8_level (by decide +kernel) rfl (by rw [hR]; exact ⟨by decide +kernel, rfl, rfl, Nat.le_trans (Nat.le_refl _) hk.1, Nat.le_trans (Nat.le_refl _) hk.2⟩) rfl (Nat.le_of_ble_eq_true rfl) dL_law_168 ?_
  refine r_istore (lv' := [(6, .int bv), (5, .int (SM2.1 350 0)), (0, .ref b), (1, .ref (x_ad x 0 6 0)), (2, .ref (x_ad x 0 7 0)), (3, .ref (x_ad x 2 900 0)), (4, .int (nI (5 * t)))]) hx dL_law_171 (by decide) rfl ?_
  refine r_aload_n (k0 := 4) hx dL_law_173 rfl rfl ?_
  refine p_Vi (S1 := mx SC2 SM2 (oW w code v.toInt64)) (C := RX8) (T := TX8) (N := 40) (As := []) (rest := []) (n := 0) (out := (SM2, SM2.1 350 0)) hx hs8 eM0 (C_X8_thrown (n := 10000) (c := x_yA x KM) (fun _ hk => hk) rfl) eM0 eM2 (by rw [hK9]; exact KL_M (k_0_7 (fun _ hk => hk))) rfl wl_L_78 wi_X8_thrown we_X8_thrown wn_X8 wc_X8_thrown (by decide +kernel) rfl (by rw [hR]; exact ⟨by decide +kernel, rfl, rfl, Nat.le_trans (Nat.le_refl _) hk.1, Nat.le_trans (Nat.le_refl _) hk.2⟩) rfl (Nat.le_of_ble_eq_true rfl) dL_law_174 ?_
  refine r_iload (k0 := 1) hx dL_law_177 rfl ?_
  refine r_icmp_eq (tgt := 184) hx dL_law_179 (by decide) (fun _ => ?_) (fun hn => absurd rfl hn)
  refine r_iload (k0 := 1) hx dL_law_184 rfl ?_
  have fin : WX x 7 (kc + 4) (ks + 24) (mx SC2 SM2 (oW w code v.toInt64)) 201 [(6, .int bv), (5, .int (SM2.1 350 0)), (0, .ref b), (1, .ref (x_ad x 0 6 0)), (2, .ref (x_ad x 0 7 0)), (3, .ref (x_ad x 2 900 0)), (4, .int (nI (5 * t)))] [] := by
    refine r_goto (tgt := 1279) hx dL_law_201 (by decide) ?_
    exact WX.sub (kk SC2 SM2 _ P2 Ns2 hI2) [2, 3, 4, 5, 6] rfl
  refine r_if_ne (tgt := 201) hx dL_law_186 (by decide) (fun _ => fin) (fun h0 => ?_)
  have hc0 : code = 0 := by
    rw [h0] at h350
    rcases hc with rfl | rfl | rfl | rfl
    · rfl
    · exact absurd h350 (by decide)
    · exact absurd h350 (by decide)
    · exact absurd h350 (by decide)
  have hv0 := hv hc0
  refine r_aload_n (k0 := 5) hx dL_law_189 rfl rfl ?_
  refine r_iconst (v := 0) hx dL_law_190 (by decide) ?_
  refine r_lald (v := v.toInt64) (f := 900) (j := 0) (L := 1) hx (by rw [hK9]; exact KL_O) rfl (show ¬ ((0 : Int32) < 0 ∨ 1 ≤ (0 : Int32).toNatClampNeg) by decide) (by rw [mx_out, hc0, oW_0]; exact vp_u0.symm) dL_law_191 ?_
  refine r_iload (k0 := 0) hx dL_law_192 rfl ?_
  refine r_i2l hx dL_law_194 ?_
  refine r_lcmp hx dL_law_195 ?_
  exact r_if_eq (tgt := 201) hx dL_law_196 (by decide) (fun _ => fin) (fun hn => absurd ((cmp_eq _ _).mpr (by rw [hv0])) hn)
theorem dL_law_204 : decode code 204 = .ok (.aload_n 1, 1) := by decide +kernel
theorem dL_law_205 : decode code 205 = .ok (.aload_n 0, 1) := by decide +kernel
theorem dL_law_206 : decode code 206 = .ok (.iload 4, 2) := by decide +kernel
theorem dL_law_208 : decode code 208 = .ok (.iconst 1, 1) := by decide +kernel
theorem dL_law_209 : decode code 209 = .ok (.iadd, 1) := by decide +kernel
theorem dL_law_210 : decode code 210 = .ok (.iaload, 1) := by decide +kernel
theorem dL_law_211 : decode code 211 = .ok (.aload_n 0, 1) := by decide +kernel
theorem dL_law_212 : decode code 212 = .ok (.iload 4, 2) := by decide +kernel
theorem dL_law_214 : decode code 214 = .ok (.iconst 2, 1) := by decide +kernel
theorem dL_law_215 : decode code 215 = .ok (.iadd, 1) := by decide +kernel
theorem dL_law_216 : decode code 216 = .ok (.iaload, 1) := by decide +kernel
theorem dL_law_217 : decode code 217 = .ok (.aload_n 3, 1) := by decide +kernel
theorem dL_law_218 : decode code 218 = .ok (.invokestatic 82, 3) := by decide +kernel
theorem dL_law_221 : decode code 221 = .ok (.istore 5, 2) := by decide +kernel
theorem dL_law_223 : decode code 223 = .ok (.aload_n 2, 1) := by decide +kernel
theorem dL_law_224 : decode code 224 = .ok (.aload_n 0, 1) := by decide +kernel
theorem dL_law_225 : decode code 225 = .ok (.iload 4, 2) := by decide +kernel
theorem dL_law_227 : decode code 227 = .ok (.iconst 1, 1) := by decide +kernel
theorem dL_law_228 : decode code 228 = .ok (.iadd, 1) := by decide +kernel
theorem dL_law_229 : decode code 229 = .ok (.iaload, 1) := by decide +kernel
theorem dL_law_230 : decode code 230 = .ok (.aload_n 0, 1) := by decide +kernel
theorem dL_law_231 : decode code 231 = .ok (.iload 4, 2) := by decide +kernel
theorem dL_law_233 : decode code 233 = .ok (.iconst 2, 1) := by decide +kernel
theorem dL_law_234 : decode code 234 = .ok (.iadd, 1) := by decide +kernel
theorem dL_law_235 : decode code 235 = .ok (.iaload, 1) := by decide +kernel
theorem dL_law_236 : decode code 236 = .ok (.invokevirtual 85, 3) := by decide +kernel
theorem dL_law_239 : decode code 239 = .ok (.istore 6, 2) := by decide +kernel
theorem dL_law_241 : decode code 241 = .ok (.aload_n 2, 1) := by decide +kernel
theorem dL_law_242 : decode code 242 = .ok (.invokevirtual 78, 3) := by decide +kernel
theorem dL_law_245 : decode code 245 = .ok (.iload 5, 2) := by decide +kernel
theorem dL_law_247 : decode code 247 = .ok (.if_icmp .eq 5, 3) := by decide +kernel
theorem dL_law_250 : decode code 250 = .ok (.iconst 0, 1) := by decide +kernel
theorem dL_law_251 : decode code 251 = .ok (.ireturn, 1) := by decide +kernel
theorem dL_law_252 : decode code 252 = .ok (.iload 5, 2) := by decide +kernel
theorem dL_law_254 : decode code 254 = .ok (.ifCond .ne 22, 3) := by decide +kernel
theorem dL_law_257 : decode code 257 = .ok (.aload_n 3, 1) := by decide +kernel
theorem dL_law_258 : decode code 258 = .ok (.iconst 0, 1) := by decide +kernel
theorem dL_law_259 : decode code 259 = .ok (.laload, 1) := by decide +kernel
theorem dL_law_260 : decode code 260 = .ok (.iload 6, 2) := by decide +kernel
theorem dL_law_262 : decode code 262 = .ok (.ifCond .eq 7, 3) := by decide +kernel
theorem dL_law_265 : decode code 265 = .ok (.lconst 1, 1) := by decide +kernel
theorem dL_law_266 : decode code 266 = .ok (.goto 4, 3) := by decide +kernel
theorem dL_law_269 : decode code 269 = .ok (.lconst 0, 1) := by decide +kernel
theorem dL_law_270 : decode code 270 = .ok (.lcmp, 1) := by decide +kernel
theorem dL_law_271 : decode code 271 = .ok (.ifCond .eq 5, 3) := by decide +kernel
theorem dL_law_274 : decode code 274 = .ok (.iconst 0, 1) := by decide +kernel
theorem dL_law_275 : decode code 275 = .ok (.ireturn, 1) := by decide +kernel
theorem dL_law_276 : decode code 276 = .ok (.goto 1003, 3) := by decide +kernel
set_option maxRecDepth 100000 in
set_option maxHeartbeats 4000000 in
theorem w_atMost {x : XC} {b L : Nat} {xs : Nat → Int32} (h : LX x b L xs) {t kc ks : Nat} (ht : 5 * t + 5 ≤ L) (hk : kc + 4 ≤ 601024 ∧ ks + 24 ≤ 7293034) {SC SM : St} {w : Nat → Int64} {P : PT} {Ns : List Nme} (hI : INV SC SM P Ns) (kk : LK x b t (kc + 4) (ks + 24)) : WX x 7 kc ks (mx SC SM w) 204 (LV x b t) [] := by
  obtain ⟨hx, hR, hK9, hst, -⟩ := id h
  have hD : KD (x_ad x) KLw := by rw [← hK9]; exact hx.2.2.2.2.2.2.1
  have hs8 : SPL (x_ad x) (x_K x) KM (KK ++ [(2, 900, 0)]) := by rw [hK9]; exact spl_M hD
  obtain ⟨SC2, SM2, code, v, bv, P2, Ns2, h1, h2, hI2, h350, hcode, hv⟩ := k_atMost (n := 10000) (Nat.le_refl _) hI (xs (5 * t + 1)) (xs (5 * t + 2))
  have hc : code = 0 ∨ code = 2 := by have h9 := oc_atMost _ h1; simpa using h9
  have hk5 : (if code = 2 then 1 else 0 : Int32) = SM2.1 350 0 := by rw [h350]; rcases hc with rfl | rfl <;> decide
  show WX x 7 kc ks (mx SC SM w) 204 [(0, .ref b), (1, .ref (x_ad x 0 6 0)), (2, .ref (x_ad x 0 7 0)), (3, .ref (x_ad x 2 900 0)), (4, .int (nI (5 * t)))] []
  refine r_aload_n (k0 := 1) hx dL_law_204 rfl rfl ?_
  refine r_cell h (j := 1) (k0 := 0) (k4 := 4) (by omega) (by decide) rfl rfl dL_law_205 dL_law_206 dL_law_208 dL_law_209 dL_law_210 ?_
  refine r_cell h (j := 2) (k0 := 0) (k4 := 4) (by omega) (by decide) rfl rfl dL_law_211 dL_law_212 dL_law_214 dL_law_215 dL_law_216 ?_
  refine r_aload_n (k0 := 3) hx dL_law_217 rfl rfl ?_
  refine r_SW (As := [.ref (x_ad x 0 6 0), .int (xs (5 * t + 1)), .int (xs (5 * t + 2)), .ref (x_ad x 2 900 0)]) (rest := []) (n := 4) hx (L_atMost (c := x_y x) hK9 hst h1 hc) wl_L_82 wt_L_atMost wn_L ww_atMost (by decide +kernel) rfl (by rw [hR]; exact ⟨by decide +kernel, rfl, rfl, hk.1, hk.2⟩) rfl (Nat.le_of_ble_eq_true rfl) dL_law_218 ?_
  rw [hk5]
  refine r_istore (lv' := [(5, .int (SM2.1 350 0)), (0, .ref b), (1, .ref (x_ad x 0 6 0)), (2, .ref (x_ad x 0 7 0)), (3, .ref (x_ad x 2 900 0)), (4, .int (nI (5 * t)))]) hx dL_law_221 (by decide) rfl ?_
  refine r_aload_n (k0 := 3) hx dL_law_223 rfl rfl ?_
  refine r_cell h (j := 1) (k0 := 1) (k4 := 5) (by omega) (by decide) rfl rfl dL_law_224 dL_law_225 dL_law_227 dL_law_228 dL_law_229 ?_
  refine r_cell h (j := 2) (k0 := 1) (k4 := 5) (by omega) (by decide) rfl rfl dL_law_230 dL_law_231 dL_law_233 dL_law_234 dL_law_235 ?_
  refine p_Vi (S1 := mx SC2 SM2 (oW w code (if v = 0 then 0 else 1))) (C := RX8) (T := TX8) (N := 40) (As := [.int (xs (5 * t + 1)), .int (xs (5 * t + 2))]) (rest := []) (n := 2) hx hs8 eM0 (C_X8_atMost (c := x_yA x KM) (fun _ hk => hk) h2) eM0 eM2 (by rw [hK9]; exact KL_M (k_0_7 (fun _ hk => hk))) rfl wl_L_85 wi_X8_atMost we_X8_atMost wn_X8 wc_X8_atMost (by decide +kernel) rfl (by rw [hR]; exact ⟨by decide +kernel, rfl, rfl, Nat.le_trans (Nat.le_refl _) hk.1, Nat.le_trans (Nat.le_refl _) hk.2⟩) rfl (Nat.le_of_ble_eq_true rfl) dL_law_236 ?_
  refine r_istore (lv' := [(6, .int bv), (5, .int (SM2.1 350 0)), (0, .ref b), (1, .ref (x_ad x 0 6 0)), (2, .ref (x_ad x 0 7 0)), (3, .ref (x_ad x 2 900 0)), (4, .int (nI (5 * t)))]) hx dL_law_239 (by decide) rfl ?_
  refine r_aload_n (k0 := 4) hx dL_law_241 rfl rfl ?_
  refine p_Vi (S1 := mx SC2 SM2 (oW w code (if v = 0 then 0 else 1))) (C := RX8) (T := TX8) (N := 40) (As := []) (rest := []) (n := 0) (out := (SM2, SM2.1 350 0)) hx hs8 eM0 (C_X8_thrown (n := 10000) (c := x_yA x KM) (fun _ hk => hk) rfl) eM0 eM2 (by rw [hK9]; exact KL_M (k_0_7 (fun _ hk => hk))) rfl wl_L_78 wi_X8_thrown we_X8_thrown wn_X8 wc_X8_thrown (by decide +kernel) rfl (by rw [hR]; exact ⟨by decide +kernel, rfl, rfl, Nat.le_trans (Nat.le_refl _) hk.1, Nat.le_trans (Nat.le_refl _) hk.2⟩) rfl (Nat.le_of_ble_eq_true rfl) dL_law_242 ?_
  refine r_iload (k0 := 1) hx dL_law_245 rfl ?_
  refine r_icmp_eq (tgt := 252) hx dL_law_247 (by decide) (fun _ => ?_) (fun hn => absurd rfl hn)
  refine r_iload (k0 := 1) hx dL_law_252 rfl ?_
  have fin : WX x 7 (kc + 4) (ks + 24) (mx SC2 SM2 (oW w code (if v = 0 then 0 else 1))) 276 [(6, .int bv), (5, .int (SM2.1 350 0)), (0, .ref b), (1, .ref (x_ad x 0 6 0)), (2, .ref (x_ad x 0 7 0)), (3, .ref (x_ad x 2 900 0)), (4, .int (nI (5 * t)))] [] := by
    refine r_goto (tgt := 1279) hx dL_law_276 (by decide) ?_
    exact WX.sub (kk SC2 SM2 _ P2 Ns2 hI2) [2, 3, 4, 5, 6] rfl
  refine r_if_ne (tgt := 276) hx dL_law_254 (by decide) (fun _ => fin) (fun h0 => ?_)
  have hc0 : code = 0 := by
    rw [h0] at h350
    rcases hc with rfl | rfl
    · rfl
    · exact absurd h350 (by decide)
  have hv0 := hv hc0
  refine r_aload_n (k0 := 5) hx dL_law_257 rfl rfl ?_
  refine r_iconst (v := 0) hx dL_law_258 (by decide) ?_
  refine r_lald (v := (if v = 0 then 0 else 1)) (f := 900) (j := 0) (L := 1) hx (by rw [hK9]; exact KL_O) rfl (show ¬ ((0 : Int32) < 0 ∨ 1 ≤ (0 : Int32).toNatClampNeg) by decide) (by rw [mx_out, hc0, oW_0]; exact vp_u0.symm) dL_law_259 ?_
  refine r_iload (k0 := 0) hx dL_law_260 rfl ?_
  refine r_if_eq (tgt := 269) hx dL_law_262 (by decide) (fun hb => ?_) (fun hb => ?_)
  · refine r_lconst (v := 0) hx dL_law_269 (by decide) ?_
    refine r_lcmp hx dL_law_270 ?_
    exact r_if_eq (tgt := 276) hx dL_law_271 (by decide) (fun _ => fin) (fun hn => absurd ((cmp_eq _ _).mpr (by rw [hv0, if_pos hb])) hn)
  · refine r_lconst (v := 1) hx dL_law_265 (by decide) ?_
    refine r_goto (tgt := 270) hx dL_law_266 (by decide) ?_
    refine r_lcmp hx dL_law_270 ?_
    exact r_if_eq (tgt := 276) hx dL_law_271 (by decide) (fun _ => fin) (fun hn => absurd ((cmp_eq _ _).mpr (by rw [hv0, if_neg hb])) hn)
theorem dL_law_279 : decode code 279 = .ok (.aload_n 1, 1) := by decide +kernel
theorem dL_law_280 : decode code 280 = .ok (.aload_n 0, 1) := by decide +kernel
theorem dL_law_281 : decode code 281 = .ok (.iload 4, 2) := by decide +kernel
theorem dL_law_283 : decode code 283 = .ok (.iconst 1, 1) := by decide +kernel
theorem dL_law_284 : decode code 284 = .ok (.iadd, 1) := by decide +kernel
theorem dL_law_285 : decode code 285 = .ok (.iaload, 1) := by decide +kernel
theorem dL_law_286 : decode code 286 = .ok (.aload_n 0, 1) := by decide +kernel
theorem dL_law_287 : decode code 287 = .ok (.iload 4, 2) := by decide +kernel
theorem dL_law_289 : decode code 289 = .ok (.iconst 2, 1) := by decide +kernel
theorem dL_law_290 : decode code 290 = .ok (.iadd, 1) := by decide +kernel
theorem dL_law_291 : decode code 291 = .ok (.iaload, 1) := by decide +kernel
theorem dL_law_292 : decode code 292 = .ok (.aload_n 0, 1) := by decide +kernel
theorem dL_law_293 : decode code 293 = .ok (.iload 4, 2) := by decide +kernel
theorem dL_law_295 : decode code 295 = .ok (.iconst 3, 1) := by decide +kernel
theorem dL_law_296 : decode code 296 = .ok (.iadd, 1) := by decide +kernel
theorem dL_law_297 : decode code 297 = .ok (.iaload, 1) := by decide +kernel
theorem dL_law_298 : decode code 298 = .ok (.aload_n 0, 1) := by decide +kernel
theorem dL_law_299 : decode code 299 = .ok (.iload 4, 2) := by decide +kernel
theorem dL_law_301 : decode code 301 = .ok (.iconst 4, 1) := by decide +kernel
theorem dL_law_302 : decode code 302 = .ok (.iadd, 1) := by decide +kernel
theorem dL_law_303 : decode code 303 = .ok (.iaload, 1) := by decide +kernel
theorem dL_law_304 : decode code 304 = .ok (.aload_n 3, 1) := by decide +kernel
theorem dL_law_305 : decode code 305 = .ok (.invokestatic 86, 3) := by decide +kernel
theorem dL_law_308 : decode code 308 = .ok (.istore 5, 2) := by decide +kernel
theorem dL_law_310 : decode code 310 = .ok (.aload_n 2, 1) := by decide +kernel
theorem dL_law_311 : decode code 311 = .ok (.aload_n 0, 1) := by decide +kernel
theorem dL_law_312 : decode code 312 = .ok (.iload 4, 2) := by decide +kernel
theorem dL_law_314 : decode code 314 = .ok (.iconst 1, 1) := by decide +kernel
theorem dL_law_315 : decode code 315 = .ok (.iadd, 1) := by decide +kernel
theorem dL_law_316 : decode code 316 = .ok (.iaload, 1) := by decide +kernel
theorem dL_law_317 : decode code 317 = .ok (.aload_n 0, 1) := by decide +kernel
theorem dL_law_318 : decode code 318 = .ok (.iload 4, 2) := by decide +kernel
theorem dL_law_320 : decode code 320 = .ok (.iconst 2, 1) := by decide +kernel
theorem dL_law_321 : decode code 321 = .ok (.iadd, 1) := by decide +kernel
theorem dL_law_322 : decode code 322 = .ok (.iaload, 1) := by decide +kernel
theorem dL_law_323 : decode code 323 = .ok (.aload_n 0, 1) := by decide +kernel
theorem dL_law_324 : decode code 324 = .ok (.iload 4, 2) := by decide +kernel
theorem dL_law_326 : decode code 326 = .ok (.iconst 3, 1) := by decide +kernel
theorem dL_law_327 : decode code 327 = .ok (.iadd, 1) := by decide +kernel
theorem dL_law_328 : decode code 328 = .ok (.iaload, 1) := by decide +kernel
theorem dL_law_329 : decode code 329 = .ok (.aload_n 0, 1) := by decide +kernel
theorem dL_law_330 : decode code 330 = .ok (.iload 4, 2) := by decide +kernel
theorem dL_law_332 : decode code 332 = .ok (.iconst 4, 1) := by decide +kernel
theorem dL_law_333 : decode code 333 = .ok (.iadd, 1) := by decide +kernel
theorem dL_law_334 : decode code 334 = .ok (.iaload, 1) := by decide +kernel
theorem dL_law_335 : decode code 335 = .ok (.invokevirtual 89, 3) := by decide +kernel
theorem dL_law_338 : decode code 338 = .ok (.istore 6, 2) := by decide +kernel
theorem dL_law_340 : decode code 340 = .ok (.aload_n 2, 1) := by decide +kernel
theorem dL_law_341 : decode code 341 = .ok (.invokevirtual 78, 3) := by decide +kernel
theorem dL_law_344 : decode code 344 = .ok (.iload 5, 2) := by decide +kernel
theorem dL_law_346 : decode code 346 = .ok (.if_icmp .eq 5, 3) := by decide +kernel
theorem dL_law_349 : decode code 349 = .ok (.iconst 0, 1) := by decide +kernel
theorem dL_law_350 : decode code 350 = .ok (.ireturn, 1) := by decide +kernel
theorem dL_law_351 : decode code 351 = .ok (.iload 5, 2) := by decide +kernel
theorem dL_law_353 : decode code 353 = .ok (.ifCond .ne 15, 3) := by decide +kernel
theorem dL_law_356 : decode code 356 = .ok (.aload_n 3, 1) := by decide +kernel
theorem dL_law_357 : decode code 357 = .ok (.iconst 0, 1) := by decide +kernel
theorem dL_law_358 : decode code 358 = .ok (.laload, 1) := by decide +kernel
theorem dL_law_359 : decode code 359 = .ok (.iload 6, 2) := by decide +kernel
theorem dL_law_361 : decode code 361 = .ok (.i2l, 1) := by decide +kernel
theorem dL_law_362 : decode code 362 = .ok (.lcmp, 1) := by decide +kernel
theorem dL_law_363 : decode code 363 = .ok (.ifCond .eq 5, 3) := by decide +kernel
theorem dL_law_366 : decode code 366 = .ok (.iconst 0, 1) := by decide +kernel
theorem dL_law_367 : decode code 367 = .ok (.ireturn, 1) := by decide +kernel
theorem dL_law_368 : decode code 368 = .ok (.goto 911, 3) := by decide +kernel
set_option maxRecDepth 100000 in
set_option maxHeartbeats 4000000 in
theorem w_value {x : XC} {b L : Nat} {xs : Nat → Int32} (h : LX x b L xs) {t kc ks : Nat} (ht : 5 * t + 5 ≤ L) (hk : kc + 4 ≤ 601024 ∧ ks + 24 ≤ 7293034) {SC SM : St} {w : Nat → Int64} {P : PT} {Ns : List Nme} (hI : INV SC SM P Ns) (kk : LK x b t (kc + 4) (ks + 24)) : WX x 7 kc ks (mx SC SM w) 279 (LV x b t) [] := by
  obtain ⟨hx, hR, hK9, hst, -⟩ := id h
  have hD : KD (x_ad x) KLw := by rw [← hK9]; exact hx.2.2.2.2.2.2.1
  have hs8 : SPL (x_ad x) (x_K x) KM (KK ++ [(2, 900, 0)]) := by rw [hK9]; exact spl_M hD
  obtain ⟨SC2, SM2, code, v, bv, P2, Ns2, h1, h2, hI2, h350, hcode, hv⟩ := k_value (n := 10000) (Nat.le_refl _) hI (xs (5 * t + 1)) (xs (5 * t + 2)) (xs (5 * t + 3)) (xs (5 * t + 4))
  have hc : code = 0 ∨ code = 2 ∨ code = 1 := by have h9 := oc_value _ h1; simpa using h9
  have hk5 : (if code = 2 then 1 else if code = 1 then 2 else 0 : Int32) = SM2.1 350 0 := by rw [h350]; rcases hc with rfl | rfl | rfl <;> decide
  show WX x 7 kc ks (mx SC SM w) 279 [(0, .ref b), (1, .ref (x_ad x 0 6 0)), (2, .ref (x_ad x 0 7 0)), (3, .ref (x_ad x 2 900 0)), (4, .int (nI (5 * t)))] []
  refine r_aload_n (k0 := 1) hx dL_law_279 rfl rfl ?_
  refine r_cell h (j := 1) (k0 := 0) (k4 := 4) (by omega) (by decide) rfl rfl dL_law_280 dL_law_281 dL_law_283 dL_law_284 dL_law_285 ?_
  refine r_cell h (j := 2) (k0 := 0) (k4 := 4) (by omega) (by decide) rfl rfl dL_law_286 dL_law_287 dL_law_289 dL_law_290 dL_law_291 ?_
  refine r_cell h (j := 3) (k0 := 0) (k4 := 4) (by omega) (by decide) rfl rfl dL_law_292 dL_law_293 dL_law_295 dL_law_296 dL_law_297 ?_
  refine r_cell h (j := 4) (k0 := 0) (k4 := 4) (by omega) (by decide) rfl rfl dL_law_298 dL_law_299 dL_law_301 dL_law_302 dL_law_303 ?_
  refine r_aload_n (k0 := 3) hx dL_law_304 rfl rfl ?_
  refine r_SW (As := [.ref (x_ad x 0 6 0), .int (xs (5 * t + 1)), .int (xs (5 * t + 2)), .int (xs (5 * t + 3)), .int (xs (5 * t + 4)), .ref (x_ad x 2 900 0)]) (rest := []) (n := 6) hx (L_value (c := x_y x) hK9 hst h1 hc) wl_L_86 wt_L_value wn_L ww_value (by decide +kernel) rfl (by rw [hR]; exact ⟨by decide +kernel, rfl, rfl, hk.1, hk.2⟩) rfl (Nat.le_of_ble_eq_true rfl) dL_law_305 ?_
  rw [hk5]
  refine r_istore (lv' := [(5, .int (SM2.1 350 0)), (0, .ref b), (1, .ref (x_ad x 0 6 0)), (2, .ref (x_ad x 0 7 0)), (3, .ref (x_ad x 2 900 0)), (4, .int (nI (5 * t)))]) hx dL_law_308 (by decide) rfl ?_
  refine r_aload_n (k0 := 3) hx dL_law_310 rfl rfl ?_
  refine r_cell h (j := 1) (k0 := 1) (k4 := 5) (by omega) (by decide) rfl rfl dL_law_311 dL_law_312 dL_law_314 dL_law_315 dL_law_316 ?_
  refine r_cell h (j := 2) (k0 := 1) (k4 := 5) (by omega) (by decide) rfl rfl dL_law_317 dL_law_318 dL_law_320 dL_law_321 dL_law_322 ?_
  refine r_cell h (j := 3) (k0 := 1) (k4 := 5) (by omega) (by decide) rfl rfl dL_law_323 dL_law_324 dL_law_326 dL_law_327 dL_law_328 ?_
  refine r_cell h (j := 4) (k0 := 1) (k4 := 5) (by omega) (by decide) rfl rfl dL_law_329 dL_law_330 dL_law_332 dL_law_333 dL_law_334 ?_
  refine p_Vi (S1 := mx SC2 SM2 (oW w code v.toInt64)) (C := RX8) (T := TX8) (N := 40) (As := [.int (xs (5 * t + 1)), .int (xs (5 * t + 2)), .int (xs (5 * t + 3)), .int (xs (5 * t + 4))]) (rest := []) (n := 4) hx hs8 eM0 (C_X8_value (c := x_yA x KM) (fun _ hk => hk) h2) eM0 eM2 (by rw [hK9]; exact KL_M (k_0_7 (fun _ hk => hk))) rfl wl_L_89 wi_X8_value we_X8_value wn_X8 wc_X8_value (by decide +kernel) rfl (by rw [hR]; exact ⟨by decide +kernel, rfl, rfl, Nat.le_trans (Nat.le_refl _) hk.1, Nat.le_trans (Nat.le_refl _) hk.2⟩) rfl (Nat.le_of_ble_eq_true rfl) dL_law_335 ?_
  refine r_istore (lv' := [(6, .int bv), (5, .int (SM2.1 350 0)), (0, .ref b), (1, .ref (x_ad x 0 6 0)), (2, .ref (x_ad x 0 7 0)), (3, .ref (x_ad x 2 900 0)), (4, .int (nI (5 * t)))]) hx dL_law_338 (by decide) rfl ?_
  refine r_aload_n (k0 := 4) hx dL_law_340 rfl rfl ?_
  refine p_Vi (S1 := mx SC2 SM2 (oW w code v.toInt64)) (C := RX8) (T := TX8) (N := 40) (As := []) (rest := []) (n := 0) (out := (SM2, SM2.1 350 0)) hx hs8 eM0 (C_X8_thrown (n := 10000) (c := x_yA x KM) (fun _ hk => hk) rfl) eM0 eM2 (by rw [hK9]; exact KL_M (k_0_7 (fun _ hk => hk))) rfl wl_L_78 wi_X8_thrown we_X8_thrown wn_X8 wc_X8_thrown (by decide +kernel) rfl (by rw [hR]; exact ⟨by decide +kernel, rfl, rfl, Nat.le_trans (Nat.le_refl _) hk.1, Nat.le_trans (Nat.le_refl _) hk.2⟩) rfl (Nat.le_of_ble_eq_true rfl) dL_law_341 ?_
  refine r_iload (k0 := 1) hx dL_law_344 rfl ?_
  refine r_icmp_eq (tgt := 351) hx dL_law_346 (by decide) (fun _ => ?_) (fun hn => absurd rfl hn)
  refine r_iload (k0 := 1) hx dL_law_351 rfl ?_
  have fin : WX x 7 (kc + 4) (ks + 24) (mx SC2 SM2 (oW w code v.toInt64)) 368 [(6, .int bv), (5, .int (SM2.1 350 0)), (0, .ref b), (1, .ref (x_ad x 0 6 0)), (2, .ref (x_ad x 0 7 0)), (3, .ref (x_ad x 2 900 0)), (4, .int (nI (5 * t)))] [] := by
    refine r_goto (tgt := 1279) hx dL_law_368 (by decide) ?_
    exact WX.sub (kk SC2 SM2 _ P2 Ns2 hI2) [2, 3, 4, 5, 6] rfl
  refine r_if_ne (tgt := 368) hx dL_law_353 (by decide) (fun _ => fin) (fun h0 => ?_)
  have hc0 : code = 0 := by
    rw [h0] at h350
    rcases hc with rfl | rfl | rfl
    · rfl
    · exact absurd h350 (by decide)
    · exact absurd h350 (by decide)
  have hv0 := hv hc0
  refine r_aload_n (k0 := 5) hx dL_law_356 rfl rfl ?_
  refine r_iconst (v := 0) hx dL_law_357 (by decide) ?_
  refine r_lald (v := v.toInt64) (f := 900) (j := 0) (L := 1) hx (by rw [hK9]; exact KL_O) rfl (show ¬ ((0 : Int32) < 0 ∨ 1 ≤ (0 : Int32).toNatClampNeg) by decide) (by rw [mx_out, hc0, oW_0]; exact vp_u0.symm) dL_law_358 ?_
  refine r_iload (k0 := 0) hx dL_law_359 rfl ?_
  refine r_i2l hx dL_law_361 ?_
  refine r_lcmp hx dL_law_362 ?_
  exact r_if_eq (tgt := 368) hx dL_law_363 (by decide) (fun _ => fin) (fun hn => absurd ((cmp_eq _ _).mpr (by rw [hv0])) hn)
theorem dL_law_371 : decode code 371 = .ok (.aload_n 1, 1) := by decide +kernel
theorem dL_law_372 : decode code 372 = .ok (.aload_n 0, 1) := by decide +kernel
theorem dL_law_373 : decode code 373 = .ok (.iload 4, 2) := by decide +kernel
theorem dL_law_375 : decode code 375 = .ok (.iconst 1, 1) := by decide +kernel
theorem dL_law_376 : decode code 376 = .ok (.iadd, 1) := by decide +kernel
theorem dL_law_377 : decode code 377 = .ok (.iaload, 1) := by decide +kernel
theorem dL_law_378 : decode code 378 = .ok (.aload_n 3, 1) := by decide +kernel
theorem dL_law_379 : decode code 379 = .ok (.invokestatic 90, 3) := by decide +kernel
theorem dL_law_382 : decode code 382 = .ok (.istore 5, 2) := by decide +kernel
theorem dL_law_384 : decode code 384 = .ok (.aload_n 2, 1) := by decide +kernel
theorem dL_law_385 : decode code 385 = .ok (.aload_n 0, 1) := by decide +kernel
theorem dL_law_386 : decode code 386 = .ok (.iload 4, 2) := by decide +kernel
theorem dL_law_388 : decode code 388 = .ok (.iconst 1, 1) := by decide +kernel
theorem dL_law_389 : decode code 389 = .ok (.iadd, 1) := by decide +kernel
theorem dL_law_390 : decode code 390 = .ok (.iaload, 1) := by decide +kernel
theorem dL_law_391 : decode code 391 = .ok (.invokevirtual 93, 3) := by decide +kernel
theorem dL_law_394 : decode code 394 = .ok (.istore 6, 2) := by decide +kernel
theorem dL_law_396 : decode code 396 = .ok (.aload_n 2, 1) := by decide +kernel
theorem dL_law_397 : decode code 397 = .ok (.invokevirtual 78, 3) := by decide +kernel
theorem dL_law_400 : decode code 400 = .ok (.iload 5, 2) := by decide +kernel
theorem dL_law_402 : decode code 402 = .ok (.if_icmp .eq 5, 3) := by decide +kernel
theorem dL_law_405 : decode code 405 = .ok (.iconst 0, 1) := by decide +kernel
theorem dL_law_406 : decode code 406 = .ok (.ireturn, 1) := by decide +kernel
theorem dL_law_407 : decode code 407 = .ok (.iload 5, 2) := by decide +kernel
theorem dL_law_409 : decode code 409 = .ok (.ifCond .ne 15, 3) := by decide +kernel
theorem dL_law_412 : decode code 412 = .ok (.aload_n 3, 1) := by decide +kernel
theorem dL_law_413 : decode code 413 = .ok (.iconst 0, 1) := by decide +kernel
theorem dL_law_414 : decode code 414 = .ok (.laload, 1) := by decide +kernel
theorem dL_law_415 : decode code 415 = .ok (.iload 6, 2) := by decide +kernel
theorem dL_law_417 : decode code 417 = .ok (.i2l, 1) := by decide +kernel
theorem dL_law_418 : decode code 418 = .ok (.lcmp, 1) := by decide +kernel
theorem dL_law_419 : decode code 419 = .ok (.ifCond .eq 5, 3) := by decide +kernel
theorem dL_law_422 : decode code 422 = .ok (.iconst 0, 1) := by decide +kernel
theorem dL_law_423 : decode code 423 = .ok (.ireturn, 1) := by decide +kernel
theorem dL_law_424 : decode code 424 = .ok (.goto 855, 3) := by decide +kernel
set_option maxRecDepth 100000 in
set_option maxHeartbeats 4000000 in
theorem w_sort {x : XC} {b L : Nat} {xs : Nat → Int32} (h : LX x b L xs) {t kc ks : Nat} (ht : 5 * t + 5 ≤ L) (hk : kc + 4 ≤ 601024 ∧ ks + 24 ≤ 7293034) {SC SM : St} {w : Nat → Int64} {P : PT} {Ns : List Nme} (hI : INV SC SM P Ns) (kk : LK x b t (kc + 4) (ks + 24)) : WX x 7 kc ks (mx SC SM w) 371 (LV x b t) [] := by
  obtain ⟨hx, hR, hK9, hst, -⟩ := id h
  have hD : KD (x_ad x) KLw := by rw [← hK9]; exact hx.2.2.2.2.2.2.1
  have hs8 : SPL (x_ad x) (x_K x) KM (KK ++ [(2, 900, 0)]) := by rw [hK9]; exact spl_M hD
  obtain ⟨SC2, SM2, code, v, bv, P2, Ns2, h1, h2, hI2, h350, hcode, hv⟩ := k_sort (n := 10000) (Nat.le_refl _) hI (xs (5 * t + 1))
  have hc : code = 0 ∨ code = 2 ∨ code = 3 := by have h9 := oc_sort _ h1; simpa using h9
  have hk5 : (if code = 2 then 1 else if code = 3 then 2 else 0 : Int32) = SM2.1 350 0 := by rw [h350]; rcases hc with rfl | rfl | rfl <;> decide
  show WX x 7 kc ks (mx SC SM w) 371 [(0, .ref b), (1, .ref (x_ad x 0 6 0)), (2, .ref (x_ad x 0 7 0)), (3, .ref (x_ad x 2 900 0)), (4, .int (nI (5 * t)))] []
  refine r_aload_n (k0 := 1) hx dL_law_371 rfl rfl ?_
  refine r_cell h (j := 1) (k0 := 0) (k4 := 4) (by omega) (by decide) rfl rfl dL_law_372 dL_law_373 dL_law_375 dL_law_376 dL_law_377 ?_
  refine r_aload_n (k0 := 3) hx dL_law_378 rfl rfl ?_
  refine r_SW (As := [.ref (x_ad x 0 6 0), .int (xs (5 * t + 1)), .ref (x_ad x 2 900 0)]) (rest := []) (n := 3) hx (L_sort (c := x_y x) hK9 hst h1 hc) wl_L_90 wt_L_sort wn_L ww_sort (by decide +kernel) rfl (by rw [hR]; exact ⟨by decide +kernel, rfl, rfl, hk.1, hk.2⟩) rfl (Nat.le_of_ble_eq_true rfl) dL_law_379 ?_
  rw [hk5]
  refine r_istore (lv' := [(5, .int (SM2.1 350 0)), (0, .ref b), (1, .ref (x_ad x 0 6 0)), (2, .ref (x_ad x 0 7 0)), (3, .ref (x_ad x 2 900 0)), (4, .int (nI (5 * t)))]) hx dL_law_382 (by decide) rfl ?_
  refine r_aload_n (k0 := 3) hx dL_law_384 rfl rfl ?_
  refine r_cell h (j := 1) (k0 := 1) (k4 := 5) (by omega) (by decide) rfl rfl dL_law_385 dL_law_386 dL_law_388 dL_law_389 dL_law_390 ?_
  refine p_Vi (S1 := mx SC2 SM2 (oW w code v.toInt64)) (C := RX8) (T := TX8) (N := 40) (As := [.int (xs (5 * t + 1))]) (rest := []) (n := 1) hx hs8 eM0 (C_X8_sort (c := x_yA x KM) (fun _ hk => hk) h2) eM0 eM2 (by rw [hK9]; exact KL_M (k_0_7 (fun _ hk => hk))) rfl wl_L_93 wi_X8_sort we_X8_sort wn_X8 wc_X8_sort (by decide +kernel) rfl (by rw [hR]; exact ⟨by decide +kernel, rfl, rfl, Nat.le_trans (Nat.le_refl _) hk.1, Nat.le_trans (Nat.le_refl _) hk.2⟩) rfl (Nat.le_of_ble_eq_true rfl) dL_law_391 ?_
  refine r_istore (lv' := [(6, .int bv), (5, .int (SM2.1 350 0)), (0, .ref b), (1, .ref (x_ad x 0 6 0)), (2, .ref (x_ad x 0 7 0)), (3, .ref (x_ad x 2 900 0)), (4, .int (nI (5 * t)))]) hx dL_law_394 (by decide) rfl ?_
  refine r_aload_n (k0 := 4) hx dL_law_396 rfl rfl ?_
  refine p_Vi (S1 := mx SC2 SM2 (oW w code v.toInt64)) (C := RX8) (T := TX8) (N := 40) (As := []) (rest := []) (n := 0) (out := (SM2, SM2.1 350 0)) hx hs8 eM0 (C_X8_thrown (n := 10000) (c := x_yA x KM) (fun _ hk => hk) rfl) eM0 eM2 (by rw [hK9]; exact KL_M (k_0_7 (fun _ hk => hk))) rfl wl_L_78 wi_X8_thrown we_X8_thrown wn_X8 wc_X8_thrown (by decide +kernel) rfl (by rw [hR]; exact ⟨by decide +kernel, rfl, rfl, Nat.le_trans (Nat.le_refl _) hk.1, Nat.le_trans (Nat.le_refl _) hk.2⟩) rfl (Nat.le_of_ble_eq_true rfl) dL_law_397 ?_
  refine r_iload (k0 := 1) hx dL_law_400 rfl ?_
  refine r_icmp_eq (tgt := 407) hx dL_law_402 (by decide) (fun _ => ?_) (fun hn => absurd rfl hn)
  refine r_iload (k0 := 1) hx dL_law_407 rfl ?_
  have fin : WX x 7 (kc + 4) (ks + 24) (mx SC2 SM2 (oW w code v.toInt64)) 424 [(6, .int bv), (5, .int (SM2.1 350 0)), (0, .ref b), (1, .ref (x_ad x 0 6 0)), (2, .ref (x_ad x 0 7 0)), (3, .ref (x_ad x 2 900 0)), (4, .int (nI (5 * t)))] [] := by
    refine r_goto (tgt := 1279) hx dL_law_424 (by decide) ?_
    exact WX.sub (kk SC2 SM2 _ P2 Ns2 hI2) [2, 3, 4, 5, 6] rfl
  refine r_if_ne (tgt := 424) hx dL_law_409 (by decide) (fun _ => fin) (fun h0 => ?_)
  have hc0 : code = 0 := by
    rw [h0] at h350
    rcases hc with rfl | rfl | rfl
    · rfl
    · exact absurd h350 (by decide)
    · exact absurd h350 (by decide)
  have hv0 := hv hc0
  refine r_aload_n (k0 := 5) hx dL_law_412 rfl rfl ?_
  refine r_iconst (v := 0) hx dL_law_413 (by decide) ?_
  refine r_lald (v := v.toInt64) (f := 900) (j := 0) (L := 1) hx (by rw [hK9]; exact KL_O) rfl (show ¬ ((0 : Int32) < 0 ∨ 1 ≤ (0 : Int32).toNatClampNeg) by decide) (by rw [mx_out, hc0, oW_0]; exact vp_u0.symm) dL_law_414 ?_
  refine r_iload (k0 := 0) hx dL_law_415 rfl ?_
  refine r_i2l hx dL_law_417 ?_
  refine r_lcmp hx dL_law_418 ?_
  exact r_if_eq (tgt := 424) hx dL_law_419 (by decide) (fun _ => fin) (fun hn => absurd ((cmp_eq _ _).mpr (by rw [hv0])) hn)
theorem dL_law_427 : decode code 427 = .ok (.aload_n 1, 1) := by decide +kernel
theorem dL_law_428 : decode code 428 = .ok (.aload_n 0, 1) := by decide +kernel
theorem dL_law_429 : decode code 429 = .ok (.iload 4, 2) := by decide +kernel
theorem dL_law_431 : decode code 431 = .ok (.iconst 1, 1) := by decide +kernel
theorem dL_law_432 : decode code 432 = .ok (.iadd, 1) := by decide +kernel
theorem dL_law_433 : decode code 433 = .ok (.iaload, 1) := by decide +kernel
theorem dL_law_434 : decode code 434 = .ok (.aload_n 3, 1) := by decide +kernel
theorem dL_law_435 : decode code 435 = .ok (.invokestatic 94, 3) := by decide +kernel
theorem dL_law_438 : decode code 438 = .ok (.istore 5, 2) := by decide +kernel
theorem dL_law_440 : decode code 440 = .ok (.aload_n 2, 1) := by decide +kernel
theorem dL_law_441 : decode code 441 = .ok (.aload_n 0, 1) := by decide +kernel
theorem dL_law_442 : decode code 442 = .ok (.iload 4, 2) := by decide +kernel
theorem dL_law_444 : decode code 444 = .ok (.iconst 1, 1) := by decide +kernel
theorem dL_law_445 : decode code 445 = .ok (.iadd, 1) := by decide +kernel
theorem dL_law_446 : decode code 446 = .ok (.iaload, 1) := by decide +kernel
theorem dL_law_447 : decode code 447 = .ok (.invokevirtual 96, 3) := by decide +kernel
theorem dL_law_450 : decode code 450 = .ok (.istore 6, 2) := by decide +kernel
theorem dL_law_452 : decode code 452 = .ok (.aload_n 2, 1) := by decide +kernel
theorem dL_law_453 : decode code 453 = .ok (.invokevirtual 78, 3) := by decide +kernel
theorem dL_law_456 : decode code 456 = .ok (.iload 5, 2) := by decide +kernel
theorem dL_law_458 : decode code 458 = .ok (.if_icmp .eq 5, 3) := by decide +kernel
theorem dL_law_461 : decode code 461 = .ok (.iconst 0, 1) := by decide +kernel
theorem dL_law_462 : decode code 462 = .ok (.ireturn, 1) := by decide +kernel
theorem dL_law_463 : decode code 463 = .ok (.iload 5, 2) := by decide +kernel
theorem dL_law_465 : decode code 465 = .ok (.ifCond .ne 15, 3) := by decide +kernel
theorem dL_law_468 : decode code 468 = .ok (.aload_n 3, 1) := by decide +kernel
theorem dL_law_469 : decode code 469 = .ok (.iconst 0, 1) := by decide +kernel
theorem dL_law_470 : decode code 470 = .ok (.laload, 1) := by decide +kernel
theorem dL_law_471 : decode code 471 = .ok (.iload 6, 2) := by decide +kernel
theorem dL_law_473 : decode code 473 = .ok (.i2l, 1) := by decide +kernel
theorem dL_law_474 : decode code 474 = .ok (.lcmp, 1) := by decide +kernel
theorem dL_law_475 : decode code 475 = .ok (.ifCond .eq 5, 3) := by decide +kernel
theorem dL_law_478 : decode code 478 = .ok (.iconst 0, 1) := by decide +kernel
theorem dL_law_479 : decode code 479 = .ok (.ireturn, 1) := by decide +kernel
theorem dL_law_480 : decode code 480 = .ok (.goto 799, 3) := by decide +kernel
set_option maxRecDepth 100000 in
set_option maxHeartbeats 4000000 in
theorem w_variable {x : XC} {b L : Nat} {xs : Nat → Int32} (h : LX x b L xs) {t kc ks : Nat} (ht : 5 * t + 5 ≤ L) (hk : kc + 4 ≤ 601024 ∧ ks + 24 ≤ 7293034) {SC SM : St} {w : Nat → Int64} {P : PT} {Ns : List Nme} (hI : INV SC SM P Ns) (kk : LK x b t (kc + 4) (ks + 24)) : WX x 7 kc ks (mx SC SM w) 427 (LV x b t) [] := by
  obtain ⟨hx, hR, hK9, hst, -⟩ := id h
  have hD : KD (x_ad x) KLw := by rw [← hK9]; exact hx.2.2.2.2.2.2.1
  have hs8 : SPL (x_ad x) (x_K x) KM (KK ++ [(2, 900, 0)]) := by rw [hK9]; exact spl_M hD
  obtain ⟨SC2, SM2, code, v, bv, P2, Ns2, h1, h2, hI2, h350, hcode, hv⟩ := k_variable (n := 10000) (Nat.le_refl _) hI (xs (5 * t + 1))
  have hc : code = 0 ∨ code = 1 ∨ code = 3 := by have h9 := oc_variable _ h1; simpa using h9
  have hk5 : (if code = 1 then 1 else if code = 3 then 2 else 0 : Int32) = SM2.1 350 0 := by rw [h350]; rcases hc with rfl | rfl | rfl <;> decide
  show WX x 7 kc ks (mx SC SM w) 427 [(0, .ref b), (1, .ref (x_ad x 0 6 0)), (2, .ref (x_ad x 0 7 0)), (3, .ref (x_ad x 2 900 0)), (4, .int (nI (5 * t)))] []
  refine r_aload_n (k0 := 1) hx dL_law_427 rfl rfl ?_
  refine r_cell h (j := 1) (k0 := 0) (k4 := 4) (by omega) (by decide) rfl rfl dL_law_428 dL_law_429 dL_law_431 dL_law_432 dL_law_433 ?_
  refine r_aload_n (k0 := 3) hx dL_law_434 rfl rfl ?_
  refine r_SW (As := [.ref (x_ad x 0 6 0), .int (xs (5 * t + 1)), .ref (x_ad x 2 900 0)]) (rest := []) (n := 3) hx (L_variable (c := x_y x) hK9 hst h1 hc) wl_L_94 wt_L_variable wn_L ww_variable (by decide +kernel) rfl (by rw [hR]; exact ⟨by decide +kernel, rfl, rfl, hk.1, hk.2⟩) rfl (Nat.le_of_ble_eq_true rfl) dL_law_435 ?_
  rw [hk5]
  refine r_istore (lv' := [(5, .int (SM2.1 350 0)), (0, .ref b), (1, .ref (x_ad x 0 6 0)), (2, .ref (x_ad x 0 7 0)), (3, .ref (x_ad x 2 900 0)), (4, .int (nI (5 * t)))]) hx dL_law_438 (by decide) rfl ?_
  refine r_aload_n (k0 := 3) hx dL_law_440 rfl rfl ?_
  refine r_cell h (j := 1) (k0 := 1) (k4 := 5) (by omega) (by decide) rfl rfl dL_law_441 dL_law_442 dL_law_444 dL_law_445 dL_law_446 ?_
  refine p_Vi (S1 := mx SC2 SM2 (oW w code v.toInt64)) (C := RX8) (T := TX8) (N := 40) (As := [.int (xs (5 * t + 1))]) (rest := []) (n := 1) hx hs8 eM0 (C_X8_variable (c := x_yA x KM) (fun _ hk => hk) h2) eM0 eM2 (by rw [hK9]; exact KL_M (k_0_7 (fun _ hk => hk))) rfl wl_L_96 wi_X8_variable we_X8_variable wn_X8 wc_X8_variable (by decide +kernel) rfl (by rw [hR]; exact ⟨by decide +kernel, rfl, rfl, Nat.le_trans (Nat.le_refl _) hk.1, Nat.le_trans (Nat.le_refl _) hk.2⟩) rfl (Nat.le_of_ble_eq_true rfl) dL_law_447 ?_
  refine r_istore (lv' := [(6, .int bv), (5, .int (SM2.1 350 0)), (0, .ref b), (1, .ref (x_ad x 0 6 0)), (2, .ref (x_ad x 0 7 0)), (3, .ref (x_ad x 2 900 0)), (4, .int (nI (5 * t)))]) hx dL_law_450 (by decide) rfl ?_
  refine r_aload_n (k0 := 4) hx dL_law_452 rfl rfl ?_
  refine p_Vi (S1 := mx SC2 SM2 (oW w code v.toInt64)) (C := RX8) (T := TX8) (N := 40) (As := []) (rest := []) (n := 0) (out := (SM2, SM2.1 350 0)) hx hs8 eM0 (C_X8_thrown (n := 10000) (c := x_yA x KM) (fun _ hk => hk) rfl) eM0 eM2 (by rw [hK9]; exact KL_M (k_0_7 (fun _ hk => hk))) rfl wl_L_78 wi_X8_thrown we_X8_thrown wn_X8 wc_X8_thrown (by decide +kernel) rfl (by rw [hR]; exact ⟨by decide +kernel, rfl, rfl, Nat.le_trans (Nat.le_refl _) hk.1, Nat.le_trans (Nat.le_refl _) hk.2⟩) rfl (Nat.le_of_ble_eq_true rfl) dL_law_453 ?_
  refine r_iload (k0 := 1) hx dL_law_456 rfl ?_
  refine r_icmp_eq (tgt := 463) hx dL_law_458 (by decide) (fun _ => ?_) (fun hn => absurd rfl hn)
  refine r_iload (k0 := 1) hx dL_law_463 rfl ?_
  have fin : WX x 7 (kc + 4) (ks + 24) (mx SC2 SM2 (oW w code v.toInt64)) 480 [(6, .int bv), (5, .int (SM2.1 350 0)), (0, .ref b), (1, .ref (x_ad x 0 6 0)), (2, .ref (x_ad x 0 7 0)), (3, .ref (x_ad x 2 900 0)), (4, .int (nI (5 * t)))] [] := by
    refine r_goto (tgt := 1279) hx dL_law_480 (by decide) ?_
    exact WX.sub (kk SC2 SM2 _ P2 Ns2 hI2) [2, 3, 4, 5, 6] rfl
  refine r_if_ne (tgt := 480) hx dL_law_465 (by decide) (fun _ => fin) (fun h0 => ?_)
  have hc0 : code = 0 := by
    rw [h0] at h350
    rcases hc with rfl | rfl | rfl
    · rfl
    · exact absurd h350 (by decide)
    · exact absurd h350 (by decide)
  have hv0 := hv hc0
  refine r_aload_n (k0 := 5) hx dL_law_468 rfl rfl ?_
  refine r_iconst (v := 0) hx dL_law_469 (by decide) ?_
  refine r_lald (v := v.toInt64) (f := 900) (j := 0) (L := 1) hx (by rw [hK9]; exact KL_O) rfl (show ¬ ((0 : Int32) < 0 ∨ 1 ≤ (0 : Int32).toNatClampNeg) by decide) (by rw [mx_out, hc0, oW_0]; exact vp_u0.symm) dL_law_470 ?_
  refine r_iload (k0 := 0) hx dL_law_471 rfl ?_
  refine r_i2l hx dL_law_473 ?_
  refine r_lcmp hx dL_law_474 ?_
  exact r_if_eq (tgt := 480) hx dL_law_475 (by decide) (fun _ => fin) (fun hn => absurd ((cmp_eq _ _).mpr (by rw [hv0])) hn)
theorem dL_law_483 : decode code 483 = .ok (.aload_n 1, 1) := by decide +kernel
theorem dL_law_484 : decode code 484 = .ok (.aload_n 0, 1) := by decide +kernel
theorem dL_law_485 : decode code 485 = .ok (.iload 4, 2) := by decide +kernel
theorem dL_law_487 : decode code 487 = .ok (.iconst 1, 1) := by decide +kernel
theorem dL_law_488 : decode code 488 = .ok (.iadd, 1) := by decide +kernel
theorem dL_law_489 : decode code 489 = .ok (.iaload, 1) := by decide +kernel
theorem dL_law_490 : decode code 490 = .ok (.aload_n 0, 1) := by decide +kernel
theorem dL_law_491 : decode code 491 = .ok (.iload 4, 2) := by decide +kernel
theorem dL_law_493 : decode code 493 = .ok (.iconst 2, 1) := by decide +kernel
theorem dL_law_494 : decode code 494 = .ok (.iadd, 1) := by decide +kernel
theorem dL_law_495 : decode code 495 = .ok (.iaload, 1) := by decide +kernel
theorem dL_law_496 : decode code 496 = .ok (.aload_n 0, 1) := by decide +kernel
theorem dL_law_497 : decode code 497 = .ok (.iload 4, 2) := by decide +kernel
theorem dL_law_499 : decode code 499 = .ok (.iconst 3, 1) := by decide +kernel
theorem dL_law_500 : decode code 500 = .ok (.iadd, 1) := by decide +kernel
theorem dL_law_501 : decode code 501 = .ok (.iaload, 1) := by decide +kernel
theorem dL_law_502 : decode code 502 = .ok (.aload_n 3, 1) := by decide +kernel
theorem dL_law_503 : decode code 503 = .ok (.invokestatic 97, 3) := by decide +kernel
theorem dL_law_506 : decode code 506 = .ok (.istore 5, 2) := by decide +kernel
theorem dL_law_508 : decode code 508 = .ok (.aload_n 2, 1) := by decide +kernel
theorem dL_law_509 : decode code 509 = .ok (.aload_n 0, 1) := by decide +kernel
theorem dL_law_510 : decode code 510 = .ok (.iload 4, 2) := by decide +kernel
theorem dL_law_512 : decode code 512 = .ok (.iconst 1, 1) := by decide +kernel
theorem dL_law_513 : decode code 513 = .ok (.iadd, 1) := by decide +kernel
theorem dL_law_514 : decode code 514 = .ok (.iaload, 1) := by decide +kernel
theorem dL_law_515 : decode code 515 = .ok (.aload_n 0, 1) := by decide +kernel
theorem dL_law_516 : decode code 516 = .ok (.iload 4, 2) := by decide +kernel
theorem dL_law_518 : decode code 518 = .ok (.iconst 2, 1) := by decide +kernel
theorem dL_law_519 : decode code 519 = .ok (.iadd, 1) := by decide +kernel
theorem dL_law_520 : decode code 520 = .ok (.iaload, 1) := by decide +kernel
theorem dL_law_521 : decode code 521 = .ok (.aload_n 0, 1) := by decide +kernel
theorem dL_law_522 : decode code 522 = .ok (.iload 4, 2) := by decide +kernel
theorem dL_law_524 : decode code 524 = .ok (.iconst 3, 1) := by decide +kernel
theorem dL_law_525 : decode code 525 = .ok (.iadd, 1) := by decide +kernel
theorem dL_law_526 : decode code 526 = .ok (.iaload, 1) := by decide +kernel
theorem dL_law_527 : decode code 527 = .ok (.invokevirtual 99, 3) := by decide +kernel
theorem dL_law_530 : decode code 530 = .ok (.istore 6, 2) := by decide +kernel
theorem dL_law_532 : decode code 532 = .ok (.aload_n 2, 1) := by decide +kernel
theorem dL_law_533 : decode code 533 = .ok (.invokevirtual 78, 3) := by decide +kernel
theorem dL_law_536 : decode code 536 = .ok (.iload 5, 2) := by decide +kernel
theorem dL_law_538 : decode code 538 = .ok (.if_icmp .eq 5, 3) := by decide +kernel
theorem dL_law_541 : decode code 541 = .ok (.iconst 0, 1) := by decide +kernel
theorem dL_law_542 : decode code 542 = .ok (.ireturn, 1) := by decide +kernel
theorem dL_law_543 : decode code 543 = .ok (.iload 5, 2) := by decide +kernel
theorem dL_law_545 : decode code 545 = .ok (.ifCond .ne 15, 3) := by decide +kernel
theorem dL_law_548 : decode code 548 = .ok (.aload_n 3, 1) := by decide +kernel
theorem dL_law_549 : decode code 549 = .ok (.iconst 0, 1) := by decide +kernel
theorem dL_law_550 : decode code 550 = .ok (.laload, 1) := by decide +kernel
theorem dL_law_551 : decode code 551 = .ok (.iload 6, 2) := by decide +kernel
theorem dL_law_553 : decode code 553 = .ok (.i2l, 1) := by decide +kernel
theorem dL_law_554 : decode code 554 = .ok (.lcmp, 1) := by decide +kernel
theorem dL_law_555 : decode code 555 = .ok (.ifCond .eq 5, 3) := by decide +kernel
theorem dL_law_558 : decode code 558 = .ok (.iconst 0, 1) := by decide +kernel
theorem dL_law_559 : decode code 559 = .ok (.ireturn, 1) := by decide +kernel
theorem dL_law_560 : decode code 560 = .ok (.goto 719, 3) := by decide +kernel
set_option maxRecDepth 100000 in
set_option maxHeartbeats 4000000 in
theorem w_name {x : XC} {b L : Nat} {xs : Nat → Int32} (h : LX x b L xs) {t kc ks : Nat} (ht : 5 * t + 5 ≤ L) (hk : kc + 4 ≤ 601024 ∧ ks + 24 ≤ 7293034) {SC SM : St} {w : Nat → Int64} {P : PT} {Ns : List Nme} (hI : INV SC SM P Ns) (kk : LK x b t (kc + 4) (ks + 24)) : WX x 7 kc ks (mx SC SM w) 483 (LV x b t) [] := by
  obtain ⟨hx, hR, hK9, hst, -⟩ := id h
  have hD : KD (x_ad x) KLw := by rw [← hK9]; exact hx.2.2.2.2.2.2.1
  have hs8 : SPL (x_ad x) (x_K x) KM (KK ++ [(2, 900, 0)]) := by rw [hK9]; exact spl_M hD
  obtain ⟨SC2, SM2, code, v, bv, P2, Ns2, h1, h2, hI2, h350, hcode, hv⟩ := k_name (n := 10000) (Nat.le_refl _) hI (xs (5 * t + 1)) (xs (5 * t + 2)) (xs (5 * t + 3))
  have hc : code = 0 ∨ code = 2 ∨ code = 3 := by have h9 := oc_name _ h1; simpa using h9
  have hk5 : (if code = 2 then 1 else if code = 3 then 2 else 0 : Int32) = SM2.1 350 0 := by rw [h350]; rcases hc with rfl | rfl | rfl <;> decide
  show WX x 7 kc ks (mx SC SM w) 483 [(0, .ref b), (1, .ref (x_ad x 0 6 0)), (2, .ref (x_ad x 0 7 0)), (3, .ref (x_ad x 2 900 0)), (4, .int (nI (5 * t)))] []
  refine r_aload_n (k0 := 1) hx dL_law_483 rfl rfl ?_
  refine r_cell h (j := 1) (k0 := 0) (k4 := 4) (by omega) (by decide) rfl rfl dL_law_484 dL_law_485 dL_law_487 dL_law_488 dL_law_489 ?_
  refine r_cell h (j := 2) (k0 := 0) (k4 := 4) (by omega) (by decide) rfl rfl dL_law_490 dL_law_491 dL_law_493 dL_law_494 dL_law_495 ?_
  refine r_cell h (j := 3) (k0 := 0) (k4 := 4) (by omega) (by decide) rfl rfl dL_law_496 dL_law_497 dL_law_499 dL_law_500 dL_law_501 ?_
  refine r_aload_n (k0 := 3) hx dL_law_502 rfl rfl ?_
  refine r_SW (As := [.ref (x_ad x 0 6 0), .int (xs (5 * t + 1)), .int (xs (5 * t + 2)), .int (xs (5 * t + 3)), .ref (x_ad x 2 900 0)]) (rest := []) (n := 5) hx (L_name (c := x_y x) hK9 hst h1 hc) wl_L_97 wt_L_name wn_L ww_name (by decide +kernel) rfl (by rw [hR]; exact ⟨by decide +kernel, rfl, rfl, hk.1, hk.2⟩) rfl (Nat.le_of_ble_eq_true rfl) dL_law_503 ?_
  rw [hk5]
  refine r_istore (lv' := [(5, .int (SM2.1 350 0)), (0, .ref b), (1, .ref (x_ad x 0 6 0)), (2, .ref (x_ad x 0 7 0)), (3, .ref (x_ad x 2 900 0)), (4, .int (nI (5 * t)))]) hx dL_law_506 (by decide) rfl ?_
  refine r_aload_n (k0 := 3) hx dL_law_508 rfl rfl ?_
  refine r_cell h (j := 1) (k0 := 1) (k4 := 5) (by omega) (by decide) rfl rfl dL_law_509 dL_law_510 dL_law_512 dL_law_513 dL_law_514 ?_
  refine r_cell h (j := 2) (k0 := 1) (k4 := 5) (by omega) (by decide) rfl rfl dL_law_515 dL_law_516 dL_law_518 dL_law_519 dL_law_520 ?_
  refine r_cell h (j := 3) (k0 := 1) (k4 := 5) (by omega) (by decide) rfl rfl dL_law_521 dL_law_522 dL_law_524 dL_law_525 dL_law_526 ?_
  refine p_Vi (S1 := mx SC2 SM2 (oW w code v.toInt64)) (C := RX8) (T := TX8) (N := 40) (As := [.int (xs (5 * t + 1)), .int (xs (5 * t + 2)), .int (xs (5 * t + 3))]) (rest := []) (n := 3) hx hs8 eM0 (C_X8_name (c := x_yA x KM) (fun _ hk => hk) h2) eM0 eM2 (by rw [hK9]; exact KL_M (k_0_7 (fun _ hk => hk))) rfl wl_L_99 wi_X8_name we_X8_name wn_X8 wc_X8_name (by decide +kernel) rfl (by rw [hR]; exact ⟨by decide +kernel, rfl, rfl, Nat.le_trans (Nat.le_refl _) hk.1, Nat.le_trans (Nat.le_refl _) hk.2⟩) rfl (Nat.le_of_ble_eq_true rfl) dL_law_527 ?_
  refine r_istore (lv' := [(6, .int bv), (5, .int (SM2.1 350 0)), (0, .ref b), (1, .ref (x_ad x 0 6 0)), (2, .ref (x_ad x 0 7 0)), (3, .ref (x_ad x 2 900 0)), (4, .int (nI (5 * t)))]) hx dL_law_530 (by decide) rfl ?_
  refine r_aload_n (k0 := 4) hx dL_law_532 rfl rfl ?_
  refine p_Vi (S1 := mx SC2 SM2 (oW w code v.toInt64)) (C := RX8) (T := TX8) (N := 40) (As := []) (rest := []) (n := 0) (out := (SM2, SM2.1 350 0)) hx hs8 eM0 (C_X8_thrown (n := 10000) (c := x_yA x KM) (fun _ hk => hk) rfl) eM0 eM2 (by rw [hK9]; exact KL_M (k_0_7 (fun _ hk => hk))) rfl wl_L_78 wi_X8_thrown we_X8_thrown wn_X8 wc_X8_thrown (by decide +kernel) rfl (by rw [hR]; exact ⟨by decide +kernel, rfl, rfl, Nat.le_trans (Nat.le_refl _) hk.1, Nat.le_trans (Nat.le_refl _) hk.2⟩) rfl (Nat.le_of_ble_eq_true rfl) dL_law_533 ?_
  refine r_iload (k0 := 1) hx dL_law_536 rfl ?_
  refine r_icmp_eq (tgt := 543) hx dL_law_538 (by decide) (fun _ => ?_) (fun hn => absurd rfl hn)
  refine r_iload (k0 := 1) hx dL_law_543 rfl ?_
  have fin : WX x 7 (kc + 4) (ks + 24) (mx SC2 SM2 (oW w code v.toInt64)) 560 [(6, .int bv), (5, .int (SM2.1 350 0)), (0, .ref b), (1, .ref (x_ad x 0 6 0)), (2, .ref (x_ad x 0 7 0)), (3, .ref (x_ad x 2 900 0)), (4, .int (nI (5 * t)))] [] := by
    refine r_goto (tgt := 1279) hx dL_law_560 (by decide) ?_
    exact WX.sub (kk SC2 SM2 _ P2 Ns2 hI2) [2, 3, 4, 5, 6] rfl
  refine r_if_ne (tgt := 560) hx dL_law_545 (by decide) (fun _ => fin) (fun h0 => ?_)
  have hc0 : code = 0 := by
    rw [h0] at h350
    rcases hc with rfl | rfl | rfl
    · rfl
    · exact absurd h350 (by decide)
    · exact absurd h350 (by decide)
  have hv0 := hv hc0
  refine r_aload_n (k0 := 5) hx dL_law_548 rfl rfl ?_
  refine r_iconst (v := 0) hx dL_law_549 (by decide) ?_
  refine r_lald (v := v.toInt64) (f := 900) (j := 0) (L := 1) hx (by rw [hK9]; exact KL_O) rfl (show ¬ ((0 : Int32) < 0 ∨ 1 ≤ (0 : Int32).toNatClampNeg) by decide) (by rw [mx_out, hc0, oW_0]; exact vp_u0.symm) dL_law_550 ?_
  refine r_iload (k0 := 0) hx dL_law_551 rfl ?_
  refine r_i2l hx dL_law_553 ?_
  refine r_lcmp hx dL_law_554 ?_
  exact r_if_eq (tgt := 560) hx dL_law_555 (by decide) (fun _ => fin) (fun hn => absurd ((cmp_eq _ _).mpr (by rw [hv0])) hn)
theorem dL_law_563 : decode code 563 = .ok (.aload_n 1, 1) := by decide +kernel
theorem dL_law_564 : decode code 564 = .ok (.aload_n 0, 1) := by decide +kernel
theorem dL_law_565 : decode code 565 = .ok (.iload 4, 2) := by decide +kernel
theorem dL_law_567 : decode code 567 = .ok (.iconst 1, 1) := by decide +kernel
theorem dL_law_568 : decode code 568 = .ok (.iadd, 1) := by decide +kernel
theorem dL_law_569 : decode code 569 = .ok (.iaload, 1) := by decide +kernel
theorem dL_law_570 : decode code 570 = .ok (.aload_n 0, 1) := by decide +kernel
theorem dL_law_571 : decode code 571 = .ok (.iload 4, 2) := by decide +kernel
theorem dL_law_573 : decode code 573 = .ok (.iconst 2, 1) := by decide +kernel
theorem dL_law_574 : decode code 574 = .ok (.iadd, 1) := by decide +kernel
theorem dL_law_575 : decode code 575 = .ok (.iaload, 1) := by decide +kernel
theorem dL_law_576 : decode code 576 = .ok (.aload_n 0, 1) := by decide +kernel
theorem dL_law_577 : decode code 577 = .ok (.iload 4, 2) := by decide +kernel
theorem dL_law_579 : decode code 579 = .ok (.iconst 3, 1) := by decide +kernel
theorem dL_law_580 : decode code 580 = .ok (.iadd, 1) := by decide +kernel
theorem dL_law_581 : decode code 581 = .ok (.iaload, 1) := by decide +kernel
theorem dL_law_582 : decode code 582 = .ok (.aload_n 3, 1) := by decide +kernel
theorem dL_law_583 : decode code 583 = .ok (.invokestatic 100, 3) := by decide +kernel
theorem dL_law_586 : decode code 586 = .ok (.istore 5, 2) := by decide +kernel
theorem dL_law_588 : decode code 588 = .ok (.aload_n 2, 1) := by decide +kernel
theorem dL_law_589 : decode code 589 = .ok (.aload_n 0, 1) := by decide +kernel
theorem dL_law_590 : decode code 590 = .ok (.iload 4, 2) := by decide +kernel
theorem dL_law_592 : decode code 592 = .ok (.iconst 1, 1) := by decide +kernel
theorem dL_law_593 : decode code 593 = .ok (.iadd, 1) := by decide +kernel
theorem dL_law_594 : decode code 594 = .ok (.iaload, 1) := by decide +kernel
theorem dL_law_595 : decode code 595 = .ok (.aload_n 0, 1) := by decide +kernel
theorem dL_law_596 : decode code 596 = .ok (.iload 4, 2) := by decide +kernel
theorem dL_law_598 : decode code 598 = .ok (.iconst 2, 1) := by decide +kernel
theorem dL_law_599 : decode code 599 = .ok (.iadd, 1) := by decide +kernel
theorem dL_law_600 : decode code 600 = .ok (.iaload, 1) := by decide +kernel
theorem dL_law_601 : decode code 601 = .ok (.aload_n 0, 1) := by decide +kernel
theorem dL_law_602 : decode code 602 = .ok (.iload 4, 2) := by decide +kernel
theorem dL_law_604 : decode code 604 = .ok (.iconst 3, 1) := by decide +kernel
theorem dL_law_605 : decode code 605 = .ok (.iadd, 1) := by decide +kernel
theorem dL_law_606 : decode code 606 = .ok (.iaload, 1) := by decide +kernel
theorem dL_law_607 : decode code 607 = .ok (.invokevirtual 102, 3) := by decide +kernel
theorem dL_law_610 : decode code 610 = .ok (.istore 6, 2) := by decide +kernel
theorem dL_law_612 : decode code 612 = .ok (.aload_n 2, 1) := by decide +kernel
theorem dL_law_613 : decode code 613 = .ok (.invokevirtual 78, 3) := by decide +kernel
theorem dL_law_616 : decode code 616 = .ok (.iload 5, 2) := by decide +kernel
theorem dL_law_618 : decode code 618 = .ok (.if_icmp .eq 5, 3) := by decide +kernel
theorem dL_law_621 : decode code 621 = .ok (.iconst 0, 1) := by decide +kernel
theorem dL_law_622 : decode code 622 = .ok (.ireturn, 1) := by decide +kernel
theorem dL_law_623 : decode code 623 = .ok (.iload 5, 2) := by decide +kernel
theorem dL_law_625 : decode code 625 = .ok (.ifCond .ne 15, 3) := by decide +kernel
theorem dL_law_628 : decode code 628 = .ok (.aload_n 3, 1) := by decide +kernel
theorem dL_law_629 : decode code 629 = .ok (.iconst 0, 1) := by decide +kernel
theorem dL_law_630 : decode code 630 = .ok (.laload, 1) := by decide +kernel
theorem dL_law_631 : decode code 631 = .ok (.iload 6, 2) := by decide +kernel
theorem dL_law_633 : decode code 633 = .ok (.i2l, 1) := by decide +kernel
theorem dL_law_634 : decode code 634 = .ok (.lcmp, 1) := by decide +kernel
theorem dL_law_635 : decode code 635 = .ok (.ifCond .eq 5, 3) := by decide +kernel
theorem dL_law_638 : decode code 638 = .ok (.iconst 0, 1) := by decide +kernel
theorem dL_law_639 : decode code 639 = .ok (.ireturn, 1) := by decide +kernel
theorem dL_law_640 : decode code 640 = .ok (.goto 639, 3) := by decide +kernel
set_option maxRecDepth 100000 in
set_option maxHeartbeats 4000000 in
theorem w_term {x : XC} {b L : Nat} {xs : Nat → Int32} (h : LX x b L xs) {t kc ks : Nat} (ht : 5 * t + 5 ≤ L) (hk : kc + 4 ≤ 601024 ∧ ks + 24 ≤ 7293034) {SC SM : St} {w : Nat → Int64} {P : PT} {Ns : List Nme} (hI : INV SC SM P Ns) (kk : LK x b t (kc + 4) (ks + 24)) : WX x 7 kc ks (mx SC SM w) 563 (LV x b t) [] := by
  obtain ⟨hx, hR, hK9, hst, -⟩ := id h
  have hD : KD (x_ad x) KLw := by rw [← hK9]; exact hx.2.2.2.2.2.2.1
  have hs8 : SPL (x_ad x) (x_K x) KM (KK ++ [(2, 900, 0)]) := by rw [hK9]; exact spl_M hD
  obtain ⟨SC2, SM2, code, v, bv, P2, Ns2, h1, h2, hI2, h350, hcode, hv⟩ := k_term (n := 10000) (Nat.le_refl _) hI (xs (5 * t + 1)) (xs (5 * t + 2)) (xs (5 * t + 3))
  have hc : code = 0 ∨ code = 1 ∨ code = 2 ∨ code = 3 := hcode
  have hk5 : (if code = 1 then 1 else if code = 2 then 2 else if code = 3 then 3 else 0 : Int32) = SM2.1 350 0 := by rw [h350]; rcases hc with rfl | rfl | rfl | rfl <;> decide
  show WX x 7 kc ks (mx SC SM w) 563 [(0, .ref b), (1, .ref (x_ad x 0 6 0)), (2, .ref (x_ad x 0 7 0)), (3, .ref (x_ad x 2 900 0)), (4, .int (nI (5 * t)))] []
  refine r_aload_n (k0 := 1) hx dL_law_563 rfl rfl ?_
  refine r_cell h (j := 1) (k0 := 0) (k4 := 4) (by omega) (by decide) rfl rfl dL_law_564 dL_law_565 dL_law_567 dL_law_568 dL_law_569 ?_
  refine r_cell h (j := 2) (k0 := 0) (k4 := 4) (by omega) (by decide) rfl rfl dL_law_570 dL_law_571 dL_law_573 dL_law_574 dL_law_575 ?_
  refine r_cell h (j := 3) (k0 := 0) (k4 := 4) (by omega) (by decide) rfl rfl dL_law_576 dL_law_577 dL_law_579 dL_law_580 dL_law_581 ?_
  refine r_aload_n (k0 := 3) hx dL_law_582 rfl rfl ?_
  refine r_SW (As := [.ref (x_ad x 0 6 0), .int (xs (5 * t + 1)), .int (xs (5 * t + 2)), .int (xs (5 * t + 3)), .ref (x_ad x 2 900 0)]) (rest := []) (n := 5) hx (L_term (c := x_y x) hK9 hst h1 hc) wl_L_100 wt_L_term wn_L ww_term (by decide +kernel) rfl (by rw [hR]; exact ⟨by decide +kernel, rfl, rfl, hk.1, hk.2⟩) rfl (Nat.le_of_ble_eq_true rfl) dL_law_583 ?_
  rw [hk5]
  refine r_istore (lv' := [(5, .int (SM2.1 350 0)), (0, .ref b), (1, .ref (x_ad x 0 6 0)), (2, .ref (x_ad x 0 7 0)), (3, .ref (x_ad x 2 900 0)), (4, .int (nI (5 * t)))]) hx dL_law_586 (by decide) rfl ?_
  refine r_aload_n (k0 := 3) hx dL_law_588 rfl rfl ?_
  refine r_cell h (j := 1) (k0 := 1) (k4 := 5) (by omega) (by decide) rfl rfl dL_law_589 dL_law_590 dL_law_592 dL_law_593 dL_law_594 ?_
  refine r_cell h (j := 2) (k0 := 1) (k4 := 5) (by omega) (by decide) rfl rfl dL_law_595 dL_law_596 dL_law_598 dL_law_599 dL_law_600 ?_
  refine r_cell h (j := 3) (k0 := 1) (k4 := 5) (by omega) (by decide) rfl rfl dL_law_601 dL_law_602 dL_law_604 dL_law_605 dL_law_606 ?_
  refine p_Vi (S1 := mx SC2 SM2 (oW w code v.toInt64)) (C := RX8) (T := TX8) (N := 40) (As := [.int (xs (5 * t + 1)), .int (xs (5 * t + 2)), .int (xs (5 * t + 3))]) (rest := []) (n := 3) hx hs8 eM0 (C_X8_term (c := x_yA x KM) (fun _ hk => hk) h2) eM0 eM2 (by rw [hK9]; exact KL_M (k_0_7 (fun _ hk => hk))) rfl wl_L_102 wi_X8_term we_X8_term wn_X8 wc_X8_term (by decide +kernel) rfl (by rw [hR]; exact ⟨by decide +kernel, rfl, rfl, Nat.le_trans (Nat.le_refl _) hk.1, Nat.le_trans (Nat.le_refl _) hk.2⟩) rfl (Nat.le_of_ble_eq_true rfl) dL_law_607 ?_
  refine r_istore (lv' := [(6, .int bv), (5, .int (SM2.1 350 0)), (0, .ref b), (1, .ref (x_ad x 0 6 0)), (2, .ref (x_ad x 0 7 0)), (3, .ref (x_ad x 2 900 0)), (4, .int (nI (5 * t)))]) hx dL_law_610 (by decide) rfl ?_
  refine r_aload_n (k0 := 4) hx dL_law_612 rfl rfl ?_
  refine p_Vi (S1 := mx SC2 SM2 (oW w code v.toInt64)) (C := RX8) (T := TX8) (N := 40) (As := []) (rest := []) (n := 0) (out := (SM2, SM2.1 350 0)) hx hs8 eM0 (C_X8_thrown (n := 10000) (c := x_yA x KM) (fun _ hk => hk) rfl) eM0 eM2 (by rw [hK9]; exact KL_M (k_0_7 (fun _ hk => hk))) rfl wl_L_78 wi_X8_thrown we_X8_thrown wn_X8 wc_X8_thrown (by decide +kernel) rfl (by rw [hR]; exact ⟨by decide +kernel, rfl, rfl, Nat.le_trans (Nat.le_refl _) hk.1, Nat.le_trans (Nat.le_refl _) hk.2⟩) rfl (Nat.le_of_ble_eq_true rfl) dL_law_613 ?_
  refine r_iload (k0 := 1) hx dL_law_616 rfl ?_
  refine r_icmp_eq (tgt := 623) hx dL_law_618 (by decide) (fun _ => ?_) (fun hn => absurd rfl hn)
  refine r_iload (k0 := 1) hx dL_law_623 rfl ?_
  have fin : WX x 7 (kc + 4) (ks + 24) (mx SC2 SM2 (oW w code v.toInt64)) 640 [(6, .int bv), (5, .int (SM2.1 350 0)), (0, .ref b), (1, .ref (x_ad x 0 6 0)), (2, .ref (x_ad x 0 7 0)), (3, .ref (x_ad x 2 900 0)), (4, .int (nI (5 * t)))] [] := by
    refine r_goto (tgt := 1279) hx dL_law_640 (by decide) ?_
    exact WX.sub (kk SC2 SM2 _ P2 Ns2 hI2) [2, 3, 4, 5, 6] rfl
  refine r_if_ne (tgt := 640) hx dL_law_625 (by decide) (fun _ => fin) (fun h0 => ?_)
  have hc0 : code = 0 := by
    rw [h0] at h350
    rcases hc with rfl | rfl | rfl | rfl
    · rfl
    · exact absurd h350 (by decide)
    · exact absurd h350 (by decide)
    · exact absurd h350 (by decide)
  have hv0 := hv hc0
  refine r_aload_n (k0 := 5) hx dL_law_628 rfl rfl ?_
  refine r_iconst (v := 0) hx dL_law_629 (by decide) ?_
  refine r_lald (v := v.toInt64) (f := 900) (j := 0) (L := 1) hx (by rw [hK9]; exact KL_O) rfl (show ¬ ((0 : Int32) < 0 ∨ 1 ≤ (0 : Int32).toNatClampNeg) by decide) (by rw [mx_out, hc0, oW_0]; exact vp_u0.symm) dL_law_630 ?_
  refine r_iload (k0 := 0) hx dL_law_631 rfl ?_
  refine r_i2l hx dL_law_633 ?_
  refine r_lcmp hx dL_law_634 ?_
  exact r_if_eq (tgt := 640) hx dL_law_635 (by decide) (fun _ => fin) (fun hn => absurd ((cmp_eq _ _).mpr (by rw [hv0])) hn)
theorem dL_law_643 : decode code 643 = .ok (.aload_n 1, 1) := by decide +kernel
theorem dL_law_644 : decode code 644 = .ok (.aload_n 0, 1) := by decide +kernel
theorem dL_law_645 : decode code 645 = .ok (.iload 4, 2) := by decide +kernel
theorem dL_law_647 : decode code 647 = .ok (.iconst 1, 1) := by decide +kernel
theorem dL_law_648 : decode code 648 = .ok (.iadd, 1) := by decide +kernel
theorem dL_law_649 : decode code 649 = .ok (.iaload, 1) := by decide +kernel
theorem dL_law_650 : decode code 650 = .ok (.aload_n 0, 1) := by decide +kernel
theorem dL_law_651 : decode code 651 = .ok (.iload 4, 2) := by decide +kernel
theorem dL_law_653 : decode code 653 = .ok (.iconst 2, 1) := by decide +kernel
theorem dL_law_654 : decode code 654 = .ok (.iadd, 1) := by decide +kernel
theorem dL_law_655 : decode code 655 = .ok (.iaload, 1) := by decide +kernel
theorem dL_law_656 : decode code 656 = .ok (.aload_n 0, 1) := by decide +kernel
theorem dL_law_657 : decode code 657 = .ok (.iload 4, 2) := by decide +kernel
theorem dL_law_659 : decode code 659 = .ok (.iconst 3, 1) := by decide +kernel
theorem dL_law_660 : decode code 660 = .ok (.iadd, 1) := by decide +kernel
theorem dL_law_661 : decode code 661 = .ok (.iaload, 1) := by decide +kernel
theorem dL_law_662 : decode code 662 = .ok (.aload_n 3, 1) := by decide +kernel
theorem dL_law_663 : decode code 663 = .ok (.invokestatic 103, 3) := by decide +kernel
theorem dL_law_666 : decode code 666 = .ok (.istore 5, 2) := by decide +kernel
theorem dL_law_668 : decode code 668 = .ok (.aload_n 2, 1) := by decide +kernel
theorem dL_law_669 : decode code 669 = .ok (.aload_n 0, 1) := by decide +kernel
theorem dL_law_670 : decode code 670 = .ok (.iload 4, 2) := by decide +kernel
theorem dL_law_672 : decode code 672 = .ok (.iconst 1, 1) := by decide +kernel
theorem dL_law_673 : decode code 673 = .ok (.iadd, 1) := by decide +kernel
theorem dL_law_674 : decode code 674 = .ok (.iaload, 1) := by decide +kernel
theorem dL_law_675 : decode code 675 = .ok (.aload_n 0, 1) := by decide +kernel
theorem dL_law_676 : decode code 676 = .ok (.iload 4, 2) := by decide +kernel
theorem dL_law_678 : decode code 678 = .ok (.iconst 2, 1) := by decide +kernel
theorem dL_law_679 : decode code 679 = .ok (.iadd, 1) := by decide +kernel
theorem dL_law_680 : decode code 680 = .ok (.iaload, 1) := by decide +kernel
theorem dL_law_681 : decode code 681 = .ok (.aload_n 0, 1) := by decide +kernel
theorem dL_law_682 : decode code 682 = .ok (.iload 4, 2) := by decide +kernel
theorem dL_law_684 : decode code 684 = .ok (.iconst 3, 1) := by decide +kernel
theorem dL_law_685 : decode code 685 = .ok (.iadd, 1) := by decide +kernel
theorem dL_law_686 : decode code 686 = .ok (.iaload, 1) := by decide +kernel
theorem dL_law_687 : decode code 687 = .ok (.invokevirtual 105, 3) := by decide +kernel
theorem dL_law_690 : decode code 690 = .ok (.istore 6, 2) := by decide +kernel
theorem dL_law_692 : decode code 692 = .ok (.aload_n 2, 1) := by decide +kernel
theorem dL_law_693 : decode code 693 = .ok (.invokevirtual 78, 3) := by decide +kernel
theorem dL_law_696 : decode code 696 = .ok (.iload 5, 2) := by decide +kernel
theorem dL_law_698 : decode code 698 = .ok (.if_icmp .eq 5, 3) := by decide +kernel
theorem dL_law_701 : decode code 701 = .ok (.iconst 0, 1) := by decide +kernel
theorem dL_law_702 : decode code 702 = .ok (.ireturn, 1) := by decide +kernel
theorem dL_law_703 : decode code 703 = .ok (.iload 5, 2) := by decide +kernel
theorem dL_law_705 : decode code 705 = .ok (.ifCond .ne 15, 3) := by decide +kernel
theorem dL_law_708 : decode code 708 = .ok (.aload_n 3, 1) := by decide +kernel
theorem dL_law_709 : decode code 709 = .ok (.iconst 0, 1) := by decide +kernel
theorem dL_law_710 : decode code 710 = .ok (.laload, 1) := by decide +kernel
theorem dL_law_711 : decode code 711 = .ok (.iload 6, 2) := by decide +kernel
theorem dL_law_713 : decode code 713 = .ok (.i2l, 1) := by decide +kernel
theorem dL_law_714 : decode code 714 = .ok (.lcmp, 1) := by decide +kernel
theorem dL_law_715 : decode code 715 = .ok (.ifCond .eq 5, 3) := by decide +kernel
theorem dL_law_718 : decode code 718 = .ok (.iconst 0, 1) := by decide +kernel
theorem dL_law_719 : decode code 719 = .ok (.ireturn, 1) := by decide +kernel
theorem dL_law_720 : decode code 720 = .ok (.goto 559, 3) := by decide +kernel
set_option maxRecDepth 100000 in
set_option maxHeartbeats 4000000 in
theorem w_let {x : XC} {b L : Nat} {xs : Nat → Int32} (h : LX x b L xs) {t kc ks : Nat} (ht : 5 * t + 5 ≤ L) (hk : kc + 4 ≤ 601024 ∧ ks + 24 ≤ 7293034) {SC SM : St} {w : Nat → Int64} {P : PT} {Ns : List Nme} (hI : INV SC SM P Ns) (kk : LK x b t (kc + 4) (ks + 24)) : WX x 7 kc ks (mx SC SM w) 643 (LV x b t) [] := by
  obtain ⟨hx, hR, hK9, hst, -⟩ := id h
  have hD : KD (x_ad x) KLw := by rw [← hK9]; exact hx.2.2.2.2.2.2.1
  have hs8 : SPL (x_ad x) (x_K x) KM (KK ++ [(2, 900, 0)]) := by rw [hK9]; exact spl_M hD
  obtain ⟨SC2, SM2, code, v, bv, P2, Ns2, h1, h2, hI2, h350, hcode, hv⟩ := k_let (n := 10000) (Nat.le_refl _) hI (xs (5 * t + 1)) (xs (5 * t + 2)) (xs (5 * t + 3))
  have hc : code = 0 ∨ code = 2 ∨ code = 3 := by have h9 := oc_let _ h1; simpa using h9
  have hk5 : (if code = 2 then 1 else if code = 3 then 2 else 0 : Int32) = SM2.1 350 0 := by rw [h350]; rcases hc with rfl | rfl | rfl <;> decide
  show WX x 7 kc ks (mx SC SM w) 643 [(0, .ref b), (1, .ref (x_ad x 0 6 0)), (2, .ref (x_ad x 0 7 0)), (3, .ref (x_ad x 2 900 0)), (4, .int (nI (5 * t)))] []
  refine r_aload_n (k0 := 1) hx dL_law_643 rfl rfl ?_
  refine r_cell h (j := 1) (k0 := 0) (k4 := 4) (by omega) (by decide) rfl rfl dL_law_644 dL_law_645 dL_law_647 dL_law_648 dL_law_649 ?_
  refine r_cell h (j := 2) (k0 := 0) (k4 := 4) (by omega) (by decide) rfl rfl dL_law_650 dL_law_651 dL_law_653 dL_law_654 dL_law_655 ?_
  refine r_cell h (j := 3) (k0 := 0) (k4 := 4) (by omega) (by decide) rfl rfl dL_law_656 dL_law_657 dL_law_659 dL_law_660 dL_law_661 ?_
  refine r_aload_n (k0 := 3) hx dL_law_662 rfl rfl ?_
  refine r_SW (As := [.ref (x_ad x 0 6 0), .int (xs (5 * t + 1)), .int (xs (5 * t + 2)), .int (xs (5 * t + 3)), .ref (x_ad x 2 900 0)]) (rest := []) (n := 5) hx (L_let (c := x_y x) hK9 hst h1 hc) wl_L_103 wt_L_let wn_L ww_let (by decide +kernel) rfl (by rw [hR]; exact ⟨by decide +kernel, rfl, rfl, hk.1, hk.2⟩) rfl (Nat.le_of_ble_eq_true rfl) dL_law_663 ?_
  rw [hk5]
  refine r_istore (lv' := [(5, .int (SM2.1 350 0)), (0, .ref b), (1, .ref (x_ad x 0 6 0)), (2, .ref (x_ad x 0 7 0)), (3, .ref (x_ad x 2 900 0)), (4, .int (nI (5 * t)))]) hx dL_law_666 (by decide) rfl ?_
  refine r_aload_n (k0 := 3) hx dL_law_668 rfl rfl ?_
  refine r_cell h (j := 1) (k0 := 1) (k4 := 5) (by omega) (by decide) rfl rfl dL_law_669 dL_law_670 dL_law_672 dL_law_673 dL_law_674 ?_
  refine r_cell h (j := 2) (k0 := 1) (k4 := 5) (by omega) (by decide) rfl rfl dL_law_675 dL_law_676 dL_law_678 dL_law_679 dL_law_680 ?_
  refine r_cell h (j := 3) (k0 := 1) (k4 := 5) (by omega) (by decide) rfl rfl dL_law_681 dL_law_682 dL_law_684 dL_law_685 dL_law_686 ?_
  refine p_Vi (S1 := mx SC2 SM2 (oW w code v.toInt64)) (C := RX8) (T := TX8) (N := 40) (As := [.int (xs (5 * t + 1)), .int (xs (5 * t + 2)), .int (xs (5 * t + 3))]) (rest := []) (n := 3) hx hs8 eM0 (C_X8_let (c := x_yA x KM) (fun _ hk => hk) h2) eM0 eM2 (by rw [hK9]; exact KL_M (k_0_7 (fun _ hk => hk))) rfl wl_L_105 wi_X8_let we_X8_let wn_X8 wc_X8_let (by decide +kernel) rfl (by rw [hR]; exact ⟨by decide +kernel, rfl, rfl, Nat.le_trans (Nat.le_refl _) hk.1, Nat.le_trans (Nat.le_refl _) hk.2⟩) rfl (Nat.le_of_ble_eq_true rfl) dL_law_687 ?_
  refine r_istore (lv' := [(6, .int bv), (5, .int (SM2.1 350 0)), (0, .ref b), (1, .ref (x_ad x 0 6 0)), (2, .ref (x_ad x 0 7 0)), (3, .ref (x_ad x 2 900 0)), (4, .int (nI (5 * t)))]) hx dL_law_690 (by decide) rfl ?_
  refine r_aload_n (k0 := 4) hx dL_law_692 rfl rfl ?_
  refine p_Vi (S1 := mx SC2 SM2 (oW w code v.toInt64)) (C := RX8) (T := TX8) (N := 40) (As := []) (rest := []) (n := 0) (out := (SM2, SM2.1 350 0)) hx hs8 eM0 (C_X8_thrown (n := 10000) (c := x_yA x KM) (fun _ hk => hk) rfl) eM0 eM2 (by rw [hK9]; exact KL_M (k_0_7 (fun _ hk => hk))) rfl wl_L_78 wi_X8_thrown we_X8_thrown wn_X8 wc_X8_thrown (by decide +kernel) rfl (by rw [hR]; exact ⟨by decide +kernel, rfl, rfl, Nat.le_trans (Nat.le_refl _) hk.1, Nat.le_trans (Nat.le_refl _) hk.2⟩) rfl (Nat.le_of_ble_eq_true rfl) dL_law_693 ?_
  refine r_iload (k0 := 1) hx dL_law_696 rfl ?_
  refine r_icmp_eq (tgt := 703) hx dL_law_698 (by decide) (fun _ => ?_) (fun hn => absurd rfl hn)
  refine r_iload (k0 := 1) hx dL_law_703 rfl ?_
  have fin : WX x 7 (kc + 4) (ks + 24) (mx SC2 SM2 (oW w code v.toInt64)) 720 [(6, .int bv), (5, .int (SM2.1 350 0)), (0, .ref b), (1, .ref (x_ad x 0 6 0)), (2, .ref (x_ad x 0 7 0)), (3, .ref (x_ad x 2 900 0)), (4, .int (nI (5 * t)))] [] := by
    refine r_goto (tgt := 1279) hx dL_law_720 (by decide) ?_
    exact WX.sub (kk SC2 SM2 _ P2 Ns2 hI2) [2, 3, 4, 5, 6] rfl
  refine r_if_ne (tgt := 720) hx dL_law_705 (by decide) (fun _ => fin) (fun h0 => ?_)
  have hc0 : code = 0 := by
    rw [h0] at h350
    rcases hc with rfl | rfl | rfl
    · rfl
    · exact absurd h350 (by decide)
    · exact absurd h350 (by decide)
  have hv0 := hv hc0
  refine r_aload_n (k0 := 5) hx dL_law_708 rfl rfl ?_
  refine r_iconst (v := 0) hx dL_law_709 (by decide) ?_
  refine r_lald (v := v.toInt64) (f := 900) (j := 0) (L := 1) hx (by rw [hK9]; exact KL_O) rfl (show ¬ ((0 : Int32) < 0 ∨ 1 ≤ (0 : Int32).toNatClampNeg) by decide) (by rw [mx_out, hc0, oW_0]; exact vp_u0.symm) dL_law_710 ?_
  refine r_iload (k0 := 0) hx dL_law_711 rfl ?_
  refine r_i2l hx dL_law_713 ?_
  refine r_lcmp hx dL_law_714 ?_
  exact r_if_eq (tgt := 720) hx dL_law_715 (by decide) (fun _ => fin) (fun hn => absurd ((cmp_eq _ _).mpr (by rw [hv0])) hn)
