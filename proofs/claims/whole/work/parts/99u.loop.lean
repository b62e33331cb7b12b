theorem dL_law_0 : decode code 0 = .ok (.new 8, 3) := by decide +kernel
theorem dL_law_3 : decode code 3 = .ok (.dup, 1) := by decide +kernel
theorem dL_law_4 : decode code 4 = .ok (.invokespecial 68, 3) := by decide +kernel
theorem dL_law_7 : decode code 7 = .ok (.astore_n 1, 1) := by decide +kernel
theorem dL_law_8 : decode code 8 = .ok (.new 69, 3) := by decide +kernel
theorem dL_law_11 : decode code 11 = .ok (.dup, 1) := by decide +kernel
theorem dL_law_12 : decode code 12 = .ok (.invokespecial 71, 3) := by decide +kernel
theorem dL_law_15 : decode code 15 = .ok (.astore_n 2, 1) := by decide +kernel
theorem dL_law_16 : decode code 16 = .ok (.iconst 1, 1) := by decide +kernel
theorem dL_law_17 : decode code 17 = .ok (.newarray .long, 2) := by decide +kernel
theorem dL_law_19 : decode code 19 = .ok (.astore_n 3, 1) := by decide +kernel
theorem dL_law_20 : decode code 20 = .ok (.iconst 0, 1) := by decide +kernel
theorem dL_law_21 : decode code 21 = .ok (.istore 4, 2) := by decide +kernel
theorem dL_law_23 : decode code 23 = .ok (.iload 4, 2) := by decide +kernel
theorem dL_law_25 : decode code 25 = .ok (.aload_n 0, 1) := by decide +kernel
theorem dL_law_26 : decode code 26 = .ok (.arraylength, 1) := by decide +kernel
theorem dL_law_27 : decode code 27 = .ok (.iconst 5, 1) := by decide +kernel
theorem dL_law_28 : decode code 28 = .ok (.isub, 1) := by decide +kernel
theorem dL_law_29 : decode code 29 = .ok (.if_icmp .gt 1256, 3) := by decide +kernel
theorem dL_law_32 : decode code 32 = .ok (.aload_n 0, 1) := by decide +kernel
theorem dL_law_33 : decode code 33 = .ok (.iload 4, 2) := by decide +kernel
theorem dL_law_35 : decode code 35 = .ok (.iaload, 1) := by decide +kernel
theorem dL_law_36 : decode code 36 = .ok (.bipush 31, 2) := by decide +kernel
theorem dL_law_38 : decode code 38 = .ok (.iand, 1) := by decide +kernel
theorem dL_law_39 : decode code 39 = .ok (.tableswitch 1240 0 17 #[85, 165, 240, 332, 388, 444, 524, 604, 684, 740, 796, 852, 920, 1000, 1068, 1136, 1204, 1229], 85) := by decide +kernel
def LE (x : XC) : Prop := ∀ (kc ks : Nat) (S : St) (lv : List (Nat × Value)), kc ≤ 601024 → ks ≤ 7293034 → WX x 7 kc ks S 1286 lv [.int 1]
theorem law_more {L t : Nat} (hL : L ≤ 2560) (ht : 5 * t < 3000) (h : ¬ nI L - 5 < nI (5 * t)) : 5 * t + 5 ≤ L := by
  rcases Nat.lt_or_ge L 5 with h5 | h5
  · refine absurd (Int32.lt_of_lt_of_le (b := 0) ?_ ?_) h
    · rcases (show L = 0 ∨ L = 1 ∨ L = 2 ∨ L = 3 ∨ L = 4 by omega) with rfl | rfl | rfl | rfl | rfl <;> decide
    · rw [show (0 : Int32) = nI 0 from rfl]; exact nI_le (Nat.zero_le _) (by omega)
  · rcases Nat.lt_or_ge L (5 * t + 5) with h6 | h6
    · refine absurd ?_ h
      rw [show (5 : Int32) = nI 5 from rfl, nIs h5]
      exact nI_lt (by omega) (by omega)
    · exact h6
theorem law_out {L t : Nat} (hL : L ≤ 2560) (ht : 5 * t < 3000) (h : L < 5 * t + 5) : nI L - 5 < nI (5 * t) := by
  by_cases h9 : nI L - 5 < nI (5 * t)
  · exact h9
  · exact absurd (law_more hL ht h9) (by omega)
set_option maxRecDepth 100000 in
set_option maxHeartbeats 4000000 in
theorem law_loop {x : XC} {b L : Nat} {xs : Nat → Int32} (h : LX x b L xs) (hE : LE x) : ∀ (d t kc ks : Nat), L < 5 * (t + d) + 5 → 5 * t ≤ 2560 → kc + 4 * d ≤ 601024 → ks + 24 * d ≤ 7293034 → ∀ (SC SM : St) (w : Nat → Int64) (P : PT) (Ns : List Nme), INV SC SM P Ns → WX x 7 kc ks (mx SC SM w) 23 (LV x b t) [] := by
  have hx := h.1
  have hL : L ≤ 2560 := h.2.2.2.2.2.2.2
  intro d
  induction d with
  | zero =>
    intro t kc ks h1 ht h2 h3 SC SM w P Ns hI
    refine r_iload (k0 := 4) hx dL_law_23 rfl ?_
    refine r_aload_n (k0 := 0) hx dL_law_25 rfl rfl ?_
    refine r_slen h dL_law_26 ?_
    refine r_iconst (v := 5) hx dL_law_27 (by decide) ?_
    refine r_isub hx dL_law_28 ?_
    refine r_icmp_gt (tgt := 1285) hx dL_law_29 (by decide) (fun _ => ?_) (fun hn => absurd (law_out hL (by omega) (by omega)) hn)
    refine r_iconst (v := 1) hx dL_law_1285 (by decide) ?_
    exact hE kc ks _ _ (by omega) (by omega)
  | succ d ih =>
    intro t kc ks h1 ht h2 h3 SC SM w P Ns hI
    refine r_iload (k0 := 4) hx dL_law_23 rfl ?_
    refine r_aload_n (k0 := 0) hx dL_law_25 rfl rfl ?_
    refine r_slen h dL_law_26 ?_
    refine r_iconst (v := 5) hx dL_law_27 (by decide) ?_
    refine r_isub hx dL_law_28 ?_
    refine r_icmp_gt (tgt := 1285) hx dL_law_29 (by decide) (fun _ => ?_) (fun hn => ?_)
    · refine r_iconst (v := 1) hx dL_law_1285 (by decide) ?_
      exact hE kc ks _ _ (by omega) (by omega)
    have hm := law_more hL (by omega) hn
    refine r_aload_n (k0 := 0) hx dL_law_32 rfl rfl ?_
    refine r_iload (k0 := 4) hx dL_law_33 rfl ?_
    refine r_sld h (vp_in_nI (show 5 * t < L by omega) (by omega)) dL_law_35 ?_
    rw [nI_clamp (by omega)]
    refine r_bipush (v := 31) hx dL_law_36 (by decide) ?_
    refine r_iand hx dL_law_38 ?_
    have kk : LK x b t (kc + 4) (ks + 24) := fun SC SM w P Ns hI => by
      refine r_iinc (k := 4) (v := nI (5 * (t + 1))) (lv' := [(4, .int (nI (5 * (t + 1)))), (0, .ref b), (1, .ref (x_ad x 0 6 0)), (2, .ref (x_ad x 0 7 0)), (3, .ref (x_ad x 2 900 0))]) hx dL_law_1279 rfl (by rw [show Int32.ofInt 5 = nI 5 from rfl, nIa, Nat.mul_add]) (by decide) rfl ?_
      refine r_goto (tgt := 23) hx dL_law_1282 (by decide) ?_
      exact WX.sub (ih (t + 1) (kc + 4) (ks + 24) (by omega) (by omega) (by omega) (by omega) SC SM w P Ns hI) [1, 2, 3, 4, 0] rfl
    have hk : kc + 4 ≤ 601024 ∧ ks + 24 ≤ 7293034 := ⟨by omega, by omega⟩
    generalize xs (5 * t) &&& 31 = a
    by_cases ha : a.toInt < 0 ∨ 17 < a.toInt
    · exact r_tabO (tgt := 1279) hx dL_law_39 ha (by decide) (WX.widen (Nat.le_add_right kc 4) (Nat.le_add_right ks 24) (kk SC SM w P Ns hI))
    · rcases (show a.toInt = 0 ∨ a.toInt = 1 ∨ a.toInt = 2 ∨ a.toInt = 3 ∨ a.toInt = 4 ∨ a.toInt = 5 ∨ a.toInt = 6 ∨ a.toInt = 7 ∨ a.toInt = 8 ∨ a.toInt = 9 ∨ a.toInt = 10 ∨ a.toInt = 11 ∨ a.toInt = 12 ∨ a.toInt = 13 ∨ a.toInt = 14 ∨ a.toInt = 15 ∨ a.toInt = 16 ∨ a.toInt = 17 by omega) with z | z | z | z | z | z | z | z | z | z | z | z | z | z | z | z | z | z
      · exact r_tabI (tgt := 124) (c9 := 0) hx dL_law_39 (Int32.toInt_inj.mp (by rw [z]; decide)) (by decide +kernel) (w_level h hm hk hI kk)
      · exact r_tabI (tgt := 204) (c9 := 1) hx dL_law_39 (Int32.toInt_inj.mp (by rw [z]; decide)) (by decide +kernel) (w_atMost h hm hk hI kk)
      · exact r_tabI (tgt := 279) (c9 := 2) hx dL_law_39 (Int32.toInt_inj.mp (by rw [z]; decide)) (by decide +kernel) (w_value h hm hk hI kk)
      · exact r_tabI (tgt := 371) (c9 := 3) hx dL_law_39 (Int32.toInt_inj.mp (by rw [z]; decide)) (by decide +kernel) (w_sort h hm hk hI kk)
      · exact r_tabI (tgt := 427) (c9 := 4) hx dL_law_39 (Int32.toInt_inj.mp (by rw [z]; decide)) (by decide +kernel) (w_variable h hm hk hI kk)
      · exact r_tabI (tgt := 483) (c9 := 5) hx dL_law_39 (Int32.toInt_inj.mp (by rw [z]; decide)) (by decide +kernel) (w_name h hm hk hI kk)
      · exact r_tabI (tgt := 563) (c9 := 6) hx dL_law_39 (Int32.toInt_inj.mp (by rw [z]; decide)) (by decide +kernel) (w_term h hm hk hI kk)
      · exact r_tabI (tgt := 643) (c9 := 7) hx dL_law_39 (Int32.toInt_inj.mp (by rw [z]; decide)) (by decide +kernel) (w_let h hm hk hI kk)
      · exact r_tabI (tgt := 723) (c9 := 8) hx dL_law_39 (Int32.toInt_inj.mp (by rw [z]; decide)) (by decide +kernel) (w_type h hm hk hI kk)
      · exact r_tabI (tgt := 779) (c9 := 9) hx dL_law_39 (Int32.toInt_inj.mp (by rw [z]; decide)) (by decide +kernel) (w_normal h hm hk hI kk)
      · exact r_tabI (tgt := 835) (c9 := 10) hx dL_law_39 (Int32.toInt_inj.mp (by rw [z]; decide)) (by decide +kernel) (w_steps h hm hk hI kk)
      · exact r_tabI (tgt := 891) (c9 := 11) hx dL_law_39 (Int32.toInt_inj.mp (by rw [z]; decide)) (by decide +kernel) (w_same h hm hk hI kk)
      · exact r_tabI (tgt := 959) (c9 := 12) hx dL_law_39 (Int32.toInt_inj.mp (by rw [z]; decide)) (by decide +kernel) (w_declare h hm hk hI kk)
      · exact r_tabI (tgt := 1039) (c9 := 13) hx dL_law_39 (Int32.toInt_inj.mp (by rw [z]; decide)) (by decide +kernel) (w_part h hm hk hI kk)
      · exact r_tabI (tgt := 1107) (c9 := 14) hx dL_law_39 (Int32.toInt_inj.mp (by rw [z]; decide)) (by decide +kernel) (w_levelPart h hm hk hI kk)
      · exact r_tabI (tgt := 1175) (c9 := 15) hx dL_law_39 (Int32.toInt_inj.mp (by rw [z]; decide)) (by decide +kernel) (w_declared h hm hk hI kk)
      · exact r_tabI (tgt := 1243) (c9 := 16) hx dL_law_39 (Int32.toInt_inj.mp (by rw [z]; decide)) (by decide +kernel) (w_told h hm hk hI kk)
      · exact r_tabI (tgt := 1268) (c9 := 17) hx dL_law_39 (Int32.toInt_inj.mp (by rw [z]; decide)) (by decide +kernel) (w_clear h hm hk hI kk)
