/-! calls: levels -/
theorem bX_0 {S : St} {v : Int32} {k : St → Int32 → Option XO3} : bX (some (S, 0, v)) k = k S v := by
  show (if (0 : Int32) = 0 then k S v else some (S, 0, 0)) = _
  rw [if_pos rfl]
theorem bX_n {S : St} {t v : Int32} {k : St → Int32 → Option XO3} (h : ¬ t = 0) : bX (some (S, t, v)) k = some (S, t, 0) := if_neg h
theorem ge_nn {a : Int32} {c : Nat} (hc : c < 2 ^ 31) (h : nI c ≤ a) : ¬ a < 0 := fun z => nI_pos hc (Int32.lt_of_le_of_lt h z)
theorem ge_nl {a : Int32} {c : Nat} (h : nI c ≤ a) : ¬ a < nI c := Int32.not_lt.mpr h
theorem s_isIn {n : Nat} {S : St} {a lo hi : Int32} : f_X8_isIn n S a lo hi = some (S, if a < lo then 0 else if hi < a then 0 else 1) := by
  unfold f_X8_isIn g_X8_isIn
  by_cases z : a < lo
  · rw [if_pos z, if_pos z]; rfl
  · rw [if_neg z, if_neg z]
    by_cases w : hi < a
    · rw [if_pos w, if_pos w]; rfl
    · rw [if_neg w, if_neg w]; rfl
theorem in_ok {n i c : Nat} {S : St} (hi : i < c) (hc : c < 2 ^ 31) : f_X8_isIn n S (nI i) 0 (nI c - 1) = some (S, nI 1) := by
  rw [s_isIn, if_neg (nI_pos (by omega)), show nI c - 1 = nI (c - 1) from nIs (b := 1) (by omega), if_neg (by rw [nIlt (by omega) (by omega)]; omega)]
  rfl
theorem in_bad {n c : Nat} {S : St} {a : Int32} (hc : c < 2 ^ 31) (h : a < 0 ∨ nI c ≤ a) : f_X8_isIn n S a 0 (nI c - 1) = some (S, nI 0) := by
  rw [s_isIn]
  rcases h with h | h
  · rw [if_pos h]; rfl
  · rw [if_neg (ge_nn hc h), if_pos (Int32.lt_of_lt_of_le (nI_plt hc) h)]; rfl
section
variable {n : Nat} {S : St} {P : PT} {Ns : List Nme} {N : Nat}
theorem isL_ok {i : Nat} (hM : MAq S P) (h : EOk P N) (hi : i < P.1.length) : f_X8_isLevel n S (nI i) = some (S, nI 1) := by
  unfold f_X8_isLevel g_X8_isLevel
  rw [hM.1.1, in_ok hi (by have := h.1.2.1; omega), bI_s]; rfl
theorem isL_bad {a : Int32} (hM : MAq S P) (h : EOk P N) (ha : a < 0 ∨ nI P.1.length ≤ a) : f_X8_isLevel n S a = some (S, nI 0) := by
  unfold f_X8_isLevel g_X8_isLevel
  rw [hM.1.1, in_bad (by have := h.1.2.1; omega) ha, bI_s]; rfl
theorem isT_ok {i : Nat} (hM : MAq S P) (h : EOk P N) (hi : i < P.2.length) : f_X8_isTerm n S (nI i) = some (S, nI 1) := by
  unfold f_X8_isTerm g_X8_isTerm
  rw [hM.2.1.1, in_ok hi (by have := h.2.1; omega), bI_s]; rfl
theorem isT_bad {a : Int32} (hM : MAq S P) (h : EOk P N) (ha : a < 0 ∨ nI P.2.length ≤ a) : f_X8_isTerm n S a = some (S, nI 0) := by
  unfold f_X8_isTerm g_X8_isTerm
  rw [hM.2.1.1, in_bad (by have := h.2.1; omega) ha, bI_s]; rfl
theorem isN_ok {i : Nat} {T : List (List Mk)} (hM : NM S T Ns) (h : Ns.length ≤ 40) (hi : i < Ns.length) : f_X8_isName n S (nI i) = some (S, nI 1) := by
  unfold f_X8_isName g_X8_isName
  rw [hM.1, in_ok hi (by omega), bI_s]; rfl
theorem isN_bad {a : Int32} {T : List (List Mk)} (hM : NM S T Ns) (h : Ns.length ≤ 40) (ha : a < 0 ∨ nI Ns.length ≤ a) : f_X8_isName n S a = some (S, nI 0) := by
  unfold f_X8_isName g_X8_isName
  rw [hM.1, in_bad (by omega) ha, bI_s]; rfl
theorem nL_ok {i : Nat} (hC : CP S P) (h : EOk P N) (hi : i < P.1.length) : f_X7_needLevel n S (nI i) = some (S, 0, 0) := by
  have := h.1.2.1
  unfold f_X7_needLevel
  rw [if_neg (nI_pos (by omega)), hC.1.1, if_pos (by rw [nIlt (by omega) (by omega)]; exact hi)]
theorem nL_bad {a : Int32} (hC : CP S P) (h : EOk P N) (ha : a < 0 ∨ nI P.1.length ≤ a) : f_X7_needLevel n S a = some (S, 2, 0) := by
  have := h.1.2.1
  unfold f_X7_needLevel j_X7_needLevel_15
  rcases ha with z | z
  · rw [if_pos z]
  · rw [if_neg (ge_nn (by omega) z), hC.1.1, if_neg (ge_nl z)]
theorem nT_ok {i : Nat} (hC : CP S P) (h : EOk P N) (hi : i < P.2.length) : f_X7_needTerm n S (nI i) = some (S, 0, 0) := by
  have := h.2.1
  unfold f_X7_needTerm
  rw [if_neg (nI_pos (by omega)), hC.2.1, if_pos (by rw [nIlt (by omega) (by omega)]; exact hi)]
theorem nT_bad {a : Int32} (hC : CP S P) (h : EOk P N) (ha : a < 0 ∨ nI P.2.length ≤ a) : f_X7_needTerm n S a = some (S, 2, 0) := by
  have := h.2.1
  unfold f_X7_needTerm j_X7_needTerm_15
  rcases ha with z | z
  · rw [if_pos z]
  · rw [if_neg (ge_nn (by omega) z), hC.2.1, if_neg (ge_nl z)]
theorem nN_ok {i : Nat} {T : List (List Mk)} (hC : NC S T Ns) (h : Ns.length ≤ 40) (hi : i < Ns.length) : f_X7_needName n S (nI i) = some (S, 0, 0) := by
  unfold f_X7_needName
  rw [if_neg (nI_pos (by omega)), hC.1, if_pos (by rw [nIlt (by omega) (by omega)]; exact hi)]
theorem nN_bad {a : Int32} {T : List (List Mk)} (hC : NC S T Ns) (h : Ns.length ≤ 40) (ha : a < 0 ∨ nI Ns.length ≤ a) : f_X7_needName n S a = some (S, 2, 0) := by
  unfold f_X7_needName j_X7_needName_15
  rcases ha with z | z
  · rw [if_pos z]
  · rw [if_neg (ge_nn (by omega) z), hC.1, if_neg (ge_nl z)]
end
/-! a level that is asked for -/
theorem addL_in' {d : Nat} {L : List (List Nat)} {l : List Nat} (hd : 1 ≤ d) (h : l ∈ L) : addL d L l = (L, true) := by
  obtain ⟨d, rfl⟩ : ∃ y, d = y + 1 := ⟨d - 1, by omega⟩
  exact addL_in h
theorem addL_prt {L : List (List Nat)} {l : List Nat} (hp : prt L l) (hl : lvO l) : addL 17 L l = if l ∈ L then (L, true) else if L.length < 300 then (L ++ [l], true) else (L, false) := by
  by_cases z : l ∈ L
  · rw [if_pos z]; exact addL_in z
  · rw [if_neg z]
    cases l with
    | nil => exact absurd hl.2.2 (fun z => z)
    | cons t r =>
      have s1e : st1 (addL 16) L (t :: r) = (L, true) := by
        rw [st1_c]
        by_cases w : 1 ≤ tp t
        · rw [if_pos w]; exact addL_in' (by omega) (hp.1 w)
        · rw [if_neg w]
      have s2e : st2 (addL 16) L (t :: r) = (L, true) := by
        rw [st2_c]
        by_cases w : tp t = 2
        · rw [if_pos w]; exact addL_in' (by omega) (hp.2 w)
        · rw [if_neg w]
      rw [addL_nin z, s1e]
      show st3 (st2 (addL 16) L (t :: r)) (t :: r) = _
      rw [s2e]
      rfl
/-- the answer of a call: the class's, the reference's -/
def AGR (mp : Int32 → Int32) (n : Nat) (rc : Option XO3) (rm : Option (St × Int32)) : Prop := ∃ SC' SM' code v b P' Ns', rc = some (SC', code, v) ∧ rm = some (SM', b) ∧ INV SC' SM' P' Ns' ∧ SM'.1 350 0 = mp code ∧ (code = 0 ∨ code = 1 ∨ code = 2 ∨ code = 3) ∧ (code = 0 → v = b)
def mLv (c : Int32) : Int32 := c
theorem INV_350 {SC SM : St} {P : PT} {Ns : List Nme} {v : Int32} (h : INV SC SM P Ns) : INV SC (sS SM 350 0 v) P Ns := by
  obtain ⟨a, b, c, d, e, f⟩ := h
  have g : FR [350] SM (sS SM 350 0 v) := FR_sS FR_rf (by simp [rg])
  refine ⟨a, b, c, d, ⟨LM_fr e.1 g (by simp), TM_fr e.2.1 g (by simp), ?_⟩, NM_fr f g (by simp)⟩
  rw [sS_ne (by omega)]; exact e.2.2
theorem k_lv {n : Nat} {SC SM : St} {P : PT} {Ns : List Nme} {l : List Nat} (hn : 10000 ≤ n) (hI : INV SC SM P Ns) (hl : lvO l) (hp : prt P.1 l) (h8 : l.length ≤ 8) : ∃ SC' SM' P', f_X7_askedLevel n SC (en l) = some (SC', cd3 (adL P l).2, if (adL P l).2 then nI (ix (adL P l).1.1 l) else 0) ∧ f_X8_numberOfLevel n SM (nI (kd l)) (e1 P.1 l) (e2 P.1 l) = some (SM', if (adL P l).2 then nI (ix (adL P l).1.1 l) else mI) ∧ INV SC' SM' P' Ns ∧ FR [351] SM SM' ∧ ((adL P l).2 = true → l ∈ (adL P l).1.1 ∧ ix (adL P l).1.1 l < 300) := by
  obtain ⟨h1, h2, h3, h4, h5, h6⟩ := hI
  obtain ⟨SC1, A1, C1, F1⟩ := c_lev (n := n) hn h1 h3 hl
  obtain ⟨o1, o2, o3⟩ := adL_ok h1 hl
  have nol := s_nol (n := n) h5.1 h1.1 hl hp (by omega) (asked := true) (by rw [h5.2.2]; rfl)
  unfold nolR at nol
  rw [if_neg (show ¬ (true && decide (8 < l.length)) = true by simp; omega)] at nol
  have ap := addL_prt hp hl
  have sz := s_sizeOf (n := n) (S := SC) hl.1 hl.2.1 (by omega)
  obtain ⟨⟨eL, heL⟩, _⟩ := o2
  have cl : f_X7_askedLevel n SC (en l) = some (SC1, cd3 (adL P l).2, if (adL P l).2 then nI (ix (adL P l).1.1 l) else 0) := by
    unfold f_X7_askedLevel
    have h16 := hl.2.1
    rw [if_neg (fun w => en_m1 hl.1 (by omega) ((cmp_eq _ _).mp w)), sz, bI_s, if_pos (show nI l.length ≤ 8 by rw [k8, nIle (by omega) (by omega)]; omega), A1, bI_s]
    cases h9 : (adL P l).2 with
    | true =>
      have := ix300 o1 (o3 h9)
      rw [if_pos rfl, if_neg (show ¬ nI (ix (adL P l).1.1 l) = -1 from nI_ne_m (by omega))]; rfl
    | false =>
      show (if mI = -1 then some (SC1, 3, 0) else some (SC1, 0, mI)) = _
      rw [if_pos (show mI = -1 from rfl)]; rfl
  have inv : ∀ SM' : St, LM SM' (adL P l).1.1 → FR [351] SM SM' → INV SC1 SM' (adL P l).1 Ns := fun SM' M F => by
    refine ⟨o1, NOk_E h2 ⟨⟨eL, heL⟩, ⟨[], (List.append_nil _).symm⟩⟩, C1, NC_E (NC_fr h4 F1 (by simp)) h2 ⟨⟨eL, heL⟩, ⟨[], (List.append_nil _).symm⟩⟩, ⟨M, ?_, ?_⟩, NM_E (NM_fr h6 F (by simp)) h2 ⟨⟨eL, heL⟩, ⟨[], (List.append_nil _).symm⟩⟩⟩
    · rw [heL]; exact TM_L (TM_fr h5.2.1 F (by simp)) h1.2
    · rw [(F 379 0 (n8o (by omega) (by simp))).1]; exact h5.2.2
  have m3 : (adL P l).2 = true → l ∈ (adL P l).1.1 ∧ ix (adL P l).1.1 l < 300 := fun z => ⟨o3 z, ix300 o1 (o3 z)⟩
  have eA : adL P l = (((addL 17 P.1 l).1, P.2), (addL 17 P.1 l).2) := rfl
  by_cases z : l ∈ P.1
  · rw [if_pos z] at nol ap
    refine ⟨SC1, SM, _, cl, ?_, inv SM ?_ FR_rf, FR_rf, m3⟩
    · rw [nol, eA, ap]; rfl
    · rw [eA, ap]; exact h5.1
  · rw [if_neg z] at nol ap
    by_cases w : P.1.length < 300
    · rw [if_pos w] at nol ap
      have f := frM_FR (frM_push SM P.1 l)
      refine ⟨SC1, pushM SM P.1 l, _, cl, ?_, inv _ ?_ f, f, m3⟩
      · rw [nol, eA, ap]
        show _ = some (_, nI (ix (P.1 ++ [l]) l))
        rw [ix_new z]
      · rw [eA, ap]; exact LM_push h5.1 h1.1 hp
    · rw [if_neg w] at nol ap
      refine ⟨SC1, SM, _, cl, ?_, inv SM ?_ FR_rf, FR_rf, m3⟩
      · rw [nol, eA, ap]; rfl
      · rw [eA, ap]; exact h5.1
