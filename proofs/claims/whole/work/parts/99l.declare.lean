/-! declarations: the reference's reasons; the call -/
theorem s_begin {n : Nat} {S : St} {L : List (List Nat)} {T : List (List Mk)} {Ns : List Nme} {x : List Mk} (hn : 10000 ≤ n) (he : ENV L T Ns) (hM : MS S L T Ns) (hx : x ∈ T) : ∃ S', f_X8_begin n S (nI (ixT T x)) = some S' ∧ MS S' L T Ns ∧ RX S' [] ∧ sg (S'.2.1 367 0) 0 (flt x) ∧ S'.1 375 0 = nI 0 ∧ FR (367 :: TZ) S S' := by
  obtain ⟨T1, D1, E1, G1⟩ := s_layTerm (n := n) (f := 367) he.1 he.2.1 (by omega) hM.2.1 hM.1 (ixT_get hx) hn
  have G2 : FR (367 :: TZ) S (sS (sS T1 383 0 (nI 0)) 375 0 (nI 0)) := FR_sS (FR_sS (FR_mo G1 (by simp [TZ, NZ])) (by rw [rg8 (by omega)]; decide)) (by rw [rg8 (by omega)]; decide)
  refine ⟨_, ?_, MS_fr hM G2 (by decide) (by decide) (by decide), ⟨?_, fun i t hi => by cases hi⟩, E1, sS_eq, G2⟩
  · unfold f_X8_begin
    rw [D1, bI_s, pS_e, pS_e]; rfl
  · rw [sS_ne (by omega), sS_eq]; rfl
def RM : List Nat := 367 :: TZ
theorem TZRM {S S' : St} (h : FR TZ S S') : FR RM S S' := FR_mo h (fun z hz => List.mem_cons_of_mem _ hz)
theorem MS_RM {S S' : St} {L : List (List Nat)} {T : List (List Mk)} {Ns : List Nme} (h : MS S L T Ns) (g : FR RM S S') : MS S' L T Ns := MS_fr h g (by decide) (by decide) (by decide)
theorem m_reason {n p : Nat} {S : St} {L : List (List Nat)} {T : List (List Mk)} {Ns : List Nme} {x : List Mk} {v : Option (List Mk)} (hn : 10000 ≤ n) (he : ENV L T Ns) (hM : MS S L T Ns) (hx : x ∈ T) (hv : ∀ y, v = some y → y ∈ T) (hp : p ≤ 2) : ∃ S', f_X8_reasonOf n S (nI p) (nI (ixT T x)) (nvI T v) = some (S', nI (rsn Ns p x v)) ∧ FR RM S S' := by
  have h40 := he.2.2.1
  have hz := zB_le he.2.1
  have hg0 := he.2.1.2.2.2.1
  have hT15 := he.2.1.1
  have gx := hg0 x hx
  have lx := gx.2.1
  have flx := gd_flt gx (by omega) h40
  have fin : ∀ S1 : St, FR RM S S1 → (hasP p x || hpv p v) = false → ∃ S', j_X8_reasonOf_69 n S1 (nI (ixT T x)) (nvI T v) (nI 1) = some (S', nI (rsn Ns p x v)) ∧ FR RM S S' := by
    intro S1 F1 hp0
    rw [rsn_n hp0]
    unfold j_X8_reasonOf_69
    rw [if_neg (show ¬ nI 1 = 0 by decide)]
    obtain ⟨S2, A2, M2, X2, E2, Q2, F2⟩ := s_begin (n := n) hn he (MS_RM hM F1) hx
    have F2' : FR RM S S2 := FR_tr F1 F2
    rw [A2, bU_s]
    obtain ⟨S3, A3, R3, B3, _, _, F3⟩ := m_sort (n := n) (d := 101) (a := 0) (o := 0) (q := 0) (ctx := []) hn he (m_typeOf hn he 101 0 (by omega)) (by omega) (by omega) (gdT_mo gx (by omega)) (by omega) (by simp) M2 X2 trivial E2 (by omega) Q2 (by omega)
    have F3' : FR RM S S3 := FR_tr F2' (TZRM F3)
    have A3' : f_X8_ofSort n (k_X8_typeOf n 101) S2 0 = some (S3, nI (srt Ns (tyS Ns 101 [] x)).1) := A3
    rw [A3', bI_s]
    generalize srt Ns (tyS Ns 101 [] x) = s at *
    by_cases zs : s.1 = 0
    · rw [if_pos zs, if_neg (show ¬ 0 < nI s.1 by rw [zs]; decide)]
      cases v with
      | none =>
        rw [nvI_n, if_neg (show ¬ 0 ≤ mI from c_0m), zs]
        exact ⟨S3, rfl, F3'⟩
      | some y =>
        have hy := hv y rfl
        have iy := ixT_lt hy
        have gy := hg0 y hy
        have ly := gy.2.1
        have fly := gd_flt gy (by omega) h40
        rw [nvI_s, if_pos (show 0 ≤ nI (ixT T y) by rw [k0, nIle (by omega) (by omega)]; omega), rs2_s]
        obtain ⟨S4, A4, M4, X4, E4, Q4, F4⟩ := s_begin (n := n) hn he (MS_RM hM F3') hy
        have F4' : FR RM S S4 := FR_tr F3' F4
        obtain ⟨S5, A5, R5, B5, _, _, F5⟩ := m_typeOf (n := n) hn he 101 0 (by omega) S4 [] y 0 0 (gdT_mo gy (by omega)) (by omega) (by simp) M4 X4 trivial E4 (by omega) Q4 (by omega)
        have F5' : FR RM S S5 := FR_tr F4' (TZRM F5)
        have A5' : k_X8_typeOf n 101 S4 0 = some (S5, nI (tyS Ns 101 [] y).1) := A5
        have gty := tyS_gd he 101 [] y (gdT_mo gy (by omega)) trivial (by simp)
        rw [A4, bU_s, A5', bI_s]
        generalize tyS Ns 101 [] y = t at *
        by_cases zt : t.1 = 0
        · rw [if_pos (show nI t.1 = 0 by rw [zt]; rfl), thn_0 zt]
          have g4 := gty zt
          rw [List.length_nil, Nat.add_zero] at g4
          obtain ⟨rs, _⟩ := R5 zt
          obtain ⟨S6, A6, D6, R6, _, F6⟩ := s_normalAt (n := n) (q := 0) (B := zB T) hn he (by omega) (MS_RM hM F5') g4 rs (by omega)
          have F6' : FR RM S S6 := FR_tr F5' (TZRM (nzTZ F6))
          have gu := nr_gd he (B := zB T) (by omega) g4
          have A6' : f_X8_normalAt n S5 0 = some (S6, nI (nr Ns t.2).1) := A6
          rw [A6', bI_s]
          generalize nr Ns t.2 = u at *
          unfold j_X8_reasonOf_128
          rcases D6 with w | w
          · rw [if_pos (show nI u.1 ≤ 0 by rw [w]; decide), thn_0 w]
            obtain ⟨ru, _⟩ := R6 w
            have gu' := gu w
            have flu := gd_flt gu' (by omega) h40
            have M6 := MS_RM hM F6'
            obtain ⟨T1, D1, E1, G1⟩ := s_layTerm (n := n) (f := 368) he.1 he.2.1 (by omega) M6.2.1 M6.1 (ixT_get hx) hn
            have G2 : FR RM S (sS T1 372 0 (nI (flt x).length)) := FR_sS (FR_tr F6' (FR_mo G1 (by simp [RM, TZ, NZ]))) (by rw [rg8 (by omega)]; decide)
            have M7 := MS_RM hM G2
            obtain ⟨T2, D2, E2', G3⟩ := s_normalize (n := n) (B := zB T) hn he.1 he.2.1 he.2.2 (by omega) (⟨E1, sS_eq⟩ : CUR (sS T1 372 0 (nI (flt x).length)) x) gx M7.1 M7.2.1 M7.2.2
            have G23 : FR RM S T2 := FR_tr G2 (FR_mo G3 (by simp [RM, TZ, NZ]))
            rw [D1, bI_s, pS_e, D2, bI_s]
            cases h8 : nrm Ns x with
            | none =>
              rw [oN_n, if_neg (show ¬ 0 ≤ m6 from c_06), nr_n h8, thn_m (by decide)]
              exact ⟨T2, rfl, G23⟩
            | some q =>
              have hq := nrm_c h8
              obtain ⟨⟨c1, c2⟩, gq⟩ := E2' q h8
              have flq := gd_flt gq (by omega) h40
              rw [oN_s, if_pos (show 0 ≤ nI q.1 by rw [k0, nIle (by omega) (by omega)]; omega), nr_s h8, thn_0 rfl]
              have su : sg (T2.2.1 371 0) 0 (flt u.2) := sg_fr G3 (n8o (by omega) (by decide)) (by
                rw [sS_21]
                exact sg_fr G1 (n8o (by omega) (by decide)) ru)
              obtain ⟨T3, D3, G4⟩ := s_isSame (n := n) (f := 371) (g := 368) (o := 0) (u := 0) (S := T2) hn (by omega) (by omega) gu'.1 gq.1 (gdT_mV gu' (by omega) (by omega)) (gdT_mV gq (by omega) (by omega)) su c1 (by rw [ln371]; omega) (by rw [ln368]; omega) (by have := gu'.2.1; omega)
              rw [mtc_c] at D3
              have D3' : f_X8_isSame n T2 371 0 368 0 = some (T3, zb (mtc q.2 u.2)) := D3
              rw [D3', bI_s]
              have G34 : FR RM S T3 := FR_tr G23 (FR_mo G4 (by simp [RM, TZ, NZ]))
              cases mtc q.2 u.2 with
              | true => exact ⟨T3, rfl, G34⟩
              | false => exact ⟨T3, rfl, G34⟩
          · rw [w, thn_m (by decide)]
            exact ⟨S6, rfl, F6'⟩
        · rw [if_neg (show ¬ nI t.1 = 0 by rw [k0, nIeq (by omega) (by omega)]; exact zt), thn_n zt]
          unfold j_X8_reasonOf_128
          rw [if_neg (show ¬ nI t.1 ≤ 0 by rw [k0, nIle (by omega) (by omega)]; omega)]
          exact ⟨S5, rfl, F5'⟩
    · rw [if_neg zs, if_pos (show 0 < nI s.1 by rw [k0, nIlt (by omega) (by omega)]; omega)]
      exact ⟨S3, rfl, F3'⟩
  have fin8 : ∀ S1 : St, FR RM S S1 → (hasP p x || hpv p v) = true → ∃ S', j_X8_reasonOf_69 n S1 (nI (ixT T x)) (nvI T v) (nI 0) = some (S', nI (rsn Ns p x v)) ∧ FR RM S S' := by
    intro S1 F1 h
    rw [rsn_8 h]
    unfold j_X8_reasonOf_69
    rw [if_pos (show nI 0 = 0 from rfl)]
    exact ⟨S1, rfl, F1⟩
  obtain ⟨S1, A1, E1, F1⟩ := s_layTerm (n := n) (f := 367) he.1 he.2.1 (by omega) hM.2.1 hM.1 (ixT_get hx) hn
  have F1' : FR RM S S1 := FR_mo F1 (by simp [RM, TZ, NZ])
  have hb := s_hasBelow (n := n) (f := 367) hn (by omega) hp (gd_mW gx (by omega) h40) E1 (by omega)
  unfold f_X8_reasonOf
  rw [A1, bI_s, hb, bI_s]
  cases v with
  | none =>
    rw [nvI_n, if_pos (show mI < 0 from c_ml)]
    cases h9 : hasP p x with
    | true => exact fin8 S1 F1' (by rw [h9]; rfl)
    | false => exact fin S1 F1' (by rw [h9]; rfl)
  | some y =>
    have hy := hv y rfl
    have iy := ixT_lt hy
    have gy := hg0 y hy
    have fly := gd_flt gy (by omega) h40
    rw [nvI_s, if_neg (nI_pos (by omega))]
    have M1 := MS_RM hM F1'
    obtain ⟨S2, A2, E2, F2⟩ := s_layTerm (n := n) (f := 370) he.1 he.2.1 (by omega) M1.2.1 M1.1 (ixT_get hy) hn
    have F2' : FR RM S (sS S2 374 0 (nI (flt y).length)) := FR_sS (FR_tr F1' (FR_mo F2 (by simp [RM, TZ, NZ]))) (by rw [rg8 (by omega)]; decide)
    have hb2 := s_hasBelow (n := n) (f := 370) (S := sS S2 374 0 (nI (flt y).length)) hn (by omega) hp (gd_mW gy (by omega) h40) E2 (by omega)
    rw [A2, bI_s, pS_e]
    unfold j_X8_reasonOf_66 j_X8_reasonOf_67
    rw [nvI_s] at fin fin8
    cases h9 : hasP p x with
    | true =>
      rw [if_pos (show zb (!true) = 0 from rfl)]
      exact fin8 _ F2' (by rw [h9]; rfl)
    | false =>
      rw [if_neg (show ¬ zb (!false) = 0 by decide), sS_eq, hb2, bI_s]
      cases h8 : hasP p y with
      | true =>
        rw [if_pos (show zb (!true) = 0 from rfl)]
        exact fin8 _ F2' (by show (hasP p x || hasP p y) = true; rw [h8, Bool.or_true])
      | false =>
        rw [if_neg (show ¬ zb (!false) = 0 by decide)]
        exact fin _ F2' (by show (hasP p x || hasP p y) = false; rw [h9, h8]; rfl)
/-! one name more -/
theorem vV_N {B N M : Nat} {m : Mk} (h : vV B N m) (hM : N ≤ M) : vV B M m := by
  obtain ⟨a, b, c, d⟩ := h
  exact ⟨a, b, fun z => Nat.lt_of_lt_of_le (c z) hM, d⟩
theorem EOk_N {P : PT} {N M : Nat} (h : EOk P N) (hM : N ≤ M) (h40 : M ≤ 40) : EOk P M := ⟨h.1, h.2.1, h.2.2.1, h40, fun x hx => ⟨(h.2.2.2.2.1 x hx).1, (h.2.2.2.2.1 x hx).2.1, fun m hm => vV_N ((h.2.2.2.2.1 x hx).2.2 m hm) hM⟩, h.2.2.2.2.2⟩
theorem NOk_a {T : List (List Mk)} {Ns : List Nme} {e : Nme} (h : NOk T Ns) (hl : Ns.length < 40) (he : e.1 ≤ 2 ∧ e.2.1 ∈ T ∧ ∀ v, e.2.2 = some v → v ∈ T) : NOk T (Ns ++ [e]) := by
  refine ⟨by rw [List.length_append, List.length_singleton]; omega, fun x hx => ?_⟩
  rcases List.mem_append.mp hx with z | z
  · exact h.2 x z
  · rw [List.mem_singleton.mp z]; exact he
theorem k_declare {n : Nat} {SC SM : St} {P : PT} {Ns : List Nme} (hn : 10000 ≤ n) (hI : INV SC SM P Ns) (a b c : Int32) : AGR mTm n (f_X7_declare n SC a b c) (f_X8_declare n SM a b c) := by
  have hI0 := INV_350 (v := 0) hI
  obtain ⟨h1, h2, h3, h4, h5, h6⟩ := hI
  have hI : INV SC SM P Ns := ⟨h1, h2, h3, h4, h5, h6⟩
  have l15 := h1.2.1
  have h40 := h2.1
  unfold f_X7_declare f_X8_declare
  rw [s_isIn, bI_s]
  have bad2 : AGR mTm n (some (SC, 2, 0)) (j_X8_declare_35 n SM a b c) := by
    unfold j_X8_declare_35 j_X8_declare_53
    rw [pS_e, sS_eq, if_neg (by decide)]
    exact agr_bad hI (by simp) rfl
  have bad1 : AGR mTm n (j_X7_declare_9 n SC) (j_X8_declare_53 n SM a b c 1) := by
    unfold j_X8_declare_53 j_X7_declare_9
    rw [pS_e, sS_eq, if_neg (by decide)]
    exact agr_bad hI (by simp) rfl
  -- the declaration itself
  have go : ∀ (p : Nat) (x : List Mk) (v : Option (List Mk)), p ≤ 2 → x ∈ P.2 → (∀ y, v = some y → y ∈ P.2) → a = nI p → b = nI (ixT P.2 x) → c = nvI P.2 v → AGR mTm n (j_X7_declare_34 n SC a b c) (j_X8_declare_39 n SM a b c) := by
    intro p x v hp hx hv ea eb ec
    unfold j_X7_declare_34 j_X8_declare_39
    rw [h4.1, h6.1]
    by_cases z : Ns.length = 40
    · rw [if_neg (show ¬ nI Ns.length < 40 by rw [show (40 : Int32) = nI 40 from rfl, nIlt (by omega) (by omega)]; omega), if_pos (show nI Ns.length = 40 by rw [z]; rfl)]
      unfold j_X8_declare_53
      rw [pS_e, sS_eq, if_neg (by decide)]
      exact agr_bad hI (by simp) rfl
    · rw [if_pos (show nI Ns.length < 40 by rw [show (40 : Int32) = nI 40 from rfl, nIlt (by omega) (by omega)]; omega), if_neg (show ¬ nI Ns.length = 40 by rw [show (40 : Int32) = nI 40 from rfl, nIeq (by omega) (by omega)]; exact z)]
      unfold j_X8_declare_53
      rw [pS_e, sS_eq, if_pos le0, ea, eb, ec]
      obtain ⟨eC, cC, _⟩ := INV_env hI
      obtain ⟨_, _, mM⟩ := INV_env hI0
      obtain ⟨S1, A1, B1, F1⟩ := c_reason (n := n) hn eC cC hx hv hp
      obtain ⟨T1, D1, G1⟩ := m_reason (n := n) hn eC mM hx hv hp
      have I1 : INV S1 T1 P Ns := INV_C (INV_M hI0 G1 (by decide) (by decide) (by decide) (by decide)) F1 (by rw [RC_m]; omega) (by rw [RC_m]; omega) (by rw [RC_m]; omega)
      have e350 : T1.1 350 0 = 0 := by rw [(G1 350 0 (by rw [r350]; decide)).1, sS_eq]
      rw [A1, bI_s, D1, bI_s]
      generalize rsn Ns p x v = r at *
      by_cases zr : r = 0
      · subst zr
        rw [if_pos (show nI 0 = 0 from rfl), if_pos (show nI 0 ≤ 0 by decide)]
        have c50 := I1.2.2.2.1.1
        have m66 := I1.2.2.2.2.2.1
        have hlt : Ns.length < 40 := by omega
        have ad : f_X2_add n S1 (nI p) (nI (ixT P.2 x)) (nvI P.2 v) = some (sS (sI (sI (sI S1 51 0 Ns.length (nI p)) 52 0 Ns.length (nI (ixT P.2 x))) 53 0 Ns.length (nvI P.2 v)) 50 0 (nI (Ns.length + 1)), nI Ns.length) := by
          unfold f_X2_add
          rw [c50, if_pos (show nI Ns.length < 40 by rw [show (40 : Int32) = nI 40 from rfl, nIlt (by omega) (by omega)]; omega), pI_n (by omega) (by omega), sI_1, c50, pI_n (by omega) (by omega), sI_1, sI_1, c50, pI_n (by omega) (by omega), pS_e, sI_1, sI_1, sI_1, c50, nI_1, sS_eq, show nI (Ns.length + 1) - 1 = nI Ns.length from nI_pred _]
        rw [ad, bI_s]
        rw [m66, pI_n (by omega) (by omega), sI_1, m66, pI_n (by omega) (by omega), sI_1, sI_1, m66, pI_n (by omega) (by omega), pS_e, sI_1, sI_1, sI_1, m66, nI_1, sS_eq, show nI (Ns.length + 1) - 1 = nI Ns.length from nI_pred _]
        have FC : FR [50] S1 (sS (sI (sI (sI S1 51 0 Ns.length (nI p)) 52 0 Ns.length (nI (ixT P.2 x))) 53 0 Ns.length (nvI P.2 v)) 50 0 (nI (Ns.length + 1))) := FR_sS (FR_sI (FR_sI (FR_sI FR_rf (by rw [rgNC (by omega)]; simp)) (by rw [rgNC (by omega)]; simp)) (by rw [rgNC (by omega)]; simp)) (by rw [rgNC (by omega)]; simp)
        have FM' : FR [363] T1 (sS (sI (sI (sI T1 363 0 Ns.length (nI p)) 364 0 Ns.length (nI (ixT P.2 x))) 365 0 Ns.length (nvI P.2 v)) 366 0 (nI (Ns.length + 1))) := FR_sS (FR_sI (FR_sI (FR_sI FR_rf (by rw [rgN (by omega)]; simp)) (by rw [rgN (by omega)]; simp)) (by rw [rgN (by omega)]; simp)) (by rw [rgN (by omega)]; simp)
        have ll : (Ns ++ [(p, x, v)]).length = Ns.length + 1 := by rw [List.length_append]; rfl
        have row : ∀ i e, (Ns ++ [(p, x, v)])[i]? = some e → (i < Ns.length ∧ Ns[i]? = some e) ∨ (i = Ns.length ∧ e = (p, x, v)) := by
          intro i e h
          rcases Nat.lt_or_ge i Ns.length with w | w
          · left; rw [List.getElem?_append_left w] at h; exact ⟨w, h⟩
          · right
            have hl := gt_lt h
            rw [ll] at hl
            have hi : i = Ns.length := by omega
            rw [List.getElem?_append_right w, hi, Nat.sub_self] at h
            exact ⟨hi, by simpa using h.symm⟩
        have nok := NOk_a (e := (p, x, v)) h2 hlt ⟨hp, hx, hv⟩
        refine ⟨_, _, 0, nI Ns.length, nI Ns.length, P, Ns ++ [(p, x, v)], rfl, rfl, ⟨EOk_N h1 (by rw [ll]; omega) (by rw [ll]; omega), nok, CP_fr I1.2.2.1 FC (by simp) (by simp), ⟨by rw [sS_eq, ll], fun i e h => ?_⟩, ⟨LM_fr I1.2.2.2.2.1.1 FM' (by simp), TM_fr I1.2.2.2.2.1.2.1 FM' (by simp), ?_⟩, ⟨by rw [sS_eq, ll], fun i e h => ?_⟩⟩, ?_, Or.inl rfl, fun _ => rfl⟩
        · rcases row i e h with ⟨w1, w2⟩ | ⟨w1, w2⟩
          · obtain ⟨y1, y2, y3⟩ := I1.2.2.2.1.2 i e w2
            simp (disch := omega) only [sS_21, sI_ne, sI_at]
            exact ⟨y1, y2, y3⟩
          · subst w1; subst w2
            simp (disch := omega) only [sS_21, sI_ne, sI_eq]
            exact ⟨trivial, trivial, trivial⟩
        · simp (disch := omega) only [sI_1, sS_ne]; exact I1.2.2.2.2.1.2.2
        · rcases row i e h with ⟨w1, w2⟩ | ⟨w1, w2⟩
          · obtain ⟨y1, y2, y3⟩ := I1.2.2.2.2.2.2 i e w2
            simp (disch := omega) only [sS_21, sI_ne, sI_at]
            exact ⟨y1, y2, y3⟩
          · subst w1; subst w2
            simp (disch := omega) only [sS_21, sI_ne, sI_eq]
            exact ⟨trivial, trivial, trivial⟩
        · simp (disch := omega) only [sI_1, sS_ne]; exact e350
      · rw [if_neg (show ¬ nI r = 0 by rw [k0, nIeq (by omega) (by omega)]; exact zr), if_neg (show ¬ nI r ≤ 0 by rw [k0, nIle (by omega) (by omega)]; omega)]
        exact ⟨S1, T1, 0, _, _, P, Ns, rfl, rfl, I1, e350, Or.inl rfl, fun _ => rfl⟩
  rcases i_cases a (c := 3) (by omega) with ⟨p, hp, ha⟩ | hb | hb
  · have na : ¬ a < 0 := by rw [ha]; exact nI_pos (by omega)
    rw [if_neg na, if_neg na, if_pos (show a ≤ 2 by rw [ha, k2, nIle (by omega) (by omega)]; omega), if_neg (show ¬ 2 < a by rw [ha, k2, nIlt (by omega) (by omega)]; omega), if_neg (show ¬ (1 : Int32) = 0 by decide)]
    rcases i_cases b (c := P.2.length) (by omega) with ⟨i, hi, hbi⟩ | hb
    · have mi := List.getElem_mem hi
      have ixi := ixT_nd h1.2.2.1 hi
      rw [hbi, nT_ok h3 h1 hi, bX_0, isT_ok h5 h1 hi, bI_s, if_neg (show ¬ nI 1 = 0 by decide), ← hbi]
      by_cases zc : c = -1
      · rw [if_pos zc, if_pos zc]
        exact go p _ none (by omega) mi (fun y hy => by cases hy) ha (by rw [ixi]; exact hbi) zc
      · rw [if_neg zc, if_neg zc]
        rcases i_cases c (c := P.2.length) (by omega) with ⟨j, hj, hcj⟩ | hb
        · have mj := List.getElem_mem hj
          have ixj := ixT_nd h1.2.2.1 hj
          rw [hcj, nT_ok h3 h1 hj, bX_0, isT_ok h5 h1 hj, bI_s, if_neg (show ¬ nI 1 = 0 by decide), ← hcj]
          exact go p _ (some P.2[j]) (by omega) mi (fun y hy => by cases hy; exact mj) ha (by rw [ixi]; exact hbi) (by rw [nvI_s, ixj]; exact hcj)
        · rw [nT_bad h3 h1 hb, bX_n (by decide), isT_bad h5 h1 hb, bI_s, if_pos (show nI 0 = 0 from rfl)]
          exact bad2
    · rw [nT_bad h3 h1 hb, bX_n (by decide), isT_bad h5 h1 hb, bI_s, if_pos (show nI 0 = 0 from rfl)]
      exact bad2
  · rw [if_pos hb, if_pos hb, if_pos rfl]; exact bad1
  · rw [if_neg (ge_nn (by omega) hb), if_neg (ge_nn (by omega) hb), if_neg (show ¬ a ≤ 2 from Int32.not_le.mpr (Int32.lt_of_lt_of_le (by decide) hb)), if_pos (show 2 < a from Int32.lt_of_lt_of_le (by decide) hb), if_pos rfl]; exact bad1
