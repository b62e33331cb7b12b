/-! declarations: the first reason, on both sides -/
def RC : List Nat := 1000 :: FD 0
theorem RC_m {x : Nat} : x ∈ RC ↔ x = 1000 ∨ (x = 4 ∨ x = 208 ∨ x = 256 ∨ (1002 ≤ x ∧ x ≤ 1005)) ∨ (1006 ≤ x ∧ x < 1107) := by
  unfold RC
  rw [List.mem_cons, mem_FD]
theorem CS_RC {S S' : St} {L : List (List Nat)} {T : List (List Mk)} {Ns : List Nme} (h : CS S L T Ns) (g : FR RC S S') : CS S' L T Ns := CS_fr h g (by rw [RC_m]; omega) (by rw [RC_m]; omega) (by rw [RC_m]; omega)
theorem RC_in {R : List Nat} {S S' : St} (h : FR R S S') (hr : ∀ x ∈ R, x = 1000 ∨ (x = 4 ∨ x = 208 ∨ x = 256 ∨ (1002 ≤ x ∧ x ≤ 1005)) ∨ (1006 ≤ x ∧ x < 1107)) : FR RC S S' := FR_mo h (fun x hx => RC_m.mpr (hr x hx))
theorem c_strange {n p j : Nat} {S : St} {L : List (List Nat)} {T : List (List Mk)} {Ns : List Nme} {x : List Mk} (hn : 10000 ≤ n) (he : ENV L T Ns) (hC : CS S L T Ns) (hx : T[j]? = some x) (hp : p ≤ 2) : ∃ S', f_X7_hasStrangeParameter n S (nI j) (nI p) = some (S', zb (hasP p x)) ∧ FR RC S S' := by
  have h40 := he.2.2.1
  have hz := zB_le he.2.1
  have gx := he.2.1.2.2.2.1 x (gt_mem hx)
  obtain ⟨S1, A1, R1, F1⟩ := s_spread (n := n) (j := 0) he.1 he.2.1 hC.1 hC.2.1 hx (by omega)
  have hp' := s_hasPR (n := n) (p := p) R1 (gdT_mV gx (by omega) (by omega)) hp (by omega)
  refine ⟨S1, ?_, RC_in F1 (fun x hx => by simp at hx; omega)⟩
  unfold f_X7_hasStrangeParameter g_X7_hasStrangeParameter
  rw [A1, bU_s, hp', bI_s]
  cases hasP p x <;> rfl
def vI (T : List (List Mk)) (v : Option (List Mk)) : Int32 := nvI T v
theorem c_reason {n p : Nat} {S : St} {L : List (List Nat)} {T : List (List Mk)} {Ns : List Nme} {x : List Mk} {v : Option (List Mk)} (hn : 10000 ≤ n) (he : ENV L T Ns) (hC : CS S L T Ns) (hx : x ∈ T) (hv : ∀ y, v = some y → y ∈ T) (hp : p ≤ 2) : ∃ S', f_X7_reasonAgainst n S (nI p) (nI (ixT T x)) (nvI T v) = some (S', nI (rsn Ns p x v)) ∧ rsn Ns p x v ≤ 8 ∧ FR RC S S' := by
  have h40 := he.2.2.1
  have hz := zB_le he.2.1
  have hg0 := he.2.1.2.2.2.1
  have hT15 := he.2.1.1
  have gx := hg0 x hx
  have lx := gx.2.1
  -- when the parameters are right
  have fin : ∀ S1 : St, FR RC S S1 → hasP p x = false → (∀ y, v = some y → hasP p y = false) → ∃ S', j_X7_reasonAgainst_26 n S1 (nI (ixT T x)) (nvI T v) = some (S', nI (rsn Ns p x v)) ∧ rsn Ns p x v ≤ 8 ∧ FR RC S S' := by
    intro S1 F1 hp0 hp1
    have er := rsn_n (Ns := Ns) (p := p) (x := x) (v := v) (by
      rw [hp0, Bool.false_or]
      cases v with
      | none => rfl
      | some y => exact hp1 y rfl)
    rw [er]
    have C1 := CS_RC hC F1
    obtain ⟨S2, A2, B2, R2, _, F2⟩ := c_find (n := n) hn he 101 0 (by omega) S1 [] x hx (by omega) (by simp) C1 (fun i t hi => by cases hi)
    have A2' : k_X6_find n 101 S1 (nI (ixT T x)) 0 0 = some (S2, nI (tyS Ns 101 [] x).1) := A2
    have F2' : FR RC S S2 := FR_tr F1 (FR_mo F2 (fun z hz => List.mem_cons_of_mem _ hz))
    have gt := tyS_gd he 101 [] x (gdT_mo gx (by omega)) trivial (by simp)
    unfold j_X7_reasonAgainst_26
    rw [A2', bI_s]
    generalize tyS Ns 101 [] x = r at *
    by_cases z : r.1 = 0
    · rw [if_pos (show nI r.1 = 0 by rw [z]; rfl)]
      have g0 := gt z
      rw [List.length_nil, Nat.add_zero] at g0
      obtain ⟨S3, v3, A3, N3, L3, B3, F3⟩ := s_srt (n := n) (j := 6) (B := zB T) hn (by omega) he (by omega) z (R2 z) g0 (CS_RC hC F2')
      have F3' : FR RC S S3 := FR_tr F2' (RC_in F3 (fun x hx => by simp [RDX] at hx; omega))
      rw [A3, bI_s, N3, bI_s]
      generalize srt Ns r = s at *
      unfold j_X7_reasonAgainst_73
      by_cases zs : s.1 = 0
      · rw [if_pos (show nI s.1 = 0 by rw [zs]; rfl), if_pos zs]
        cases v with
        | none =>
          rw [nvI_n, if_pos (show mI = -1 from rfl), zs]
          exact ⟨S3, rfl, Nat.zero_le _, F3'⟩
        | some y =>
          have hy := hv y rfl
          have iy := ixT_lt hy
          have gy := hg0 y hy
          have ly := gy.2.1
          rw [nvI_s, if_neg (show ¬ nI (ixT T y) = -1 from nI_ne_m (by omega))]
          have C3 := CS_RC hC F3'
          obtain ⟨S4, A4, B4, R4, _, F4⟩ := c_find (n := n) hn he 101 0 (by omega) S3 [] y hy (by omega) (by simp) C3 (fun i t hi => by cases hi)
          have A4' : k_X6_find n 101 S3 (nI (ixT T y)) 0 0 = some (S4, nI (tyS Ns 101 [] y).1) := A4
          have F4' : FR RC S S4 := FR_tr F3' (FR_mo F4 (fun z hz => List.mem_cons_of_mem _ hz))
          have gty := tyS_gd he 101 [] y (gdT_mo gy (by omega)) trivial (by simp)
          rw [A4', bI_s]
          rw [rs2_s]
          generalize tyS Ns 101 [] y = t at *
          by_cases zt : t.1 = 0
          · rw [if_pos (show nI t.1 = 0 by rw [zt]; rfl), thn_0 zt]
            have g4 := gty zt
            rw [List.length_nil, Nat.add_zero] at g4
            have C4 := CS_RC hC F4'
            obtain ⟨S5, A5, R5, F5⟩ := s_spread (n := n) (j := 0) he.1 he.2.1 C4.1 C4.2.1 (ixT_get hx) (by omega)
            have F5' : FR RC S S5 := FR_tr F4' (RC_in F5 (fun x hx => by simp at hx; omega))
            rw [A5, bU_s]
            obtain ⟨S6, v6, A6, F6, N6⟩ := s_nr (n := n) (j := 6) (B := zB T) hn (by omega) he (by omega) (RW_fr (R4 zt) F5 (by simp)) g4 (CS_RC hC F5')
            have F6' : FR RC S S6 := FR_tr F5' (RC_in F6 (fun x hx => by simp [RDX] at hx; omega))
            have R5' : RW S6 0 x := RW_fr R5 F6 (by simp [RDX])
            rw [A6, bI_s]
            generalize nr Ns t.2 = u at *
            rcases N6 with ⟨u1, u2⟩ | ⟨c6, hc6, hv6, u1, u2, u3⟩
            · rw [u1, thn_m (by decide), u2, if_pos (show m6 = -6 from rfl)]
              exact ⟨S6, rfl, (by decide), F6'⟩
            · rw [thn_0 u1, hv6, if_neg (show ¬ nI c6 = -6 from fun z => nI_pos (show c6 < 2 ^ 31 by omega) (by rw [z]; exact c_60))]
              obtain ⟨S7, v7, A7, F7, N7⟩ := s_nr (n := n) (j := 0) (B := zB T) hn (by omega) he (by omega) R5' gx (CS_RC hC F6')
              have F7' : FR RC S S7 := FR_tr F6' (RC_in F7 (fun x hx => by simp [RDX] at hx; omega))
              have R7' : RW S7 6 u.2 := RW_fr u2 F7 (by simp [RDX])
              rw [A7, bI_s]
              generalize nr Ns x = w at *
              rcases N7 with ⟨w1, w2⟩ | ⟨c7, hc7, hv7, w1, w2, w3⟩
              · rw [w1, thn_m (by decide), w2, if_pos (show m6 = -6 from rfl)]
                exact ⟨S7, rfl, (by decide), F7'⟩
              · rw [thn_0 w1, hv7, if_neg (show ¬ nI c7 = -6 from fun z => nI_pos (show c7 < 2 ^ 31 by omega) (by rw [z]; exact c_60))]
                obtain ⟨S8, A8, F8⟩ := s_matches (n := n) (gdT_mV w3 (by omega) (by omega)) (gdT_mV u3 (by omega) (by omega)) w2 R7' (i := 0) (k := w.2.length) (by omega) (by omega) (by omega)
                have sge : seg w.2 0 w.2.length = w.2 := by unfold seg; rw [List.take_length, List.drop_zero]
                rw [sge] at A8
                have A8' : f_X4_matches n S7 0 0 (S7.1 150 0) 6 = some (S8, if mtc w.2 u.2 then 1 else 0) := by rw [w2.1]; exact A8
                have F8' : FR RC S S8 := FR_tr F7' (RC_in F8 (fun x hx => by simp at hx; omega))
                rw [A8', bI_s]
                cases mtc w.2 u.2 with
                | true => exact ⟨S8, rfl, Nat.zero_le _, F8'⟩
                | false => exact ⟨S8, rfl, (by decide), F8'⟩
          · rw [if_neg (show ¬ nI t.1 = 0 by rw [k0, nIeq (by omega) (by omega)]; exact zt), thn_n zt]
            exact ⟨S4, rfl, B4, F4'⟩
      · rw [if_neg (show ¬ nI s.1 = 0 by rw [k0, nIeq (by omega) (by omega)]; exact zs), if_neg zs]
        exact ⟨S3, rfl, B3, F3'⟩
    · rw [if_neg (show ¬ nI r.1 = 0 by rw [k0, nIeq (by omega) (by omega)]; exact z), srt_n z, if_neg z]
      unfold j_X7_reasonAgainst_73
      rw [if_neg (show ¬ nI r.1 = 0 by rw [k0, nIeq (by omega) (by omega)]; exact z)]
      exact ⟨S2, rfl, B2, F2'⟩
  obtain ⟨S1, A1, F1⟩ := c_strange (n := n) hn he hC (ixT_get hx) hp
  unfold f_X7_reasonAgainst
  rw [A1, bI_s]
  cases h9 : hasP p x with
  | true =>
    have er : rsn Ns p x v = 8 := rsn_8 (by rw [h9, Bool.true_or])
    rw [er]
    exact ⟨S1, rfl, Nat.le_refl _, F1⟩
  | false =>
    rw [if_pos (show zb false = 0 from rfl)]
    cases v with
    | none =>
      rw [nvI_n, if_pos (show mI = -1 from rfl)]
      exact fin S1 F1 h9 (fun y hy => by cases hy)
    | some y =>
      have hy := hv y rfl
      have iy := ixT_lt hy
      rw [nvI_s, if_neg (show ¬ nI (ixT T y) = -1 from nI_ne_m (by omega))]
      obtain ⟨S2, A2, F2⟩ := c_strange (n := n) hn he (CS_RC hC F1) (ixT_get hy) hp
      rw [A2, bI_s]
      cases h8 : hasP p y with
      | true =>
        have er : rsn Ns p x (some y) = 8 := rsn_8 (by show (hasP p x || hasP p y) = true; rw [h8, Bool.or_true])
        rw [er]
        exact ⟨S2, rfl, Nat.le_refl _, FR_tr F1 F2⟩
      | false =>
        rw [if_pos (show zb false = 0 from rfl)]
        exact fin S2 (FR_tr F1 F2) h9 (fun z hz => by cases hz; exact h8)
