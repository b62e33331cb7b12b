/-! the reference's terms laid out -/
def tks (m : Mk) : List Nat := if m.1 = 0 then 0 :: m.2.2.2.1 else if m.1 = 1 then [1, m.2.1] else if m.1 = 2 then 2 :: m.2.1 :: (m.2.2.2.1 ++ m.2.2.2.2) else [m.1]
def flt (ms : List Mk) : List Nat := ms.flatMap tks
theorem flt_c (m : Mk) (r : List Mk) : flt (m :: r) = tks m ++ flt r := rfl
theorem flt_n : flt [] = [] := rfl
theorem flt_app (x y : List Mk) : flt (x ++ y) = flt x ++ flt y := List.flatMap_append
theorem tks_0 {m : Mk} (h : m.1 = 0) : tks m = 0 :: m.2.2.2.1 := by unfold tks; rw [if_pos h]
theorem tks_1 {m : Mk} (h : m.1 = 1) : tks m = [1, m.2.1] := by unfold tks; rw [if_neg (by omega), if_pos h]
theorem tks_2 {m : Mk} (h : m.1 = 2) : tks m = 2 :: m.2.1 :: (m.2.2.2.1 ++ m.2.2.2.2) := by unfold tks; rw [if_neg (by omega), if_neg (by omega), if_pos h]
theorem tks_3 {m : Mk} (h : 3 ≤ m.1) : tks m = [m.1] := by unfold tks; rw [if_neg (by omega), if_neg (by omega), if_neg (by omega)]
theorem tks_h (m : Mk) : ∃ r, tks m = m.1 :: r := by
  by_cases h0 : m.1 = 0
  · exact ⟨_, by rw [tks_0 h0, h0]⟩
  · by_cases h1 : m.1 = 1
    · exact ⟨_, by rw [tks_1 h1, h1]⟩
    · by_cases h2 : m.1 = 2
      · exact ⟨_, by rw [tks_2 h2, h2]⟩
      · exact ⟨[], tks_3 (by omega)⟩
theorem tks_pos (m : Mk) : 1 ≤ (tks m).length := by obtain ⟨r, e⟩ := tks_h m; rw [e]; simp
theorem flt_ge : ∀ (ms : List Mk), ms.length ≤ (flt ms).length := by
  intro ms
  induction ms with
  | nil => simp [flt]
  | cons m r ih => rw [flt_c, List.length_append, List.length_cons]; have := tks_pos m; omega
theorem flt_map {g : Mk → Mk} : ∀ {ms : List Mk}, (∀ m ∈ ms, tks (g m) = tks m) → flt (ms.map g) = flt ms := by
  intro ms
  induction ms with
  | nil => intro _; rfl
  | cons m r ih =>
    intro h
    rw [List.map_cons, flt_c, flt_c, h m List.mem_cons_self, ih (fun x hx => h x (List.mem_cons_of_mem _ hx))]
theorem tks_sh (d : Nat) (m : Mk) : tks (shM d m) = tks m := rfl
theorem tks_dn (d : Nat) (m : Mk) : tks (dnM d m) = tks m := rfl
theorem flt_sh (d : Nat) (ms : List Mk) : flt (ms.map (shM d)) = flt ms := flt_map (fun m _ => tks_sh d m)
theorem flt_dn (d : Nat) (ms : List Mk) : flt (ms.map (dnM d)) = flt ms := flt_map (fun m _ => tks_dn d m)
theorem tks_len {m : Mk} (h : mV m) : (tks m).length ≤ 34 := by
  have h1 := (lO_ok (mV_1 h)).2
  have h2 := (lO_ok (mV_2 h)).2
  by_cases h0 : m.1 = 0
  · rw [tks_0 h0, List.length_cons]; omega
  · by_cases h1 : m.1 = 1
    · rw [tks_1 h1]; simp
    · by_cases h2 : m.1 = 2
      · rw [tks_2 h2, List.length_cons, List.length_cons, List.length_append]; omega
      · rw [tks_3 (by omega)]; simp
theorem flt_len : ∀ {ms : List Mk}, (∀ m ∈ ms, mV m) → (flt ms).length ≤ 34 * ms.length := by
  intro ms
  induction ms with
  | nil => intro _; simp [flt]
  | cons m r ih =>
    intro h
    have := ih (fun x hx => h x (List.mem_cons_of_mem _ hx))
    have := tks_len (h m List.mem_cons_self)
    rw [flt_c, List.length_append, List.length_cons]; omega
def mkT (T : List (List Mk)) (st : List Nat) : List Mk := st.flatMap (fun i => (T[i]?).getD [])
theorem mkT_c {T : List (List Mk)} {i : Nat} {st : List Nat} {ms : List Mk} (h : T[i]? = some ms) : mkT T (i :: st) = ms ++ mkT T st := by
  unfold mkT; rw [List.flatMap_cons, h]; rfl
theorem mkT_len {L : List (List Nat)} {T : List (List Mk)} {N : Nat} (hT : TOk L T N) : ∀ {st : List Nat}, (∀ i ∈ st, i < T.length) → st.length ≤ (mkT T st).length := by
  intro st
  induction st with
  | nil => intro _; exact Nat.zero_le _
  | cons i st ih =>
    intro h
    have hi := h i List.mem_cons_self
    have e := List.getElem?_eq_getElem hi
    have := ih (fun k hk => h k (List.mem_cons_of_mem _ hk))
    have := Tm_ne (hT.2.2.2.1 _ (List.getElem_mem hi)).1
    rw [mkT_c e, List.length_append, List.length_cons]
    omega
theorem s_layTerm_l {n f N : Nat} {L : List (List Nat)} {T : List (List Mk)} (hL : LOk L) (hT : TOk L T N) (hf : 367 ≤ f ∧ f ≤ 371) (hn : 60 ≤ n) : ∀ (k m : Nat) (S : St) (st : List Nat) (o : Nat), (mkT T st).length = k → k < m → k ≤ 200 → stk (S.2.1 376 0) st → (∀ i ∈ st, i < T.length) → LM S L → TM S L T → o + (flt (mkT T st)).length ≤ ln f → ∃ S', l_X8_layTerm_13 n m S f (nI o) (nI st.length) = some (S', nI (o + (flt (mkT T st)).length)) ∧ sg (S'.2.1 f 0) o (flt (mkT T st)) ∧ KP f o S S' ∧ FR [376, 378, f] S S' := by
  obtain ⟨hf1, hf2⟩ := ln8 hf
  intro k
  induction k with
  | zero =>
    intro m S st o hkk hm hk5 hst hi hM hTM ho
    have := mkT_len hT hi
    have e : st = [] := List.length_eq_zero_iff.mp (by omega)
    subst e
    obtain ⟨m, rfl⟩ : ∃ m', m = m' + 1 := ⟨m - 1, by omega⟩
    refine ⟨S, ?_, ?_, KP_rf, FR_rf⟩
    · unfold l_X8_layTerm_13
      rfl
    · exact trivial
  | succ k ih =>
    intro m0 S st o hkk hm hk5 hst hi hM hTM ho
    obtain ⟨m0, rfl⟩ : ∃ m', m0 = m' + 1 := ⟨m0 - 1, by omega⟩
    cases st with
    | nil => simp [mkT] at hkk
    | cons i st =>
      have hil := hi i List.mem_cons_self
      have hTl := hT.1
      have e := List.getElem?_eq_getElem hil
      have hgd := hT.2.2.2.1 _ (List.getElem_mem hil)
      have hpt := hT.2.2.2.2 _ (List.getElem_mem hil)
      generalize hl : T[i] = ms at *
      have hc := hTM.2 i ms e
      have hist : ∀ k ∈ st, k < T.length := fun k hk => hi k (List.mem_cons_of_mem _ hk)
      have hsl := mkT_len hT hist
      have hd := mkT_c (st := st) e
      have hst2 := hst.2
      have hst1 : S.2.1 376 0 st.length = nI i := hst.1
      cases ms with
      | nil => exact absurd (Tm_ne hgd.1) (by simp)
      | cons m r =>
      obtain ⟨d0, dA, dB, dC, dD⟩ := tm_parts hgd.1
      obtain ⟨c0, c1, c2, c3, _, _⟩ := hc
      obtain ⟨pa, pb, pc, pd⟩ := hpt
      have k6 : m.1 ≤ 6 := hk_le hgd
      have hvm : vV (zB T) N m := hgd.2.2 m List.mem_cons_self
      replace c0 : S.2.1 356 0 i = nI m.1 := c0
      replace pa : m.1 = 0 → m.2.2.2.1 ∈ L := pa
      replace pb : m.1 = 2 → m.2.2.2.1 ∈ L ∧ m.2.2.2.2 ∈ L := pb
      replace pc : 3 ≤ m.1 → p1 (m :: r) ∈ T ∧ p2 (m :: r) ∈ T := pc
      replace pd : m.1 = 6 → p3 (m :: r) ∈ T := pd
      rw [hd, List.length_append, List.length_cons] at hkk
      rw [hd, flt_app, flt_c, List.length_append, List.length_append] at ho
      have fin : ∀ (S1 : St) (st1 : List Nat), flt (mkT T st1) = flt r ++ flt (mkT T st) → (mkT T st1).length = k → stk (S1.2.1 376 0) st1 → (∀ k ∈ st1, k < T.length) → sg (S1.2.1 f 0) o (tks m) → KP f o S S1 → FR [376, 378, f] S S1 → ∃ S', l_X8_layTerm_13 n m0 S1 f (nI (o + (tks m).length)) (nI st1.length) = some (S', nI (o + (flt (mkT T (i :: st))).length)) ∧ sg (S'.2.1 f 0) o (flt (mkT T (i :: st))) ∧ KP f o S S' ∧ FR [376, 378, f] S S' := by
        intro S1 st1 h1 h1' h2 h3 h4 h5 h6
        obtain ⟨S', a, b, c, d⟩ := ih m0 S1 st1 (o + (tks m).length) h1' (by omega) (by omega) h2 h3 (LM_fr hM h6 (by simp; omega)) (TM_fr hTM h6 (by simp; omega)) (by rw [h1, List.length_append]; omega)
        refine ⟨S', ?_, ?_, KP_tr h5 (KP_mo c (by omega)), FR_tr h6 d⟩
        · rw [a, hd, flt_app, flt_c, h1]; simp only [List.length_append]; congr 3; omega
        · rw [hd, flt_app, flt_c, List.append_assoc, ← h1]
          exact sg_app.mpr ⟨KP_sg c h4 (by omega), b⟩
      have frw : ∀ {S1 : St} {g p : Nat} {v : Int32}, FR [376, 378, f] S S1 → (g = 376 ∨ g = f) → FR [376, 378, f] S (sI S1 g 0 p v) := by
        intro S1 g p v h hg
        refine FR_sI h ?_
        rw [rg8 (by omega)]
        rcases hg with q | q <;> subst q <;> simp
      unfold l_X8_layTerm_13
      by_cases q0 : m.1 = 0
      · have ml := pa q0
        have lx := ix_lt ml
        have c1' : S.2.1 357 0 i = nI (ix L m.2.2.2.1) := by rw [c1]; unfold a1; rw [if_pos (show hk (m :: r) = 0 from q0)]; rfl
        have r0 := dA (ar_0 (by omega))
        have tk0 := tks_0 q0
        rw [tk0, List.length_cons] at ho
        obtain ⟨S1, a, b, c, d⟩ := s_layLevel (n := n) (o := o + 1) (S := sI S f 0 o (nI 0)) hL hf (LM_fr hM (R := [f]) (FR_sI FR_rf (by rw [rg8 (by omega)]; simp)) (by simp; omega)) ml (by omega) hn
        have fr1 : FR [376, 378, f] S S1 := FR_tr (frw FR_rf (Or.inr rfl)) (FR_mo d (by intro x hx; simp at hx ⊢; omega))
        have f0 := fin S1 st (by rw [r0]; rfl) (by rw [r0, List.length_nil] at hkk; omega) (by rw [(d 376 0 (by rw [rg8 (by omega)]; simp; omega)).2.1, sI_ne (by omega)]; exact hst2) hist (by rw [tk0]; exact ⟨(c o (by omega)).trans (by rw [sI_eq]), b⟩) (KP_tr (fun j hj => by rw [sI_at (by omega)]) (KP_mo c (by omega))) fr1
        ((try simp only [i0, i1, i2, i3, i4, i5, i6, i8, i16, i30, i60, i100, i200, i201, i300, i1500, i8000, iM, i_m6]); repeat (first | rw [zt_eq (by omega)] | rw [zt_ne (by omega) (by omega) (by omega)] | rw [zt_nle (by omega) (by omega)] | rw [zt_le (by omega) (by omega)] | rw [zt_nlt (by omega) (by omega)] | rw [zt_lt (by omega) (by omega)] | rw [zt_nm (by omega)] | rw [zt_mm] | rw [zt_ml] | rw [zt_0m] | rw [zt_m0] | rw [zt_n6 (by omega)] | rw [zt_66] | rw [zt_06] | simp (disch := omega) only [i0, i1, i2, i3, i4, i5, i6, i8, i16, i30, i60, i100, i200, i201, i300, i1500, i8000, iM, i_m6, nIa, nIp, nIs, sI_1, sI_22, sL_1, sL_21, sS_21, sS_22, sI_ne, sL_ne, sS_ne, sS_eq, sI_eq, sI_at, sL_eq, sL_at, Nat.add_zero, if_true, if_false, List.length_cons, Nat.add_sub_cancel, hst1, c0, q0, c1', a] | rw [bV_e] | rw [pS_e] | rw [bI_s] | rw [bU_s] | rw [bL_s] | rw [gI_n (by omega) (by omega)] | rw [pI_n (by omega) (by omega)] | rw [gL_n (by omega) (by omega)] | rw [pL_n (by omega) (by omega)] | rw [j_X8_layTerm_141] | rw [j_X8_layTerm_175]))
        rw [tk0, List.length_cons] at f0
        have : o + 1 + m.2.2.2.1.length = o + (m.2.2.2.1.length + 1) := by omega
        rw [this]
        exact f0
      · by_cases q1 : m.1 = 1
        · have c1' : S.2.1 357 0 i = nI m.2.1 := by rw [c1]; unfold a1; rw [if_neg (show ¬ hk (m :: r) = 0 from q0), if_pos (show hk (m :: r) ≤ 2 by show m.1 ≤ 2; omega)]; rfl
          have r0 := dA (ar_0 (by omega))
          have tk0 := tks_1 q1
          rw [tk0] at ho
          simp only [List.length_cons, List.length_nil] at ho
          have f0 := fin (sI (sI S f 0 o (nI 1)) f 0 (o + 1) (nI m.2.1)) st (by rw [r0]; rfl) (by rw [r0, List.length_nil] at hkk; omega) (by rw [sI_ne (by omega), sI_ne (by omega)]; exact hst2) hist (by rw [tk0]; exact ⟨by rw [sI_at (by omega), sI_eq], by rw [sI_eq], trivial⟩) (fun j hj => by rw [sI_at (by omega), sI_at (by omega)]) (frw (frw FR_rf (Or.inr rfl)) (Or.inr rfl))
          ((try simp only [i0, i1, i2, i3, i4, i5, i6, i8, i16, i30, i60, i100, i200, i201, i300, i1500, i8000, iM, i_m6]); repeat (first | rw [zt_eq (by omega)] | rw [zt_ne (by omega) (by omega) (by omega)] | rw [zt_nle (by omega) (by omega)] | rw [zt_le (by omega) (by omega)] | rw [zt_nlt (by omega) (by omega)] | rw [zt_lt (by omega) (by omega)] | rw [zt_nm (by omega)] | rw [zt_mm] | rw [zt_ml] | rw [zt_0m] | rw [zt_m0] | rw [zt_n6 (by omega)] | rw [zt_66] | rw [zt_06] | simp (disch := omega) only [i0, i1, i2, i3, i4, i5, i6, i8, i16, i30, i60, i100, i200, i201, i300, i1500, i8000, iM, i_m6, nIa, nIp, nIs, sI_1, sI_22, sL_1, sL_21, sS_21, sS_22, sI_ne, sL_ne, sS_ne, sS_eq, sI_eq, sI_at, sL_eq, sL_at, Nat.add_zero, if_true, if_false, List.length_cons, Nat.add_sub_cancel, hst1, c0, q1, c1'] | rw [bV_e] | rw [pS_e] | rw [bI_s] | rw [bU_s] | rw [bL_s] | rw [gI_n (by omega) (by omega)] | rw [pI_n (by omega) (by omega)] | rw [gL_n (by omega) (by omega)] | rw [pL_n (by omega) (by omega)] | rw [j_X8_layTerm_141] | rw [j_X8_layTerm_175]))
          rw [tk0] at f0
          exact f0
        · by_cases q2 : m.1 = 2
          · obtain ⟨ml1, ml2⟩ := pb q2
            have lx := ix_lt ml1
            have lx2 := ix_lt ml2
            have c1' : S.2.1 357 0 i = nI m.2.1 := by rw [c1]; unfold a1; rw [if_neg (show ¬ hk (m :: r) = 0 from q0), if_pos (show hk (m :: r) ≤ 2 by show m.1 ≤ 2; omega)]; rfl
            have c2' : S.2.1 358 0 i = nI (ix L m.2.2.2.1) := by rw [c2]; unfold a2; rw [if_neg (show ¬ hk (m :: r) ≤ 1 by show ¬ m.1 ≤ 1; omega), if_pos (show hk (m :: r) = 2 from q2)]; rfl
            have c3' : S.2.1 359 0 i = nI (ix L m.2.2.2.2) := by rw [c3]; unfold a3; rw [if_pos (show hk (m :: r) = 2 from q2)]; rfl
            have r0 := dA (ar_0 (by omega))
            have tk0 := tks_2 q2
            rw [tk0] at ho
            simp only [List.length_cons, List.length_append] at ho
            have fr0 : FR [376, 378, f] S (sI (sI S f 0 o (nI 2)) f 0 (o + 1) (nI m.2.1)) := frw (frw FR_rf (Or.inr rfl)) (Or.inr rfl)
            obtain ⟨S1, a, b, c, d⟩ := s_layLevel (n := n) (o := o + 1 + 1) (S := sI (sI S f 0 o (nI 2)) f 0 (o + 1) (nI m.2.1)) hL hf (LM_fr hM fr0 (by simp; omega)) ml1 (by omega) hn
            have fr1 : FR [376, 378, f] S S1 := FR_tr fr0 (FR_mo d (by intro x hx; simp at hx ⊢; omega))
            obtain ⟨S2, a', b', c', d'⟩ := s_layLevel (n := n) (o := o + 1 + 1 + m.2.2.2.1.length) (S := S1) hL hf (LM_fr hM fr1 (by simp; omega)) ml2 (by omega) hn
            have fr2 : FR [376, 378, f] S S2 := FR_tr fr1 (FR_mo d' (by intro x hx; simp at hx ⊢; omega))
            have e0 : S2.2.1 f 0 o = nI 2 := by rw [c' o (by omega), c o (by omega), sI_at (by omega), sI_eq]
            have e1' : S2.2.1 f 0 (o + 1) = nI m.2.1 := by rw [c' _ (by omega), c _ (by omega), sI_eq]
            have f0 := fin S2 st (by rw [r0]; rfl) (by rw [r0, List.length_nil] at hkk; omega) (by rw [(d' 376 0 (by rw [rg8 (by omega)]; simp; omega)).2.1, (d 376 0 (by rw [rg8 (by omega)]; simp; omega)).2.1, sI_ne (by omega), sI_ne (by omega)]; exact hst2) hist (by rw [tk0]; exact ⟨e0, e1', sg_app.mpr ⟨KP_sg c' b (by omega), b'⟩⟩) (KP_tr (KP_tr (fun j hj => by rw [sI_at (by omega), sI_at (by omega)]) (KP_mo c (by omega))) (KP_mo c' (by omega))) fr2
            ((try simp only [i0, i1, i2, i3, i4, i5, i6, i8, i16, i30, i60, i100, i200, i201, i300, i1500, i8000, iM, i_m6]); repeat (first | rw [zt_eq (by omega)] | rw [zt_ne (by omega) (by omega) (by omega)] | rw [zt_nle (by omega) (by omega)] | rw [zt_le (by omega) (by omega)] | rw [zt_nlt (by omega) (by omega)] | rw [zt_lt (by omega) (by omega)] | rw [zt_nm (by omega)] | rw [zt_mm] | rw [zt_ml] | rw [zt_0m] | rw [zt_m0] | rw [zt_n6 (by omega)] | rw [zt_66] | rw [zt_06] | simp (disch := omega) only [i0, i1, i2, i3, i4, i5, i6, i8, i16, i30, i60, i100, i200, i201, i300, i1500, i8000, iM, i_m6, nIa, nIp, nIs, sI_1, sI_22, sL_1, sL_21, sS_21, sS_22, sI_ne, sL_ne, sS_ne, sS_eq, sI_eq, sI_at, sL_eq, sL_at, Nat.add_zero, if_true, if_false, List.length_cons, Nat.add_sub_cancel, hst1, c0, q2, c1', c2', c3', a, a'] | rw [bV_e] | rw [pS_e] | rw [bI_s] | rw [bU_s] | rw [bL_s] | rw [gI_n (by omega) (by omega)] | rw [pI_n (by omega) (by omega)] | rw [gL_n (by omega) (by omega)] | rw [pL_n (by omega) (by omega)] | rw [j_X8_layTerm_141] | rw [j_X8_layTerm_175]))
            rw [tk0] at f0
            simp only [List.length_cons, List.length_append] at f0
            have : o + 1 + 1 + m.2.2.2.1.length + m.2.2.2.2.length = o + (m.2.2.2.1.length + m.2.2.2.2.length + 1 + 1) := by omega
            rw [this]
            exact f0
          · have q3 : 3 ≤ m.1 := by omega
            obtain ⟨ar2, ar6, arn⟩ := ar_2 q3 k6
            obtain ⟨pp1, pp2⟩ := pc q3
            have x1 := ixT_lt pp1
            have x2 := ixT_lt pp2
            have g1 := ixT_get pp1
            have g2 := ixT_get pp2
            have c1' : S.2.1 357 0 i = nI (ixT T (p1 (m :: r))) := by rw [c1]; unfold a1; rw [if_neg (show ¬ hk (m :: r) = 0 from q0), if_neg (show ¬ hk (m :: r) ≤ 2 by show ¬ m.1 ≤ 2; omega)]
            have c2' : S.2.1 358 0 i = nI (ixT T (p2 (m :: r))) := by rw [c2]; unfold a2; rw [if_neg (show ¬ hk (m :: r) ≤ 1 by show ¬ m.1 ≤ 1; omega), if_neg (show ¬ hk (m :: r) = 2 from q2)]
            have tk0 := tks_3 q3
            rw [tk0] at ho
            simp only [List.length_cons, List.length_nil] at ho
            by_cases q6 : m.1 = 6
            · have pp3 := pd q6
              have x3 := ixT_lt pp3
              have g3 := ixT_get pp3
              have c3' : S.2.1 359 0 i = nI (ixT T (p3 (m :: r))) := by rw [c3]; unfold a3; rw [if_neg (show ¬ hk (m :: r) = 2 from q2), if_pos (show hk (m :: r) = 6 from q6)]
              obtain ⟨rr, _⟩ := dD (ar6.mp q6)
              have fr : flt r = flt (p1 (m :: r)) ++ (flt (p2 (m :: r)) ++ flt (p3 (m :: r))) := by
                conv => lhs; rw [rr]
                rw [flt_app, flt_app, flt_sh]
              have rl : r.length = (p1 (m :: r)).length + ((p2 (m :: r)).length + (p3 (m :: r)).length) := by
                conv => lhs; rw [rr]
                simp only [List.length_append, List.length_map]
              have f0 := fin (sI (sI (sI (sI S f 0 o (nI 6)) 376 0 st.length (nI (ixT T (p3 (m :: r))))) 376 0 (st.length + 1) (nI (ixT T (p2 (m :: r))))) 376 0 (st.length + 1 + 1) (nI (ixT T (p1 (m :: r))))) (ixT T (p1 (m :: r)) :: ixT T (p2 (m :: r)) :: ixT T (p3 (m :: r)) :: st) (by rw [mkT_c g1, mkT_c g2, mkT_c g3, flt_app, flt_app, flt_app, fr]; simp only [List.append_assoc]) (by rw [mkT_c g1, mkT_c g2, mkT_c g3]; simp only [List.length_append]; omega) (by
                rw [sI_self]
                refine stk_push (st := ixT T (p2 (m :: r)) :: ixT T (p3 (m :: r)) :: st) ?_
                rw [sI_self]
                refine stk_push (st := ixT T (p3 (m :: r)) :: st) ?_
                rw [sI_self]
                refine stk_push ?_
                rw [sI_ne (by omega)]; exact hst2) (fun k hk => by
                rcases List.mem_cons.mp hk with z | z
                · rw [z]; exact x1
                · rcases List.mem_cons.mp z with z | z
                  · rw [z]; exact x2
                  · rcases List.mem_cons.mp z with z | z
                    · rw [z]; exact x3
                    · exact hist k z) (by rw [tk0, q6]; exact ⟨by rw [sI_ne (by omega), sI_ne (by omega), sI_ne (by omega), sI_eq], trivial⟩) (fun j hj => by rw [sI_ne (by omega), sI_ne (by omega), sI_ne (by omega), sI_at (by omega)]) (frw (frw (frw (frw FR_rf (Or.inr rfl)) (Or.inl rfl)) (Or.inl rfl)) (Or.inl rfl))
              ((try simp only [i0, i1, i2, i3, i4, i5, i6, i8, i16, i30, i60, i100, i200, i201, i300, i1500, i8000, iM, i_m6]); repeat (first | rw [zt_eq (by omega)] | rw [zt_ne (by omega) (by omega) (by omega)] | rw [zt_nle (by omega) (by omega)] | rw [zt_le (by omega) (by omega)] | rw [zt_nlt (by omega) (by omega)] | rw [zt_lt (by omega) (by omega)] | rw [zt_nm (by omega)] | rw [zt_mm] | rw [zt_ml] | rw [zt_0m] | rw [zt_m0] | rw [zt_n6 (by omega)] | rw [zt_66] | rw [zt_06] | simp (disch := omega) only [i0, i1, i2, i3, i4, i5, i6, i8, i16, i30, i60, i100, i200, i201, i300, i1500, i8000, iM, i_m6, nIa, nIp, nIs, sI_1, sI_22, sL_1, sL_21, sS_21, sS_22, sI_ne, sL_ne, sS_ne, sS_eq, sI_eq, sI_at, sL_eq, sL_at, Nat.add_zero, if_true, if_false, List.length_cons, Nat.add_sub_cancel, hst1, c0, q6, c1', c2', c3'] | rw [bV_e] | rw [pS_e] | rw [bI_s] | rw [bU_s] | rw [bL_s] | rw [gI_n (by omega) (by omega)] | rw [pI_n (by omega) (by omega)] | rw [gL_n (by omega) (by omega)] | rw [pL_n (by omega) (by omega)] | rw [j_X8_layTerm_141] | rw [j_X8_layTerm_175]))
              rw [tk0] at f0
              exact f0
            · have rr := dC (arn.mp q6)
              have fr : flt r = flt (p1 (m :: r)) ++ flt (p2 (m :: r)) := by
                conv => lhs; rw [rr]
                rw [flt_app, flt_sh]
              have rl : r.length = (p1 (m :: r)).length + (p2 (m :: r)).length := by
                conv => lhs; rw [rr]
                simp only [List.length_append, List.length_map]
              have f0 := fin (sI (sI (sI S f 0 o (nI m.1)) 376 0 st.length (nI (ixT T (p2 (m :: r))))) 376 0 (st.length + 1) (nI (ixT T (p1 (m :: r))))) (ixT T (p1 (m :: r)) :: ixT T (p2 (m :: r)) :: st) (by rw [mkT_c g1, mkT_c g2, flt_app, flt_app, fr]; simp only [List.append_assoc]) (by rw [mkT_c g1, mkT_c g2]; simp only [List.length_append]; omega) (by
                rw [sI_self]
                refine stk_push (st := ixT T (p2 (m :: r)) :: st) ?_
                rw [sI_self]
                refine stk_push ?_
                rw [sI_ne (by omega)]; exact hst2) (fun k hk => by
                rcases List.mem_cons.mp hk with z | z
                · rw [z]; exact x1
                · rcases List.mem_cons.mp z with z | z
                  · rw [z]; exact x2
                  · exact hist k z) (by rw [tk0]; exact ⟨by rw [sI_ne (by omega), sI_ne (by omega), sI_eq], trivial⟩) (fun j hj => by rw [sI_ne (by omega), sI_ne (by omega), sI_at (by omega)]) (frw (frw (frw FR_rf (Or.inr rfl)) (Or.inl rfl)) (Or.inl rfl))
              ((try simp only [i0, i1, i2, i3, i4, i5, i6, i8, i16, i30, i60, i100, i200, i201, i300, i1500, i8000, iM, i_m6]); repeat (first | rw [zt_eq (by omega)] | rw [zt_ne (by omega) (by omega) (by omega)] | rw [zt_nle (by omega) (by omega)] | rw [zt_le (by omega) (by omega)] | rw [zt_nlt (by omega) (by omega)] | rw [zt_lt (by omega) (by omega)] | rw [zt_nm (by omega)] | rw [zt_mm] | rw [zt_ml] | rw [zt_0m] | rw [zt_m0] | rw [zt_n6 (by omega)] | rw [zt_66] | rw [zt_06] | simp (disch := omega) only [i0, i1, i2, i3, i4, i5, i6, i8, i16, i30, i60, i100, i200, i201, i300, i1500, i8000, iM, i_m6, nIa, nIp, nIs, sI_1, sI_22, sL_1, sL_21, sS_21, sS_22, sI_ne, sL_ne, sS_ne, sS_eq, sI_eq, sI_at, sL_eq, sL_at, Nat.add_zero, if_true, if_false, List.length_cons, Nat.add_sub_cancel, hst1, c0, c1', c2'] | rw [bV_e] | rw [pS_e] | rw [bI_s] | rw [bU_s] | rw [bL_s] | rw [gI_n (by omega) (by omega)] | rw [pI_n (by omega) (by omega)] | rw [gL_n (by omega) (by omega)] | rw [pL_n (by omega) (by omega)] | rw [j_X8_layTerm_141] | rw [j_X8_layTerm_175]))
              rw [tk0] at f0
              exact f0
theorem s_layTerm {n f N t : Nat} {L : List (List Nat)} {T : List (List Mk)} {S : St} {ms : List Mk} (hL : LOk L) (hT : TOk L T N) (hf : 367 ≤ f ∧ f ≤ 371) (hM : LM S L) (hTM : TM S L T) (ht : T[t]? = some ms) (hn : 10000 ≤ n) : ∃ S', f_X8_layTerm n S (nI t) f 0 = some (S', nI (flt ms).length) ∧ sg (S'.2.1 f 0) 0 (flt ms) ∧ FR [376, 378, f] S S' := by
  have hil := gt_lt ht
  have hms := gt_mem ht
  have hgd := hT.2.2.2.1 ms hms
  have h40 := hT.2.2.1
  obtain ⟨hf1, hf2⟩ := ln8 hf
  have hz := zB_le hT
  have hl := flt_len (gdT_mV hgd (by omega) (by omega))
  have h200 := hgd.2.1
  have e1 : mkT T [t] = ms := by rw [mkT_c ht]; exact List.append_nil _
  have fr0 : FR [376, 378, f] S (sI S 376 0 0 (nI t)) := FR_sI FR_rf (by rw [rg8 (by omega)]; simp)
  obtain ⟨S', a, b, c, d⟩ := s_layTerm_l (n := n) hL hT hf (by omega) ms.length n (sI S 376 0 0 (nI t)) [t] 0 (by rw [e1]) (by omega) (by omega) (by rw [sI_self]; exact stk_push (st := []) trivial) (fun k hk => by rw [List.mem_singleton.mp hk]; exact hil) (LM_fr hM fr0 (by simp; omega)) (TM_fr hTM fr0 (by simp; omega)) (by rw [e1]; omega)
  rw [e1, Nat.zero_add] at a
  rw [e1] at b
  refine ⟨S', ?_, b, FR_tr fr0 d⟩
  unfold f_X8_layTerm
  ((try simp only [i0, i1, i2, i3, i4, i5, i6, i8, i16, i30, i60, i100, i200, i201, i300, i1500, i8000, iM, i_m6]); repeat (first | rw [zt_eq (by omega)] | rw [zt_ne (by omega) (by omega) (by omega)] | rw [zt_nle (by omega) (by omega)] | rw [zt_le (by omega) (by omega)] | rw [zt_nlt (by omega) (by omega)] | rw [zt_lt (by omega) (by omega)] | rw [zt_nm (by omega)] | rw [zt_mm] | rw [zt_ml] | rw [zt_0m] | rw [zt_m0] | rw [zt_n6 (by omega)] | rw [zt_66] | rw [zt_06] | simp (disch := omega) only [i0, i1, i2, i3, i4, i5, i6, i8, i16, i30, i60, i100, i200, i201, i300, i1500, i8000, iM, i_m6, nIa, nIp, nIs, sI_1, sI_22, sL_1, sL_21, sS_21, sS_22, sI_ne, sL_ne, sS_ne, sS_eq, sI_eq, sI_at, sL_eq, sL_at, Nat.add_zero, if_true, if_false] | rw [bV_e] | rw [pS_e] | rw [bI_s] | rw [bU_s] | rw [bL_s] | rw [gI_n (by omega) (by omega)] | rw [pI_n (by omega) (by omega)] | rw [gL_n (by omega) (by omega)] | rw [pL_n (by omega) (by omega)]))
  exact a
