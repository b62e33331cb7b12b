/-! the reference's rows of tokens: levels and terms laid out -/
theorem ln8 {f : Nat} (h : 367 ≤ f ∧ f ≤ 371) : 8000 ≤ ln f ∧ ln f < 2 ^ 31 := by
  have : f = 367 ∨ f = 368 ∨ f = 369 ∨ f = 370 ∨ f = 371 := by omega
  rcases this with q | q | q | q | q <;> subst q <;> decide
theorem rg8 {f : Nat} (h : 367 ≤ f) (j : Nat) : rg f j = f := by
  unfold rg
  rw [if_neg (by omega), if_neg (by omega), if_neg (by omega), if_neg (by omega), if_neg (by omega), if_neg (by omega), if_neg (by omega), if_neg (by omega)]
/-- nothing changes below a place of a row -/
def KP (f o : Nat) (S S' : St) : Prop := ∀ i, i < o → S'.2.1 f 0 i = S.2.1 f 0 i
theorem KP_rf {f o : Nat} {S : St} : KP f o S S := fun _ _ => rfl
theorem KP_tr {f o : Nat} {S S1 S2 : St} (h : KP f o S S1) (g : KP f o S1 S2) : KP f o S S2 := fun i hi => (g i hi).trans (h i hi)
theorem KP_mo {f o p : Nat} {S S1 : St} (h : KP f o S S1) (hp : p ≤ o) : KP f p S S1 := fun i hi => h i (by omega)
theorem KP_fr {f o : Nat} {S S1 : St} {R : List Nat} (g : FR R S S1) (h : rg f 0 ∉ R) : KP f o S S1 := fun i _ => by rw [(g f 0 h).2.1]
theorem KP_sg {f o p : Nat} {S S1 : St} {l : List Nat} (h : KP f o S S1) (hs : sg (S.2.1 f 0) p l) (hp : p + l.length ≤ o) : sg (S1.2.1 f 0) p l := sg_congr hs (fun k _ hk => h k (by omega))
theorem sg_fr {f p : Nat} {S S1 : St} {l : List Nat} {R : List Nat} (g : FR R S S1) (h : rg f 0 ∉ R) (hs : sg (S.2.1 f 0) p l) : sg (S1.2.1 f 0) p l := by rw [(g f 0 h).2.1]; exact hs
theorem stk_push {a : Nat → Int32} {st : List Nat} {v : Nat} (h : stk a st) : stk (upd a st.length (nI v)) (v :: st) := ⟨by simp [upd], stk_up h (Nat.le_refl _)⟩
def denL (L : List (List Nat)) (st : List Nat) : List Nat := st.flatMap (fun i => (L[i]?).getD [])
theorem denL_c {L : List (List Nat)} {i : Nat} {st l : List Nat} (h : L[i]? = some l) : denL L (i :: st) = l ++ denL L st := by
  unfold denL; rw [List.flatMap_cons, h]; rfl
theorem denL_len {L : List (List Nat)} (hL : LOk L) : ∀ {st : List Nat}, (∀ i ∈ st, i < L.length) → st.length ≤ (denL L st).length := by
  intro st
  induction st with
  | nil => intro _; exact Nat.zero_le _
  | cons i st ih =>
    intro h
    have hi := h i List.mem_cons_self
    have e := List.getElem?_eq_getElem hi
    have := ih (fun k hk => h k (List.mem_cons_of_mem _ hk))
    rw [denL_c e, List.length_append, List.length_cons]
    have l1 := hL.2.2.2.1 _ (List.getElem_mem hi)
    have : 1 ≤ (L[i]).length := by
      cases h9 : L[i] with
      | nil => rw [h9] at l1; exact l1.2.2.elim
      | cons a b => simp
    omega
theorem s_layLevel_l {n f : Nat} {L : List (List Nat)} (hL : LOk L) (hf : 367 ≤ f ∧ f ≤ 371) : ∀ (k m : Nat) (S : St) (st : List Nat) (o : Nat), (denL L st).length = k → k < m → k ≤ 50 → stk (S.2.1 378 0) st → (∀ i ∈ st, i < L.length) → LM S L → o + k ≤ ln f → ∃ S', l_X8_layLevel_13 n m S f (nI o) (nI st.length) = some (S', nI (o + k)) ∧ sg (S'.2.1 f 0) o (denL L st) ∧ KP f o S S' ∧ FR [378, f] S S' := by
  obtain ⟨hf1, hf2⟩ := ln8 hf
  intro k
  induction k with
  | zero =>
    intro m S st o hk hm hk5 hst hi hM ho
    have := denL_len hL hi
    have e : st = [] := List.length_eq_zero_iff.mp (by omega)
    subst e
    obtain ⟨m, rfl⟩ : ∃ m', m = m' + 1 := ⟨m - 1, by omega⟩
    refine ⟨S, ?_, ?_, KP_rf, FR_rf⟩
    · unfold l_X8_layLevel_13
      rfl
    · exact trivial
  | succ k ih =>
    intro m S st o hk hm hk5 hst hi hM ho
    obtain ⟨m, rfl⟩ : ∃ m', m = m' + 1 := ⟨m - 1, by omega⟩
    cases st with
    | nil => simp [denL] at hk
    | cons i st =>
      have hil := hi i List.mem_cons_self
      have hLl := hL.2.1
      obtain ⟨hM1, hM2⟩ := hM
      have e := List.getElem?_eq_getElem hil
      have hlv := hL.2.2.2.1 _ (List.getElem_mem hil)
      have hpr := hL.2.2.2.2 _ (List.getElem_mem hil)
      obtain ⟨c1, c2, c3, c4⟩ := hM2 i hil
      generalize hl : L[i] = l at *
      cases l with
      | nil => exact hlv.2.2.elim
      | cons t r =>
      obtain ⟨ok1, ok2⟩ := okL_c hlv.1
      obtain ⟨l0, l1, l2⟩ := lc_parts hlv.2.2
      have l3 := lv_sh hlv.2.2
      have hst2 := hst.2
      have hst1 : S.2.1 378 0 st.length = nI i := hst.1
      have hsl := denL_len hL (fun k hk => hi k (List.mem_cons_of_mem _ hk))
      have hd := denL_c (st := st) e
      rw [hd, List.length_append, List.length_cons] at hk
      rw [e1_c] at c2
      rw [e2_c] at c3
      have hpr' : (1 ≤ tp t → q1 (t :: r) ∈ L) ∧ (tp t = 2 → q2 (t :: r) ∈ L) := hpr
      have hist : ∀ k ∈ st, k < L.length := fun k hk => hi k (List.mem_cons_of_mem _ hk)
      -- the end of a turn
      have fin : ∀ (S1 : St) (st1 : List Nat), denL L st1 = r ++ denL L st → stk (S1.2.1 378 0) st1 → (∀ k ∈ st1, k < L.length) → S1.2.1 f 0 o = nI t → KP f o S S1 → FR [378, f] S S1 → ∃ S', l_X8_layLevel_13 n m S1 f (nI (o + 1)) (nI st1.length) = some (S', nI (o + (k + 1))) ∧ sg (S'.2.1 f 0) o (denL L (i :: st)) ∧ KP f o S S' ∧ FR [378, f] S S' := by
        intro S1 st1 h1 h2 h3 h4 h5 h6
        obtain ⟨S', a, b, c, d⟩ := ih m S1 st1 (o + 1) (by rw [h1, List.length_append]; omega) (by omega) (by omega) h2 h3 (LM_fr ⟨hM1, hM2⟩ h6 (by simp; omega)) (by omega)
        refine ⟨S', by rw [a]; congr 3; omega, ?_, KP_tr h5 (KP_mo c (by omega)), FR_tr h6 d⟩
        rw [hd]
        show sg _ o (t :: (r ++ denL L st))
        rw [← h1]
        exact ⟨(c o (by omega)).trans h4, b⟩
      have nf : f ≠ 378 := by omega
      unfold l_X8_layLevel_13
      by_cases t0 : tp t = 0
      · rw [if_pos t0] at c2
        have r0 := l0 t0
        have fin0 := fin (sI S f 0 o (nI t)) st (by rw [r0]; rfl) (by rw [sI_ne (by omega)]; exact hst2) hist (by rw [sI_eq]) (fun j hj => by rw [sI_at (by omega)]) (FR_sI FR_rf (by rw [rg8 (by omega)]; simp))
        rcases tp_0 t0 with q | q
        · subst q
          have c1' : S.2.1 351 0 i = nI 0 := c1
          ((try simp only [i0, i1, i2, i3, i4, i5, i6, i8, i16, i30, i60, i100, i200, i201, i300, i1500, i8000, iM, i_m6]); repeat (first | rw [zt_eq (by omega)] | rw [zt_ne (by omega) (by omega) (by omega)] | rw [zt_nle (by omega) (by omega)] | rw [zt_le (by omega) (by omega)] | rw [zt_nlt (by omega) (by omega)] | rw [zt_lt (by omega) (by omega)] | rw [zt_nm (by omega)] | rw [zt_mm] | rw [zt_ml] | rw [zt_0m] | rw [zt_m0] | rw [zt_n6 (by omega)] | rw [zt_66] | rw [zt_06] | simp (disch := omega) only [i0, i1, i2, i3, i4, i5, i6, i8, i16, i30, i60, i100, i200, i201, i300, i1500, i8000, iM, i_m6, nIa, nIp, nIs, sI_1, sI_22, sL_1, sL_21, sS_21, sS_22, sI_ne, sL_ne, sS_ne, sS_eq, sI_eq, sI_at, sL_eq, sL_at, Nat.add_zero, if_true, if_false, List.length_cons, Nat.add_sub_cancel, hst1, c1'] | rw [bV_e] | rw [pS_e] | rw [bI_s] | rw [bU_s] | rw [bL_s] | rw [gI_n (by omega) (by omega)] | rw [pI_n (by omega) (by omega)] | rw [gL_n (by omega) (by omega)] | rw [pL_n (by omega) (by omega)] | rw [j_X8_layLevel_63] | rw [j_X8_layLevel_89] | rw [j_X8_layLevel_106]))
          exact fin0
        · have c1' : S.2.1 351 0 i = nI 4 := by rw [c1, kd_c]; split
                                                · rfl
                                                · congr 1; omega
          rw [if_neg (by omega)] at c2
          ((try simp only [i0, i1, i2, i3, i4, i5, i6, i8, i16, i30, i60, i100, i200, i201, i300, i1500, i8000, iM, i_m6]); repeat (first | rw [zt_eq (by omega)] | rw [zt_ne (by omega) (by omega) (by omega)] | rw [zt_nle (by omega) (by omega)] | rw [zt_le (by omega) (by omega)] | rw [zt_nlt (by omega) (by omega)] | rw [zt_lt (by omega) (by omega)] | rw [zt_nm (by omega)] | rw [zt_mm] | rw [zt_ml] | rw [zt_0m] | rw [zt_m0] | rw [zt_n6 (by omega)] | rw [zt_66] | rw [zt_06] | simp (disch := omega) only [i0, i1, i2, i3, i4, i5, i6, i8, i16, i30, i60, i100, i200, i201, i300, i1500, i8000, iM, i_m6, nIa, nIp, nIs, sI_1, sI_22, sL_1, sL_21, sS_21, sS_22, sI_ne, sL_ne, sS_ne, sS_eq, sI_eq, sI_at, sL_eq, sL_at, Nat.add_zero, if_true, if_false, List.length_cons, Nat.add_sub_cancel, hst1, c1', c2] | rw [bV_e] | rw [pS_e] | rw [bI_s] | rw [bU_s] | rw [bL_s] | rw [gI_n (by omega) (by omega)] | rw [pI_n (by omega) (by omega)] | rw [gL_n (by omega) (by omega)] | rw [pL_n (by omega) (by omega)] | rw [j_X8_layLevel_63] | rw [j_X8_layLevel_89] | rw [j_X8_layLevel_106]))
          have : 4 + (t - 4) = t := by omega
          rw [this]
          exact fin0
      · rw [if_neg t0] at c2
        have hq1 := hpr'.1 (by omega)
        have g1 := ix_get hq1
        have hx1 := ix_lt hq1
        have kt : kd (t :: r) = t := by
          have h3 : t ≤ 3 := by
            have := tp_le t
            rcases (by omega : tp t = 1 ∨ tp t = 2) with q | q
            · have := tp_1 q; omega
            · have := tp_2 q; omega
          rw [kd_c, if_neg (by omega)]
        rw [kt] at c1
        have tv : t = 1 ∨ t = 2 ∨ t = 3 := by
          have := tp_le t
          rcases (by omega : tp t = 1 ∨ tp t = 2) with q | q
          · exact Or.inl (tp_1 q)
          · exact Or.inr (tp_2 q)
        by_cases t1 : tp t = 1
        · have := tp_1 t1
          subst this
          have fin1 := fin (sI (sI S f 0 o (nI 1)) 378 0 st.length (nI (ix L (q1 (1 :: r))))) (ix L (q1 (1 :: r)) :: st) (by rw [denL_c g1, ← l3.1 t1]) (by rw [sI_self]; exact stk_push (by rw [sI_ne (by omega)]; exact hst2)) (fun k hk => by
            rcases List.mem_cons.mp hk with z | z
            · rw [z]; exact hx1
            · exact hist k z) (by rw [sI_ne (by omega), sI_eq]) (fun j hj => by rw [sI_ne (by omega), sI_at (by omega)]) (FR_sI (FR_sI FR_rf (by rw [rg8 (by omega)]; simp)) (by rw [rg8 (by omega)]; simp))
          ((try simp only [i0, i1, i2, i3, i4, i5, i6, i8, i16, i30, i60, i100, i200, i201, i300, i1500, i8000, iM, i_m6]); repeat (first | rw [zt_eq (by omega)] | rw [zt_ne (by omega) (by omega) (by omega)] | rw [zt_nle (by omega) (by omega)] | rw [zt_le (by omega) (by omega)] | rw [zt_nlt (by omega) (by omega)] | rw [zt_lt (by omega) (by omega)] | rw [zt_nm (by omega)] | rw [zt_mm] | rw [zt_ml] | rw [zt_0m] | rw [zt_m0] | rw [zt_n6 (by omega)] | rw [zt_66] | rw [zt_06] | simp (disch := omega) only [i0, i1, i2, i3, i4, i5, i6, i8, i16, i30, i60, i100, i200, i201, i300, i1500, i8000, iM, i_m6, nIa, nIp, nIs, sI_1, sI_22, sL_1, sL_21, sS_21, sS_22, sI_ne, sL_ne, sS_ne, sS_eq, sI_eq, sI_at, sL_eq, sL_at, Nat.add_zero, if_true, if_false, List.length_cons, Nat.add_sub_cancel, hst1, c1, c2] | rw [bV_e] | rw [pS_e] | rw [bI_s] | rw [bU_s] | rw [bL_s] | rw [gI_n (by omega) (by omega)] | rw [pI_n (by omega) (by omega)] | rw [gL_n (by omega) (by omega)] | rw [pL_n (by omega) (by omega)] | rw [j_X8_layLevel_63] | rw [j_X8_layLevel_89] | rw [j_X8_layLevel_106]))
          exact fin1
        · have t2 : tp t = 2 := by have := tp_le t; omega
          have hq2 := hpr'.2 t2
          have g2 := ix_get hq2
          have hx2 := ix_lt hq2
          rw [if_pos t2] at c3
          have t23 := tp_2 t2
          have fin2 := fin (sI (sI (sI S f 0 o (nI t)) 378 0 st.length (nI (ix L (q2 (t :: r))))) 378 0 (st.length + 1) (nI (ix L (q1 (t :: r))))) (ix L (q1 (t :: r)) :: ix L (q2 (t :: r)) :: st) (by rw [denL_c g1, denL_c g2, ← List.append_assoc, ← l3.2 t2]) (by
              rw [sI_self]
              exact stk_push (st := ix L (q2 (t :: r)) :: st) (by rw [sI_self]; exact stk_push (by rw [sI_ne (by omega)]; exact hst2))) (fun k hk => by
            rcases List.mem_cons.mp hk with z | z
            · rw [z]; exact hx1
            · rcases List.mem_cons.mp z with z | z
              · rw [z]; exact hx2
              · exact hist k z) (by rw [sI_ne (by omega), sI_ne (by omega), sI_eq]) (fun j hj => by rw [sI_ne (by omega), sI_ne (by omega), sI_at (by omega)]) (FR_sI (FR_sI (FR_sI FR_rf (by rw [rg8 (by omega)]; simp)) (by rw [rg8 (by omega)]; simp)) (by rw [rg8 (by omega)]; simp))
          rcases t23 with q | q
          all_goals
            subst q
            ((try simp only [i0, i1, i2, i3, i4, i5, i6, i8, i16, i30, i60, i100, i200, i201, i300, i1500, i8000, iM, i_m6]); repeat (first | rw [zt_eq (by omega)] | rw [zt_ne (by omega) (by omega) (by omega)] | rw [zt_nle (by omega) (by omega)] | rw [zt_le (by omega) (by omega)] | rw [zt_nlt (by omega) (by omega)] | rw [zt_lt (by omega) (by omega)] | rw [zt_nm (by omega)] | rw [zt_mm] | rw [zt_ml] | rw [zt_0m] | rw [zt_m0] | rw [zt_n6 (by omega)] | rw [zt_66] | rw [zt_06] | simp (disch := omega) only [i0, i1, i2, i3, i4, i5, i6, i8, i16, i30, i60, i100, i200, i201, i300, i1500, i8000, iM, i_m6, nIa, nIp, nIs, sI_1, sI_22, sL_1, sL_21, sS_21, sS_22, sI_ne, sL_ne, sS_ne, sS_eq, sI_eq, sI_at, sL_eq, sL_at, Nat.add_zero, if_true, if_false, List.length_cons, Nat.add_sub_cancel, hst1, c1, c2, c3] | rw [bV_e] | rw [pS_e] | rw [bI_s] | rw [bU_s] | rw [bL_s] | rw [gI_n (by omega) (by omega)] | rw [pI_n (by omega) (by omega)] | rw [gL_n (by omega) (by omega)] | rw [pL_n (by omega) (by omega)] | rw [j_X8_layLevel_63] | rw [j_X8_layLevel_89] | rw [j_X8_layLevel_106]))
            exact fin2
theorem s_layLevel {n f o : Nat} {L : List (List Nat)} {S : St} {l : List Nat} (hL : LOk L) (hf : 367 ≤ f ∧ f ≤ 371) (hM : LM S L) (hl : l ∈ L) (ho : o + l.length ≤ ln f) (hn : 60 ≤ n) : ∃ S', f_X8_layLevel n S (nI (ix L l)) f (nI o) = some (S', nI (o + l.length)) ∧ sg (S'.2.1 f 0) o l ∧ KP f o S S' ∧ FR [378, f] S S' := by
  have e := ix_get hl
  have hd := denL_c (st := []) e
  have h16 := (hL.2.2.2.1 l hl).2.1
  have hi := ix_lt hl
  unfold f_X8_layLevel
  have e1 : denL L [ix L l] = l := by rw [hd]; exact List.append_nil l
  obtain ⟨S', a, b, c, d⟩ := s_layLevel_l (n := n) hL hf l.length n (sI S 378 0 0 (nI (ix L l))) [ix L l] o (by rw [e1]) (by omega) (by omega) (by rw [sI_self]; exact stk_push (st := []) trivial) (fun k hk => by rw [List.mem_singleton.mp hk]; exact hi) (LM_fr hM (R := [378]) (FR_sI FR_rf (by rw [rg8 (by omega)]; simp)) (by decide)) ho
  refine ⟨S', ?_, by rw [← e1]; exact b, KP_tr (fun j hj => by rw [sI_ne (by omega)]) c, FR_tr (FR_sI FR_rf (by rw [rg8 (by omega)]; simp)) d⟩
  ((try simp only [i0, i1, i2, i3, i4, i5, i6, i8, i16, i30, i60, i100, i200, i201, i300, i1500, i8000, iM, i_m6]); repeat (first | rw [zt_eq (by omega)] | rw [zt_ne (by omega) (by omega) (by omega)] | rw [zt_nle (by omega) (by omega)] | rw [zt_le (by omega) (by omega)] | rw [zt_nlt (by omega) (by omega)] | rw [zt_lt (by omega) (by omega)] | rw [zt_nm (by omega)] | rw [zt_mm] | rw [zt_ml] | rw [zt_0m] | rw [zt_m0] | rw [zt_n6 (by omega)] | rw [zt_66] | rw [zt_06] | simp (disch := omega) only [i0, i1, i2, i3, i4, i5, i6, i8, i16, i30, i60, i100, i200, i201, i300, i1500, i8000, iM, i_m6, nIa, nIp, nIs, sI_1, sI_22, sL_1, sL_21, sS_21, sS_22, sI_ne, sL_ne, sS_ne, sS_eq, sI_eq, sI_at, sL_eq, sL_at, Nat.add_zero, if_true, if_false] | rw [bV_e] | rw [pS_e] | rw [bI_s] | rw [bU_s] | rw [bL_s] | rw [gI_n (by omega) (by omega)] | rw [pI_n (by omega) (by omega)] | rw [gL_n (by omega) (by omega)] | rw [pL_n (by omega) (by omega)]))
  exact a
