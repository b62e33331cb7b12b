/-! the reference: how tokens are passed, what is written next -/
def mW (m : Mk) : Prop := m.1 ≤ 6 ∧ m.2.1 < 3000000 ∧ (m.1 = 0 → okL m.2.2.2.1 ∧ lc 1 m.2.2.2.1) ∧ (m.1 = 2 → (okL m.2.2.2.1 ∧ lc 1 m.2.2.2.1) ∧ okL m.2.2.2.2 ∧ lc 1 m.2.2.2.2) ∧ (m.1 ≠ 0 → m.1 ≠ 2 → m.2.2.2.1 = []) ∧ (m.1 ≠ 2 → m.2.2.2.2 = [])
theorem mV_mW {m : Mk} (h : mV m) : mW m := ⟨h.1.1, h.1.2.1, fun z => ⟨(h.2.1 z).1, (h.2.1 z).2.2⟩, fun z => ⟨⟨(h.2.2.1 z).1.1, (h.2.2.1 z).1.2.2⟩, (h.2.2.1 z).2.1, (h.2.2.1 z).2.2.2⟩, h.2.2.2.1, h.2.2.2.2.1⟩
theorem s_partsOf8 {n k : Nat} {S : St} (hk : k ≤ 6) : f_X8_partsOf n S (nI k) = some (S, nI (ar k)) := by
  have : k = 0 ∨ k = 1 ∨ k = 2 ∨ k = 3 ∨ k = 4 ∨ k = 5 ∨ k = 6 := by omega
  rcases this with q | q | q | q | q | q | q <;> subst q <;> rfl
theorem s_behindToken {n f o : Nat} {S : St} {m : Mk} (hf : 367 ≤ f ∧ f ≤ 371) (hm : mW m) (hs : sg (S.2.1 f 0) o (tks m)) (ho : o + (tks m).length ≤ ln f) (hn : (tks m).length < n) : f_X8_behindToken n S f (nI o) = some (S, nI (o + (tks m).length)) := by
  obtain ⟨hf1, hf2⟩ := ln8 hf
  obtain ⟨m6, mi, m0, m2, m3, m4⟩ := hm
  unfold f_X8_behindToken
  by_cases q0 : m.1 = 0
  · obtain ⟨a, b⟩ := m0 q0
    rw [tks_0 q0] at hs ho hn ⊢
    rw [List.length_cons] at ho hn ⊢
    obtain ⟨h1, h2⟩ := hs
    have := s_behindLevel (n := n) (S := S) hf2 a b h2 (by omega) (by omega)
    simp (maxSteps := 400000) (disch := omega) only [↓bV_e, ↓bI_s, ↓bL_s, ↓bU_s, ↓pS_e, ↓gI_n, ↓gL_n, ↓pI_n, ↓pL_n, ↓reduceIte, Nat.reduceEqDiff, Nat.reduceLeDiff, i0, i1, i2, i3, i4, i5, i6, i8, i16, i30, i60, i100, i200, i201, i300, i1500, i8000, iM, nIa, nIp, nIs, nIle, nIlt, nIeq, nImlt, nImle, nImeq, nImeq2, nI0le, bV_e, bI_s, bL_s, bU_s, pS_e, gI_n, gL_n, pI_n, pL_n, sI_1, sI_22, sL_1, sL_21, sS_21, sS_22, sI_ne, sL_ne, sS_ne, sS_eq, sI_eq, sI_at, sL_eq, sL_at, if_true, if_false, eq_self, Nat.add_zero, if_pos, if_neg, h1, this]
    congr 3; omega
  · by_cases q1 : m.1 = 1
    · rw [tks_1 q1] at hs ho ⊢
      simp only [List.length_cons, List.length_nil] at ho ⊢
      obtain ⟨h1, h2⟩ := hs
      simp (maxSteps := 400000) (disch := omega) only [↓bV_e, ↓bI_s, ↓bL_s, ↓bU_s, ↓pS_e, ↓gI_n, ↓gL_n, ↓pI_n, ↓pL_n, ↓reduceIte, Nat.reduceEqDiff, Nat.reduceLeDiff, i0, i1, i2, i3, i4, i5, i6, i8, i16, i30, i60, i100, i200, i201, i300, i1500, i8000, iM, nIa, nIp, nIs, nIle, nIlt, nIeq, nImlt, nImle, nImeq, nImeq2, nI0le, bV_e, bI_s, bL_s, bU_s, pS_e, gI_n, gL_n, pI_n, pL_n, sI_1, sI_22, sL_1, sL_21, sS_21, sS_22, sI_ne, sL_ne, sS_ne, sS_eq, sI_eq, sI_at, sL_eq, sL_at, if_true, if_false, eq_self, Nat.add_zero, if_pos, if_neg, h1]
    · by_cases q2 : m.1 = 2
      · obtain ⟨⟨a, b⟩, a', b'⟩ := m2 q2
        rw [tks_2 q2] at hs ho hn ⊢
        simp only [List.length_cons, List.length_append] at ho hn ⊢
        obtain ⟨h1, h2, h3⟩ := hs
        obtain ⟨h4, h5⟩ := sg_app.mp h3
        have e1 := s_behindLevel (n := n) (S := S) hf2 a b h4 (by omega) (by omega)
        have e2 := s_behindLevel (n := n) (S := S) hf2 a' b' h5 (by omega) (by omega)
        simp (maxSteps := 400000) (disch := omega) only [↓bV_e, ↓bI_s, ↓bL_s, ↓bU_s, ↓pS_e, ↓gI_n, ↓gL_n, ↓pI_n, ↓pL_n, ↓reduceIte, Nat.reduceEqDiff, Nat.reduceLeDiff, i0, i1, i2, i3, i4, i5, i6, i8, i16, i30, i60, i100, i200, i201, i300, i1500, i8000, iM, nIa, nIp, nIs, nIle, nIlt, nIeq, nImlt, nImle, nImeq, nImeq2, nI0le, bV_e, bI_s, bL_s, bU_s, pS_e, gI_n, gL_n, pI_n, pL_n, sI_1, sI_22, sL_1, sL_21, sS_21, sS_22, sI_ne, sL_ne, sS_ne, sS_eq, sI_eq, sI_at, sL_eq, sL_at, if_true, if_false, eq_self, Nat.add_zero, if_pos, if_neg, h1, e1, e2]
        congr 3; omega
      · rw [tks_3 (by omega)] at hs ho ⊢
        simp only [List.length_cons, List.length_nil] at ho ⊢
        obtain ⟨h1, h2⟩ := hs
        simp (maxSteps := 400000) (disch := omega) only [↓bV_e, ↓bI_s, ↓bL_s, ↓bU_s, ↓pS_e, ↓gI_n, ↓gL_n, ↓pI_n, ↓pL_n, ↓reduceIte, Nat.reduceEqDiff, Nat.reduceLeDiff, i0, i1, i2, i3, i4, i5, i6, i8, i16, i30, i60, i100, i200, i201, i300, i1500, i8000, iM, nIa, nIp, nIs, nIle, nIlt, nIeq, nImlt, nImle, nImeq, nImeq2, nI0le, bV_e, bI_s, bL_s, bU_s, pS_e, gI_n, gL_n, pI_n, pL_n, sI_1, sI_22, sL_1, sL_21, sS_21, sS_22, sI_ne, sL_ne, sS_ne, sS_eq, sI_eq, sI_at, sL_eq, sL_at, if_true, if_false, eq_self, Nat.add_zero, if_pos, if_neg, h1]
theorem sg_h {a : Nat → Int32} {o : Nat} {m : Mk} {l : List Nat} (h : sg a o (tks m ++ l)) : a o = nI m.1 := by
  obtain ⟨r, e⟩ := tks_h m
  rw [e] at h
  exact h.1
theorem s_behindTerm_l {n f : Nat} {S : St} (hf : 367 ≤ f ∧ f ≤ 371) : ∀ (x : List Mk) (a : List Nat) (o mm : Nat), run a x = some [] → (∀ m ∈ x, mW m) → sg (S.2.1 f 0) o (flt x) → o + (flt x).length ≤ ln f → (flt x).length < n → x.length < mm → l_X8_behindTerm_4 n mm S f (nI o) (nI a.length) = some (S, nI (o + (flt x).length)) := by
  obtain ⟨hf1, hf2⟩ := ln8 hf
  intro x
  induction x with
  | nil =>
    intro a o mm hr hm hs ho hn hmm
    obtain ⟨mm, rfl⟩ : ∃ y, mm = y + 1 := ⟨mm - 1, by omega⟩
    rw [run_nil] at hr
    cases hr
    rfl
  | cons m r ih =>
    intro a o mm hr hm hs ho hn hmm
    obtain ⟨mm, rfl⟩ : ∃ y, mm = y + 1 := ⟨mm - 1, by omega⟩
    have hle := run_le hr
    have hge := flt_ge (m :: r)
    obtain ⟨s, rfl, hr2⟩ := run_cc hr
    rw [flt_c] at hs ho hn hge ⊢
    have hk := sg_h hs
    obtain ⟨h1, h2⟩ := sg_app.mp hs
    rw [List.length_append] at ho hn hge ⊢
    have hm1 := hm m List.mem_cons_self
    have e1 := s_behindToken (n := n) hf hm1 h1 (by omega) (by omega)
    have e2 := ih (kids m.1 m.2.2.1 ++ s) (o + (tks m).length) mm hr2 (fun y hy => hm y (List.mem_cons_of_mem _ hy)) h2 (by omega) (by omega) (by rw [List.length_cons] at hmm; omega)
    rw [List.length_append, kids_len] at e2
    unfold l_X8_behindTerm_4
    have e3 : nI (s.length + 1) + (nI (ar m.1) - 1) = nI (s.length + ar m.1) := by rw [nI_succ, ad1, nI_add]
    have h6 := hm1.1
    rw [List.length_cons] at hle ⊢
    rw [if_neg (show ¬ nI (s.length + 1) ≤ 0 from nI_nle (by omega) (by omega)), gI_n (by omega) (by omega), hk, s_partsOf8 h6, bI_s, bV_e, e1, bI_s, e3, Nat.add_comm s.length, e2]
    congr 3; omega
theorem s_behindTerm {n f o : Nat} {S : St} {x : List Mk} {d : Nat} (hf : 367 ≤ f ∧ f ≤ 371) (hr : run [d] x = some []) (hm : ∀ m ∈ x, mW m) (hs : sg (S.2.1 f 0) o (flt x)) (ho : o + (flt x).length ≤ ln f) (hn : (flt x).length < n) : f_X8_behindTerm n S f (nI o) = some (S, nI (o + (flt x).length)) :=
  s_behindTerm_l hf x [d] o n hr hm hs ho hn (by have := flt_ge x; omega)
/-- what is written next: as long as there is room -/
def NXT (S : St) (c : List Nat) : Prop := if c.length ≤ 8000 then (S.1 380 0 = nI 0 ∧ S.1 373 0 = nI c.length ∧ sg (S.2.1 369 0) 0 c) else (S.1 380 0 = nI 1 ∧ S.1 373 0 = nI 8000)
def NR : List Nat := [369, 373, 380]
theorem NXT_ok {S : St} {c : List Nat} (h : NXT S c) (hc : c.length ≤ 8000) : S.1 380 0 = nI 0 ∧ S.1 373 0 = nI c.length ∧ sg (S.2.1 369 0) 0 c := by unfold NXT at h; rw [if_pos hc] at h; exact h
theorem NXT_w {S : St} {c : List Nat} (h : NXT S c) (hc : ¬ c.length ≤ 8000) : S.1 380 0 = nI 1 ∧ S.1 373 0 = nI 8000 := by unfold NXT at h; rw [if_neg hc] at h; exact h
theorem NXT_i {S : St} {c : List Nat} (hc : c.length ≤ 8000) (h : S.1 380 0 = nI 0 ∧ S.1 373 0 = nI c.length ∧ sg (S.2.1 369 0) 0 c) : NXT S c := by unfold NXT; rw [if_pos hc]; exact h
theorem NXT_j {S : St} {c : List Nat} (hc : ¬ c.length ≤ 8000) (h : S.1 380 0 = nI 1 ∧ S.1 373 0 = nI 8000) : NXT S c := by unfold NXT; rw [if_neg hc]; exact h
theorem NXT_mo {S : St} {c l : List Nat} (h : NXT S c) (hc : ¬ c.length ≤ 8000) : NXT S (c ++ l) := NXT_j (by rw [List.length_append]; omega) (NXT_w h hc)
theorem NXT_fr {S S' : St} {R : List Nat} {c : List Nat} (h : NXT S c) (g : FR R S S') (h1 : 369 ∉ R) (h2 : 373 ∉ R) (h3 : 380 ∉ R) : NXT S' c := by
  unfold NXT at h ⊢
  rw [(g 380 0 (by rw [rg8 (by omega)]; exact h3)).1, (g 373 0 (by rw [rg8 (by omega)]; exact h2)).1, (g 369 0 (by rw [rg8 (by omega)]; exact h1)).2.1]
  exact h
theorem NXT_0 {S : St} : NXT (sS (sS S 373 0 (nI 0)) 380 0 (nI 0)) [] := NXT_i (by simp) ⟨sS_eq, by rw [sS_ne (by omega), sS_eq]; rfl, trivial⟩
theorem s_put {n x : Nat} {S : St} {c : List Nat} {v : Int32} (h : NXT S c) (hv : v = nI x) : ∃ S', f_X8_put n S v = some S' ∧ NXT S' (c ++ [x]) ∧ FR NR S S' := by
  subst hv
  have r1 : ∀ g, g = 369 ∨ g = 373 ∨ g = 380 → rg g 0 ∈ NR := fun g hg => by rw [rg8 (by omega)]; rcases hg with q | q | q <;> subst q <;> decide
  unfold f_X8_put
  by_cases hc : c.length ≤ 8000
  · obtain ⟨h1, h2, h3⟩ := NXT_ok h hc
    by_cases h8 : c.length = 8000
    · refine ⟨sS S 380 0 (nI 1), ?_, NXT_j (by rw [List.length_append, List.length_singleton]; omega) ⟨sS_eq, by rw [sS_ne (by omega), h2, h8]⟩, FR_sS FR_rf (r1 _ (by omega))⟩
      simp (maxSteps := 400000) (disch := omega) only [↓bV_e, ↓bI_s, ↓bL_s, ↓bU_s, ↓pS_e, ↓gI_n, ↓gL_n, ↓pI_n, ↓pL_n, ↓reduceIte, Nat.reduceEqDiff, Nat.reduceLeDiff, i0, i1, i2, i3, i4, i5, i6, i8, i16, i30, i60, i100, i200, i201, i300, i1500, i8000, iM, nIa, nIp, nIs, nIle, nIlt, nIeq, nImlt, nImle, nImeq, nImeq2, nI0le, bV_e, bI_s, bL_s, bU_s, pS_e, gI_n, gL_n, pI_n, pL_n, sI_1, sI_22, sL_1, sL_21, sS_21, sS_22, sI_ne, sL_ne, sS_ne, sS_eq, sI_eq, sI_at, sL_eq, sL_at, if_true, if_false, eq_self, Nat.add_zero, if_pos, if_neg, h2, h8]
    · refine ⟨sS (sI S 369 0 c.length (nI x)) 373 0 (nI (c.length + 1)), ?_, NXT_i (by rw [List.length_append, List.length_singleton]; omega) ⟨?_, ?_, ?_⟩, FR_sS (FR_sI FR_rf (r1 _ (by omega))) (r1 _ (by omega))⟩
      · simp (maxSteps := 400000) (disch := omega) only [↓bV_e, ↓bI_s, ↓bL_s, ↓bU_s, ↓pS_e, ↓gI_n, ↓gL_n, ↓pI_n, ↓pL_n, ↓reduceIte, Nat.reduceEqDiff, Nat.reduceLeDiff, i0, i1, i2, i3, i4, i5, i6, i8, i16, i30, i60, i100, i200, i201, i300, i1500, i8000, iM, nIa, nIp, nIs, nIle, nIlt, nIeq, nImlt, nImle, nImeq, nImeq2, nI0le, bV_e, bI_s, bL_s, bU_s, pS_e, gI_n, gL_n, pI_n, pL_n, sI_1, sI_22, sL_1, sL_21, sS_21, sS_22, sI_ne, sL_ne, sS_ne, sS_eq, sI_eq, sI_at, sL_eq, sL_at, if_true, if_false, eq_self, Nat.add_zero, if_pos, if_neg, h2, h8]
      · rw [sS_ne (by omega), sI_1, h1]
      · rw [sS_eq, List.length_append, List.length_singleton]
      · rw [sS_21, sI_self]
        refine sg_app.mpr ⟨sg_up h3 (by omega), ?_, trivial⟩
        rw [Nat.zero_add]; simp [upd]
  · obtain ⟨h1, h2⟩ := NXT_w h hc
    refine ⟨sS S 380 0 (nI 1), ?_, NXT_j (by rw [List.length_append, List.length_singleton]; omega) ⟨sS_eq, by rw [sS_ne (by omega), h2]⟩, FR_sS FR_rf (r1 _ (by omega))⟩
    simp (maxSteps := 400000) (disch := omega) only [↓bV_e, ↓bI_s, ↓bL_s, ↓bU_s, ↓pS_e, ↓gI_n, ↓gL_n, ↓pI_n, ↓pL_n, ↓reduceIte, Nat.reduceEqDiff, Nat.reduceLeDiff, i0, i1, i2, i3, i4, i5, i6, i8, i16, i30, i60, i100, i200, i201, i300, i1500, i8000, iM, nIa, nIp, nIs, nIle, nIlt, nIeq, nImlt, nImle, nImeq, nImeq2, nI0le, bV_e, bI_s, bL_s, bU_s, pS_e, gI_n, gL_n, pI_n, pL_n, sI_1, sI_22, sL_1, sL_21, sS_21, sS_22, sI_ne, sL_ne, sS_ne, sS_eq, sI_eq, sI_at, sL_eq, sL_at, if_true, if_false, eq_self, Nat.add_zero, if_pos, if_neg, h2]
theorem s_copy_l {n f : Nat} (hf : 367 ≤ f ∧ f ≤ 371) (hne : f ≠ 369) : ∀ (l : List Nat) (o mm e : Nat) (S : St) (c : List Nat), sg (S.2.1 f 0) o l → NXT S c → e = o + l.length → e ≤ ln f → l.length < mm → ∃ S', l_X8_copy_3 n mm S f (nI e) (nI o) = some S' ∧ NXT S' (c ++ l) ∧ FR NR S S' := by
  obtain ⟨hf1, hf2⟩ := ln8 hf
  intro l
  induction l with
  | nil =>
    intro o mm e S c hs h he hl hm
    obtain ⟨mm, rfl⟩ : ∃ y, mm = y + 1 := ⟨mm - 1, by omega⟩
    refine ⟨S, ?_, by rw [List.append_nil]; exact h, FR_rf⟩
    unfold l_X8_copy_3
    rw [List.length_nil] at he
    simp (maxSteps := 400000) (disch := omega) only [↓bV_e, ↓bI_s, ↓bL_s, ↓bU_s, ↓pS_e, ↓gI_n, ↓gL_n, ↓pI_n, ↓pL_n, ↓reduceIte, Nat.reduceEqDiff, Nat.reduceLeDiff, i0, i1, i2, i3, i4, i5, i6, i8, i16, i30, i60, i100, i200, i201, i300, i1500, i8000, iM, nIa, nIp, nIs, nIle, nIlt, nIeq, nImlt, nImle, nImeq, nImeq2, nI0le, bV_e, bI_s, bL_s, bU_s, pS_e, gI_n, gL_n, pI_n, pL_n, sI_1, sI_22, sL_1, sL_21, sS_21, sS_22, sI_ne, sL_ne, sS_ne, sS_eq, sI_eq, sI_at, sL_eq, sL_at, if_true, if_false, eq_self, Nat.add_zero, if_pos, if_neg]
  | cons x l ih =>
    intro o mm e S c hs h he hl hm
    obtain ⟨mm, rfl⟩ : ∃ y, mm = y + 1 := ⟨mm - 1, by omega⟩
    obtain ⟨h1, h2⟩ := hs
    rw [List.length_cons] at he hm
    unfold l_X8_copy_3
    by_cases hc : c.length ≤ 8000
    · obtain ⟨w1, w2, w3⟩ := NXT_ok h hc
      obtain ⟨S1, a, b, d⟩ := s_put (n := n) h h1
      obtain ⟨S2, a', b', d'⟩ := ih (o + 1) mm e S1 (c ++ [x]) (sg_fr d (by rw [rg8 (by omega)]; simp [NR]; omega) h2) b (by omega) hl (by omega)
      refine ⟨S2, ?_, by rw [List.append_assoc] at b'; exact b', FR_tr d d'⟩
      simp (maxSteps := 400000) (disch := omega) only [↓bV_e, ↓bI_s, ↓bL_s, ↓bU_s, ↓pS_e, ↓gI_n, ↓gL_n, ↓pI_n, ↓pL_n, ↓reduceIte, Nat.reduceEqDiff, Nat.reduceLeDiff, i0, i1, i2, i3, i4, i5, i6, i8, i16, i30, i60, i100, i200, i201, i300, i1500, i8000, iM, nIa, nIp, nIs, nIle, nIlt, nIeq, nImlt, nImle, nImeq, nImeq2, nI0le, bV_e, bI_s, bL_s, bU_s, pS_e, gI_n, gL_n, pI_n, pL_n, sI_1, sI_22, sL_1, sL_21, sS_21, sS_22, sI_ne, sL_ne, sS_ne, sS_eq, sI_eq, sI_at, sL_eq, sL_at, if_true, if_false, eq_self, Nat.add_zero, if_pos, if_neg, w1, a]
      exact a'
    · obtain ⟨w1, w2⟩ := NXT_w h hc
      refine ⟨S, ?_, NXT_mo h hc, FR_rf⟩
      simp (maxSteps := 400000) (disch := omega) only [↓bV_e, ↓bI_s, ↓bL_s, ↓bU_s, ↓pS_e, ↓gI_n, ↓gL_n, ↓pI_n, ↓pL_n, ↓reduceIte, Nat.reduceEqDiff, Nat.reduceLeDiff, i0, i1, i2, i3, i4, i5, i6, i8, i16, i30, i60, i100, i200, i201, i300, i1500, i8000, iM, nIa, nIp, nIs, nIle, nIlt, nIeq, nImlt, nImle, nImeq, nImeq2, nI0le, bV_e, bI_s, bL_s, bU_s, pS_e, gI_n, gL_n, pI_n, pL_n, sI_1, sI_22, sL_1, sL_21, sS_21, sS_22, sI_ne, sL_ne, sS_ne, sS_eq, sI_eq, sI_at, sL_eq, sL_at, if_true, if_false, eq_self, Nat.add_zero, if_pos, if_neg, w1]
theorem s_copy {n f o e : Nat} {S : St} {c l : List Nat} (hf : 367 ≤ f ∧ f ≤ 371) (hne : f ≠ 369) (hs : sg (S.2.1 f 0) o l) (h : NXT S c) (he : e = o + l.length) (hl : e ≤ ln f) (hn : l.length < n) : ∃ S', f_X8_copy n S f (nI o) (nI e) = some S' ∧ NXT S' (c ++ l) ∧ FR NR S S' := s_copy_l hf hne l o n e S c hs h he hl hn
/-! does it fit -/
def fitB (x : List Mk) : Bool := decide (x.length ≤ 200) && x.all f16
theorem s_fits_l {n f : Nat} {S : St} (hf : 367 ≤ f ∧ f ≤ 371) : ∀ (x : List Mk) (o mm k e : Nat), (∀ m ∈ x, mW m) → sg (S.2.1 f 0) o (flt x) → e = o + (flt x).length → e ≤ ln f → (flt x).length < n → x.length < mm → k ≤ 200 → l_X8_fits_8 n mm S f (nI e) (nI k) (nI 1) (nI o) = some (S, if k + x.length ≤ 200 ∧ x.all f16 = true then nI 1 else nI 0) := by
  obtain ⟨hf1, hf2⟩ := ln8 hf
  intro x
  induction x with
  | nil =>
    intro o mm k e hm hs he ho hn hmm hk
    obtain ⟨mm, rfl⟩ : ∃ y, mm = y + 1 := ⟨mm - 1, by omega⟩
    rw [flt_n, List.length_nil] at he
    unfold l_X8_fits_8
    simp (maxSteps := 400000) (disch := omega) only [↓bV_e, ↓bI_s, ↓bL_s, ↓bU_s, ↓pS_e, ↓gI_n, ↓gL_n, ↓pI_n, ↓pL_n, ↓reduceIte, Nat.reduceEqDiff, Nat.reduceLeDiff, i0, i1, i2, i3, i4, i5, i6, i8, i16, i30, i60, i100, i200, i201, i300, i1500, i8000, iM, nIa, nIp, nIs, nIle, nIlt, nIeq, nImlt, nImle, nImeq, nImeq2, nI0le, bV_e, bI_s, bL_s, bU_s, pS_e, gI_n, gL_n, pI_n, pL_n, sI_1, sI_22, sL_1, sL_21, sS_21, sS_22, sI_ne, sL_ne, sS_ne, sS_eq, sI_eq, sI_at, sL_eq, sL_at, if_true, if_false, eq_self, Nat.add_zero, if_pos, if_neg]
    rw [if_pos ⟨by simpa using hk, rfl⟩]
  | cons m r ih =>
    intro o mm k e hm hs he ho hn hmm hk
    obtain ⟨mm, rfl⟩ : ∃ y, mm = y + 1 := ⟨mm - 1, by omega⟩
    rw [List.length_cons] at hmm
    rw [flt_c] at hs he hn
    have hk0 := sg_h hs
    obtain ⟨h1, h2⟩ := sg_app.mp hs
    rw [List.length_append] at he hn
    have hm1 := hm m List.mem_cons_self
    have tp := tks_pos m
    have e1 := s_behindToken (n := n) hf hm1 h1 (by omega) (by omega)
    -- the turn's end
    have fin1 : k + 1 ≤ 200 → f16 m = true → l_X8_fits_8 n mm S f (nI e) (nI (k + 1)) (nI 1) (nI (o + (tks m).length)) = some (S, if k + (m :: r).length ≤ 200 ∧ (m :: r).all f16 = true then nI 1 else nI 0) := by
      intro hk1 hf16
      rw [ih (o + (tks m).length) mm (k + 1) e (fun y hy => hm y (List.mem_cons_of_mem _ hy)) h2 (by omega) ho (by omega) (by omega) hk1]
      congr 2
      rw [List.length_cons, List.all_cons, hf16, Bool.true_and]
      by_cases z : k + 1 + r.length ≤ 200 ∧ r.all f16 = true
      · rw [if_pos z, if_pos ⟨by omega, z.2⟩]
      · rw [if_neg z, if_neg (fun w => z ⟨by omega, w.2⟩)]
    have fin0 : ¬ (k + 1 ≤ 200 ∧ f16 m = true) → l_X8_fits_8 n mm S f (nI e) (nI (k + 1)) (nI 0) (nI (o + (tks m).length)) = some (S, if k + (m :: r).length ≤ 200 ∧ (m :: r).all f16 = true then nI 1 else nI 0) := by
      intro z
      obtain ⟨mm, rfl⟩ : ∃ y, mm = y + 1 := ⟨mm - 1, by omega⟩
      unfold l_X8_fits_8
      rw [if_neg (c := k + (m :: r).length ≤ 200 ∧ (m :: r).all f16 = true)]
      · by_cases z2 : nI e ≤ nI (o + (tks m).length)
        · rw [if_pos z2]
        · rw [if_neg z2]; rfl
      · rintro ⟨w1, w2⟩
        rw [List.length_cons] at w1
        rw [List.all_cons, Bool.and_eq_true] at w2
        exact z ⟨by omega, w2.1⟩
    obtain ⟨m6, mi, m0, m2, m3, m4⟩ := hm1
    unfold l_X8_fits_8
    by_cases q0 : m.1 = 0
    · obtain ⟨a, b⟩ := m0 q0
      have tk0 := tks_0 q0
      rw [tk0] at h1
      obtain ⟨h3, h4⟩ := h1
      have tkl : (tks m).length = m.2.2.2.1.length + 1 := by rw [tk0]; rfl
      have e2 := s_behindLevel (n := n) (S := S) hf2 a b h4 (by omega) (by omega)
      have f1 : f16 m = decide (m.2.2.2.1.length ≤ 16) := by unfold f16; rw [m4 (by omega)]; simp
      unfold j_X8_fits_52 j_X8_fits_69 j_X8_fits_92 j_X8_fits_93 j_X8_fits_122 j_X8_fits_126 j_X8_fits_127
      by_cases z1 : k + 1 ≤ 200
      · by_cases z2 : m.2.2.2.1.length ≤ 16
        · have g := fin1 z1 (by rw [f1]; simpa using z2)
          simp (maxSteps := 400000) (disch := omega) only [↓bV_e, ↓bI_s, ↓bL_s, ↓bU_s, ↓pS_e, ↓gI_n, ↓gL_n, ↓pI_n, ↓pL_n, ↓reduceIte, Nat.reduceEqDiff, Nat.reduceLeDiff, i0, i1, i2, i3, i4, i5, i6, i8, i16, i30, i60, i100, i200, i201, i300, i1500, i8000, iM, nIa, nIp, nIs, nIle, nIlt, nIeq, nImlt, nImle, nImeq, nImeq2, nI0le, bV_e, bI_s, bL_s, bU_s, pS_e, gI_n, gL_n, pI_n, pL_n, sI_1, sI_22, sL_1, sL_21, sS_21, sS_22, sI_ne, sL_ne, sS_ne, sS_eq, sI_eq, sI_at, sL_eq, sL_at, if_true, if_false, eq_self, Nat.add_zero, if_pos, if_neg, hk0, q0, e2, Nat.add_sub_cancel_left, e1]
          exact g
        · have g := fin0 (by rw [f1]; simp; omega)
          simp (maxSteps := 400000) (disch := omega) only [↓bV_e, ↓bI_s, ↓bL_s, ↓bU_s, ↓pS_e, ↓gI_n, ↓gL_n, ↓pI_n, ↓pL_n, ↓reduceIte, Nat.reduceEqDiff, Nat.reduceLeDiff, i0, i1, i2, i3, i4, i5, i6, i8, i16, i30, i60, i100, i200, i201, i300, i1500, i8000, iM, nIa, nIp, nIs, nIle, nIlt, nIeq, nImlt, nImle, nImeq, nImeq2, nI0le, bV_e, bI_s, bL_s, bU_s, pS_e, gI_n, gL_n, pI_n, pL_n, sI_1, sI_22, sL_1, sL_21, sS_21, sS_22, sI_ne, sL_ne, sS_ne, sS_eq, sI_eq, sI_at, sL_eq, sL_at, if_true, if_false, eq_self, Nat.add_zero, if_pos, if_neg, hk0, q0, e2, Nat.add_sub_cancel_left, e1]
          exact g
      · have g := fin0 (by omega)
        simp (maxSteps := 400000) (disch := omega) only [↓bV_e, ↓bI_s, ↓bL_s, ↓bU_s, ↓pS_e, ↓gI_n, ↓gL_n, ↓pI_n, ↓pL_n, ↓reduceIte, Nat.reduceEqDiff, Nat.reduceLeDiff, i0, i1, i2, i3, i4, i5, i6, i8, i16, i30, i60, i100, i200, i201, i300, i1500, i8000, iM, nIa, nIp, nIs, nIle, nIlt, nIeq, nImlt, nImle, nImeq, nImeq2, nI0le, bV_e, bI_s, bL_s, bU_s, pS_e, gI_n, gL_n, pI_n, pL_n, sI_1, sI_22, sL_1, sL_21, sS_21, sS_22, sI_ne, sL_ne, sS_ne, sS_eq, sI_eq, sI_at, sL_eq, sL_at, if_true, if_false, eq_self, Nat.add_zero, if_pos, if_neg, hk0, q0, e2, Nat.add_sub_cancel_left, e1]
        exact g
    · by_cases q2 : m.1 = 2
      · obtain ⟨⟨a, b⟩, a', b'⟩ := m2 q2
        have tk0 := tks_2 q2
        rw [tk0] at h1
        obtain ⟨h3, h3', h4⟩ := h1
        obtain ⟨h4, h5⟩ := sg_app.mp h4
        have tkl : (tks m).length = m.2.2.2.1.length + m.2.2.2.2.length + 2 := by rw [tk0]; simp only [List.length_cons, List.length_append]
        have e2 := s_behindLevel (n := n) (S := S) hf2 a b h4 (by omega) (by omega)
        have e3 := s_behindLevel (n := n) (S := S) hf2 a' b' h5 (by omega) (by omega)
        rw [show o + 1 + 1 = o + 2 by omega] at e2 e3
        have f1 : f16 m = decide (m.2.2.2.1.length ≤ 16 ∧ m.2.2.2.2.length ≤ 16) := rfl
        unfold j_X8_fits_52 j_X8_fits_69 j_X8_fits_92 j_X8_fits_93 j_X8_fits_122 j_X8_fits_126 j_X8_fits_127
        by_cases z1 : k + 1 ≤ 200
        · by_cases z2 : m.2.2.2.1.length ≤ 16
          · by_cases z3 : m.2.2.2.2.length ≤ 16
            · have g := fin1 z1 (by rw [f1]; simp; omega)
              simp (maxSteps := 400000) (disch := omega) only [↓bV_e, ↓bI_s, ↓bL_s, ↓bU_s, ↓pS_e, ↓gI_n, ↓gL_n, ↓pI_n, ↓pL_n, ↓reduceIte, Nat.reduceEqDiff, Nat.reduceLeDiff, i0, i1, i2, i3, i4, i5, i6, i8, i16, i30, i60, i100, i200, i201, i300, i1500, i8000, iM, nIa, nIp, nIs, nIle, nIlt, nIeq, nImlt, nImle, nImeq, nImeq2, nI0le, bV_e, bI_s, bL_s, bU_s, pS_e, gI_n, gL_n, pI_n, pL_n, sI_1, sI_22, sL_1, sL_21, sS_21, sS_22, sI_ne, sL_ne, sS_ne, sS_eq, sI_eq, sI_at, sL_eq, sL_at, if_true, if_false, eq_self, Nat.add_zero, if_pos, if_neg, hk0, q2, e2, e3, Nat.add_sub_cancel_left, e1]
              exact g
            · have g := fin0 (by rw [f1]; simp; omega)
              simp (maxSteps := 400000) (disch := omega) only [↓bV_e, ↓bI_s, ↓bL_s, ↓bU_s, ↓pS_e, ↓gI_n, ↓gL_n, ↓pI_n, ↓pL_n, ↓reduceIte, Nat.reduceEqDiff, Nat.reduceLeDiff, i0, i1, i2, i3, i4, i5, i6, i8, i16, i30, i60, i100, i200, i201, i300, i1500, i8000, iM, nIa, nIp, nIs, nIle, nIlt, nIeq, nImlt, nImle, nImeq, nImeq2, nI0le, bV_e, bI_s, bL_s, bU_s, pS_e, gI_n, gL_n, pI_n, pL_n, sI_1, sI_22, sL_1, sL_21, sS_21, sS_22, sI_ne, sL_ne, sS_ne, sS_eq, sI_eq, sI_at, sL_eq, sL_at, if_true, if_false, eq_self, Nat.add_zero, if_pos, if_neg, hk0, q2, e2, e3, Nat.add_sub_cancel_left, e1]
              exact g
          · have g := fin0 (by rw [f1]; simp; omega)
            simp (maxSteps := 400000) (disch := omega) only [↓bV_e, ↓bI_s, ↓bL_s, ↓bU_s, ↓pS_e, ↓gI_n, ↓gL_n, ↓pI_n, ↓pL_n, ↓reduceIte, Nat.reduceEqDiff, Nat.reduceLeDiff, i0, i1, i2, i3, i4, i5, i6, i8, i16, i30, i60, i100, i200, i201, i300, i1500, i8000, iM, nIa, nIp, nIs, nIle, nIlt, nIeq, nImlt, nImle, nImeq, nImeq2, nI0le, bV_e, bI_s, bL_s, bU_s, pS_e, gI_n, gL_n, pI_n, pL_n, sI_1, sI_22, sL_1, sL_21, sS_21, sS_22, sI_ne, sL_ne, sS_ne, sS_eq, sI_eq, sI_at, sL_eq, sL_at, if_true, if_false, eq_self, Nat.add_zero, if_pos, if_neg, hk0, q2, e2, e3, Nat.add_sub_cancel_left, e1]
            exact g
        · have g := fin0 (by omega)
          simp (maxSteps := 400000) (disch := omega) only [↓bV_e, ↓bI_s, ↓bL_s, ↓bU_s, ↓pS_e, ↓gI_n, ↓gL_n, ↓pI_n, ↓pL_n, ↓reduceIte, Nat.reduceEqDiff, Nat.reduceLeDiff, i0, i1, i2, i3, i4, i5, i6, i8, i16, i30, i60, i100, i200, i201, i300, i1500, i8000, iM, nIa, nIp, nIs, nIle, nIlt, nIeq, nImlt, nImle, nImeq, nImeq2, nI0le, bV_e, bI_s, bL_s, bU_s, pS_e, gI_n, gL_n, pI_n, pL_n, sI_1, sI_22, sL_1, sL_21, sS_21, sS_22, sI_ne, sL_ne, sS_ne, sS_eq, sI_eq, sI_at, sL_eq, sL_at, if_true, if_false, eq_self, Nat.add_zero, if_pos, if_neg, hk0, q2, e2, e3, Nat.add_sub_cancel_left, e1]
          exact g
      · have f1 : f16 m = true := by unfold f16; rw [m4 (by omega), m3 q0 q2]; simp
        unfold j_X8_fits_52 j_X8_fits_69 j_X8_fits_92 j_X8_fits_93 j_X8_fits_122 j_X8_fits_126 j_X8_fits_127
        by_cases z1 : k + 1 ≤ 200
        · have g := fin1 z1 f1
          simp (maxSteps := 400000) (disch := omega) only [↓bV_e, ↓bI_s, ↓bL_s, ↓bU_s, ↓pS_e, ↓gI_n, ↓gL_n, ↓pI_n, ↓pL_n, ↓reduceIte, Nat.reduceEqDiff, Nat.reduceLeDiff, i0, i1, i2, i3, i4, i5, i6, i8, i16, i30, i60, i100, i200, i201, i300, i1500, i8000, iM, nIa, nIp, nIs, nIle, nIlt, nIeq, nImlt, nImle, nImeq, nImeq2, nI0le, bV_e, bI_s, bL_s, bU_s, pS_e, gI_n, gL_n, pI_n, pL_n, sI_1, sI_22, sL_1, sL_21, sS_21, sS_22, sI_ne, sL_ne, sS_ne, sS_eq, sI_eq, sI_at, sL_eq, sL_at, if_true, if_false, eq_self, Nat.add_zero, if_pos, if_neg, hk0, e1]
          exact g
        · have g := fin0 (by omega)
          simp (maxSteps := 400000) (disch := omega) only [↓bV_e, ↓bI_s, ↓bL_s, ↓bU_s, ↓pS_e, ↓gI_n, ↓gL_n, ↓pI_n, ↓pL_n, ↓reduceIte, Nat.reduceEqDiff, Nat.reduceLeDiff, i0, i1, i2, i3, i4, i5, i6, i8, i16, i30, i60, i100, i200, i201, i300, i1500, i8000, iM, nIa, nIp, nIs, nIle, nIlt, nIeq, nImlt, nImle, nImeq, nImeq2, nI0le, bV_e, bI_s, bL_s, bU_s, pS_e, gI_n, gL_n, pI_n, pL_n, sI_1, sI_22, sL_1, sL_21, sS_21, sS_22, sI_ne, sL_ne, sS_ne, sS_eq, sI_eq, sI_at, sL_eq, sL_at, if_true, if_false, eq_self, Nat.add_zero, if_pos, if_neg, hk0, e1]
          exact g
theorem s_fits {n f o e : Nat} {S : St} {x : List Mk} (hf : 367 ≤ f ∧ f ≤ 371) (hm : ∀ m ∈ x, mW m) (hs : sg (S.2.1 f 0) o (flt x)) (he : e = o + (flt x).length) (ho : e ≤ ln f) (hn : (flt x).length < n) : f_X8_fits n S f (nI o) (nI e) = some (S, if fitB x then 1 else 0) := by
  have h := s_fits_l hf x o n 0 e hm hs he ho hn (by have := flt_ge x; omega) (by omega)
  rw [Nat.zero_add] at h
  unfold f_X8_fits g_X8_fits
  rw [show (0 : Int32) = nI 0 from rfl, show (1 : Int32) = nI 1 from rfl, h]
  unfold fitB
  by_cases z : x.length ≤ 200 ∧ x.all f16 = true
  · rw [if_pos z, if_pos (by simp [z.1, z.2])]; rfl
  · rw [if_neg z, if_neg (by simp only [Bool.and_eq_true, decide_eq_true_eq]; exact z)]; rfl
