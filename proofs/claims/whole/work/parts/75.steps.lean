/-! what steps make, once more: without a state -/
theorem mW_sh {d : Nat} {m : Mk} (h : mW m) : mW (shM d m) := h
theorem mW_gv {a b : List Nat} {m : Mk} (ha : lvO a) (hb : lvO b) (h : mW m) : mW (gvM a b m) := by
  obtain ⟨h1, h2, h3, h4, h5, h6⟩ := h
  have ok : ∀ l, okL l → okL (wLv a b l) := fun l hl t ht => by
    obtain ⟨x, hx, hy⟩ := List.mem_flatMap.mp ht
    exact okL_sbl ha.1 hb.1 (hl x hx) t hy
  refine ⟨h1, h2, fun z => ⟨ok _ (h3 z).1, lc_wLv ha.2.2 hb.2.2 (h3 z).2⟩, fun z => ⟨⟨ok _ (h4 z).1.1, lc_wLv ha.2.2 hb.2.2 (h4 z).1.2⟩, ok _ (h4 z).2.1, lc_wLv ha.2.2 hb.2.2 (h4 z).2.2⟩, fun z w => ?_, fun z => ?_⟩
  · show wLv a b m.2.2.2.1 = []
    rw [h5 z w]; rfl
  · show wLv a b m.2.2.2.2 = []
    rw [h6 z]; rfl
theorem mW_up {e : Nat} {m : Mk} (h : mW m) (he : m.2.1 + e < 3000000) : mW (upM e m) := by
  obtain ⟨h1, h2, h3⟩ := h
  refine ⟨h1, ?_, h3⟩
  show (if m.1 = 1 ∧ m.2.2.1 ≤ m.2.1 then m.2.1 + e else m.2.1) < 3000000
  split <;> omega
theorem mW_pd {m : Mk} (h : mW m) : mW (pdM m) := by
  obtain ⟨h1, h2, h3⟩ := h
  refine ⟨h1, ?_, h3⟩
  show (if m.1 = 1 ∧ m.2.2.1 ≤ m.2.1 then m.2.1 - 1 else m.2.1) < 3000000
  split <;> omega
theorem vV_idx {B N : Nat} {m : Mk} (h : vV B N m) (hB : B ≤ 1500000) (hN : N ≤ 40) (hd : m.2.2.1 ≤ 1000) : m.2.1 ≤ 1502000 := by
  obtain ⟨a, b, c, d1, d2, d3, d4, d5⟩ := h
  by_cases q1 : m.1 = 1
  · have := b q1; omega
  · by_cases q2 : m.1 = 2
    · have := c q2; omega
    · rw [d5 q1 q2]; omega
theorem rdx_gd {B : Nat} {L : List (List Nat)} {T : List (List Mk)} {Ns : List Nme} {ms : List Mk} {i : Nat} {m : Mk} (hO : NOk T Ns) (hg : gdT B Ns.length ms) (hi : ms[i]? = some m) (hs : isStp Ns m (ms.drop (i + 1)) = true) : (m.1 = 2 ∧ ∃ v, nval Ns m.2.1 = some v ∧ v ∈ T ∧ rdx Ns (subT ms i) = v.map (gvM m.2.2.2.1 m.2.2.2.2) ∧ lvO m.2.2.2.1 ∧ lvO m.2.2.2.2) ∨ (m.1 = 6 ∧ gdT (B + m.2.2.1) Ns.length (p1 (subT ms i)) ∧ gdT (B + m.2.2.1) Ns.length (p2 (subT ms i)) ∧ gdT (B + m.2.2.1 + 1) Ns.length (p3 (subT ms i)) ∧ rdx Ns (subT ms i) = fil (p3 (subT ms i)) (p2 (subT ms i))) ∨ (m.1 = 5 ∧ ∃ m' r', p1 (subT ms i) = m' :: r' ∧ m'.1 = 4 ∧ gdT (B + m.2.2.1) Ns.length (m' :: r') ∧ gdT (B + m.2.2.1) Ns.length (p1 (m' :: r')) ∧ gdT (B + m.2.2.1 + 1) Ns.length (p2 (m' :: r')) ∧ gdT (B + m.2.2.1) Ns.length (p2 (subT ms i)) ∧ rdx Ns (subT ms i) = fil (p2 (m' :: r')) (p2 (subT ms i))) := by
  have hmv := hg.2.2 m (gt_mem hi)
  obtain ⟨r, hsub, lA, lB, lC⟩ := lay6 hg hi
  obtain ⟨g1, g2, g3⟩ := sub_gd hg hi
  have hkx : hk (subT ms i) = m.1 := by rw [hsub]; rfl
  have tl := take_len hi
  by_cases q2 : m.1 = 2
  · left
    have hsome : ∃ v, nval Ns m.2.1 = some v := by
      have : (nval Ns m.2.1).isSome = true := by
        unfold isStp at hs
        simpa [q2] using hs
      exact Option.isSome_iff_exists.mp this
    obtain ⟨v, hv⟩ := hsome
    refine ⟨q2, v, hv, nval_mem hO hv, ?_, hmv.2.2.2.2.1 q2⟩
    unfold rdx
    rw [if_pos (by rw [hkx]; exact q2), hsub]
    show ((nval Ns m.2.1).getD []).map _ = _
    rw [hv]; rfl
  · right
    rw [hsub] at g1
    obtain ⟨gp, gp3⟩ := gd_parts g1
    rw [← hsub] at gp gp3
    by_cases q6 : m.1 = 6
    · left
      obtain ⟨gq1, gq2⟩ := gp (show 3 ≤ m.1 by omega)
      rw [show dl (dnM m.2.2.1 m).1 = 0 by show dl m.1 = 0; rw [q6]; rfl] at gq2
      refine ⟨q6, gq1, gq2, gp3 q6, ?_⟩
      unfold rdx
      rw [if_neg (by rw [hkx]; exact q2), if_pos (by rw [hkx]; exact q6)]
    · right
      have q5 : m.1 = 5 ∧ hk (ms.drop (i + 1)) = 4 := by
        unfold isStp at hs
        simp [q2, q6] at hs
        exact ⟨hs.1, hs.2.1⟩
      obtain ⟨q5, h4⟩ := q5
      obtain ⟨gq1, gq2⟩ := gp (show 3 ≤ m.1 by omega)
      rw [show dl (dnM m.2.2.1 m).1 = 0 by show dl m.1 = 0; rw [q5]; rfl] at gq2
      have e := lB (by omega) q6
      have pl : (ms.take i ++ [m]).length = i + 1 := by rw [List.length_append, tl]; rfl
      have hd1 : ms.drop (i + 1) = (p1 (subT ms i)).map (shM m.2.2.1) ++ ((p2 (subT ms i)).map (shM (m.2.2.1 + dl m.1)) ++ rst ms i) := by
        conv => lhs; rw [e, ← pl, List.drop_left]
      cases hp1 : p1 (subT ms i) with
      | nil => rw [hp1] at gq1; exact absurd (Tm_ne gq1.1) (by simp)
      | cons m' r' =>
        have k4 : m'.1 = 4 := by rw [hd1, hp1] at h4; exact h4
        rw [hp1] at gq1
        obtain ⟨gb1, gb2⟩ := (gd_parts gq1).1 (by omega)
        rw [show dl m'.1 = 1 by rw [k4]; rfl] at gb2
        refine ⟨q5, m', r', rfl, k4, gq1, gb1, gb2, gq2, ?_⟩
        unfold rdx
        rw [if_neg (by rw [hkx]; exact q2), if_neg (by rw [hkx]; exact q6), hp1]
theorem mem_repl {ms made : List Mk} {i : Nat} {y : Mk} (h : y ∈ repl ms i made) : y ∈ ms ∨ ∃ w ∈ made, y = shM (dpt ms i) w := by
  unfold repl at h
  rcases List.mem_append.mp h with hy | hy
  · rcases List.mem_append.mp hy with hy | hy
    · exact Or.inl (List.mem_of_mem_take hy)
    · obtain ⟨w, hw, rfl⟩ := List.mem_map.mp hy
      exact Or.inr ⟨w, hw, rfl⟩
  · exact Or.inl (List.mem_of_mem_drop (List.mem_of_mem_drop hy))
theorem fil_mW {B N : Nat} {bd vl : List Mk} (hb : gdT (B + 1) N bd) (hv : gdT B N vl) (hB : B ≤ 1200000) (hN : N ≤ 40) : ∀ y ∈ fil bd vl, mW y := by
  intro y hy
  obtain ⟨x, hx, hy⟩ := List.mem_flatMap.mp hy
  have xw := gd_mW hb (by omega) hN x hx
  have xd := gdT_d hb x hx
  unfold fil1 at hy
  split at hy
  · obtain ⟨w, hw, rfl⟩ := List.mem_map.mp hy
    have := vV_idx (hv.2.2 w hw) (by omega) hN (by have := gdT_d hv w hw; omega)
    exact mW_up (gd_mW hv (by omega) hN w hw) (by omega)
  · rw [List.mem_singleton.mp hy]
    exact mW_pd xw
theorem stR_ok {B : Nat} {L : List (List Nat)} {T : List (List Mk)} {Ns : List Nme} {ms : List Mk} {i : Nat} {m : Mk} (hT : TOk L T Ns.length) (hO : NOk T Ns) (hB : zB T ≤ B ∧ B ≤ 1000000) (hg : gdT B Ns.length ms) (hi : ms[i]? = some m) (hs : isStp Ns m (ms.drop (i + 1)) = true) : (∀ y ∈ stR Ns ms i, mW y) ∧ (fitB (stR Ns ms i) = true → gdT B Ns.length (stR Ns ms i)) := by
  have hd := gdT_d hg m (gt_mem hi)
  have h40 := hO.1
  have mW0 := gd_mW hg (by omega) h40
  have fin : ∀ made, (∀ y ∈ made, mW y) → ∀ y ∈ repl ms i made, mW y := by
    intro made hm y hy
    rcases mem_repl hy with h | ⟨w, hw, rfl⟩
    · exact mW0 y h
    · exact mW_sh (hm w hw)
  have fit0 := fit_repl (made := rdx Ns (subT ms i)) (i := i) hg
  unfold stR
  rw [fit0]
  rcases rdx_gd (L := L) hO hg hi hs with ⟨q2, v, hv, hvT, er, l1, l2⟩ | ⟨q6, gq1, gq2, gq3, er⟩ | ⟨q5, m', r', hp1, k4, g4, gb1, gb2, ga, er⟩
  · have gv := hT.2.2.2.1 v hvT
    rw [er]
    refine ⟨fin _ (fun y hy => ?_), fun z => ?_⟩
    · obtain ⟨w, hw, rfl⟩ := List.mem_map.mp hy
      exact mW_gv l1 l2 (gd_mW gv (by omega) h40 w hw)
    · rw [Bool.and_eq_true] at z
      exact repl_gd hg hi (gd_gv l1 l2 (gdT_mo gv (by omega)) z.2) (of_decide_eq_true z.1)
  · rw [er]
    refine ⟨fin _ (fil_mW gq3 gq2 (by omega) h40), fun z => ?_⟩
    rw [Bool.and_eq_true] at z
    have z1 := of_decide_eq_true z.1
    have lle : (fil (p3 (subT ms i)) (p2 (subT ms i))).length ≤ (repl ms i (fil (p3 (subT ms i)) (p2 (subT ms i)))).length := by unfold repl; simp only [List.length_append, List.length_map]; omega
    exact repl_gd hg hi (gd_fil gq3 gq2 (by omega)) z1
  · rw [er]
    refine ⟨fin _ (fil_mW gb2 ga (by omega) h40), fun z => ?_⟩
    rw [Bool.and_eq_true] at z
    have z1 := of_decide_eq_true z.1
    have lle : (fil (p2 (m' :: r')) (p2 (subT ms i))).length ≤ (repl ms i (fil (p2 (m' :: r')) (p2 (subT ms i)))).length := by unfold repl; simp only [List.length_append, List.length_map]; omega
    exact repl_gd hg hi (gd_fil gb2 ga (by omega)) z1
theorem shr_gd {B N : Nat} {ms : List Mk} {k : Nat} {m : Mk} (hg : gdT B N ms) (hi : ms[k]? = some m) : gdT B N (shr ms k) ∧ k < (shr ms k).length := by
  have hlt := gt_lt hi
  obtain ⟨r, hsub, lA, lB, lC⟩ := lay6 hg hi
  obtain ⟨g1, g2, g3⟩ := sub_gd hg hi
  have hkx : hk (subT ms k) = m.1 := by rw [hsub]; rfl
  have tl := take_len hi
  have cl : (cutT ms k).length = (subT ms k).length := by rw [← g2, List.length_map]
  unfold shr
  split
  · rename_i z
    unfold etaB at z
    obtain ⟨z1, z2, z3, z4, z5⟩ := of_decide_eq_true z
    rw [hkx] at z1
    have hl1 := (tlen g1).2.1 (by rw [hkx]; omega) (by rw [hkx]; omega)
    rw [hsub] at g1
    obtain ⟨gq1, gq2⟩ := (gd_parts g1).1 (show 3 ≤ m.1 by omega)
    rw [← hsub] at gq1 gq2
    rw [show dl (dnM m.2.2.1 m).1 = 1 by show dl m.1 = 1; rw [z1]; rfl] at gq2
    cases hp2 : p2 (subT ms k) with
    | nil => rw [hp2] at gq2; exact absurd (Tm_ne gq2.1) (by simp)
    | cons mb rb =>
      rw [hp2] at gq2 z2 z5 hl1
      have q5 : mb.1 = 5 := z2
      obtain ⟨gf, ga⟩ := (gd_parts gq2).1 (show 3 ≤ mb.1 by omega)
      have hl2 := (tlen gq2).2.1 (show 3 ≤ mb.1 by omega) (show mb.1 ≠ 6 by omega)
      have gpd := gd_pd gf z5
      have h200 := hg.2.1
      have hll : (repl ms k ((p1 (mb :: rb)).map pdM)).length + (subT ms k).length = ms.length + (p1 (mb :: rb)).length := by
        have := congrArg List.length (cut_all (ms := ms) (i := k))
        unfold repl
        simp only [List.length_append, List.length_map] at this ⊢
        omega
      refine ⟨repl_gd hg hi gpd (by omega), ?_⟩
      have := Tm_ne gf.1
      unfold repl
      simp only [List.length_append, List.length_map, tl]
      omega
  · exact ⟨hg, hlt⟩
/-! the reference: shortening as a whole -/
theorem s_shorts {n B N : Nat} (hn : 10000 ≤ n) (hN : N ≤ 40) (hB : B ≤ 1000000) : ∀ (k mm : Nat) (S : St) (ms : List Mk), k ≤ ms.length → k < mm → CUR S ms → gdT B N ms → (∀ i, i < k → S.2.1 381 0 i = nI (flt (ms.take i)).length) → ∃ S', l_X8_shorten_38 n mm S (nI k - nI 1) = some S' ∧ CUR S' (shrs k ms) ∧ gdT B N (shrs k ms) ∧ FR SHR S S' := by
  intro k
  induction k with
  | zero =>
    intro mm S ms hk hmm h hg h8
    obtain ⟨mm, rfl⟩ : ∃ y, mm = y + 1 := ⟨mm - 1, by omega⟩
    refine ⟨S, ?_, h, hg, FR_rf⟩
    unfold l_X8_shorten_38
    rw [if_pos (by decide)]
  | succ k ih =>
    intro mm S ms hk hmm h hg h8
    obtain ⟨mm, rfl⟩ : ∃ y, mm = y + 1 := ⟨mm - 1, by omega⟩
    have hi := List.getElem?_eq_getElem (show k < ms.length by omega)
    obtain ⟨g1, g2⟩ := shr_gd hg hi
    obtain ⟨S1, a1, b1, f1⟩ := s_short1 (n := n) hn hN hB hg h hi (h8 k (by omega))
    obtain ⟨S2, a2, b2, c2, f2⟩ := ih mm S1 (shr ms k) (by omega) (by omega) b1 g1 (fun i hi => by
      rw [(f1 381 0 (by rw [rg8 (by omega)]; decide)).2.1, shr_take (by omega) (by omega)]
      exact h8 i (by omega))
    refine ⟨S2, ?_, b2, c2, FR_tr f1 f2⟩
    have ek : nI (k + 1) - nI 1 = nI k := by rw [nIs (by omega)]; rfl
    rw [ek, a1]
    have : nI k + mI = nI k - nI 1 := by
      show nI k + (-1) = _
      rw [add_m1]; rfl
    rw [this]
    exact a2
theorem s_short4 {n : Nat} {ms : List Mk} (hn : 10000 ≤ n) (hw : ∀ m ∈ ms, mW m) (hl : (flt ms).length ≤ 7000) (h2 : ms.length ≤ 200) : ∀ (x done : List Mk) (mm : Nat) (S : St), ms = done ++ x → x.length < mm → CUR S ms → (∀ i, i < done.length → S.2.1 381 0 i = nI (flt (ms.take i)).length) → ∃ S', l_X8_shorten_4 n mm S (nI done.length) (nI (flt done).length) = l_X8_shorten_38 n n S' (nI ms.length - nI 1) ∧ (∀ i, i < ms.length → S'.2.1 381 0 i = nI (flt (ms.take i)).length) ∧ FR [381] S S' := by
  intro x
  induction x with
  | nil =>
    intro done mm S he hmm hC h8
    obtain ⟨mm, rfl⟩ : ∃ y, mm = y + 1 := ⟨mm - 1, by omega⟩
    rw [List.append_nil] at he
    subst he
    obtain ⟨c1, c2⟩ := hC
    refine ⟨S, ?_, h8, FR_rf⟩
    conv => lhs; unfold l_X8_shorten_4
    rw [c2, if_pos (show nI (flt ms).length ≤ nI (flt ms).length by rw [nIle (by omega) (by omega)]; omega), bV_e]
    rfl
  | cons m r ih =>
    intro done mm S he hmm hC h8
    obtain ⟨mm, rfl⟩ : ∃ y, mm = y + 1 := ⟨mm - 1, by omega⟩
    obtain ⟨c1, c2⟩ := hC
    have ef : flt ms = flt done ++ (tks m ++ flt r) := by rw [he, flt_app, flt_c]
    have lf := congrArg List.length ef
    simp only [List.length_append] at lf
    have lm := congrArg List.length he
    simp only [List.length_append, List.length_cons] at lm
    have tp := tks_pos m
    have hmw := hw m (by rw [he]; simp)
    have c1' := c1
    rw [ef] at c1'
    have s1 := sg_mid c1'
    rw [Nat.zero_add] at s1
    have f1 : FR [381] S (sI S 381 0 done.length (nI (flt done).length)) := FR_sI FR_rf (by rw [rg8 (by omega)]; simp)
    have bT := s_behindToken (n := n) (f := 368) (by omega) hmw (sg_fr f1 (by rw [rg8 (by omega)]; simp) s1) (by rw [ln368]; omega) (by omega)
    have ht : ms.take done.length = done := by rw [he, List.take_left]
    obtain ⟨S2, a2, b2, f2⟩ := ih (done ++ [m]) mm (sI S 381 0 done.length (nI (flt done).length)) (by rw [he, List.append_assoc]; rfl) (by rw [List.length_cons] at hmm; omega) (CUR_fr ⟨c1, c2⟩ f1 (by simp) (by simp)) (fun i hi => by
      rw [List.length_append, List.length_singleton] at hi
      by_cases z : i = done.length
      · rw [z, sI_eq, ht]
      · rw [sI_at z]; exact h8 i (by omega))
    refine ⟨S2, ?_, b2, FR_tr f1 f2⟩
    rw [← a2]
    conv => lhs; unfold l_X8_shorten_4
    rw [flt_app, List.length_append, List.length_append, List.length_singleton, show flt [m] = tks m from List.append_nil _]
    ((try simp only [i0, i1, i2, i3, i4, i5, i6, i8, i16, i30, i60, i100, i200, i201, i300, i1500, i8000, iM, i_m6]); repeat (first | rw [zt_eq (by omega)] | rw [zt_ne (by omega) (by omega) (by omega)] | rw [zt_nle (by omega) (by omega)] | rw [zt_le (by omega) (by omega)] | rw [zt_nlt (by omega) (by omega)] | rw [zt_lt (by omega) (by omega)] | rw [zt_nm (by omega)] | rw [zt_mm] | rw [zt_ml] | rw [zt_0m] | rw [zt_m0] | rw [zt_n6 (by omega)] | rw [zt_66] | rw [zt_06] | simp (disch := omega) only [i0, i1, i2, i3, i4, i5, i6, i8, i16, i30, i60, i100, i200, i201, i300, i1500, i8000, iM, i_m6, nIa, nIp, nIs, sI_1, sI_22, sL_1, sL_21, sS_21, sS_22, sI_ne, sL_ne, sS_ne, sS_eq, sI_eq, sI_at, sL_eq, sL_at, Nat.add_zero, if_true, if_false, c2, bT] | rw [bV_e] | rw [pS_e] | rw [bI_s] | rw [bU_s] | rw [bL_s] | rw [gI_n (by omega) (by omega)] | rw [pI_n (by omega) (by omega)] | rw [gL_n (by omega) (by omega)] | rw [pL_n (by omega) (by omega)]))
theorem s_shorten {n B N : Nat} {S : St} {ms : List Mk} (hn : 10000 ≤ n) (hN : N ≤ 40) (hB : B ≤ 1000000) (hg : gdT B N ms) (h : CUR S ms) : ∃ S', f_X8_shorten n S = some S' ∧ CUR S' (shrs ms.length ms) ∧ gdT B N (shrs ms.length ms) ∧ FR (381 :: SHR) S S' := by
  have hfl := gd_flt hg (by omega) hN
  have h200 := hg.2.1
  obtain ⟨S1, a1, b1, f1⟩ := s_short4 (n := n) hn (gd_mW hg (by omega) hN) (by omega) h200 ms [] n S rfl (by omega) h (fun i hi => absurd hi (by simp))
  obtain ⟨S2, a2, b2, c2, f2⟩ := s_shorts (n := n) hn hN hB ms.length n S1 ms (Nat.le_refl _) (by omega) (CUR_fr h f1 (by simp) (by simp)) hg b1
  refine ⟨S2, ?_, b2, c2, FR_tr (FR_mo f1 (by simp)) (FR_mo f2 (fun x hx => List.mem_cons_of_mem _ hx))⟩
  unfold f_X8_shorten
  have a1' : l_X8_shorten_4 n n S 0 0 = l_X8_shorten_38 n n S1 (nI ms.length - nI 1) := a1
  rw [a1', a2]
