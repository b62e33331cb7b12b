/-! replacing, levels, comparing -/
/-- marks stand in a row from a place on -/
def sgM (S : St) (j o : Nat) (ms : List Mk) : Prop := ∀ i m, ms[i]? = some m → cell S j (o + i) m
theorem sgM_app {S : St} {j o : Nat} {a b : List Mk} : sgM S j o (a ++ b) ↔ sgM S j o a ∧ sgM S j (o + a.length) b := by
  refine ⟨fun h => ⟨fun i m hm => h i m ?_, fun i m hm => ?_⟩, fun h i m hm => ?_⟩
  · rw [List.getElem?_append_left (gt_lt hm)]; exact hm
  · have := h (a.length + i) m (by rw [List.getElem?_append_right (by omega), Nat.add_sub_cancel_left]; exact hm)
    rw [← Nat.add_assoc] at this
    exact this
  · rcases Nat.lt_or_ge i a.length with q | q
    · rw [List.getElem?_append_left q] at hm; exact h.1 i m hm
    · rw [List.getElem?_append_right q] at hm
      have := h.2 (i - a.length) m hm
      rw [show o + a.length + (i - a.length) = o + i by omega] at this
      exact this
theorem RW_sg {S : St} {j : Nat} {ms : List Mk} (h : RW S j ms) : sgM S j 0 ms := fun i m hm => by rw [Nat.zero_add]; exact h.2.2 i m hm
theorem sg_RW {S : St} {j : Nat} {ms : List Mk} (h1 : S.1 150 j = nI ms.length) (h2 : ms.length ≤ 200) (h : sgM S j 0 ms) : RW S j ms := ⟨h1, h2, fun i m hm => by have := h i m hm; rw [Nat.zero_add] at this; exact this⟩
theorem sgM_wr {S : St} {j o i : Nat} {ms : List Mk} {m : Mk} (h : sgM S j o ms) (hi : i < o ∨ o + ms.length ≤ i) : sgM (wr S j i m) j o ms := fun i' m' hm => wr_other (h i' m' hm) (by have := gt_lt hm; omega)
def mvT (S : St) (j sp dp k : Nat) : St := sS (cL (cL (cI (cI (cI S 151 j sp dp k) 152 j sp dp k) 153 j sp dp k) 154 j sp dp k) 155 j sp dp k) 150 j (nI (dp + k))
theorem cI_eq {S : St} {f j sp dp k : Nat} : (cI S f j sp dp k).2.1 f j = va_cpy (S.2.1 f j) (S.2.1 f j) sp dp k := by simp [cI]
theorem cL_eq {S : St} {f j sp dp k : Nat} : (cL S f j sp dp k).2.2 f j = va_cpy (S.2.2 f j) (S.2.2 f j) sp dp k := by simp [cL]
theorem cI_ne {S : St} {f j sp dp k f' j' : Nat} (h : f' ≠ f ∨ j' ≠ j) : (cI S f j sp dp k).2.1 f' j' = S.2.1 f' j' := by simp only [cI]; rw [if_neg (by omega)]
theorem cL_ne {S : St} {f j sp dp k f' j' : Nat} (h : f' ≠ f ∨ j' ≠ j) : (cL S f j sp dp k).2.2 f' j' = S.2.2 f' j' := by simp only [cL]; rw [if_neg (by omega)]
theorem cI_1 {S : St} {f j sp dp k : Nat} : (cI S f j sp dp k).1 = S.1 := rfl
theorem cI_22 {S : St} {f j sp dp k : Nat} : (cI S f j sp dp k).2.2 = S.2.2 := rfl
theorem cL_1 {S : St} {f j sp dp k : Nat} : (cL S f j sp dp k).1 = S.1 := rfl
theorem cL_21 {S : St} {f j sp dp k : Nat} : (cL S f j sp dp k).2.1 = S.2.1 := rfl
theorem mvT_fr {S : St} {j sp dp k : Nat} : FR [1000 + j] S (mvT S j sp dp k) := by
  intro f b z
  have hz : ¬ (150 ≤ f ∧ f ≤ 155 ∧ b = j) := fun q => z (by rw [rgR ⟨q.1, q.2.1⟩, q.2.2]; simp)
  have hn : ∀ g, 150 ≤ g ∧ g ≤ 155 → f ≠ g ∨ b ≠ j := fun g hg => by omega
  unfold mvT
  refine ⟨?_, ?_, ?_⟩
  · rw [sS_ne (hn 150 (by omega))]; rfl
  · rw [sS_21, cL_21, cL_21, cI_ne (hn 153 (by omega)), cI_ne (hn 152 (by omega)), cI_ne (hn 151 (by omega))]
  · rw [sS_22, cL_ne (hn 155 (by omega)), cL_ne (hn 154 (by omega))]; rfl
theorem mvT_in {S : St} {j sp dp k i : Nat} {m : Mk} (h : cell S j (sp + i) m) (hi : i < k) : cell (mvT S j sp dp k) j (dp + i) m := by
  obtain ⟨h1, h2, h3, h4, h5⟩ := h
  unfold cell mvT
  refine ⟨?_, ?_, ?_, ?_, ?_⟩ <;> simp (disch := omega) only [sS_21, sS_22, cL_21, cI_22, cI_ne, cL_ne, cI_eq, cL_eq] <;> rw [pk_cpy_in (by omega) (by omega), Nat.add_sub_cancel_left] <;> assumption
theorem mvT_out {S : St} {j sp dp k i : Nat} {m : Mk} (h : cell S j i m) (hi : i < dp) : cell (mvT S j sp dp k) j i m := by
  obtain ⟨h1, h2, h3, h4, h5⟩ := h
  unfold cell mvT
  refine ⟨?_, ?_, ?_, ?_, ?_⟩ <;> simp (disch := omega) only [sS_21, sS_22, cL_21, cI_22, cI_ne, cL_ne, cI_eq, cL_eq] <;> rw [pk_cpy_out (by omega)] <;> assumption
theorem cpI_n {β : Type} {S : St} {f j sp dp k L : Nat} {K : St → Option β} (h1 : sp + k ≤ L) (h2 : dp + k ≤ L) (hL : L < 2 ^ 31) : cpI S f j (nI sp) (nI dp) (nI k) L K = K (cI S f j sp dp k) := by
  unfold cpI
  rw [nI_clamp (by omega), nI_clamp (by omega), nI_clamp (by omega), if_neg]
  rintro (z | z | z | z | z)
  · exact nI_pos (by omega) z
  · exact nI_pos (by omega) z
  · exact nI_pos (by omega) z
  · omega
  · omega
theorem cpL_n {β : Type} {S : St} {f j sp dp k L : Nat} {K : St → Option β} (h1 : sp + k ≤ L) (h2 : dp + k ≤ L) (hL : L < 2 ^ 31) : cpL S f j (nI sp) (nI dp) (nI k) L K = K (cL S f j sp dp k) := by
  unfold cpL
  rw [nI_clamp (by omega), nI_clamp (by omega), nI_clamp (by omega), if_neg]
  rintro (z | z | z | z | z)
  · exact nI_pos (by omega) z
  · exact nI_pos (by omega) z
  · exact nI_pos (by omega) z
  · omega
  · omega
theorem s_moveTail {n : Nat} {S : St} {j sp dp : Nat} {ms : List Mk} (h : RW S j ms) (hs : sp ≤ ms.length) (hd : dp + (ms.length - sp) ≤ 200) : f_X4_moveTail n S j (nI sp) (nI dp) = some (mvT S j sp dp (ms.length - sp)) := by
  have h2 := h.2.1
  unfold f_X4_moveTail
  simp (disch := omega) only [i0, i1, i2, i3, i4, i5, i6, i8, i16, i30, i60, i100, i200, i201, i300, i1500, i8000, iM, nIa, nIp, nIs, nIle, nIlt, nIeq, nImlt, nImle, nImeq, nImeq2, nI0le, bV_e, bI_s, bL_s, bU_s, pS_e, gI_n, gL_n, pI_n, pL_n, sI_1, sI_22, sL_1, sL_21, sS_21, sS_22, sI_ne, sL_ne, sS_ne, sS_eq, sI_eq, sI_at, sL_eq, sL_at, if_true, if_false, eq_self, Nat.add_zero, if_pos, if_neg, h.1, cpI_n, cpL_n]
  rfl
/-- more binders around a mark -/
def shM (e : Nat) (m : Mk) : Mk := (m.1, m.2.1, m.2.2.1 + e, m.2.2.2)
theorem s_repl_l {n : Nat} {j a o e : Nat} {made : List Mk} (hja : j ≠ a) (ho : o + made.length ≤ 200) : ∀ (rest done : List Mk) (m : Nat) (S : St), made = done ++ rest → RW S a made → rest.length < m → sgM S j o (done.map (shM e)) → ∃ S', l_X4_replace_60 n m S j (nI o) a (nI e) (nI done.length) = some (S', 1) ∧ sgM S' j o (made.map (shM e)) ∧ FR [1000 + j] S S' ∧ S'.1 = S.1 ∧ (∀ i m0, (i < o ∨ o + made.length ≤ i) → cell S j i m0 → cell S' j i m0) := by
  intro rest
  induction rest with
  | nil =>
    intro done m S he ha hm hs
    have h2 := ha.2.1
    have h1 := ha.1
    obtain ⟨m, rfl⟩ : ∃ x, m = x + 1 := ⟨m - 1, by omega⟩
    rw [List.append_nil] at he
    subst he
    refine ⟨S, ?_, hs, FR_rf, rfl, fun _ _ _ h => h⟩
    unfold l_X4_replace_60
    simp (disch := omega) only [i0, i1, i2, i3, i4, i5, i6, i8, i16, i30, i60, i100, i200, i201, i300, i1500, i8000, iM, nIa, nIp, nIs, nIle, nIlt, nIeq, nImlt, nImle, nImeq, nImeq2, nI0le, bV_e, bI_s, bL_s, bU_s, pS_e, gI_n, gL_n, pI_n, pL_n, sI_1, sI_22, sL_1, sL_21, sS_21, sS_22, sI_ne, sL_ne, sS_ne, sS_eq, sI_eq, sI_at, sL_eq, sL_at, if_true, if_false, eq_self, Nat.add_zero, if_pos, if_neg, h1]
  | cons x rest ih =>
    intro done m S he ha hm hs
    have h2 := ha.2.1
    have h1 := ha.1
    rw [List.length_cons] at hm
    obtain ⟨m, rfl⟩ : ∃ x, m = x + 1 := ⟨m - 1, by omega⟩
    have hlen : made.length = done.length + rest.length + 1 := by rw [he, List.length_append, List.length_cons]; omega
    have hat : made[done.length]? = some x := by rw [he]; exact mid_at
    obtain ⟨c1, c2, c3, c4, c5⟩ := ha.2.2 _ _ hat
    have fr : FR [1000 + j] S (wr S j (o + done.length) (shM e x)) := wr_fr FR_rf (by simp)
    obtain ⟨S', q1, q2, q3, q4, q5⟩ := ih (done ++ [x]) m (wr S j (o + done.length) (shM e x)) (by rw [he, List.append_assoc, List.singleton_append]) (RW_fr ha fr (by simp; omega)) (by omega) (by
      rw [List.map_append, sgM_app, List.length_map]
      refine ⟨sgM_wr hs (Or.inr (by rw [List.length_map]; omega)), fun i m0 hm0 => ?_⟩
      have hi := gt_lt hm0
      simp only [List.map_cons, List.map_nil, List.length_singleton] at hi
      have : i = 0 := by omega
      subst this
      have : shM e x = m0 := by simpa using hm0
      subst this
      exact wr_self)
    refine ⟨S', ?_, q2, FR_tr fr q3, q4, fun i m0 hi hc => q5 i m0 hi (wr_other hc (by omega))⟩
    rw [List.length_append, List.length_singleton] at q1
    unfold l_X4_replace_60
    simp (disch := omega) only [i0, i1, i2, i3, i4, i5, i6, i8, i16, i30, i60, i100, i200, i201, i300, i1500, i8000, iM, nIa, nIp, nIs, nIle, nIlt, nIeq, nImlt, nImle, nImeq, nImeq2, nI0le, bV_e, bI_s, bL_s, bU_s, pS_e, gI_n, gL_n, pI_n, pL_n, sI_1, sI_22, sL_1, sL_21, sS_21, sS_22, sI_ne, sL_ne, sS_ne, sS_eq, sI_eq, sI_at, sL_eq, sL_at, if_true, if_false, eq_self, Nat.add_zero, if_pos, if_neg, h1, c1, c2, c3, c4, c5]
    exact q1
theorem s_replace {n : Nat} {S : St} {j a i k : Nat} {ms made : List Mk} {m0 : Mk} (hja : j ≠ a) (h : RW S j ms) (ha : RW S a made) (hi : ms[i]? = some m0) (hik : i < k) (hk : k ≤ ms.length) (hn : 201 ≤ n) : ∃ S', f_X4_replace n S j (nI i) (nI k) a = some (S', if (ms.take i ++ made.map (shM m0.2.2.1) ++ ms.drop k).length ≤ 200 then 1 else 0) ∧ ((ms.take i ++ made.map (shM m0.2.2.1) ++ ms.drop k).length ≤ 200 → RW S' j (ms.take i ++ made.map (shM m0.2.2.1) ++ ms.drop k)) ∧ FR [1000 + j] S S' := by
  have h2 := h.2.1
  have h3 := ha.2.1
  have hlt := gt_lt hi
  have hlen : (ms.take i ++ made.map (shM m0.2.2.1) ++ ms.drop k).length = i + made.length + (ms.length - k) := by
    rw [List.length_append, List.length_append, List.length_take, List.length_map, List.length_drop]; omega
  obtain ⟨-, -, c3, -⟩ := h.2.2 i m0 hi
  rw [hlen]
  unfold f_X4_replace g_X4_replace
  by_cases hle : i + made.length + (ms.length - k) ≤ 200
  · have f0 := mvT_fr (S := S) (j := j) (sp := k) (dp := i + made.length) (k := ms.length - k)
    have mt := s_moveTail (n := n) (dp := i + made.length) h hk (by omega)
    have sg0 : sgM (mvT S j k (i + made.length) (ms.length - k)) j (i + made.length) (ms.drop k) := fun x m hm => by
      have hx := gt_lt hm
      rw [List.length_drop] at hx
      rw [List.getElem?_drop] at hm
      exact mvT_in (h.2.2 _ _ hm) (by omega)
    have sg1 : sgM (mvT S j k (i + made.length) (ms.length - k)) j 0 (ms.take i) := fun x m hm => by
      have hx := gt_lt hm
      rw [List.length_take] at hx
      rw [List.getElem?_take, if_pos (by omega)] at hm
      rw [Nat.zero_add]
      exact mvT_out (h.2.2 _ _ hm) (by omega)
    obtain ⟨S', q1, q2, q3, q4, q5⟩ := s_repl_l (n := n) (made := made) (e := m0.2.2.1) (o := i) hja (by omega) made [] n _ rfl (RW_fr ha f0 (by simp; omega)) (by omega) (fun x m hm => by simp at hm)
    refine ⟨S', ?_, fun _ => sg_RW ?_ (by omega) ?_, FR_tr f0 q3⟩
    · rw [if_pos hle, ← zW_01 (S := S') (v := 1) (Or.inr rfl)]
      congr 1
      simp (disch := omega) only [i0, i1, i2, i3, i4, i5, i6, i8, i16, i30, i60, i100, i200, i201, i300, i1500, i8000, iM, nIa, nIp, nIs, nIle, nIlt, nIeq, nImlt, nImle, nImeq, nImeq2, nI0le, bV_e, bI_s, bL_s, bU_s, pS_e, gI_n, gL_n, pI_n, pL_n, sI_1, sI_22, sL_1, sL_21, sS_21, sS_22, sI_ne, sL_ne, sS_ne, sS_eq, sI_eq, sI_at, sL_eq, sL_at, if_true, if_false, eq_self, Nat.add_zero, if_pos, if_neg, h.1, ha.1, c3, mt]
      exact q1
    · rw [q4, hlen]; unfold mvT; rw [sS_eq]
    · rw [sgM_app, sgM_app, List.length_append, List.length_take, List.length_map, Nat.min_eq_left (by omega), Nat.zero_add, Nat.zero_add]
      refine ⟨⟨fun x m hm => q5 _ m (Or.inl ?_) (sg1 x m hm), q2⟩, fun x m hm => q5 _ m (Or.inr (by omega)) (sg0 x m hm)⟩
      have hx := gt_lt hm
      rw [List.length_take] at hx
      omega
  · refine ⟨S, ?_, fun z => absurd z hle, FR_rf⟩
    rw [if_neg hle]
    simp (disch := omega) only [i0, i1, i2, i3, i4, i5, i6, i8, i16, i30, i60, i100, i200, i201, i300, i1500, i8000, iM, nIa, nIp, nIs, nIle, nIlt, nIeq, nImlt, nImle, nImeq, nImeq2, nI0le, bV_e, bI_s, bL_s, bU_s, pS_e, gI_n, gL_n, pI_n, pL_n, sI_1, sI_22, sL_1, sL_21, sS_21, sS_22, sI_ne, sL_ne, sS_ne, sS_eq, sI_eq, sI_at, sL_eq, sL_at, if_true, if_false, eq_self, Nat.add_zero, if_pos, if_neg, h.1, ha.1]
    exact zW_01 (Or.inl rfl)
