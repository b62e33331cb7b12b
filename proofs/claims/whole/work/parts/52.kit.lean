/-! how states are read and written; regions of a state and what stays in them -/
theorem i0 : (0 : Int32) = nI 0 := rfl
theorem i1 : (1 : Int32) = nI 1 := rfl
theorem i2 : (2 : Int32) = nI 2 := rfl
theorem i3 : (3 : Int32) = nI 3 := rfl
theorem i4 : (4 : Int32) = nI 4 := rfl
theorem i5 : (5 : Int32) = nI 5 := rfl
theorem i6 : (6 : Int32) = nI 6 := rfl
theorem i8 : (8 : Int32) = nI 8 := rfl
theorem i16 : (16 : Int32) = nI 16 := rfl
theorem i30 : (30 : Int32) = nI 30 := rfl
theorem i60 : (60 : Int32) = nI 60 := rfl
theorem i100 : (100 : Int32) = nI 100 := rfl
theorem i200 : (200 : Int32) = nI 200 := rfl
theorem i201 : (201 : Int32) = nI 201 := rfl
theorem i300 : (300 : Int32) = nI 300 := rfl
theorem i1500 : (1500 : Int32) = nI 1500 := rfl
theorem i8000 : (8000 : Int32) = nI 8000 := rfl
/-- minus one, minus six -/
def mI : Int32 := -1
def m6 : Int32 := -6
theorem iM : -(nI 1) = mI := rfl
theorem nIa (a b : Nat) : nI a + nI b = nI (a + b) := nI_add a b
theorem nIs {a b : Nat} (h : b ≤ a) : nI a - nI b = nI (a - b) := by
  have e : nI (a - b) + nI b = nI a := by rw [nI_add, Nat.sub_add_cancel h]
  rw [← e, Int32.add_sub_cancel]
theorem nIp {a : Nat} (h : 1 ≤ a) : nI a + mI = nI (a - 1) := by
  show nI a + (-1) = _
  rw [add_m1]
  exact nIs h
theorem nIle {a b : Nat} (ha : a < 2 ^ 31) (hb : b < 2 ^ 31) : (nI a ≤ nI b) = (a ≤ b) := propext (nI_leI ha hb)
theorem nIlt {a b : Nat} (ha : a < 2 ^ 31) (hb : b < 2 ^ 31) : (nI a < nI b) = (a < b) := propext (nI_ltI ha hb)
theorem nIeq {a b : Nat} (ha : a < 2 ^ 31) (hb : b < 2 ^ 31) : (nI a = nI b) = (a = b) := propext (nI_eq ha hb)
theorem mI_lt : mI < 0 := by decide
theorem nImlt : (mI < nI 0) = True := eq_true (by decide)
theorem nImle : (nI 0 ≤ mI) = False := eq_false (by decide)
theorem nI0le {a : Nat} (h : a < 2 ^ 31) : (nI 0 ≤ nI a) = True := by rw [nIle (by omega) h]; simp
theorem nI_ne_m {a : Nat} (h : a < 2 ^ 31) : nI a ≠ mI := fun z => nI_pos h (by rw [z]; exact mI_lt)
theorem nImeq {a : Nat} (h : a < 2 ^ 31) : (nI a = mI) = False := eq_false (nI_ne_m h)
theorem nImeq2 {a : Nat} (h : a < 2 ^ 31) : (mI = nI a) = False := eq_false (fun z => nI_ne_m h z.symm)
theorem sI_1 {S : St} {f j i : Nat} {v : Int32} : (sI S f j i v).1 = S.1 := rfl
theorem sI_22 {S : St} {f j i : Nat} {v : Int32} : (sI S f j i v).2.2 = S.2.2 := rfl
theorem sL_1 {S : St} {f j i : Nat} {v : Int64} : (sL S f j i v).1 = S.1 := rfl
theorem sL_21 {S : St} {f j i : Nat} {v : Int64} : (sL S f j i v).2.1 = S.2.1 := rfl
theorem sS_21 {S : St} {f j : Nat} {v : Int32} : (sS S f j v).2.1 = S.2.1 := rfl
theorem sS_22 {S : St} {f j : Nat} {v : Int32} : (sS S f j v).2.2 = S.2.2 := rfl
theorem sI_ne {S : St} {f j i f' j' : Nat} {v : Int32} (h : f' ≠ f ∨ j' ≠ j) : (sI S f j i v).2.1 f' j' = S.2.1 f' j' := by
  simp only [sI]; rw [if_neg (by omega)]
theorem sL_ne {S : St} {f j i f' j' : Nat} {v : Int64} (h : f' ≠ f ∨ j' ≠ j) : (sL S f j i v).2.2 f' j' = S.2.2 f' j' := by
  simp only [sL]; rw [if_neg (by omega)]
theorem sS_ne {S : St} {f j f' j' : Nat} {v : Int32} (h : f' ≠ f ∨ j' ≠ j) : (sS S f j v).1 f' j' = S.1 f' j' := by
  simp only [sS]; rw [if_neg (by omega)]
theorem sS_eq {S : St} {f j : Nat} {v : Int32} : (sS S f j v).1 f j = v := by simp [sS]
theorem sI_eq {S : St} {f j i : Nat} {v : Int32} : (sI S f j i v).2.1 f j i = v := by simp [sI, upd]
theorem sI_at {S : St} {f j i i' : Nat} {v : Int32} (h : i' ≠ i) : (sI S f j i v).2.1 f j i' = S.2.1 f j i' := by simp [sI, upd, h]
theorem sL_eq {S : St} {f j i : Nat} {v : Int64} : (sL S f j i v).2.2 f j i = v := by simp [sL, vp_updL]
theorem sL_at {S : St} {f j i i' : Nat} {v : Int64} (h : i' ≠ i) : (sL S f j i v).2.2 f j i' = S.2.2 f j i' := by simp [sL, vp_updL, h]
/-- the region of a field: tables of levels 0, a row of marks 1000 + its number, the table of terms 200, what waits 208; the reference's tables 351 and 356, its names 363 -/
def rg (f j : Nat) : Nat := if f < 4 then 0 else if 50 ≤ f ∧ f ≤ 53 then 50 else if 150 ≤ f ∧ f ≤ 155 then 1000 + j else if 200 ≤ f ∧ f ≤ 206 then 200 else if 208 ≤ f ∧ f ≤ 210 then 208 else if 351 ≤ f ∧ f ≤ 355 then 351 else if 356 ≤ f ∧ f ≤ 362 then 356 else if 363 ≤ f ∧ f ≤ 366 then 363 else f
/-- nothing changes outside some regions -/
def FR (R : List Nat) (S S' : St) : Prop := ∀ f j, rg f j ∉ R → S'.1 f j = S.1 f j ∧ S'.2.1 f j = S.2.1 f j ∧ S'.2.2 f j = S.2.2 f j
theorem FR_rf {R : List Nat} {S : St} : FR R S S := fun _ _ _ => ⟨rfl, rfl, rfl⟩
theorem FR_tr {R : List Nat} {S S1 S2 : St} (h : FR R S S1) (g : FR R S1 S2) : FR R S S2 := fun f j z => ⟨(g f j z).1.trans (h f j z).1, (g f j z).2.1.trans (h f j z).2.1, (g f j z).2.2.trans (h f j z).2.2⟩
theorem FR_mo {R Q : List Nat} {S S1 : St} (h : FR R S S1) (hs : ∀ x ∈ R, x ∈ Q) : FR Q S S1 := fun f j z => h f j (fun w => z (hs _ w))
theorem FR_sI {R : List Nat} {S S1 : St} {f j i : Nat} {v : Int32} (g : FR R S S1) (h : rg f j ∈ R) : FR R S (sI S1 f j i v) := by
  refine FR_tr g (fun a b z => ⟨rfl, sI_ne ?_, rfl⟩)
  rcases Nat.decEq a f with q | q
  · exact Or.inl q
  · subst q
    rcases Nat.decEq b j with q | q
    · exact Or.inr q
    · subst q; exact absurd h z
theorem FR_sL {R : List Nat} {S S1 : St} {f j i : Nat} {v : Int64} (g : FR R S S1) (h : rg f j ∈ R) : FR R S (sL S1 f j i v) := by
  refine FR_tr g (fun a b z => ⟨rfl, rfl, sL_ne ?_⟩)
  rcases Nat.decEq a f with q | q
  · exact Or.inl q
  · subst q
    rcases Nat.decEq b j with q | q
    · exact Or.inr q
    · subst q; exact absurd h z
theorem FR_sS {R : List Nat} {S S1 : St} {f j : Nat} {v : Int32} (g : FR R S S1) (h : rg f j ∈ R) : FR R S (sS S1 f j v) := by
  refine FR_tr g (fun a b z => ⟨sS_ne ?_, rfl, rfl⟩)
  rcases Nat.decEq a f with q | q
  · exact Or.inl q
  · subst q
    rcases Nat.decEq b j with q | q
    · exact Or.inr q
    · subst q; exact absurd h z
theorem rgR {f : Nat} (h : 150 ≤ f ∧ f ≤ 155) (j : Nat) : rg f j = 1000 + j := by
  unfold rg; rw [if_neg (by omega), if_neg (by omega), if_pos h]
/-! marks: kind, number, depth, two levels -/
abbrev Mk : Type := Nat × Nat × Nat × List Nat × List Nat
def mB (m : Mk) : Prop := m.1 ≤ 6 ∧ m.2.1 < 3000000 ∧ m.2.2.1 < 100000
/-- a mark stands at a place of a row -/
def cell (S : St) (j i : Nat) (m : Mk) : Prop := S.2.1 151 j i = nI m.1 ∧ S.2.1 152 j i = nI m.2.1 ∧ S.2.1 153 j i = nI m.2.2.1 ∧ S.2.2 154 j i = en m.2.2.2.1 ∧ S.2.2 155 j i = en m.2.2.2.2
def RW (S : St) (j : Nat) (ms : List Mk) : Prop := S.1 150 j = nI ms.length ∧ ms.length ≤ 200 ∧ ∀ i m, ms[i]? = some m → cell S j i m
theorem RW_fr {S S' : St} {R : List Nat} {j : Nat} {ms : List Mk} (h : RW S j ms) (g : FR R S S') (hj : 1000 + j ∉ R) : RW S' j ms := by
  have k : ∀ f, 150 ≤ f ∧ f ≤ 155 → S'.1 f j = S.1 f j ∧ S'.2.1 f j = S.2.1 f j ∧ S'.2.2 f j = S.2.2 f j := fun f hf => g f j (by rw [rgR hf]; exact hj)
  refine ⟨(k 150 (by omega)).1.trans h.1, h.2.1, fun i m hm => ?_⟩
  have c := h.2.2 i m hm
  unfold cell
  rw [(k 151 (by omega)).2.1, (k 152 (by omega)).2.1, (k 153 (by omega)).2.1, (k 154 (by omega)).2.2, (k 155 (by omega)).2.2]
  exact c
/-- a mark is written -/
def wr (S : St) (j i : Nat) (m : Mk) : St := sL (sL (sI (sI (sI S 151 j i (nI m.1)) 152 j i (nI m.2.1)) 153 j i (nI m.2.2.1)) 154 j i (en m.2.2.2.1)) 155 j i (en m.2.2.2.2)
theorem wr_fr {S S1 : St} {j i : Nat} {m : Mk} {R : List Nat} (g : FR R S S1) (h : 1000 + j ∈ R) : FR R S (wr S1 j i m) := by
  have k : ∀ f, 150 ≤ f ∧ f ≤ 155 → rg f j ∈ R := fun f hf => by rw [rgR hf]; exact h
  exact FR_sL (FR_sL (FR_sI (FR_sI (FR_sI g (k 151 (by omega))) (k 152 (by omega))) (k 153 (by omega))) (k 154 (by omega))) (k 155 (by omega))
theorem wr_self {S : St} {j i : Nat} {m : Mk} : cell (wr S j i m) j i m := by
  unfold cell wr
  refine ⟨?_, ?_, ?_, ?_, ?_⟩ <;> simp (disch := omega) only [sI_1, sI_22, sL_1, sL_21, sS_21, sS_22, sI_ne, sL_ne, sS_ne, sS_eq, sI_eq, sI_at, sL_eq, sL_at]
theorem wr_other {S : St} {j i i' : Nat} {m m' : Mk} (h : cell S j i' m') (hi : i' ≠ i) : cell (wr S j i m) j i' m' := by
  unfold cell wr
  obtain ⟨h1, h2, h3, h4, h5⟩ := h
  refine ⟨?_, ?_, ?_, ?_, ?_⟩ <;> simp (disch := omega) only [sI_1, sI_22, sL_1, sL_21, sS_21, sS_22, sI_ne, sL_ne, sS_ne, sS_eq, sI_eq, sI_at, sL_eq, sL_at] <;> assumption
theorem wr_1 {S : St} {j i : Nat} {m : Mk} : (wr S j i m).1 = S.1 := rfl
def addm (S : St) (j : Nat) (ms : List Mk) (m : Mk) : St := sS (wr S j ms.length m) 150 j (nI (ms.length + 1))
theorem addm_fr {S S1 : St} {j : Nat} {ms : List Mk} {m : Mk} {R : List Nat} (g : FR R S S1) (h : 1000 + j ∈ R) : FR R S (addm S1 j ms m) := FR_sS (wr_fr g h) (by rw [rgR (by omega)]; exact h)
theorem RW_add {S : St} {j : Nat} {ms : List Mk} {m : Mk} (h : RW S j ms) (hl : ms.length < 200) : RW (addm S j ms m) j (ms ++ [m]) := by
  refine ⟨?_, ?_, fun i m0 hm => ?_⟩
  · unfold addm; rw [sS_eq, List.length_append]; rfl
  · rw [List.length_append, List.length_singleton]; omega
  · show cell (wr S j ms.length m) j i m0
    rcases Nat.lt_trichotomy i ms.length with q | q | q
    · rw [List.getElem?_append_left q] at hm
      exact wr_other (h.2.2 i m0 hm) (by omega)
    · subst q
      rw [List.getElem?_append_right (Nat.le_refl _), Nat.sub_self] at hm
      have : m = m0 := by simpa using hm
      subst this
      exact wr_self
    · rw [List.getElem?_eq_none (by rw [List.length_append, List.length_singleton]; omega)] at hm
      cases hm
theorem RW_0 {S : St} {j : Nat} : RW (sS S 150 j (nI 0)) j [] := ⟨sS_eq, by simp, fun i m h => by simp at h⟩
theorem gt_lt {α : Type} {l : List α} {i : Nat} {m : α} (h : l[i]? = some m) : i < l.length := by
  rcases Nat.lt_or_ge i l.length with q | q
  · exact q
  · rw [List.getElem?_eq_none q] at h; cases h
theorem gt_mem {α : Type} {l : List α} {i : Nat} {m : α} (h : l[i]? = some m) : m ∈ l := List.mem_of_getElem? h
theorem s_add {n : Nat} {S : St} {j : Nat} {ms : List Mk} {m : Mk} (h : RW S j ms) (hl : ms.length < 200) : f_X4_add n S j (nI m.1) (nI m.2.1) (nI m.2.2.1) (en m.2.2.2.1) (en m.2.2.2.2) = some (addm S j ms m) := by
  unfold f_X4_add
  simp (disch := omega) only [i0, i1, i2, i3, i4, i5, i6, i8, i16, i30, i60, i100, i200, i201, i300, i1500, i8000, iM, nIa, nIp, nIs, nIle, nIlt, nIeq, nImlt, nImle, nImeq, nImeq2, nI0le, bV_e, bI_s, bL_s, bU_s, pS_e, gI_n, gL_n, pI_n, pL_n, sI_1, sI_22, sL_1, sL_21, sS_21, sS_22, sI_ne, sL_ne, sS_ne, sS_eq, sI_eq, sI_at, sL_eq, sL_at, if_true, if_false, eq_self, Nat.add_zero, if_pos, if_neg, h.1]
  rfl
/-- a mark as it is copied: below some more binders, its number raised if it comes from outside -/
def cpm (bl rs : Int32) (m m' : Mk) : Prop := m'.1 = m.1 ∧ nI m'.2.1 = nI m.2.1 + (if m.1 = 1 ∧ m.2.2.1 ≤ m.2.1 then rs else 0) ∧ nI m'.2.2.1 = nI m.2.2.1 + bl ∧ m'.2.2.2 = m.2.2.2
theorem s_copyMark {n : Nat} {S : St} {j a p : Nat} {bl rs : Int32} {ms src : List Mk} {m m' : Mk} (hj : RW S j ms) (ha : RW S a src) (hja : j ≠ a) (hp : src[p]? = some m) (hm : mB m) (hl : ms.length < 200) (hc : cpm bl rs m m') : f_X4_copyMark n S j a (nI p) bl rs = some (addm S j ms m') := by
  have hp1 := gt_lt hp
  have hp2 := ha.2.1
  obtain ⟨c1, c2, c3, c4, c5⟩ := ha.2.2 p m hp
  obtain ⟨h1, h2, h3, h4⟩ := hc
  obtain ⟨b1, b2, b3⟩ := hm
  have fin : ∀ s : Int32, nI m'.2.1 = nI m.2.1 + (if s = 0 then 0 else rs) → j_X4_copyMark_53 n S j a (nI p) bl rs s = some (addm S j ms m') := by
    intro s hs
    unfold j_X4_copyMark_53 j_X4_copyMark_95
    by_cases hs0 : s = 0
    · rw [if_pos hs0] at hs
      rw [hs0]
      rw [Int32.add_zero] at hs
      simp (disch := omega) only [i0, i1, i2, i3, i4, i5, i6, i8, i16, i30, i60, i100, i200, i201, i300, i1500, i8000, iM, nIa, nIp, nIs, nIle, nIlt, nIeq, nImlt, nImle, nImeq, nImeq2, nI0le, bV_e, bI_s, bL_s, bU_s, pS_e, gI_n, gL_n, pI_n, pL_n, sI_1, sI_22, sL_1, sL_21, sS_21, sS_22, sI_ne, sL_ne, sS_ne, sS_eq, sI_eq, sI_at, sL_eq, sL_at, if_true, if_false, eq_self, Nat.add_zero, if_pos, if_neg, hj.1, c1, c2, c3, c4, c5, Int32.add_zero, ← h1, ← h3, ← hs]
      unfold addm wr
      rw [h4]
    · rw [if_neg hs0] at hs
      simp only [if_neg hs0]
      simp (disch := omega) only [i0, i1, i2, i3, i4, i5, i6, i8, i16, i30, i60, i100, i200, i201, i300, i1500, i8000, iM, nIa, nIp, nIs, nIle, nIlt, nIeq, nImlt, nImle, nImeq, nImeq2, nI0le, bV_e, bI_s, bL_s, bU_s, pS_e, gI_n, gL_n, pI_n, pL_n, sI_1, sI_22, sL_1, sL_21, sS_21, sS_22, sI_ne, sL_ne, sS_ne, sS_eq, sI_eq, sI_at, sL_eq, sL_at, if_true, if_false, eq_self, Nat.add_zero, if_pos, if_neg, hj.1, c1, c2, c3, c4, c5, ← h1, ← h3, ← hs]
      unfold addm wr
      rw [h4]
  unfold f_X4_copyMark j_X4_copyMark_52
  by_cases h0 : m.1 = 1 ∧ m.2.2.1 ≤ m.2.1
  · rw [if_pos h0] at h2
    simp (disch := omega) only [i0, i1, i2, i3, i4, i5, i6, i8, i16, i30, i60, i100, i200, i201, i300, i1500, i8000, iM, nIa, nIp, nIs, nIle, nIlt, nIeq, nImlt, nImle, nImeq, nImeq2, nI0le, bV_e, bI_s, bL_s, bU_s, pS_e, gI_n, gL_n, pI_n, pL_n, sI_1, sI_22, sL_1, sL_21, sS_21, sS_22, sI_ne, sL_ne, sS_ne, sS_eq, sI_eq, sI_at, sL_eq, sL_at, if_true, if_false, eq_self, Nat.add_zero, if_pos, if_neg, hj.1, ha.1, c1, c2, c3]
    exact fin _ (by rw [if_neg (by decide)]; exact h2)
  · rw [if_neg h0] at h2
    have f0 := fin (nI 0) (by rw [if_pos (by decide)]; exact h2)
    by_cases h01 : m.1 = 1
    · simp (disch := omega) only [i0, i1, i2, i3, i4, i5, i6, i8, i16, i30, i60, i100, i200, i201, i300, i1500, i8000, iM, nIa, nIp, nIs, nIle, nIlt, nIeq, nImlt, nImle, nImeq, nImeq2, nI0le, bV_e, bI_s, bL_s, bU_s, pS_e, gI_n, gL_n, pI_n, pL_n, sI_1, sI_22, sL_1, sL_21, sS_21, sS_22, sI_ne, sL_ne, sS_ne, sS_eq, sI_eq, sI_at, sL_eq, sL_at, if_true, if_false, eq_self, Nat.add_zero, if_pos, if_neg, hj.1, ha.1, c1, c2, c3]
      exact f0
    · simp (disch := omega) only [i0, i1, i2, i3, i4, i5, i6, i8, i16, i30, i60, i100, i200, i201, i300, i1500, i8000, iM, nIa, nIp, nIs, nIle, nIlt, nIeq, nImlt, nImle, nImeq, nImeq2, nI0le, bV_e, bI_s, bL_s, bU_s, pS_e, gI_n, gL_n, pI_n, pL_n, sI_1, sI_22, sL_1, sL_21, sS_21, sS_22, sI_ne, sL_ne, sS_ne, sS_eq, sI_eq, sI_at, sL_eq, sL_at, if_true, if_false, eq_self, Nat.add_zero, if_pos, if_neg, hj.1, ha.1, c1, c2, c3]
      exact f0
