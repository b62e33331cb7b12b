/-! what the methods of Row do, on lists of marks -/
/-- parts of a kind -/
def ar (k : Nat) : Nat := if k = 6 then 3 else if k = 3 ∨ k = 4 ∨ k = 5 then 2 else 0
theorem ar_le (k : Nat) : ar k ≤ 3 := by unfold ar; split <;> (try split) <;> omega
theorem s_partsOf4 {n k : Nat} {S : St} (hk : k ≤ 6) : f_X4_partsOf n S (nI k) = some (S, nI (ar k)) := by
  rcases (show k = 0 ∨ k = 1 ∨ k = 2 ∨ k = 3 ∨ k = 4 ∨ k = 5 ∨ k = 6 by omega) with h | h | h | h | h | h | h <;> subst h <;> rfl
theorem s_kindAt {n : Nat} {S : St} {j p : Nat} {ms : List Mk} (h : RW S j ms) (hp : p < 2 ^ 31) : f_X4_kindAt n S j (nI p) = some (S, match ms[p]? with | some m => nI m.1 | none => mI) := by
  have h2 := h.2.1
  unfold f_X4_kindAt
  rcases Nat.lt_or_ge p ms.length with q | q
  · have e : ms[p]? = some ms[p] := List.getElem?_eq_getElem q
    obtain ⟨c1, -⟩ := h.2.2 p _ e
    rw [e]
    simp (disch := omega) only [i0, i1, i2, i3, i4, i5, i6, i8, i16, i30, i60, i100, i200, i201, i300, i1500, i8000, iM, nIa, nIp, nIs, nIle, nIlt, nIeq, nImlt, nImle, nImeq, nImeq2, nI0le, bV_e, bI_s, bL_s, bU_s, pS_e, gI_n, gL_n, pI_n, pL_n, sI_1, sI_22, sL_1, sL_21, sS_21, sS_22, sI_ne, sL_ne, sS_ne, sS_eq, sI_eq, sI_at, sL_eq, sL_at, if_true, if_false, eq_self, Nat.add_zero, if_pos, if_neg, h.1, c1]
  · rw [List.getElem?_eq_none q]
    simp (disch := omega) only [i0, i1, i2, i3, i4, i5, i6, i8, i16, i30, i60, i100, i200, i201, i300, i1500, i8000, iM, nIa, nIp, nIs, nIle, nIlt, nIeq, nImlt, nImle, nImeq, nImeq2, nI0le, bV_e, bI_s, bL_s, bU_s, pS_e, gI_n, gL_n, pI_n, pL_n, sI_1, sI_22, sL_1, sL_21, sS_21, sS_22, sI_ne, sL_ne, sS_ne, sS_eq, sI_eq, sI_at, sL_eq, sL_at, if_true, if_false, eq_self, Nat.add_zero, if_pos, if_neg, h.1]
/-- how many marks the first k terms of a list take -/
def fpT : Nat → List Mk → Nat
  | 0, _ => 0
  | _ + 1, [] => 0
  | k + 1, m :: r => 1 + fpT (k + ar m.1) r
theorem fpT_le : ∀ {ms : List Mk} {k : Nat}, fpT k ms ≤ ms.length := by
  intro ms
  induction ms with
  | nil => intro k; cases k <;> simp [fpT]
  | cons m r ih =>
    intro k
    cases k with
    | zero => simp [fpT]
    | succ k => have := ih (k := k + ar m.1); simp only [fpT, List.length_cons]; omega
theorem drop_c {α : Type} {l : List α} {i : Nat} (h : i < l.length) : l.drop i = l[i] :: l.drop (i + 1) := List.drop_eq_getElem_cons h
theorem s_endOf_l {n : Nat} {S : St} {j : Nat} {ms : List Mk} (h : RW S j ms) (hb : ∀ m ∈ ms, mB m) : ∀ (d m k i : Nat), i + d = ms.length → d < m → k + 3 * d < 2 ^ 30 → l_X4_endOf_8 n m S j (nI k) (nI i) = some (S, nI (i + fpT k (ms.drop i))) := by
  have h2 := h.2.1
  intro d
  induction d with
  | zero =>
    intro m k i hi hm hk
    obtain ⟨m, rfl⟩ : ∃ x, m = x + 1 := ⟨m - 1, by omega⟩
    unfold l_X4_endOf_8
    rw [List.drop_eq_nil_iff.mpr (by omega)]
    simp (disch := omega) only [i0, i1, i2, i3, i4, i5, i6, i8, i16, i30, i60, i100, i200, i201, i300, i1500, i8000, iM, nIa, nIp, nIs, nIle, nIlt, nIeq, nImlt, nImle, nImeq, nImeq2, nI0le, bV_e, bI_s, bL_s, bU_s, pS_e, gI_n, gL_n, pI_n, pL_n, sI_1, sI_22, sL_1, sL_21, sS_21, sS_22, sI_ne, sL_ne, sS_ne, sS_eq, sI_eq, sI_at, sL_eq, sL_at, if_true, if_false, eq_self, Nat.add_zero, if_pos, if_neg, h.1]
    cases k <;> rfl
  | succ d ih =>
    intro m k i hi hm hk
    obtain ⟨m, rfl⟩ : ∃ x, m = x + 1 := ⟨m - 1, by omega⟩
    have hlt : i < ms.length := by omega
    unfold l_X4_endOf_8
    rw [drop_c hlt]
    have e : ms[i]? = some ms[i] := List.getElem?_eq_getElem hlt
    obtain ⟨c1, -⟩ := h.2.2 i _ e
    have hB := hb _ (List.getElem_mem hlt)
    cases k with
    | zero => simp (disch := omega) only [i0, i1, i2, i3, i4, i5, i6, i8, i16, i30, i60, i100, i200, i201, i300, i1500, i8000, iM, nIa, nIp, nIs, nIle, nIlt, nIeq, nImlt, nImle, nImeq, nImeq2, nI0le, bV_e, bI_s, bL_s, bU_s, pS_e, gI_n, gL_n, pI_n, pL_n, sI_1, sI_22, sL_1, sL_21, sS_21, sS_22, sI_ne, sL_ne, sS_ne, sS_eq, sI_eq, sI_at, sL_eq, sL_at, if_true, if_false, eq_self, Nat.add_zero, if_pos, if_neg, h.1]; rfl
    | succ k =>
      have e2 : nI (k + 1) + (nI (ar ms[i].1) - 1) = nI (k + ar ms[i].1) := by rw [nI_succ, ad1, nI_add]
      have hB1 := hB.1
      have ha := ar_le ms[i].1
      have hih := ih m (k + ar ms[i].1) (i + 1) (by omega) (by omega) (by omega)
      rw [show i + fpT (k + 1) (ms[i] :: ms.drop (i + 1)) = i + 1 + fpT (k + ar ms[i].1) (ms.drop (i + 1)) by simp only [fpT]; omega, ← hih]
      rw [if_neg (show ¬ (S.1 150 j ≤ nI i) by rw [h.1]; exact nI_ge hlt (by omega)), if_neg (show ¬ nI (k + 1) ≤ 0 from nI_nle (by omega) (by omega)), gI_n (by omega) (by omega), c1, s_partsOf4 hB1, bI_s, bV_e, bV_e, e2, nI_1]
theorem s_endOf {n : Nat} {S : St} {j p : Nat} {ms : List Mk} (h : RW S j ms) (hb : ∀ m ∈ ms, mB m) (hp : p ≤ ms.length) (hn : 201 ≤ n) : f_X4_endOf n S j (nI p) = some (S, nI (p + fpT 1 (ms.drop p))) := by
  have h2 := h.2.1
  unfold f_X4_endOf
  rw [bV_e, if_neg (nI_pos (by omega))]
  exact s_endOf_l h hb (ms.length - p) n 1 p (by omega) (by omega) (by omega)
/-- a whole row behind another one, each mark as g makes it -/
theorem s_append_l {n : Nat} {j a : Nat} {bl : Int32} {src : List Mk} {g : Mk → Mk} (hja : j ≠ a) (hg : ∀ m ∈ src, cpm bl 0 m (g m)) (hb : ∀ m ∈ src, mB m) : ∀ (d m i : Nat) (S : St) (ms : List Mk), RW S j ms → RW S a src → i + d = src.length → d < m → ms.length + d ≤ 200 → ∃ S', l_X4_append_2 n m S j a bl (nI i) = some S' ∧ RW S' j (ms ++ (src.drop i).map g) ∧ FR [1000 + j] S S' := by
  intro d
  induction d with
  | zero =>
    intro m i S ms hj ha hi hm hl
    have h2 := ha.2.1
    obtain ⟨m, rfl⟩ : ∃ x, m = x + 1 := ⟨m - 1, by omega⟩
    refine ⟨S, ?_, ?_, FR_rf⟩
    · unfold l_X4_append_2
      simp (disch := omega) only [i0, i1, i2, i3, i4, i5, i6, i8, i16, i30, i60, i100, i200, i201, i300, i1500, i8000, iM, nIa, nIp, nIs, nIle, nIlt, nIeq, nImlt, nImle, nImeq, nImeq2, nI0le, bV_e, bI_s, bL_s, bU_s, pS_e, gI_n, gL_n, pI_n, pL_n, sI_1, sI_22, sL_1, sL_21, sS_21, sS_22, sI_ne, sL_ne, sS_ne, sS_eq, sI_eq, sI_at, sL_eq, sL_at, if_true, if_false, eq_self, Nat.add_zero, if_pos, if_neg, ha.1]
    · rw [List.drop_eq_nil_iff.mpr (by omega), List.map_nil, List.append_nil]; exact hj
  | succ d ih =>
    intro m i S ms hj ha hi hm hl
    have h2 := ha.2.1
    obtain ⟨m, rfl⟩ : ∃ x, m = x + 1 := ⟨m - 1, by omega⟩
    have hlt : i < src.length := by omega
    have e : src[i]? = some src[i] := List.getElem?_eq_getElem hlt
    have hmem := List.getElem_mem hlt
    have fr : FR [1000 + j] S (addm S j ms (g src[i])) := addm_fr FR_rf (by simp)
    obtain ⟨S', q1, q2, q3⟩ := ih m (i + 1) (addm S j ms (g src[i])) (ms ++ [g src[i]]) (RW_add hj (by omega)) (RW_fr ha fr (by simp; omega)) (by omega) (by omega) (by rw [List.length_append, List.length_singleton]; omega)
    refine ⟨S', ?_, ?_, FR_tr fr q3⟩
    · unfold l_X4_append_2
      rw [if_neg (by rw [ha.1]; exact nI_ge hlt (by omega)), s_copyMark hj ha hja e (hb _ hmem) (by omega) (hg _ hmem), bU_s, bV_e, nI_1, q1]
    · rw [drop_c hlt, List.map_cons]
      rw [List.append_assoc, List.singleton_append] at q2
      exact q2
theorem s_append {n : Nat} {j a : Nat} {bl : Int32} {src : List Mk} {g : Mk → Mk} (hja : j ≠ a) (hg : ∀ m ∈ src, cpm bl 0 m (g m)) (hb : ∀ m ∈ src, mB m) {S : St} {ms : List Mk} (hj : RW S j ms) (ha : RW S a src) (hl : ms.length + src.length ≤ 200) (hn : 201 ≤ n) : ∃ S', f_X4_append n S j a bl = some S' ∧ RW S' j (ms ++ src.map g) ∧ FR [1000 + j] S S' := by
  have h2 := ha.2.1
  have := s_append_l (n := n) hja hg hb src.length n 0 S ms hj ha (by omega) (by omega) hl
  rw [List.drop_zero] at this
  exact this
/-- some marks of a list -/
def seg (ms : List Mk) (i k : Nat) : List Mk := (ms.take k).drop i
theorem seg_c {ms : List Mk} {i k : Nat} (h : i < k) (hk : k ≤ ms.length) : seg ms i k = ms[i]'(by omega) :: seg ms (i + 1) k := by
  unfold seg
  rw [drop_c (by rw [List.length_take]; omega), List.getElem_take]
theorem seg_0 {ms : List Mk} {k : Nat} : seg ms k k = [] := List.drop_eq_nil_iff.mpr (by rw [List.length_take]; omega)
theorem seg_len {ms : List Mk} {i k : Nat} (hk : k ≤ ms.length) : (seg ms i k).length = k - i := by unfold seg; rw [List.length_drop, List.length_take]; omega
theorem seg_mem {ms : List Mk} {i k : Nat} {m : Mk} (h : m ∈ seg ms i k) : m ∈ ms := List.mem_of_mem_take (List.mem_of_mem_drop h)
/-- less binders around a mark -/
def dnM (c : Nat) (m : Mk) : Mk := (m.1, m.2.1, m.2.2.1 - c, m.2.2.2)
theorem Int32_sub_neg (a b : Int32) : a + -b = a - b := by rw [Int32.sub_eq_add_neg]
theorem cpm_dn {c : Nat} {m : Mk} (h : c ≤ m.2.2.1) : cpm (-(nI c)) 0 m (dnM c m) := by
  refine ⟨rfl, ?_, ?_, rfl⟩
  · split <;> exact (Int32.add_zero _).symm
  · rw [Int32_sub_neg, nIs h]; rfl
theorem s_takePart {n : Nat} {j a i k : Nat} {S : St} {src ms : List Mk} {m0 : Mk} (hja : j ≠ a) (ha : RW S a src) (hi : src[i]? = some m0) (hik : i ≤ k) (hk : k ≤ src.length) (hb : ∀ m ∈ src, mB m) (hd : ∀ m ∈ seg src i k, m0.2.2.1 ≤ m.2.2.1) (hn : 201 ≤ n) : ∃ S', f_X4_takePart n S j a (nI i) (nI k) = some S' ∧ RW S' j ((seg src i k).map (dnM m0.2.2.1)) ∧ FR [1000 + j] S S' := by
  have h2 := ha.2.1
  have hlt := gt_lt hi
  have ha1 : RW (sS S 150 j (nI 0)) a src := RW_fr ha (FR_sS (R := [1000 + j]) FR_rf (by rw [rgR (by omega)]; simp)) (by simp; omega)
  obtain ⟨-, -, c3, -⟩ := ha1.2.2 i m0 hi
  have key : ∀ (d m x : Nat) (S : St) (ms : List Mk), RW S j ms → RW S a src → x + d = k → d < m → ms.length + d ≤ 200 → i ≤ x → ∃ S', l_X4_takePart_29 n m S j a (nI k) (nI m0.2.2.1) (nI x) = some S' ∧ RW S' j (ms ++ (seg src x k).map (dnM m0.2.2.1)) ∧ FR [1000 + j] S S' := by
    intro d
    induction d with
    | zero =>
      intro m x S ms hj ha hi hm hl _
      obtain ⟨m, rfl⟩ : ∃ x, m = x + 1 := ⟨m - 1, by omega⟩
      have : x = k := by omega
      subst this
      refine ⟨S, ?_, ?_, FR_rf⟩
      · unfold l_X4_takePart_29
        simp (disch := omega) only [i0, i1, i2, i3, i4, i5, i6, i8, i16, i30, i60, i100, i200, i201, i300, i1500, i8000, iM, nIa, nIp, nIs, nIle, nIlt, nIeq, nImlt, nImle, nImeq, nImeq2, nI0le, bV_e, bI_s, bL_s, bU_s, pS_e, gI_n, gL_n, pI_n, pL_n, sI_1, sI_22, sL_1, sL_21, sS_21, sS_22, sI_ne, sL_ne, sS_ne, sS_eq, sI_eq, sI_at, sL_eq, sL_at, if_true, if_false, eq_self, Nat.add_zero, if_pos, if_neg]
      · rw [seg_0, List.map_nil, List.append_nil]; exact hj
    | succ d ih =>
      intro m x S ms hj ha hi hm hl hx
      obtain ⟨m, rfl⟩ : ∃ x, m = x + 1 := ⟨m - 1, by omega⟩
      have hlt : x < src.length := by omega
      have e : src[x]? = some src[x] := List.getElem?_eq_getElem hlt
      have hmem := List.getElem_mem hlt
      have hin : src[x] ∈ seg src i k := by
        unfold seg
        rw [List.mem_iff_getElem?]
        exact ⟨x - i, by rw [List.getElem?_drop, List.getElem?_take, if_pos (by omega), show i + (x - i) = x by omega, e]⟩
      have fr : FR [1000 + j] S (addm S j ms (dnM m0.2.2.1 src[x])) := addm_fr FR_rf (by simp)
      obtain ⟨S', q1, q2, q3⟩ := ih m (x + 1) (addm S j ms (dnM m0.2.2.1 src[x])) (ms ++ [dnM m0.2.2.1 src[x]]) (RW_add hj (by omega)) (RW_fr ha fr (by simp; omega)) (by omega) (by omega) (by rw [List.length_append, List.length_singleton]; omega) (by omega)
      refine ⟨S', ?_, ?_, FR_tr fr q3⟩
      · unfold l_X4_takePart_29
        rw [if_neg (nI_ge (by omega) (by omega)), if_neg (by rw [ha.1]; exact nI_ge hlt (by omega)), s_copyMark hj ha hja e (hb _ hmem) (by omega) (cpm_dn (hd _ hin)), bU_s, bV_e, nI_1, q1]
      · rw [seg_c (by omega) hk, List.map_cons]
        rw [List.append_assoc, List.singleton_append] at q2
        exact q2
  obtain ⟨S', q1, q2, q3⟩ := key (k - i) n i (sS S 150 j (nI 0)) [] RW_0 ha1 (by omega) (by omega) (by simp; omega) (Nat.le_refl _)
  refine ⟨S', ?_, q2, FR_tr (FR_sS FR_rf (by rw [rgR (by omega)]; simp)) q3⟩
  unfold f_X4_takePart
  have e1 := ha1.1
  rw [pS_e]
  rw [i0]
  rw [if_neg (show ¬ nI i < nI 0 from nI_pos (by omega)), e1, if_pos (nI_lt hlt (by omega)), gI_n (by omega) (by omega), c3, q1]
