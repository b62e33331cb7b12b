/-! levels of a row -/
/-- a level, or none -/
def lO (l : List Nat) : Prop := l = [] ∨ lvO l
theorem lO_ok {l : List Nat} (h : lO l) : okL l ∧ l.length ≤ 16 := by
  rcases h with h | h
  · subst h; exact ⟨fun t ht => by simp at ht, by simp⟩
  · exact ⟨h.1, h.2.1⟩
/-- a mark that may stand in a row -/
def mV (m : Mk) : Prop := mB m ∧ (m.1 = 0 → lvO m.2.2.2.1) ∧ (m.1 = 2 → lvO m.2.2.2.1 ∧ lvO m.2.2.2.2) ∧ (m.1 ≠ 0 → m.1 ≠ 2 → m.2.2.2.1 = []) ∧ (m.1 ≠ 2 → m.2.2.2.2 = []) ∧ (m.1 ≠ 1 → m.1 ≠ 2 → m.2.1 = 0)
theorem mV_1 {m : Mk} (h : mV m) : lO m.2.2.2.1 := by
  obtain ⟨-, h1, h2, h3, -⟩ := h
  by_cases z : m.1 = 0
  · exact Or.inr (h1 z)
  · by_cases y : m.1 = 2
    · exact Or.inr (h2 y).1
    · exact Or.inl (h3 z y)
theorem mV_2 {m : Mk} (h : mV m) : lO m.2.2.2.2 := by
  obtain ⟨-, -, h2, -, h4, -⟩ := h
  by_cases y : m.1 = 2
  · exact Or.inr (h2 y).2
  · exact Or.inl (h4 y)
theorem lc_wLv {a b : List Nat} (ha : lc 1 a) (hb : lc 1 b) : ∀ {l : List Nat} {k : Nat}, lc k l → lc k (wLv a b l) := by
  intro l
  induction l with
  | nil => intro k h; exact h
  | cons t r ih =>
    intro k h
    cases k with
    | zero => exact h.elim
    | succ k =>
      have h2 : lc (k + tp t) r := h
      have e : wLv a b (t :: r) = sbl a b t ++ wLv a b r := rfl
      rw [e]
      have h3 := ih h2
      unfold sbl
      by_cases h4 : t = 4
      · subst h4
        rw [if_pos rfl]
        have := lc_app ha h3
        rw [show 1 + (k + tp 4) = k + 1 by rw [show tp 4 = 0 from rfl]; omega] at this
        exact this
      · rw [if_neg h4]
        by_cases h5 : t = 5
        · subst h5
          rw [if_pos rfl]
          have := lc_app hb h3
          rw [show 1 + (k + tp 5) = k + 1 by rw [show tp 5 = 0 from rfl]; omega] at this
          exact this
        · rw [if_neg h5]
          exact h3
theorem lO_wLv {a b l : List Nat} (ha : lvO a) (hb : lvO b) (h : lO l) (hl : (wLv a b l).length ≤ 16) : lO (wLv a b l) := by
  rcases h with h | h
  · subst h; exact Or.inl rfl
  · exact Or.inr ⟨okL_wLv ha.1 hb.1 h.1, hl, lc_wLv ha.2.2 hb.2.2 h.2.2⟩
/-- a mark with two levels for the first parameters -/
def gvM (a b : List Nat) (m : Mk) : Mk := (m.1, m.2.1, m.2.2.1, wLv a b m.2.2.2.1, wLv a b m.2.2.2.2)
/-- its levels aren't too large -/
def f16 (m : Mk) : Bool := decide (m.2.2.2.1.length ≤ 16 ∧ m.2.2.2.2.length ≤ 16)
theorem s_give_l {n : Nat} {j : Nat} {a b : List Nat} {ms : List Mk} (ha : lvO a) (hb : lvO b) (hv : ∀ m ∈ ms, mV m) (hn : 17 ≤ n) : ∀ (rest done : List Mk) (m : Nat) (S : St), RW S j (done.map (gvM a b) ++ rest) → ms = done ++ rest → rest.length < m → (done.map (gvM a b)).all f16 = true → ∃ S', l_X4_giveLevels_3 n m S j (en a) (en b) (nI done.length) = some (S', if (ms.map (gvM a b)).all f16 then 1 else 0) ∧ ((ms.map (gvM a b)).all f16 = true → RW S' j (ms.map (gvM a b))) ∧ FR [1000 + j] S S' := by
  intro rest
  induction rest with
  | nil =>
    intro done m S h e hm hd
    have h2 := h.2.1
    have h1 := h.1
    obtain ⟨m, rfl⟩ : ∃ x, m = x + 1 := ⟨m - 1, by omega⟩
    rw [List.append_nil] at e h h1 h2
    rw [List.length_map] at h1 h2
    subst e
    refine ⟨S, ?_, fun _ => h, FR_rf⟩
    rw [if_pos hd]
    unfold l_X4_giveLevels_3
    simp (disch := omega) only [i0, i1, i2, i3, i4, i5, i6, i8, i16, i30, i60, i100, i200, i201, i300, i1500, i8000, iM, nIa, nIp, nIs, nIle, nIlt, nIeq, nImlt, nImle, nImeq, nImeq2, nI0le, bV_e, bI_s, bL_s, bU_s, pS_e, gI_n, gL_n, pI_n, pL_n, sI_1, sI_22, sL_1, sL_21, sS_21, sS_22, sI_ne, sL_ne, sS_ne, sS_eq, sI_eq, sI_at, sL_eq, sL_at, if_true, if_false, eq_self, Nat.add_zero, if_pos, if_neg, h1]
  | cons x rest ih =>
    intro done m S h e hm hd
    have h2 := h.2.1
    have h1 := h.1
    rw [List.length_append, List.length_map, List.length_cons] at h1 h2
    rw [List.length_cons] at hm
    obtain ⟨m, rfl⟩ : ∃ x, m = x + 1 := ⟨m - 1, by omega⟩
    have hmem : x ∈ ms := by rw [e]; simp
    have hV := hv _ hmem
    have hat : (done.map (gvM a b) ++ x :: rest)[done.length]? = some x := by
      have := mid_at (a := done.map (gvM a b)) (b := rest) (x := x)
      rw [List.length_map] at this
      exact this
    obtain ⟨c1, c2, c3, c4, c5⟩ := h.2.2 _ _ hat
    obtain ⟨o1, o2⟩ := lO_ok (mV_1 hV)
    obtain ⟨o3, o4⟩ := lO_ok (mV_2 hV)
    have w1 : ∀ S : St, f_X0_withLevels n S (en x.2.2.2.1) (en a) (en b) = some (S, if (wLv a b x.2.2.2.1).length ≤ 16 then en (wLv a b x.2.2.2.1) else -1) := fun S => s_withLevels ha.1 hb.1 o1 ha.2.1 hb.2.1 o2 hn
    have w2 : ∀ S : St, f_X0_withLevels n S (en x.2.2.2.2) (en a) (en b) = some (S, if (wLv a b x.2.2.2.2).length ≤ 16 then en (wLv a b x.2.2.2.2) else -1) := fun S => s_withLevels ha.1 hb.1 o3 ha.2.1 hb.2.1 o4 hn
    have k1 : okL (wLv a b x.2.2.2.1) := okL_wLv ha.1 hb.1 o1
    have k2 : okL (wLv a b x.2.2.2.2) := okL_wLv ha.1 hb.1 o3
    have r1 : ∀ v : Int64, rg 154 j ∈ [1000 + j] := fun _ => by rw [rgR (by omega)]; simp
    have r2 : ∀ v : Int64, rg 155 j ∈ [1000 + j] := fun _ => by rw [rgR (by omega)]; simp
    have hall : (ms.map (gvM a b)).all f16 = ((done.map (gvM a b)).all f16 && (f16 (gvM a b x) && (rest.map (gvM a b)).all f16)) := by
      rw [e, List.map_append, List.all_append, List.map_cons, List.all_cons]
    by_cases p1 : (wLv a b x.2.2.2.1).length ≤ 16
    · by_cases p2 : (wLv a b x.2.2.2.2).length ≤ 16
      · have fx : f16 (gvM a b x) = true := decide_eq_true ⟨p1, p2⟩
        have hS1 : RW (sL (sL S 154 j done.length (en (wLv a b x.2.2.2.1))) 155 j done.length (en (wLv a b x.2.2.2.2))) j ((done ++ [x]).map (gvM a b) ++ rest) := by
          have e2 : (done.map (gvM a b) ++ x :: rest).set done.length (gvM a b x) = (done ++ [x]).map (gvM a b) ++ rest := by
            have := set_mid (a := done.map (gvM a b)) (b := rest) (x := x) (y := gvM a b x)
            rw [List.length_map] at this
            rw [this, List.map_append, List.map_singleton, List.append_assoc, List.singleton_append]
          rw [← e2]
          refine RW_set h rfl ⟨c1, c2, c3, by rw [sL_ne (by omega), sL_eq]; rfl, by rw [sL_eq]; rfl⟩ (fun i' m0 hi hc => ⟨hc.1, hc.2.1, hc.2.2.1, by rw [sL_ne (by omega), sL_at hi]; exact hc.2.2.2.1, by rw [sL_at hi, sL_ne (by omega)]; exact hc.2.2.2.2⟩)
        obtain ⟨S', q1, q2, q3⟩ := ih (done ++ [x]) m _ hS1 (by rw [e, List.append_assoc, List.singleton_append]) (by omega) (by rw [List.map_append, List.all_append, hd, List.map_singleton, List.all_cons, fx]; rfl)
        refine ⟨S', ?_, q2, FR_tr (FR_sL (FR_sL FR_rf (r1 0)) (r2 0)) q3⟩
        rw [List.length_append, List.length_singleton] at q1
        unfold l_X4_giveLevels_3
        have n1 : ¬ lg_cmp (en (wLv a b x.2.2.2.1)) (-1) = 0 := fun z => en_m1 k1 (by omega) ((cmp_eq _ _).mp z)
        have n2 : ¬ lg_cmp (en (wLv a b x.2.2.2.2)) (-1) = 0 := fun z => en_m1 k2 (by omega) ((cmp_eq _ _).mp z)
        rw [i0] at n1 n2
        simp (disch := omega) only [i0, i1, i2, i3, i4, i5, i6, i8, i16, i30, i60, i100, i200, i201, i300, i1500, i8000, iM, nIa, nIp, nIs, nIle, nIlt, nIeq, nImlt, nImle, nImeq, nImeq2, nI0le, bV_e, bI_s, bL_s, bU_s, pS_e, gI_n, gL_n, pI_n, pL_n, sI_1, sI_22, sL_1, sL_21, sS_21, sS_22, sI_ne, sL_ne, sS_ne, sS_eq, sI_eq, sI_at, sL_eq, sL_at, if_true, if_false, eq_self, Nat.add_zero, if_pos, if_neg, h1, c4, c5, w1, w2, n1, n2]
        exact q1
      · have fx : f16 (gvM a b x) = false := decide_eq_false (fun z => p2 z.2)
        rw [hall, fx, Bool.false_and, Bool.and_false]
        refine ⟨sL (sL S 154 j done.length (en (wLv a b x.2.2.2.1))) 155 j done.length (-1), ?_, (fun z => nomatch z), FR_sL (FR_sL FR_rf (r1 0)) (r2 0)⟩
        unfold l_X4_giveLevels_3
        have n1 : ¬ lg_cmp (en (wLv a b x.2.2.2.1)) (-1) = 0 := fun z => en_m1 k1 (by omega) ((cmp_eq _ _).mp z)
        have n2 : lg_cmp (-1) (-1) = 0 := (cmp_eq _ _).mpr rfl
        rw [i0] at n1 n2
        simp (disch := omega) only [i0, i1, i2, i3, i4, i5, i6, i8, i16, i30, i60, i100, i200, i201, i300, i1500, i8000, iM, nIa, nIp, nIs, nIle, nIlt, nIeq, nImlt, nImle, nImeq, nImeq2, nI0le, bV_e, bI_s, bL_s, bU_s, pS_e, gI_n, gL_n, pI_n, pL_n, sI_1, sI_22, sL_1, sL_21, sS_21, sS_22, sI_ne, sL_ne, sS_ne, sS_eq, sI_eq, sI_at, sL_eq, sL_at, if_true, if_false, eq_self, Nat.add_zero, if_pos, if_neg, h1, c4, c5, w1, w2, n1, n2]
        rfl
    · have fx : f16 (gvM a b x) = false := decide_eq_false (fun z => p1 z.1)
      rw [hall, fx, Bool.false_and, Bool.and_false]
      refine ⟨sL (sL S 154 j done.length (-1)) 155 j done.length (if (wLv a b x.2.2.2.2).length ≤ 16 then en (wLv a b x.2.2.2.2) else -1), ?_, (fun z => nomatch z), FR_sL (FR_sL FR_rf (r1 0)) (r2 0)⟩
      unfold l_X4_giveLevels_3
      have n2 : lg_cmp (-1) (-1) = 0 := (cmp_eq _ _).mpr rfl
      rw [i0] at n2
      by_cases p2 : (wLv a b x.2.2.2.2).length ≤ 16
      · simp (disch := omega) only [i0, i1, i2, i3, i4, i5, i6, i8, i16, i30, i60, i100, i200, i201, i300, i1500, i8000, iM, nIa, nIp, nIs, nIle, nIlt, nIeq, nImlt, nImle, nImeq, nImeq2, nI0le, bV_e, bI_s, bL_s, bU_s, pS_e, gI_n, gL_n, pI_n, pL_n, sI_1, sI_22, sL_1, sL_21, sS_21, sS_22, sI_ne, sL_ne, sS_ne, sS_eq, sI_eq, sI_at, sL_eq, sL_at, if_true, if_false, eq_self, Nat.add_zero, if_pos, if_neg, h1, c4, c5, w1, w2, n2]
        rfl
      · simp (disch := omega) only [i0, i1, i2, i3, i4, i5, i6, i8, i16, i30, i60, i100, i200, i201, i300, i1500, i8000, iM, nIa, nIp, nIs, nIle, nIlt, nIeq, nImlt, nImle, nImeq, nImeq2, nI0le, bV_e, bI_s, bL_s, bU_s, pS_e, gI_n, gL_n, pI_n, pL_n, sI_1, sI_22, sL_1, sL_21, sS_21, sS_22, sI_ne, sL_ne, sS_ne, sS_eq, sI_eq, sI_at, sL_eq, sL_at, if_true, if_false, eq_self, Nat.add_zero, if_pos, if_neg, h1, c4, c5, w1, w2, n2]
        rfl
theorem s_giveLevels {n : Nat} {S : St} {j : Nat} {a b : List Nat} {ms : List Mk} (ha : lvO a) (hb : lvO b) (hv : ∀ m ∈ ms, mV m) (hn : 201 ≤ n) (h : RW S j ms) : ∃ S', f_X4_giveLevels n S j (en a) (en b) = some (S', if (ms.map (gvM a b)).all f16 then 1 else 0) ∧ ((ms.map (gvM a b)).all f16 = true → RW S' j (ms.map (gvM a b))) ∧ FR [1000 + j] S S' := by
  have h2 := h.2.1
  obtain ⟨S', q1, q2, q3⟩ := s_give_l (n := n) ha hb hv (by omega) ms [] n S h rfl (by omega) rfl
  refine ⟨S', ?_, q2, q3⟩
  unfold f_X4_giveLevels g_X4_giveLevels
  rw [show (0 : Int32) = nI ([] : List Mk).length from rfl, q1]
  exact zW_01 (by split <;> simp)
def hasP (p : Nat) (ms : List Mk) : Bool := ms.any (fun m => m.2.2.2.1.any (fun t => decide (4 + p ≤ t)) || m.2.2.2.2.any (fun t => decide (4 + p ≤ t)))
theorem s_hasPR_l {n p : Nat} {S : St} {j : Nat} {ms : List Mk} (h : RW S j ms) (hv : ∀ m ∈ ms, mV m) (hp : p ≤ 2) (hn : 17 ≤ n) : ∀ (d m i : Nat), i + d = ms.length → d < m → l_X4_hasParameterFrom_2 n m S j (nI p) (nI i) = some (S, if hasP p (ms.drop i) then 1 else 0) := by
  have h2 := h.2.1
  intro d
  induction d with
  | zero =>
    intro m i hi hm
    obtain ⟨m, rfl⟩ : ∃ x, m = x + 1 := ⟨m - 1, by omega⟩
    unfold l_X4_hasParameterFrom_2
    rw [List.drop_eq_nil_iff.mpr (by omega)]
    simp (disch := omega) only [i0, i1, i2, i3, i4, i5, i6, i8, i16, i30, i60, i100, i200, i201, i300, i1500, i8000, iM, nIa, nIp, nIs, nIle, nIlt, nIeq, nImlt, nImle, nImeq, nImeq2, nI0le, bV_e, bI_s, bL_s, bU_s, pS_e, gI_n, gL_n, pI_n, pL_n, sI_1, sI_22, sL_1, sL_21, sS_21, sS_22, sI_ne, sL_ne, sS_ne, sS_eq, sI_eq, sI_at, sL_eq, sL_at, if_true, if_false, eq_self, Nat.add_zero, if_pos, if_neg, h.1]
    rfl
  | succ d ih =>
    intro m i hi hm
    obtain ⟨m, rfl⟩ : ∃ x, m = x + 1 := ⟨m - 1, by omega⟩
    have hlt : i < ms.length := by omega
    have e : ms[i]? = some ms[i] := List.getElem?_eq_getElem hlt
    obtain ⟨-, -, -, c4, c5⟩ := h.2.2 i _ e
    have hV := hv _ (List.getElem_mem hlt)
    obtain ⟨o1, o2⟩ := lO_ok (mV_1 hV)
    obtain ⟨o3, o4⟩ := lO_ok (mV_2 hV)
    have hih := ih m (i + 1) (by omega) (by omega)
    have w1 := s_hasPar (n := n) (S := S) o1 o2 hp hn
    have w2 := s_hasPar (n := n) (S := S) o3 o4 hp hn
    rw [drop_c hlt]
    have e3 : hasP p (ms[i] :: ms.drop (i + 1)) = ((ms[i].2.2.2.1.any (fun t => decide (4 + p ≤ t)) || ms[i].2.2.2.2.any (fun t => decide (4 + p ≤ t))) || hasP p (ms.drop (i + 1))) := rfl
    rw [e3]
    unfold l_X4_hasParameterFrom_2
    rw [h.1, if_neg (nI_ge hlt (by omega)), gL_n (by omega) (by omega), c4, w1, bI_s]
    cases ms[i].2.2.2.1.any (fun t => decide (4 + p ≤ t)) with
    | true => rfl
    | false =>
      rw [if_pos (by decide), gL_n (by omega) (by omega), c5, w2, bI_s]
      cases ms[i].2.2.2.2.any (fun t => decide (4 + p ≤ t)) with
      | true => rfl
      | false => rw [if_pos (by decide), bV_e, nI_1, hih]; rfl
theorem s_hasPR {n p : Nat} {S : St} {j : Nat} {ms : List Mk} (h : RW S j ms) (hv : ∀ m ∈ ms, mV m) (hp : p ≤ 2) (hn : 201 ≤ n) : f_X4_hasParameterFrom n S j (nI p) = some (S, if hasP p ms then 1 else 0) := by
  have h2 := h.2.1
  unfold f_X4_hasParameterFrom g_X4_hasParameterFrom
  have := s_hasPR_l (n := n) h hv hp (by omega) ms.length n 0 (by omega) (by omega)
  rw [List.drop_zero] at this
  rw [i0, this]
  exact zW_01 (by split <;> simp)
/-- two levels are the same -/
def smL (a b : List Nat) : Bool := atB2 a b && atB2 b a
def smM (a b : Mk) : Bool := decide (a.1 = b.1) && decide (a.2.1 = b.2.1) && smL a.2.2.2.1 b.2.2.2.1 && smL a.2.2.2.2 b.2.2.2.2
def mtc : List Mk → List Mk → Bool
  | [], [] => true
  | a :: x, b :: y => smM a b && mtc x y
  | _, _ => false
theorem mtc_ne : ∀ {x y : List Mk}, x.length ≠ y.length → mtc x y = false := by
  intro x
  induction x with
  | nil => intro y h; cases y with
    | nil => exact absurd rfl h
    | cons b y => rfl
  | cons a x ih =>
    intro y h
    cases y with
    | nil => rfl
    | cons b y =>
      show (smM a b && mtc x y) = false
      rw [ih (fun z => h (by rw [List.length_cons, List.length_cons, z])), Bool.and_false]
theorem rA_fr {S : St} {f : Nat} {a : Nat → Int32} {R : List Nat} (h : rg f 0 ∈ R) : FR R S (rA S f a) := by
  intro g j z
  refine ⟨rfl, ?_, rfl⟩
  unfold rA
  dsimp only
  rw [if_neg]
  rintro ⟨q1, q2⟩
  subst q1; subst q2
  exact z h
theorem smL_0 : smL [] [] = true := by decide +kernel
theorem s_same0 {n : Nat} {S : St} {a b : List Nat} (ha : lO a) (hb : lO b) (hab : a = [] ↔ b = []) (hn : 17 ≤ n) : ∃ S', f_X1_areSame n S (en a) (en b) = some (S', if smL a b then 1 else 0) ∧ FR [4] S S' := by
  rcases ha with h | h
  · have hb0 := hab.mp h
    subst h; subst hb0
    refine ⟨S, ?_, FR_rf⟩
    rw [smL_0]
    unfold f_X1_areSame g_X1_areSame
    rw [if_pos ((cmp_eq _ _).mpr rfl)]
    exact zW_01 (Or.inr rfl)
  · rcases hb with g | g
    · have := hab.mpr g
      subst this
      exact absurd h.2.2 (fun z => z)
    · obtain ⟨x, e⟩ := s_areSame (n := n) h.1 g.1 h.2.1 g.2.1 h.2.2 g.2.2 hn S
      exact ⟨_, e, rA_fr (by decide)⟩
theorem mV_e {a b : Mk} (ha : mV a) (hb : mV b) (h : a.1 = b.1) : (a.2.2.2.1 = [] ↔ b.2.2.2.1 = []) ∧ (a.2.2.2.2 = [] ↔ b.2.2.2.2 = []) := by
  obtain ⟨-, a1, a2, a3, a4, -⟩ := ha
  obtain ⟨-, b1, b2, b3, b4, -⟩ := hb
  have ne : ∀ {l : List Nat}, lvO l → l ≠ [] := fun h z => by subst z; exact absurd h.2.2 (fun z => z)
  by_cases z : a.1 = 0
  · have z' : b.1 = 0 := by omega
    exact ⟨⟨fun q => absurd q (ne (a1 z)), fun q => absurd q (ne (b1 z'))⟩, ⟨fun _ => b4 (by omega), fun _ => a4 (by omega)⟩⟩
  · by_cases y : a.1 = 2
    · have y' : b.1 = 2 := by omega
      exact ⟨⟨fun q => absurd q (ne (a2 y).1), fun q => absurd q (ne (b2 y').1)⟩, ⟨fun q => absurd q (ne (a2 y).2), fun q => absurd q (ne (b2 y').2)⟩⟩
    · exact ⟨⟨fun _ => b3 (by omega) (by omega), fun _ => a3 z y⟩, ⟨fun _ => b4 (by omega), fun _ => a4 y⟩⟩
theorem s_mtc_l {n : Nat} {j a o : Nat} {x y : List Mk} (hx : ∀ m ∈ x, mV m) (hy : ∀ m ∈ y, mV m) (hxy : x.length = y.length) (ho : o + y.length ≤ 200) (hn : 17 ≤ n) : ∀ (d m i : Nat) (S : St), sgM S j o x → RW S a y → i + d = y.length → d < m → ∃ S', l_X4_matches_27 n m S j (nI o) a (nI i) = some (S', if mtc (x.drop i) (y.drop i) then 1 else 0) ∧ FR [4] S S' := by
  intro d
  induction d with
  | zero =>
    intro m i S h ha hi hm
    have h2 := ha.2.1
    obtain ⟨m, rfl⟩ : ∃ x, m = x + 1 := ⟨m - 1, by omega⟩
    refine ⟨S, ?_, FR_rf⟩
    unfold l_X4_matches_27
    rw [List.drop_eq_nil_iff.mpr (show y.length ≤ i by omega), List.drop_eq_nil_iff.mpr (show x.length ≤ i by omega)]
    simp (disch := omega) only [i0, i1, i2, i3, i4, i5, i6, i8, i16, i30, i60, i100, i200, i201, i300, i1500, i8000, iM, nIa, nIp, nIs, nIle, nIlt, nIeq, nImlt, nImle, nImeq, nImeq2, nI0le, bV_e, bI_s, bL_s, bU_s, pS_e, gI_n, gL_n, pI_n, pL_n, sI_1, sI_22, sL_1, sL_21, sS_21, sS_22, sI_ne, sL_ne, sS_ne, sS_eq, sI_eq, sI_at, sL_eq, sL_at, if_true, if_false, eq_self, Nat.add_zero, if_pos, if_neg, ha.1]
    rfl
  | succ d ih =>
    intro m i S h ha hi hm
    have h2 := ha.2.1
    obtain ⟨m, rfl⟩ : ∃ x, m = x + 1 := ⟨m - 1, by omega⟩
    have hly : i < y.length := by omega
    have hlx : i < x.length := by omega
    have ey : y[i]? = some y[i] := List.getElem?_eq_getElem hly
    have ex : x[i]? = some x[i] := List.getElem?_eq_getElem hlx
    obtain ⟨c1, c2, -, c4, c5⟩ := h i _ ex
    obtain ⟨g1, g2, -, g4, g5⟩ := ha.2.2 i _ ey
    have hvx := hx _ (List.getElem_mem hlx)
    have hvy := hy _ (List.getElem_mem hly)
    obtain ⟨b1, b2, -⟩ := hvx.1
    obtain ⟨d1, d2, -⟩ := hvy.1
    rw [drop_c hlx, drop_c hly]
    have e3 : mtc (x[i] :: x.drop (i + 1)) (y[i] :: y.drop (i + 1)) = (smM x[i] y[i] && mtc (x.drop (i + 1)) (y.drop (i + 1))) := rfl
    rw [e3]
    unfold l_X4_matches_27
    by_cases k1 : x[i].1 = y[i].1
    · by_cases k2 : x[i].2.1 = y[i].2.1
      · obtain ⟨v1, v2⟩ := mV_e hvx hvy k1
        have e4 : smM x[i] y[i] = (smL x[i].2.2.2.1 y[i].2.2.2.1 && smL x[i].2.2.2.2 y[i].2.2.2.2) := by unfold smM; rw [decide_eq_true k1, decide_eq_true k2]; simp
        rw [e4]
        obtain ⟨S1, p1, p2⟩ := s_same0 (n := n) (S := S) (mV_1 hvx) (mV_1 hvy) v1 hn
        obtain ⟨S2, p3, p4⟩ := s_same0 (n := n) (S := S1) (mV_2 hvx) (mV_2 hvy) v2 hn
        have u5 : S1.2.2 155 j (o + i) = en x[i].2.2.2.2 := by rw [(p2 155 j (by rw [rgR (by omega)]; simp; omega)).2.2]; exact c5
        have u6 : S1.2.2 155 a i = en y[i].2.2.2.2 := by rw [(p2 155 a (by rw [rgR (by omega)]; simp; omega)).2.2]; exact g5
        cases z1 : smL x[i].2.2.2.1 y[i].2.2.2.1 with
        | false =>
          rw [z1] at p1
          refine ⟨S1, ?_, p2⟩
          simp (disch := omega) only [i0, i1, i2, i3, i4, i5, i6, i8, i16, i30, i60, i100, i200, i201, i300, i1500, i8000, iM, nIa, nIp, nIs, nIle, nIlt, nIeq, nImlt, nImle, nImeq, nImeq2, nI0le, bV_e, bI_s, bL_s, bU_s, pS_e, gI_n, gL_n, pI_n, pL_n, sI_1, sI_22, sL_1, sL_21, sS_21, sS_22, sI_ne, sL_ne, sS_ne, sS_eq, sI_eq, sI_at, sL_eq, sL_at, if_true, if_false, eq_self, Nat.add_zero, if_pos, if_neg, ha.1, c1, c2, c4, g1, g2, g4, p1, k1, k2]
          rfl
        | true =>
          rw [z1] at p1
          cases z2 : smL x[i].2.2.2.2 y[i].2.2.2.2 with
          | false =>
            rw [z2] at p3
            refine ⟨S2, ?_, FR_tr p2 p4⟩
            simp (disch := omega) only [i0, i1, i2, i3, i4, i5, i6, i8, i16, i30, i60, i100, i200, i201, i300, i1500, i8000, iM, nIa, nIp, nIs, nIle, nIlt, nIeq, nImlt, nImle, nImeq, nImeq2, nI0le, bV_e, bI_s, bL_s, bU_s, pS_e, gI_n, gL_n, pI_n, pL_n, sI_1, sI_22, sL_1, sL_21, sS_21, sS_22, sI_ne, sL_ne, sS_ne, sS_eq, sI_eq, sI_at, sL_eq, sL_at, if_true, if_false, eq_self, Nat.add_zero, if_pos, if_neg, ha.1, c1, c2, c4, g1, g2, g4, p1, k1, k2, u5, u6, p3]
            rfl
          | true =>
            rw [z2] at p3
            have fr2 := FR_tr p2 p4
            obtain ⟨S', q1, q2⟩ := ih m (i + 1) S2 (fun i' m0 hm0 => by
              have c := h i' m0 hm0
              have k : ∀ f, 150 ≤ f ∧ f ≤ 155 → S2.1 f j = S.1 f j ∧ S2.2.1 f j = S.2.1 f j ∧ S2.2.2 f j = S.2.2 f j := fun f hf => fr2 f j (by rw [rgR hf]; simp; omega)
              unfold cell
              rw [(k 151 (by omega)).2.1, (k 152 (by omega)).2.1, (k 153 (by omega)).2.1, (k 154 (by omega)).2.2, (k 155 (by omega)).2.2]
              exact c) (RW_fr ha fr2 (by simp; omega)) (by omega) (by omega)
            refine ⟨S', ?_, FR_tr fr2 q2⟩
            simp (disch := omega) only [i0, i1, i2, i3, i4, i5, i6, i8, i16, i30, i60, i100, i200, i201, i300, i1500, i8000, iM, nIa, nIp, nIs, nIle, nIlt, nIeq, nImlt, nImle, nImeq, nImeq2, nI0le, bV_e, bI_s, bL_s, bU_s, pS_e, gI_n, gL_n, pI_n, pL_n, sI_1, sI_22, sL_1, sL_21, sS_21, sS_22, sI_ne, sL_ne, sS_ne, sS_eq, sI_eq, sI_at, sL_eq, sL_at, if_true, if_false, eq_self, Nat.add_zero, if_pos, if_neg, ha.1, c1, c2, c4, g1, g2, g4, p1, k1, k2, u5, u6, p3]
            rw [Bool.true_and, Bool.true_and]
            exact q1
      · refine ⟨S, ?_, FR_rf⟩
        have e4 : smM x[i] y[i] = false := by unfold smM; rw [decide_eq_false k2]; simp
        rw [e4, Bool.false_and]
        simp (disch := omega) only [i0, i1, i2, i3, i4, i5, i6, i8, i16, i30, i60, i100, i200, i201, i300, i1500, i8000, iM, nIa, nIp, nIs, nIle, nIlt, nIeq, nImlt, nImle, nImeq, nImeq2, nI0le, bV_e, bI_s, bL_s, bU_s, pS_e, gI_n, gL_n, pI_n, pL_n, sI_1, sI_22, sL_1, sL_21, sS_21, sS_22, sI_ne, sL_ne, sS_ne, sS_eq, sI_eq, sI_at, sL_eq, sL_at, if_true, if_false, eq_self, Nat.add_zero, if_pos, if_neg, ha.1, c1, c2, c4, g1, g2, g4, k1]
        rfl
    · refine ⟨S, ?_, FR_rf⟩
      have e4 : smM x[i] y[i] = false := by unfold smM; rw [decide_eq_false k1]; simp
      rw [e4, Bool.false_and]
      simp (disch := omega) only [i0, i1, i2, i3, i4, i5, i6, i8, i16, i30, i60, i100, i200, i201, i300, i1500, i8000, iM, nIa, nIp, nIs, nIle, nIlt, nIeq, nImlt, nImle, nImeq, nImeq2, nI0le, bV_e, bI_s, bL_s, bU_s, pS_e, gI_n, gL_n, pI_n, pL_n, sI_1, sI_22, sL_1, sL_21, sS_21, sS_22, sI_ne, sL_ne, sS_ne, sS_eq, sI_eq, sI_at, sL_eq, sL_at, if_true, if_false, eq_self, Nat.add_zero, if_pos, if_neg, ha.1, c1, c2, c4, g1, g2, g4]
      rfl
theorem s_matches {n : Nat} {S : St} {j a i k : Nat} {ms y : List Mk} (hv : ∀ m ∈ ms, mV m) (hy : ∀ m ∈ y, mV m) (h : RW S j ms) (ha : RW S a y) (hik : i ≤ k) (hk : k ≤ ms.length) (hn : 201 ≤ n) : ∃ S', f_X4_matches n S j (nI i) (nI k) a = some (S', if mtc (seg ms i k) y then 1 else 0) ∧ FR [4] S S' := by
  have h2 := h.2.1
  have h3 := ha.2.1
  unfold f_X4_matches g_X4_matches
  have hl := seg_len (i := i) hk
  by_cases he : k - i = y.length
  · have sg0 : sgM S j i (seg ms i k) := fun x m hm => by
      unfold seg at hm
      rw [List.getElem?_drop, List.getElem?_take] at hm
      split at hm
      · exact h.2.2 _ _ hm
      · cases hm
    obtain ⟨S', q1, q2⟩ := s_mtc_l (n := n) (o := i) (fun m hm => hv m (seg_mem hm)) hy (by omega) (by omega) (by omega) y.length n 0 S sg0 ha (by omega) (by omega)
    rw [List.drop_zero, List.drop_zero] at q1
    refine ⟨S', ?_, q2⟩
    simp (disch := omega) only [i0, i1, i2, i3, i4, i5, i6, i8, i16, i30, i60, i100, i200, i201, i300, i1500, i8000, iM, nIa, nIp, nIs, nIle, nIlt, nIeq, nImlt, nImle, nImeq, nImeq2, nI0le, bV_e, bI_s, bL_s, bU_s, pS_e, gI_n, gL_n, pI_n, pL_n, sI_1, sI_22, sL_1, sL_21, sS_21, sS_22, sI_ne, sL_ne, sS_ne, sS_eq, sI_eq, sI_at, sL_eq, sL_at, if_true, if_false, eq_self, Nat.add_zero, if_pos, if_neg, h.1, ha.1]
    rw [q1]
    exact zW_01 (by split <;> simp)
  · refine ⟨S, ?_, FR_rf⟩
    rw [mtc_ne (by rw [hl]; exact he)]
    simp (disch := omega) only [i0, i1, i2, i3, i4, i5, i6, i8, i16, i30, i60, i100, i200, i201, i300, i1500, i8000, iM, nIa, nIp, nIs, nIle, nIlt, nIeq, nImlt, nImle, nImeq, nImeq2, nI0le, bV_e, bI_s, bL_s, bU_s, pS_e, gI_n, gL_n, pI_n, pL_n, sI_1, sI_22, sL_1, sL_21, sS_21, sS_22, sI_ne, sL_ne, sS_ne, sS_eq, sI_eq, sI_at, sL_eq, sL_at, if_true, if_false, eq_self, Nat.add_zero, if_pos, if_neg, h.1, ha.1]
    exact zW_01 (Or.inl rfl)
theorem s_beSort {n : Nat} {S : St} {j : Nat} {l : List Nat} : ∃ S', f_X4_beSort n S j (en l) = some S' ∧ RW S' j [(0, 0, 0, l, [])] ∧ FR [1000 + j] S S' := by
  refine ⟨_, ?_, RW_add (m := (0, 0, 0, l, [])) (RW_0 (S := S)) (by simp), addm_fr (FR_sS FR_rf (by rw [rgR (by omega)]; simp)) (by simp)⟩
  unfold f_X4_beSort
  have := s_add (n := n) (m := (0, 0, 0, l, [])) (RW_0 (S := S) (j := j)) (by simp)
  rw [pS_e]
  exact (congrArg (fun x => bU x fun S3 => some S3) this)
