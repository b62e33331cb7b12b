/-! the rest of the levels' numbers -/
theorem okL_1 {t : Nat} (h : t ≤ 6) : okL [t] := fun x hx => by rw [List.mem_singleton.mp hx]; exact h
theorem cmp_eq (a b : Int64) : lg_cmp a b = 0 ↔ a = b := by
  unfold lg_cmp
  by_cases h1 : a > b
  · rw [if_pos h1]
    constructor
    · intro h; exact absurd h (by decide)
    · intro h; subst h; exact absurd h1 (Int64.lt_irrefl)
  · rw [if_neg h1]
    by_cases h2 : a = b
    · rw [if_pos h2]; simp [h2]
    · rw [if_neg h2]
      constructor
      · intro h; exact absurd h (by decide)
      · intro h; exact absurd h h2
theorem lN_inj {a b : Nat} (ha : a < 2 ^ 63) (hb : b < 2 ^ 63) : lN a = lN b ↔ a = b := pk_lEQ ha hb
theorem en_0 : en [] = 0 := rfl
theorem eN_inj {a b : List Nat} (ha : okL a) (hb : okL b) (h : eN a = eN b) : a = b := by
  induction a generalizing b with
  | nil =>
    cases b with
    | nil => rfl
    | cons t r => simp only [eN] at h; omega
  | cons t r ih =>
    cases b with
    | nil => simp only [eN] at h; omega
    | cons u q =>
      obtain ⟨h1, h2⟩ := okL_c ha
      obtain ⟨h3, h4⟩ := okL_c hb
      simp only [eN] at h
      have e1 : t = u := by omega
      have e2 : eN r = eN q := by omega
      rw [e1, ih h2 h4 e2]
theorem en_inj {a b : List Nat} (ha : okL a) (hb : okL b) (la : a.length ≤ 21) (lb : b.length ≤ 21) : en a = en b ↔ a = b := by
  unfold en
  rw [lN_inj (eN_64 ha la) (eN_64 hb lb)]
  exact ⟨eN_inj ha hb, fun h => by rw [h]⟩
theorem en_z {l : List Nat} (h : okL l) (hl : l.length ≤ 21) : lg_cmp (en l) 0 = 0 ↔ l = [] := by
  rw [cmp_eq, ← en_0]
  exact en_inj h (fun x hx => by cases hx) hl (by simp)
theorem en_m1 {l : List Nat} (h : okL l) (hl : l.length ≤ 20) : en l ≠ -1 := by
  unfold en
  intro e
  have h1 := eN_64 h (by omega)
  have h2 : (lN (eN l)).toInt = (-1 : Int64).toInt := by rw [e]
  rw [pk_lT h1] at h2
  have : ((-1 : Int64)).toInt = -1 := by decide +kernel
  omega
theorem en_and7 {l : List Nat} (h : okL l) (hl : l.length ≤ 21) : en l &&& 7 = lN (mk_ l 0) := by
  have := eN_64 h hl
  unfold en
  have e := wb_mask (n := eN l) (k := 3) (by omega) (by omega)
  rw [eN_mod h] at e
  exact e
def tp (t : Nat) : Nat := if t = 1 then 1 else if t = 2 ∨ t = 3 then 2 else 0
/-- of a mark -/
def tm (m : Nat) : Nat := if m = 2 then 1 else if m = 3 ∨ m = 4 then 2 else 0
theorem tm_s (t : Nat) : tm (t + 1) = tp t := by
  unfold tm tp
  by_cases h1 : t = 1
  · subst h1; rfl
  · by_cases h2 : t = 2 ∨ t = 3
    · rcases h2 with rfl | rfl <;> rfl
    · rw [if_neg (by omega), if_neg (by omega), if_neg h1, if_neg h2]
theorem s_partsOf0 {n : Nat} {S : St} {m : Nat} (hm : m ≤ 7) : f_X0_partsOf n S (nI m) = some (S, nI (tm m)) := by
  rcases (show m = 0 ∨ m = 1 ∨ m = 2 ∨ m = 3 ∨ m = 4 ∨ m = 5 ∨ m = 6 ∨ m = 7 by omega) with rfl | rfl | rfl | rfl | rfl | rfl | rfl | rfl <;> rfl
theorem s_kindOf {n : Nat} {S : St} {t : Nat} {r : List Nat} (h : okL (t :: r)) (hl : (t :: r).length ≤ 16) : f_X0_kindOf n S (en (t :: r)) = some (S, nI (if 4 < t then 4 else t)) := by
  unfold f_X0_kindOf
  have e := s_markAt (n := n) (S := S) h (by omega) (i := 0) (by omega)
  have e0 : f_X0_markAt n S (en (t :: r)) 0 = some (S, nI (t + 1)) := e
  rw [e0, bI_s, bV_e]
  have h6 := (okL_c h).1
  rcases (show t = 0 ∨ t = 1 ∨ t = 2 ∨ t = 3 ∨ t = 4 ∨ t = 5 ∨ t = 6 by omega) with rfl | rfl | rfl | rfl | rfl | rfl | rfl <;> rfl
theorem s_parameterOf {n : Nat} {S : St} {t : Nat} {r : List Nat} (h : okL (t :: r)) (hl : (t :: r).length ≤ 16) : f_X0_parameterOf n S (en (t :: r)) = some (S, nI (t + 1) - 5) := by
  unfold f_X0_parameterOf
  have e0 : f_X0_markAt n S (en (t :: r)) 0 = some (S, nI (t + 1)) := s_markAt h (by omega) (i := 0) (by omega)
  rw [e0, bI_s]
theorem s_cut {n : Nat} {S : St} {l : List Nat} (h : okL l) (hl : l.length ≤ 16) {i k : Nat} (hi : i ≤ 16) (hk : k ≤ 16) : f_X0_cut n S (en l) (nI i) (nI k) = some (S, en ((l.drop i).take k)) := by
  unfold f_X0_cut
  rw [i3_mul, i3_mul, ush_en h (by omega) (by omega)]
  have e1 : l_shl 1 (nI (3 * k)) = lN (1 * 2 ^ (3 * k)) := wb_shl 1 (by omega)
  have hd := okL_drop h i
  have hb := eN_64 hd (by rw [List.length_drop]; omega)
  rw [e1, Nat.one_mul]
  have e2 : lN (2 ^ (3 * k)) - 1 = lN (2 ^ (3 * k) - 1) := lN_sub (b := 1) (Nat.one_le_two_pow)
  rw [e2]
  unfold en
  rw [wb_mask (by omega) (by omega), p8_2]
  congr 2
  generalize l.drop i = q at hd
  clear e1 e2 hb
  have key : ∀ (k : Nat) (q : List Nat), okL q → eN q % 8 ^ k = eN (q.take k) := by
    intro k
    induction k with
    | zero => intro q _; simp [eN, Nat.mod_one]
    | succ k ih =>
      intro q hq
      cases q with
      | nil => simp [eN]
      | cons t r =>
        obtain ⟨h1, h2⟩ := okL_c hq
        have := ih r h2
        simp only [List.take_succ_cons, eN, Nat.pow_succ]
        rw [← this, Nat.mul_comm (8 ^ k) 8, Nat.mod_mul]
        have e1 : (t + 1 + 8 * eN r) % 8 = t + 1 := by omega
        have e2 : (t + 1 + 8 * eN r) / 8 = eN r := by omega
        rw [e1, e2]
  exact congrArg lN (key k q hd)
theorem s_hasPar_l {n p : Nat} {l : List Nat} (h : okL l) (hl : l.length ≤ 16) (hp : p ≤ 2) : ∀ (m i : Nat) (S : St), i ≤ l.length → l.length - i < m → l_X0_hasParameterFrom_2 n m S (en l) (nI p) (nI i) = some (S, if (l.drop i).any (fun t => decide (4 + p ≤ t)) then 1 else 0) := by
  intro m
  induction m with
  | zero => intro i S _ h; omega
  | succ m ih =>
    intro i S hi hm
    unfold l_X0_hasParameterFrom_2
    by_cases h16 : 16 ≤ i
    · rw [if_pos (show (16 : Int32) ≤ nI i from nI_le (a := 16) h16 (by omega))]
      have : l.drop i = [] := List.drop_eq_nil_iff.mpr (by omega)
      rw [this]; rfl
    · rw [if_neg (show ¬ (16 : Int32) ≤ nI i from nI_ge (b := 16) (by omega) (by omega)), i3_mul, ush_en h (by omega) (by omega)]
      by_cases hz : l.drop i = []
      · rw [if_pos ((en_z (okL_drop h i) (by rw [List.length_drop]; omega)).mpr hz), hz]; rfl
      · rw [if_neg (fun z => hz ((en_z (okL_drop h i) (by rw [List.length_drop]; omega)).mp z)), s_markAt h (by omega) (by omega), bI_s]
        have hlt : i < l.length := by
          rcases Nat.lt_or_ge i l.length with q | q
          · exact q
          · exact absurd (List.drop_eq_nil_iff.mpr q) hz
        have hd : l.drop i = l[i] :: l.drop (i + 1) := List.drop_eq_getElem_cons hlt
        have hm1 : mk_ l i = l[i] + 1 := by unfold mk_; rw [List.getElem?_eq_getElem hlt]
        have ht := h l[i] (List.getElem_mem hlt)
        have e5 : (5 : Int32) + nI p = nI (5 + p) := nI_add 5 p
        rw [hm1, e5]
        by_cases hc : l[i] + 1 < 5 + p
        · rw [if_pos (nI_lt hc (by omega)), bV_e, nI_1, ih (i + 1) S (by omega) (by omega), hd, List.any_cons]
          have : decide (4 + p ≤ l[i]) = false := by rw [decide_eq_false_iff_not]; omega
          rw [this, Bool.false_or]
        · rw [if_neg (nI_nlt (by omega) (by omega)), hd, List.any_cons]
          have : decide (4 + p ≤ l[i]) = true := by rw [decide_eq_true_eq]; omega
          rw [this, Bool.true_or]; rfl
theorem s_hasPar {n p : Nat} {S : St} {l : List Nat} (h : okL l) (hl : l.length ≤ 16) (hp : p ≤ 2) (hn : 17 ≤ n) : f_X0_hasParameterFrom n S (en l) (nI p) = some (S, if l.any (fun t => decide (4 + p ≤ t)) then 1 else 0) := by
  unfold f_X0_hasParameterFrom g_X0_hasParameterFrom
  have e := s_hasPar_l (n := n) h hl hp n 0 S (by omega) (by omega)
  have e0 : l_X0_hasParameterFrom_2 n n S (en l) (nI p) 0 = some (S, if l.any (fun t => decide (4 + p ≤ t)) then 1 else 0) := e
  rw [e0]
  apply zW_01
  split
  · exact Or.inr rfl
  · exact Or.inl rfl
/-- a level's tokens with two levels for parameters 0 and 1 -/
def sbl (a b : List Nat) (t : Nat) : List Nat := if t = 4 then a else if t = 5 then b else [t]
def wLv (a b : List Nat) (l : List Nat) : List Nat := l.flatMap (sbl a b)
theorem okL_sbl {a b : List Nat} (ha : okL a) (hb : okL b) {t : Nat} (ht : t ≤ 6) : okL (sbl a b t) := by
  unfold sbl
  split
  · exact ha
  · split
    · exact hb
    · exact fun x hx => by rw [List.mem_singleton.mp hx]; exact ht
theorem okL_wLv {a b l : List Nat} (ha : okL a) (hb : okL b) (hl : okL l) : okL (wLv a b l) := by
  intro x hx
  obtain ⟨t, h1, h2⟩ := List.mem_flatMap.mp hx
  exact okL_sbl ha hb (hl t h1) x h2
theorem s_wl_in {n : Nat} {K : St → Int64 → Int64 → Int64 → Int64 → Int32 → Int32 → Option (St × Int64)} {pz : List Nat} (hp : okL pz) (hpl : pz.length ≤ 16) {S : St} {l0 l2 l4 : Int64} {l9 : Int32} : ∀ (m j : Nat) (md : List Nat), okL md → md.length ≤ 16 → j ≤ pz.length → pz.length - j < m →
    l_X0_withLevels_73 n K m S l0 l2 l4 (en md) (nI md.length) l9 (en pz) (nI j) = if md.length + (pz.length - j) ≤ 16 then K S l0 l2 l4 (en (md ++ pz.drop j)) (nI (md ++ pz.drop j).length) (l9 + 1) else some (S, -1) := by
  intro m
  induction m with
  | zero => intro j md _ _ _ h; omega
  | succ m ih =>
    intro j md hmd hml hj hm
    unfold l_X0_withLevels_73
    by_cases h16 : 16 ≤ j
    · have hd : pz.drop j = [] := List.drop_eq_nil_iff.mpr (by omega)
      rw [if_pos (show (16 : Int32) ≤ nI j from nI_le (a := 16) h16 (by omega)), hd, List.append_nil, if_pos (by omega)]
      rfl
    · rw [if_neg (show ¬ (16 : Int32) ≤ nI j from nI_ge (b := 16) (by omega) (by omega)), i3_mul, ush_en hp (by omega) (by omega)]
      by_cases hz : pz.drop j = []
      · have : pz.length ≤ j := List.drop_eq_nil_iff.mp hz
        rw [if_pos ((en_z (okL_drop hp j) (by rw [List.length_drop]; omega)).mpr hz), hz, List.append_nil, if_pos (by omega)]
        rfl
      · rw [if_neg (fun z => hz ((en_z (okL_drop hp j) (by rw [List.length_drop]; omega)).mp z))]
        have hlt : j < pz.length := by
          rcases Nat.lt_or_ge j pz.length with q | q
          · exact q
          · exact absurd (List.drop_eq_nil_iff.mpr q) hz
        have hd : pz.drop j = pz[j] :: pz.drop (j + 1) := List.drop_eq_getElem_cons hlt
        have ht := hp pz[j] (List.getElem_mem hlt)
        by_cases hfull : md.length < 16
        · rw [if_pos (show nI md.length < (16 : Int32) from nI_lt (b := 16) hfull (by omega)), bV_e, bV_e, bV_e]
          have e1 : en (pz.drop j) &&& 7 = en [pz[j]] := by
            rw [en_and7 (okL_drop hp j) (by rw [List.length_drop]; omega), hd]; rfl
          have ok1 : okL [pz[j]] := fun x hx => by rw [List.mem_singleton.mp hx]; exact ht
          rw [e1, i3_mul, shl_en (by omega), or_en hmd ok1 (by simp; omega), nI_1, nI_1]
          have e2 : nI (md.length + 1) = nI (md ++ [pz[j]]).length := by rw [List.length_append]; rfl
          rw [e2, ih (j + 1) (md ++ [pz[j]]) (okL_app hmd ok1) (by simp; omega) (by omega) (by omega), hd, List.append_assoc, List.singleton_append]
          have e3 : (md ++ [pz[j]]).length + (pz.length - (j + 1)) = md.length + (pz.length - j) := by rw [List.length_append, List.length_singleton]; omega
          rw [e3]
        · rw [if_neg (show ¬ nI md.length < (16 : Int32) from nI_nlt (b := 16) (by omega) (by omega)), if_neg (by omega)]
theorem s_wl_out {n : Nat} {a b l : List Nat} (ha : okL a) (hb : okL b) (hl : okL l) (hla : a.length ≤ 16) (hlb : b.length ≤ 16) (hll : l.length ≤ 16) (hn : 17 ≤ n) {S : St} : ∀ (m i : Nat) (md : List Nat), okL md → md.length ≤ 16 → i ≤ l.length → l.length - i < m →
    l_X0_withLevels_9 n m S (en l) (en a) (en b) (en md) (nI md.length) (nI i) = some (S, if (md ++ wLv a b (l.drop i)).length ≤ 16 then en (md ++ wLv a b (l.drop i)) else -1) := by
  intro m
  induction m with
  | zero => intro i md _ _ _ h; omega
  | succ m ih =>
    intro i md hmd hml hi hm
    unfold l_X0_withLevels_9
    by_cases h16 : 16 ≤ i
    · have hd : l.drop i = [] := List.drop_eq_nil_iff.mpr (by omega)
      rw [if_pos (show (16 : Int32) ≤ nI i from nI_le (a := 16) h16 (by omega)), hd]
      show _ = some (S, if (md ++ []).length ≤ 16 then en (md ++ []) else -1)
      rw [List.append_nil, if_pos hml]
    · rw [if_neg (show ¬ (16 : Int32) ≤ nI i from nI_ge (b := 16) (by omega) (by omega)), i3_mul, ush_en hl (by omega) (by omega)]
      by_cases hz : l.drop i = []
      · rw [if_pos ((en_z (okL_drop hl i) (by rw [List.length_drop]; omega)).mpr hz), hz]
        show _ = some (S, if (md ++ []).length ≤ 16 then en (md ++ []) else -1)
        rw [List.append_nil, if_pos hml]
      · rw [if_neg (fun z => hz ((en_z (okL_drop hl i) (by rw [List.length_drop]; omega)).mp z)), bV_e]
        have hlt : i < l.length := by
          rcases Nat.lt_or_ge i l.length with q | q
          · exact q
          · exact absurd (List.drop_eq_nil_iff.mpr q) hz
        have hd : l.drop i = l[i] :: l.drop (i + 1) := List.drop_eq_getElem_cons hlt
        have ht := hl l[i] (List.getElem_mem hlt)
        have ok1 : okL [l[i]] := fun x hx => by rw [List.mem_singleton.mp hx]; exact ht
        have e1 : en (l.drop i) &&& 7 = en [l[i]] := by
          rw [en_and7 (okL_drop hl i) (by rw [List.length_drop]; omega), hd]; rfl
        rw [e1]
        have step : ∀ pz : List Nat, okL pz → pz.length ≤ 16 → pz = sbl a b l[i] → j_X0_withLevels_68 n (fun S l0 l2 l4 l6 l8 l9 => l_X0_withLevels_9 n m S l0 l2 l4 l6 l8 l9) S (en l) (en a) (en b) (en md) (nI md.length) (nI i) (en pz) = some (S, if (md ++ wLv a b (l.drop i)).length ≤ 16 then en (md ++ wLv a b (l.drop i)) else -1) := by
          intro pz hpz hpl hpe
          unfold j_X0_withLevels_68
          have e := s_wl_in (n := n) (K := fun S l0 l2 l4 l6 l8 l9 => l_X0_withLevels_9 n m S l0 l2 l4 l6 l8 l9) hpz hpl (S := S) (l0 := en l) (l2 := en a) (l4 := en b) (l9 := nI i) n 0 md hmd hml (by omega) (by omega)
          have e0 : l_X0_withLevels_73 n (fun S l0 l2 l4 l6 l8 l9 => l_X0_withLevels_9 n m S l0 l2 l4 l6 l8 l9) n S (en l) (en a) (en b) (en md) (nI md.length) (nI i) (en pz) 0 = _ := e
          rw [e0]
          have hw : md ++ wLv a b (l.drop i) = (md ++ pz) ++ wLv a b (l.drop (i + 1)) := by
            rw [hd]
            show md ++ (sbl a b l[i] ++ wLv a b (l.drop (i + 1))) = _
            rw [← hpe, List.append_assoc]
          rw [hw]
          by_cases hf : md.length + (pz.length - 0) ≤ 16
          · rw [if_pos hf]
            show l_X0_withLevels_9 n m S (en l) (en a) (en b) (en (md ++ pz.drop 0)) (nI (md ++ pz.drop 0).length) (nI i + 1) = _
            rw [List.drop_zero, nI_1]
            exact ih (i + 1) (md ++ pz) (okL_app hmd hpz) (by rw [List.length_append]; omega) (by omega) (by omega)
          · rw [if_neg hf, if_neg (by rw [List.length_append, List.length_append]; omega)]
        have c4 : lg_cmp (en [l[i]]) 5 = 0 ↔ l[i] = 4 := by
          rw [cmp_eq, show (5 : Int64) = en [4] from rfl, en_inj ok1 (okL_1 (by decide)) (by simp) (by simp)]
          simp
        have c5 : lg_cmp (en [l[i]]) 6 = 0 ↔ l[i] = 5 := by
          rw [cmp_eq, show (6 : Int64) = en [5] from rfl, en_inj ok1 (okL_1 (by decide)) (by simp) (by simp)]
          simp
        by_cases h4 : l[i] = 4
        · rw [if_pos (c4.mpr h4)]
          exact step a ha hla (by rw [h4]; rfl)
        · rw [if_neg (fun z => h4 (c4.mp z))]
          by_cases h5 : l[i] = 5
          · rw [if_pos (c5.mpr h5)]
            exact step b hb hlb (by rw [h5]; rfl)
          · rw [if_neg (fun z => h5 (c5.mp z))]
            exact step [l[i]] ok1 (by simp) (by unfold sbl; rw [if_neg h4, if_neg h5])
theorem s_withLevels {n : Nat} {a b l : List Nat} (ha : okL a) (hb : okL b) (hl : okL l) (hla : a.length ≤ 16) (hlb : b.length ≤ 16) (hll : l.length ≤ 16) (hn : 17 ≤ n) {S : St} : f_X0_withLevels n S (en l) (en a) (en b) = some (S, if (wLv a b l).length ≤ 16 then en (wLv a b l) else -1) := by
  unfold f_X0_withLevels
  exact s_wl_out ha hb hl hla hlb hll hn n 0 [] (fun x hx => by cases hx) (by simp) (by omega) (by omega)
