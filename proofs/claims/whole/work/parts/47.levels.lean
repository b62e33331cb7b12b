/-! the table of levels -/
/-- how many tokens the first k levels of a list take -/
def fp : Nat → List Nat → Nat
  | 0, _ => 0
  | _ + 1, [] => 0
  | k + 1, t :: r => 1 + fp (k + tp t) r
theorem fp_lc : ∀ {l1 l2 : List Nat} {k : Nat}, lc k l1 → fp k (l1 ++ l2) = l1.length := by
  intro l1
  induction l1 with
  | nil =>
    intro l2 k h
    cases k with
    | zero => cases l2 <;> rfl
    | succ k => exact h.elim
  | cons t r ih =>
    intro l2 k h
    cases k with
    | zero => exact h.elim
    | succ k =>
      show 1 + fp (k + tp t) (r ++ l2) = _
      rw [ih (show lc (k + tp t) r from h), List.length_cons]; omega
def q1 (l : List Nat) : List Nat := (l.drop 1).take (fp 1 (l.drop 1))
def q2 (l : List Nat) : List Nat := (l.drop 1).drop (fp 1 (l.drop 1))
theorem tp_le (t : Nat) : tp t ≤ 2 := by unfold tp; split <;> (try split) <;> omega
/-- a level and its parts -/
theorem lc_parts {t : Nat} {r : List Nat} (h : lc 1 (t :: r)) : (tp t = 0 → r = []) ∧ (tp t = 1 → q1 (t :: r) = r ∧ lc 1 r) ∧ (tp t = 2 → ∃ a b, r = a ++ b ∧ lc 1 a ∧ lc 1 b ∧ q1 (t :: r) = a ∧ q2 (t :: r) = b) := by
  have h1 : lc (0 + tp t) r := h
  rw [Nat.zero_add] at h1
  refine ⟨fun h0 => ?_, fun h0 => ?_, fun h0 => ?_⟩
  · rw [h0] at h1
    cases r with
    | nil => rfl
    | cons a b => exact h1.elim
  · rw [h0] at h1
    refine ⟨?_, h1⟩
    unfold q1
    have e := fp_lc (l2 := []) h1
    rw [List.append_nil] at e
    simp only [List.drop_succ_cons, List.drop_zero]
    rw [e, List.take_length]
  · rw [h0] at h1
    obtain ⟨a, b, e, ha, hb⟩ := lc_split (a := 1) (b := 1) h1
    refine ⟨a, b, e, ha, hb, ?_, ?_⟩
    · unfold q1
      simp only [List.drop_succ_cons, List.drop_zero]
      rw [e, fp_lc ha, List.take_left]
    · unfold q2
      simp only [List.drop_succ_cons, List.drop_zero]
      rw [e, fp_lc ha, List.drop_left]
theorem ad1 (a b : Int32) : (a + 1) + (b - 1) = a + b := by
  rw [Int32.sub_eq_add_neg, Int32.add_assoc, Int32.add_comm 1 (b + -1), Int32.add_assoc b, show (-1 : Int32) + 1 = 0 by decide, Int32.add_zero]
theorem s_fps_l {n : Nat} {l : List Nat} (h : okL l) (hl : l.length ≤ 16) {S : St} : ∀ (l1 l2 : List Nat) (m k i : Nat), l.drop i = l1 ++ l2 → lc k l1 → i + l1.length ≤ 16 → 1 ≤ i → l1.length < m → l_X0_firstPartSize_4 n m S (en l) (nI k) (nI i) = some (S, nI (i + l1.length - 1)) := by
  intro l1
  induction l1 with
  | nil =>
    intro l2 m k i hd hc hi h1 hm
    cases k with
    | succ k => exact hc.elim
    | zero =>
      cases m with
      | zero => omega
      | succ m =>
        unfold l_X0_firstPartSize_4
        have e : nI i - 1 = nI (i + ([] : List Nat).length - 1) := by
          obtain ⟨j, rfl⟩ : ∃ j, i = j + 1 := ⟨i - 1, by omega⟩
          rw [nI_pred]; rfl
        by_cases h16 : 16 ≤ i
        · rw [if_pos (show (16 : Int32) ≤ nI i from nI_le (a := 16) h16 (by simp at hi; omega)), e]
        · rw [if_neg (show ¬ (16 : Int32) ≤ nI i from nI_ge (b := 16) (by omega) (by omega)), if_pos (show nI 0 ≤ (0 : Int32) from by decide +kernel), e]
  | cons t r ih =>
    intro l2 m k i hd hc hi h1 hm
    rw [List.length_cons] at hi hm
    cases k with
    | zero => exact hc.elim
    | succ k =>
      have hc2 : lc (k + tp t) r := hc
      have hle := lc_le hc2
      cases m with
      | zero => omega
      | succ m =>
        unfold l_X0_firstPartSize_4
        have hil : i < l.length := by
          rcases Nat.lt_or_ge i l.length with q | q
          · exact q
          · have := List.drop_eq_nil_iff.mpr q; rw [this] at hd; cases hd
        have hd2 : l.drop i = l[i] :: l.drop (i + 1) := List.drop_eq_getElem_cons hil
        rw [hd2] at hd
        have ht : l[i] = t := by injection hd
        have hd3 : l.drop (i + 1) = r ++ l2 := by injection hd
        have h6 := h l[i] (List.getElem_mem hil)
        have hmk : mk_ l i = t + 1 := by unfold mk_; rw [List.getElem?_eq_getElem hil, ht]
        rw [if_neg (show ¬ (16 : Int32) ≤ nI i from nI_ge (b := 16) (by omega) (by omega)), if_neg (show ¬ nI (k + 1) ≤ (0 : Int32) from nI_nle (by omega) (by omega)), s_markAt h (by omega) (by omega), bI_s, hmk, s_partsOf0 (by omega), bI_s, tm_s, bV_e, bV_e, nI_1]
        have e : nI (k + 1) + (nI (tp t) - 1) = nI (k + tp t) := by
          rw [nI_succ, ad1, nI_add]
        rw [e]
        have := ih l2 m (k + tp t) (i + 1) hd3 hc2 (by omega) (by omega) (by omega)
        rw [show i + (t :: r).length - 1 = i + 1 + r.length - 1 by rw [List.length_cons]; omega]
        exact this
theorem s_fps {n : Nat} {t : Nat} {r : List Nat} (h : okL (t :: r)) (hl : (t :: r).length ≤ 16) (hc : lc 1 (t :: r)) (hn : 17 ≤ n) (S : St) : ∃ v, f_X0_firstPartSize n S (en (t :: r)) = some (S, nI v) ∧ (1 ≤ tp t → v = (q1 (t :: r)).length) ∧ v ≤ 16 := by
  unfold f_X0_firstPartSize
  obtain ⟨h0, h1, h2⟩ := lc_parts hc
  rw [List.length_cons] at hl
  rcases (show tp t = 0 ∨ tp t = 1 ∨ tp t = 2 by have := tp_le t; omega) with e | e | e
  · have hr := h0 e
    subst hr
    refine ⟨1, ?_, fun z => by omega, by omega⟩
    obtain ⟨m, rfl⟩ : ∃ m, n = m + 2 := ⟨n - 2, by omega⟩
    have hm1 : mk_ [t] 1 = 0 := rfl
    have e1 : f_X0_markAt (m + 2) S (en [t]) 1 = some (S, nI 0) := s_markAt h (by simp) (i := 1) (by omega)
    unfold l_X0_firstPartSize_4
    rw [if_neg (by decide +kernel), if_neg (by decide +kernel), e1, bI_s, s_partsOf0 (m := 0) (by omega), bI_s, bV_e, bV_e]
    unfold l_X0_firstPartSize_4
    rw [if_neg (by decide +kernel), if_pos (by decide +kernel)]
    rfl
  · obtain ⟨hq, hc1⟩ := h1 e
    have := s_fps_l (n := n) (l := t :: r) h (by rw [List.length_cons]; omega) (S := S) r [] n 1 1 (by simp) hc1 (by omega) (by omega) (by omega)
    refine ⟨1 + r.length - 1, this, fun _ => by rw [hq]; omega, by omega⟩
  · obtain ⟨a, b, hr, ha, hb, hq, -⟩ := h2 e
    have hlen : r.length = a.length + b.length := by rw [hr, List.length_append]
    have := s_fps_l (n := n) (l := t :: r) h (by rw [List.length_cons]; omega) (S := S) a b n 1 1 (by simp [hr]) ha (by omega) (by omega) (by omega)
    refine ⟨1 + a.length - 1, this, fun _ => by rw [hq]; omega, by omega⟩
/-- a level that may be told -/
def lvO (l : List Nat) : Prop := okL l ∧ l.length ≤ 16 ∧ lc 1 l
def ix (L : List (List Nat)) (l : List Nat) : Nat := L.idxOf l
/-- the two numbers that a table holds for a level -/
def e1 (L : List (List Nat)) (l : List Nat) : Int32 := if tp (l.headD 0) = 0 then (if l.headD 0 = 0 then -1 else nI (l.headD 0 - 4)) else nI (ix L (q1 l))
def e2 (L : List (List Nat)) (l : List Nat) : Int32 := if tp (l.headD 0) = 2 then nI (ix L (q2 l)) else -1
/-- parts come ahead -/
def prt (L : List (List Nat)) (l : List Nat) : Prop := (1 ≤ tp (l.headD 0) → q1 l ∈ L) ∧ (tp (l.headD 0) = 2 → q2 l ∈ L)
def LOk (L : List (List Nat)) : Prop := L[0]? = some [0] ∧ L.length ≤ 300 ∧ L.Nodup ∧ (∀ l ∈ L, lvO l) ∧ ∀ l ∈ L, prt L l
theorem ix_app {L : List (List Nat)} {l x : List Nat} (h : x ∈ L) : ix (L ++ [l]) x = ix L x := by
  unfold ix
  rw [List.idxOf_append, if_pos h]
theorem e1_app {L : List (List Nat)} {l x : List Nat} (h : prt L x) : e1 (L ++ [l]) x = e1 L x := by
  unfold e1
  by_cases h0 : tp (x.headD 0) = 0
  · rw [if_pos h0, if_pos h0]
  · rw [if_neg h0, if_neg h0, ix_app (h.1 (by omega))]
theorem e2_app {L : List (List Nat)} {l x : List Nat} (h : prt L x) : e2 (L ++ [l]) x = e2 L x := by
  unfold e2
  by_cases h0 : tp (x.headD 0) = 2
  · rw [if_pos h0, if_pos h0, ix_app (h.2 h0)]
  · rw [if_neg h0, if_neg h0]
theorem LOk_add {L : List (List Nat)} {l : List Nat} (h : LOk L) (hl : lvO l) (hn : l ∉ L) (hp : prt L l) (hc : L.length < 300) : LOk (L ++ [l]) := by
  obtain ⟨h1, h2, h3, h4, h5⟩ := h
  refine ⟨?_, ?_, ?_, ?_, ?_⟩
  · cases L with
    | nil => cases h1
    | cons a b => exact h1
  · rw [List.length_append, List.length_singleton]; omega
  · rw [List.nodup_append]
    refine ⟨h3, by simp, ?_⟩
    intro a ha b hb
    rw [List.mem_singleton.mp hb]
    intro e; exact hn (e ▸ ha)
  · intro x hx
    rcases List.mem_append.mp hx with q | q
    · exact h4 x q
    · rw [List.mem_singleton.mp q]; exact hl
  · have up : ∀ x, prt L x → prt (L ++ [l]) x := fun x hx => ⟨fun z => List.mem_append_left _ (hx.1 z), fun z => List.mem_append_left _ (hx.2 z)⟩
    intro x hx
    rcases List.mem_append.mp hx with q | q
    · exact up x (h5 x q)
    · rw [List.mem_singleton.mp q]; exact up l hp
/-- the class's tables hold L -/
def LC (S : St) (L : List (List Nat)) : Prop := S.1 0 0 = nI L.length ∧ ∀ (i : Nat) (h : i < L.length), S.2.2 1 0 i = en L[i] ∧ S.2.1 2 0 i = e1 L L[i] ∧ S.2.1 3 0 i = e2 L L[i]
theorem s_codeOf {n : Nat} {S : St} {L : List (List Nat)} (h : LC S L) (hL : LOk L) {i : Nat} (hi : i < L.length) : f_X1_codeOf n S (nI i) = some (S, en L[i]) := by
  have h300 := hL.2.1
  unfold f_X1_codeOf
  rw [if_neg (nI_pos (by omega)), h.1, if_neg (nI_ge hi (by omega)), gL_n (by omega) (by omega), (h.2 i hi).1]
theorem s_find1_l {n : Nat} {S : St} {L : List (List Nat)} (h : LC S L) (hL : LOk L) {l : List Nat} (hl : lvO l) : ∀ (d m i : Nat), i + d = L.length → d < m → l_X1_find_2 n m S (en l) (nI i) = some (S, if l ∈ L.drop i then nI (i + (L.drop i).idxOf l) else -1) := by
  have h300 := hL.2.1
  intro d
  induction d with
  | zero =>
    intro m i hi hm
    cases m with
    | zero => omega
    | succ m =>
      unfold l_X1_find_2
      rw [h.1, if_pos (nI_le (by omega) (by omega))]
      have : L.drop i = [] := List.drop_eq_nil_iff.mpr (by omega)
      rw [this]; rfl
  | succ d ih =>
    intro m i hi hm
    cases m with
    | zero => omega
    | succ m =>
      have hlt : i < L.length := by omega
      unfold l_X1_find_2
      rw [h.1, if_neg (nI_ge hlt (by omega)), gL_n (by omega) (by omega), (h.2 i hlt).1]
      have hd : L.drop i = L[i] :: L.drop (i + 1) := List.drop_eq_getElem_cons hlt
      have ho := hL.2.2.2.1 L[i] (List.getElem_mem hlt)
      by_cases he : L[i] = l
      · rw [if_pos ((cmp_eq _ _).mpr (by rw [he])), hd, if_pos (by rw [he]; exact List.mem_cons_self), he, List.idxOf_cons_self]
        rfl
      · rw [if_neg (fun z => he ((en_inj ho.1 hl.1 (by have := ho.2.1; omega) (by have := hl.2.1; omega)).mp ((cmp_eq _ _).mp z))), bV_e, nI_1, ih m (i + 1) (by omega) (by omega), hd]
        have hx1 : (L[i] :: L.drop (i + 1)).idxOf l = (L.drop (i + 1)).idxOf l + 1 := by
          have hb : (L[i] == l) = false := by rw [beq_eq_false_iff_ne]; exact he
          rw [List.idxOf_cons, hb]
          rfl
        by_cases hm2 : l ∈ L.drop (i + 1)
        · rw [if_pos hm2, if_pos (List.mem_cons_of_mem _ hm2), hx1]
          congr 3
          omega
        · rw [if_neg hm2, if_neg (fun z => (List.mem_cons.mp z).elim (fun e => he e.symm) hm2)]
theorem s_find1 {n : Nat} {S : St} {L : List (List Nat)} (h : LC S L) (hL : LOk L) {l : List Nat} (hl : lvO l) (hn : 301 ≤ n) : f_X1_find n S (en l) = some (S, if l ∈ L then nI (ix L l) else -1) := by
  have h300 := hL.2.1
  unfold f_X1_find
  have e := s_find1_l (n := n) h hL hl L.length n 0 (by omega) (by omega)
  rw [List.drop_zero, Nat.zero_add] at e
  exact e
