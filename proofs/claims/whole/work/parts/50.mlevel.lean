/-! the reference's table of levels -/
def kd (l : List Nat) : Nat := if 4 < l.headD 0 then 4 else l.headD 0
theorem kd_c {t : Nat} {r : List Nat} : kd (t :: r) = if 4 < t then 4 else t := rfl
def LM (S : St) (L : List (List Nat)) : Prop := S.1 355 0 = nI L.length ∧ ∀ (i : Nat) (h : i < L.length), S.2.1 351 0 i = nI (kd L[i]) ∧ S.2.1 352 0 i = e1 L L[i] ∧ S.2.1 353 0 i = e2 L L[i] ∧ S.2.1 354 0 i = nI L[i].length
theorem ix_get {L : List (List Nat)} {x : List Nat} (h : x ∈ L) : L[ix L x]? = some x := by
  have h1 := ix_lt h
  rw [List.getElem?_eq_getElem h1]
  congr 1
  exact List.getElem_idxOf h1
theorem ix_inj {L : List (List Nat)} {x y : List Nat} (hx : x ∈ L) (hy : y ∈ L) (h : ix L x = ix L y) : x = y := by
  have h1 := ix_get hx
  rw [h, ix_get hy] at h1
  exact (Option.some.inj h1).symm
theorem lv_sh {t : Nat} {r : List Nat} (h : lc 1 (t :: r)) : (tp t = 1 → r = q1 (t :: r)) ∧ (tp t = 2 → r = q1 (t :: r) ++ q2 (t :: r)) := by
  obtain ⟨-, h1, h2⟩ := lc_parts h
  refine ⟨fun z => (h1 z).1.symm, fun z => ?_⟩
  obtain ⟨a, b, e, -, -, q, q'⟩ := h2 z
  rw [q, q']; exact e
theorem tp_0 {t : Nat} (h : tp t = 0) : t = 0 ∨ 4 ≤ t := by
  unfold tp at h
  split at h
  · cases h
  · split at h
    · cases h
    · omega
theorem tp_1 {t : Nat} (h : tp t = 1) : t = 1 := by
  unfold tp at h
  split at h
  · assumption
  · split at h <;> cases h
theorem tp_2 {t : Nat} (h : tp t = 2) : t = 2 ∨ t = 3 := by
  unfold tp at h
  split at h
  · cases h
  · split at h
    · assumption
    · cases h
/-- kind and parts tell a level -/
theorem lv_inj {L : List (List Nat)} (hL : LOk L) {x y : List Nat} (hx : lvO x) (hy : lvO y) (px : prt L x) (py : prt L y) (hk : kd x = kd y) (h1 : e1 L x = e1 L y) (h2 : e2 L x = e2 L y) : x = y := by
  have h300 := hL.2.1
  cases x with
  | nil => exact absurd hx.2.2 (fun z => z)
  | cons t r =>
    cases y with
    | nil => exact absurd hy.2.2 (fun z => z)
    | cons u s =>
      rw [kd_c, kd_c] at hk
      rw [e1_c, e1_c] at h1
      rw [e2_c, e2_c] at h2
      have ht := (okL_c hx.1).1
      have hu := (okL_c hy.1).1
      have b1 : 1 ≤ tp t → ix L (q1 (t :: r)) < 2 ^ 31 := fun z => by have := ix_lt (px.1 z); omega
      have b2 : 1 ≤ tp u → ix L (q1 (u :: s)) < 2 ^ 31 := fun z => by have := ix_lt (py.1 z); omega
      rcases (show tp t = 0 ∨ tp t = 1 ∨ tp t = 2 by have := tp_le t; omega) with c | c | c
      · have r0 := (lc_parts hx.2.2).1 c
        have hut : tp u = 0 := by
          rcases tp_0 c with z | z
          · subst z
            rw [if_neg (by omega)] at hk
            have : u = 0 := by split at hk <;> omega
            rw [this]; rfl
          · have : 4 ≤ u := by split at hk <;> split at hk <;> omega
            unfold tp; rw [if_neg (by omega), if_neg (by omega)]
        have s0 := (lc_parts hy.2.2).1 hut
        subst r0; subst s0
        rw [if_pos c, if_pos hut] at h1
        rcases tp_0 c with z | z
        · subst z
          rw [if_neg (by omega)] at hk
          have : u = 0 := by split at hk <;> omega
          rw [this]
        · have hu4 : 4 ≤ u := by split at hk <;> split at hk <;> omega
          rw [if_neg (by omega), if_neg (by omega)] at h1
          have := (nI_eq (by omega) (by omega)).mp h1
          have : t = u := by omega
          rw [this]
      · have t1 := tp_1 c
        subst t1
        have hu1 : u = 1 := by rw [if_neg (by omega)] at hk; split at hk <;> omega
        subst hu1
        rw [if_neg (by rw [c]; decide), if_neg (by rw [c]; decide)] at h1
        have e := ix_inj (px.1 (by show 1 ≤ tp 1; omega)) (py.1 (by show 1 ≤ tp 1; omega)) ((nI_eq (b1 (by omega)) (b2 (by omega))).mp h1)
        have := (lv_sh hx.2.2).1 c
        have := (lv_sh hy.2.2).1 c
        congr 1
        rw [(lv_sh hx.2.2).1 c, (lv_sh hy.2.2).1 c, e]
      · have t2 := tp_2 c
        have hut : t = u := by rw [if_neg (by omega)] at hk; split at hk <;> omega
        subst hut
        rw [if_neg (by omega), if_neg (by omega)] at h1
        rw [if_pos c, if_pos c] at h2
        have i1 := ix_inj (px.1 (by show 1 ≤ tp t; omega)) (py.1 (by show 1 ≤ tp t; omega)) ((nI_eq (b1 (by omega)) (b2 (by omega))).mp h1)
        have i2 := ix_inj (px.2 c) (py.2 c) ((nI_eq (by have := ix_lt (px.2 c); omega) (by have := ix_lt (py.2 c); omega)).mp h2)
        congr 1
        rw [(lv_sh hx.2.2).2 c, (lv_sh hy.2.2).2 c, i1, i2]
def pushM (S : St) (L : List (List Nat)) (l : List Nat) : St := sS (sI (sI (sI (sI S 351 0 L.length (nI (kd l))) 352 0 L.length (e1 L l)) 353 0 L.length (e2 L l)) 354 0 L.length (nI l.length)) 355 0 (nI (L.length + 1))
/-- only the reference's tables of levels change -/
def frM (S S' : St) : Prop := (∀ f j, ¬ (f = 355 ∧ j = 0) → S'.1 f j = S.1 f j) ∧ (∀ f j, ¬ ((f = 351 ∨ f = 352 ∨ f = 353 ∨ f = 354) ∧ j = 0) → S'.2.1 f j = S.2.1 f j) ∧ ∀ f j, S'.2.2 f j = S.2.2 f j
theorem frM_rf (S : St) : frM S S := ⟨fun _ _ _ => rfl, fun _ _ _ => rfl, fun _ _ => rfl⟩
theorem frM_tr {S S1 S2 : St} (h : frM S S1) (g : frM S1 S2) : frM S S2 := ⟨fun f j z => (g.1 f j z).trans (h.1 f j z), fun f j z => (g.2.1 f j z).trans (h.2.1 f j z), fun f j => (g.2.2 f j).trans (h.2.2 f j)⟩
theorem frM_push (S : St) (L : List (List Nat)) (l : List Nat) : frM S (pushM S L l) := by
  refine ⟨fun f j z => ?_, fun f j z => ?_, fun f j => rfl⟩
  · simp only [pushM, sS, sI]
    rw [if_neg z]
  · simp only [pushM, sS, sI]
    rw [if_neg (fun q => z ⟨Or.inr (Or.inr (Or.inr q.1)), q.2⟩), if_neg (fun q => z ⟨Or.inr (Or.inr (Or.inl q.1)), q.2⟩), if_neg (fun q => z ⟨Or.inr (Or.inl q.1), q.2⟩), if_neg (fun q => z ⟨Or.inl q.1, q.2⟩)]
theorem LM_push {S : St} {L : List (List Nat)} {l : List Nat} (h : LM S L) (hL : LOk L) (hp : prt L l) : LM (pushM S L l) (L ++ [l]) := by
  refine ⟨by simp [pushM, sS], fun i hi => ?_⟩
  rw [List.length_append, List.length_singleton] at hi
  by_cases hlt : i < L.length
  · have e : (L ++ [l])[i]'(by simp; omega) = L[i] := List.getElem_append_left hlt
    have hq := hL.2.2.2.2 L[i] (List.getElem_mem hlt)
    obtain ⟨h1, h2, h3, h4⟩ := h.2 i hlt
    rw [e, e1_app hq, e2_app hq, ← h1, ← h2, ← h3, ← h4]
    have hne : i ≠ L.length := by omega
    refine ⟨?_, ?_, ?_, ?_⟩ <;> simp [pushM, sS, sI, upd, hne]
  · have hi2 : i = L.length := by omega
    subst hi2
    have e : (L ++ [l])[L.length]'(by simp) = l := by simp
    rw [e, e1_app hp, e2_app hp]
    refine ⟨?_, ?_, ?_, ?_⟩ <;> simp [pushM, sS, sI, upd]
theorem s_nol_l {n : Nat} {S : St} {L : List (List Nat)} (h : LM S L) (hL : LOk L) {l : List Nat} (hl : lvO l) (hp : prt L l) : ∀ (d m i : Nat), i + d = L.length → d < m → (∀ x ∈ L.take i, x ≠ l) → l_X8_numberOfLevel_63 n m S (nI (kd l)) (e1 L l) (e2 L l) (nI l.length) (nI i) = if l ∈ L then some (S, nI (ix L l)) else if L.length < 300 then some (pushM S L l, nI L.length) else some (S, -1) := by
  have h300 := hL.2.1
  intro d
  induction d with
  | zero =>
    intro m i hi hm hno
    have hi2 : i = L.length := by omega
    have hnin : l ∉ L := by
      intro z
      rw [hi2, List.take_length] at hno
      exact hno l z rfl
    cases m with
    | zero => omega
    | succ m =>
      unfold l_X8_numberOfLevel_63
      rw [h.1, if_pos (nI_le (by omega) (by omega)), if_neg hnin]
      by_cases hc : L.length < 300
      · rw [if_neg (fun z => by have := (nI_eq (b := 300) (by omega) (by omega)).mp z; omega), if_pos hc, pI_n hc (by omega)]
        have c1 : (sI S 351 0 L.length (nI (kd l))).1 355 0 = nI L.length := h.1
        rw [c1, pI_n hc (by omega)]
        have c2 : (sI (sI S 351 0 L.length (nI (kd l))) 352 0 L.length (e1 L l)).1 355 0 = nI L.length := h.1
        rw [c2, pI_n hc (by omega)]
        have c3 : (sI (sI (sI S 351 0 L.length (nI (kd l))) 352 0 L.length (e1 L l)) 353 0 L.length (e2 L l)).1 355 0 = nI L.length := h.1
        rw [c3, pI_n hc (by omega)]
        have c4 : (sI (sI (sI (sI S 351 0 L.length (nI (kd l))) 352 0 L.length (e1 L l)) 353 0 L.length (e2 L l)) 354 0 L.length (nI l.length)).1 355 0 = nI L.length := h.1
        rw [c4, pS_e, nI_1]
        have c5 : (sS (sI (sI (sI (sI S 351 0 L.length (nI (kd l))) 352 0 L.length (e1 L l)) 353 0 L.length (e2 L l)) 354 0 L.length (nI l.length)) 355 0 (nI (L.length + 1))).1 355 0 = nI (L.length + 1) := by simp [sS]
        rw [c5, nI_pred]
        rfl
      · have e300 : L.length = 300 := by omega
        rw [if_pos (by rw [e300]; rfl), if_neg hc]
  | succ d ih =>
    intro m i hi hm hno
    cases m with
    | zero => omega
    | succ m =>
      have hlt : i < L.length := by omega
      obtain ⟨h1, h2, h3, h4⟩ := h.2 i hlt
      have hox := hL.2.2.2.1 L[i] (List.getElem_mem hlt)
      have hpx := hL.2.2.2.2 L[i] (List.getElem_mem hlt)
      have kb : ∀ x : List Nat, kd x ≤ 4 := by intro x; unfold kd; split <;> omega
      unfold l_X8_numberOfLevel_63
      rw [h.1, if_neg (nI_ge hlt (by omega)), gI_n (by omega) (by omega), h1]
      have next : L[i] ≠ l → j_X8_numberOfLevel_108 n (fun S l1 l2 l3 l4 l5 => l_X8_numberOfLevel_63 n m S l1 l2 l3 l4 l5) S (nI (kd l)) (e1 L l) (e2 L l) (nI l.length) (nI i) = if l ∈ L then some (S, nI (ix L l)) else if L.length < 300 then some (pushM S L l, nI L.length) else some (S, -1) := by
        intro hne
        unfold j_X8_numberOfLevel_108
        rw [bV_e, nI_1]
        refine ih m (i + 1) (by omega) (by omega) ?_
        intro x hx
        rw [List.take_succ, List.getElem?_eq_getElem hlt] at hx
        rcases List.mem_append.mp hx with q | q
        · exact hno x q
        · have : x = L[i] := by simpa using q
          rw [this]; exact hne
      by_cases hk : kd L[i] = kd l
      · rw [if_pos (by rw [hk]), gI_n (by omega) (by omega), h2]
        by_cases h5 : e1 L L[i] = e1 L l
        · rw [if_pos h5, gI_n (by omega) (by omega), h3]
          by_cases h6 : e2 L L[i] = e2 L l
          · rw [if_pos h6]
            have e := lv_inj hL hox hl hpx hp hk h5 h6
            have hin : l ∈ L := by rw [← e]; exact List.getElem_mem hlt
            rw [if_pos hin]
            congr 3
            have h7 := ix_get hin
            have h8 : L[i]? = some l := by rw [List.getElem?_eq_getElem hlt, e]
            exact (List.getElem?_inj hlt hL.2.2.1).mp (h8.trans h7.symm)
          · rw [if_neg h6]; exact next (fun z => h6 (by rw [z]))
        · rw [if_neg h5]; exact next (fun z => h5 (by rw [z]))
      · rw [if_neg (fun z => hk ((nI_eq (by have := kb L[i]; omega) (by have := kb l; omega)).mp z))]
        exact next (fun z => hk (by rw [z]))
