/-! a level gets its number, its parts before it -/
abbrev AL : Type := List (List Nat) → List Nat → List (List Nat) × Bool
def st1 (A : AL) (L : List (List Nat)) (l : List Nat) : List (List Nat) × Bool := if 1 ≤ tp (l.headD 0) then A L (q1 l) else (L, true)
def st2 (A : AL) (L : List (List Nat)) (l : List Nat) : List (List Nat) × Bool := if tp (l.headD 0) = 2 then A L (q2 l) else (L, true)
def st3 (r : List (List Nat) × Bool) (l : List Nat) : List (List Nat) × Bool := if r.2 then (if r.1.length < 300 then (r.1 ++ [l], true) else (r.1, false)) else (r.1, false)
def addL : Nat → AL
  | 0, L, _ => (L, false)
  | d + 1, L, l => if l ∈ L then (L, true) else if (st1 (addL d) L l).2 then st3 (st2 (addL d) (st1 (addL d) L l).1 l) l else ((st1 (addL d) L l).1, false)
theorem st1_c {A : AL} {L : List (List Nat)} {t : Nat} {r : List Nat} : st1 A L (t :: r) = if 1 ≤ tp t then A L (q1 (t :: r)) else (L, true) := rfl
theorem st2_c {A : AL} {L : List (List Nat)} {t : Nat} {r : List Nat} : st2 A L (t :: r) = if tp t = 2 then A L (q2 (t :: r)) else (L, true) := rfl
theorem addL_in {d : Nat} {L : List (List Nat)} {l : List Nat} (h : l ∈ L) : addL (d + 1) L l = (L, true) := by
  show (if l ∈ L then _ else _) = _
  rw [if_pos h]
theorem addL_nin {d : Nat} {L : List (List Nat)} {l : List Nat} (h : l ∉ L) : addL (d + 1) L l = if (st1 (addL d) L l).2 then st3 (st2 (addL d) (st1 (addL d) L l).1 l) l else ((st1 (addL d) L l).1, false) := by
  show (if l ∈ L then _ else _) = _
  rw [if_neg h]
theorem st3_mem {r : List (List Nat) × Bool} {l x : List Nat} (h : x ∈ (st3 r l).1) : x ∈ r.1 ∨ x = l := by
  unfold st3 at h
  split at h
  · split at h
    · rcases List.mem_append.mp h with q | q
      · exact Or.inl q
      · exact Or.inr (List.mem_singleton.mp q)
    · exact Or.inl h
  · exact Or.inl h
/-- only the levels' tables change -/
def frL (S S' : St) : Prop := (∀ f j, ¬ (f = 0 ∧ j = 0) → S'.1 f j = S.1 f j) ∧ (∀ f j, ¬ ((f = 2 ∨ f = 3) ∧ j = 0) → S'.2.1 f j = S.2.1 f j) ∧ ∀ f j, ¬ (f = 1 ∧ j = 0) → S'.2.2 f j = S.2.2 f j
theorem frL_rf (S : St) : frL S S := ⟨fun _ _ _ => rfl, fun _ _ _ => rfl, fun _ _ _ => rfl⟩
theorem frL_tr {S S1 S2 : St} (h : frL S S1) (g : frL S1 S2) : frL S S2 := ⟨fun f j z => (g.1 f j z).trans (h.1 f j z), fun f j z => (g.2.1 f j z).trans (h.2.1 f j z), fun f j z => (g.2.2 f j z).trans (h.2.2 f j z)⟩
def pushL (S : St) (L : List (List Nat)) (l : List Nat) : St := sS (sI (sI (sL S 1 0 L.length (en l)) 2 0 L.length (e1 L l)) 3 0 L.length (e2 L l)) 0 0 (nI (L.length + 1))
theorem frL_push (S : St) (L : List (List Nat)) (l : List Nat) : frL S (pushL S L l) := by
  refine ⟨fun f j z => ?_, fun f j z => ?_, fun f j z => ?_⟩
  · simp only [pushL, sS, sI, sL]
    rw [if_neg z]
  · simp only [pushL, sS, sI, sL]
    rw [if_neg (fun q => z ⟨Or.inr q.1, q.2⟩), if_neg (fun q => z ⟨Or.inl q.1, q.2⟩)]
  · simp only [pushL, sS, sI, sL]
    rw [if_neg z]
theorem LC_push {S : St} {L : List (List Nat)} {l : List Nat} (h : LC S L) (hL : LOk L) (hp : prt L l) : LC (pushL S L l) (L ++ [l]) := by
  refine ⟨by simp [pushL, sS], fun i hi => ?_⟩
  rw [List.length_append, List.length_singleton] at hi
  by_cases hlt : i < L.length
  · have e : (L ++ [l])[i]'(by simp; omega) = L[i] := List.getElem_append_left hlt
    have hq := hL.2.2.2.2 L[i] (List.getElem_mem hlt)
    obtain ⟨h1, h2, h3⟩ := h.2 i hlt
    rw [e, e1_app hq, e2_app hq, ← h1, ← h2, ← h3]
    have hne : i ≠ L.length := by omega
    refine ⟨?_, ?_, ?_⟩ <;> simp [pushL, sS, sI, sL, upd, vp_updL, hne]
  · have hi2 : i = L.length := by omega
    subst hi2
    have e : (L ++ [l])[L.length]'(by simp) = l := by simp
    rw [e, e1_app hp, e2_app hp]
    refine ⟨?_, ?_, ?_⟩ <;> simp [pushL, sS, sI, sL, upd, vp_updL]
theorem q_len {t : Nat} {r : List Nat} (h : lc 1 (t :: r)) : (1 ≤ tp t → (q1 (t :: r)).length ≤ r.length) ∧ (tp t = 2 → (q2 (t :: r)).length ≤ r.length) := by
  obtain ⟨-, h1, h2⟩ := lc_parts h
  refine ⟨fun z => ?_, fun z => ?_⟩
  · unfold q1
    simp only [List.drop_succ_cons, List.drop_zero]
    rw [List.length_take]; omega
  · unfold q2
    simp only [List.drop_succ_cons, List.drop_zero]
    rw [List.length_drop]; omega
theorem q_ok {t : Nat} {r : List Nat} (h : lvO (t :: r)) : (1 ≤ tp t → lvO (q1 (t :: r))) ∧ (tp t = 2 → lvO (q2 (t :: r))) := by
  obtain ⟨ho, hl, hc⟩ := h
  rw [List.length_cons] at hl
  have hr := (okL_c ho).2
  obtain ⟨g1, g2⟩ := q_len hc
  obtain ⟨-, h1, h2⟩ := lc_parts hc
  refine ⟨fun z => ?_, fun z => ?_⟩
  · have := g1 z
    refine ⟨?_, by omega, ?_⟩
    · unfold q1
      simp only [List.drop_succ_cons, List.drop_zero]
      exact okL_take hr _
    · rcases (show tp t = 1 ∨ tp t = 2 by have := tp_le t; omega) with e | e
      · rw [(h1 e).1]; exact (h1 e).2
      · obtain ⟨a, b, -, ha, -, hq, -⟩ := h2 e
        rw [hq]; exact ha
  · have := g2 z
    obtain ⟨a, b, -, -, hb, -, hq⟩ := h2 z
    refine ⟨?_, by omega, ?_⟩
    · unfold q2
      simp only [List.drop_succ_cons, List.drop_zero]
      exact okL_drop hr _
    · rw [hq]; exact hb
theorem m1_ne {x : Nat} (h : x < 2 ^ 31) : ¬ nI x = (-1 : Int32) := by
  intro e
  have h1 : (nI x).toInt = (-1 : Int32).toInt := by rw [e]
  rw [nI_toInt h] at h1
  have : ((-1 : Int32)).toInt = -1 := by decide
  omega
theorem ix_lt {L : List (List Nat)} {l : List Nat} (h : l ∈ L) : ix L l < L.length := List.idxOf_lt_length_of_mem h
theorem addL_len : ∀ (d : Nat) (L : List (List Nat)) (l x : List Nat), lvO l → x ∈ (addL d L l).1 → x ∈ L ∨ x.length ≤ l.length := by
  intro d
  induction d with
  | zero => intro L l x _ hx; exact Or.inl hx
  | succ d ih =>
    intro L l x hl hx
    cases l with
    | nil => exact absurd hl.2.2 (fun z => z)
    | cons t r =>
      obtain ⟨k1, k2⟩ := q_ok hl
      obtain ⟨g1, g2⟩ := q_len hl.2.2
      by_cases hm : (t :: r) ∈ L
      · rw [addL_in hm] at hx; exact Or.inl hx
      · rw [addL_nin hm] at hx
        have y1 : ∀ x, x ∈ (st1 (addL d) L (t :: r)).1 → x ∈ L ∨ x.length ≤ r.length := by
          intro x hx
          rw [st1_c] at hx
          by_cases h1 : 1 ≤ tp t
          · rw [if_pos h1] at hx
            exact (ih L _ x (k1 h1) hx).elim Or.inl (fun q => Or.inr (Nat.le_trans q (g1 h1)))
          · rw [if_neg h1] at hx; exact Or.inl hx
        generalize st1 (addL d) L (t :: r) = r1 at *
        have y2 : ∀ x, x ∈ (st2 (addL d) r1.1 (t :: r)).1 → x ∈ L ∨ x.length ≤ r.length := by
          intro x hx
          rw [st2_c] at hx
          by_cases h1 : tp t = 2
          · rw [if_pos h1] at hx
            exact (ih r1.1 _ x (k2 h1) hx).elim (y1 x) (fun q => Or.inr (Nat.le_trans q (g2 h1)))
          · rw [if_neg h1] at hx; exact y1 x hx
        rw [List.length_cons]
        by_cases c1 : r1.2 = true
        · rw [if_pos c1] at hx
          rcases st3_mem hx with q | q
          · exact (y2 x q).elim Or.inl (fun z => Or.inr (by omega))
          · exact Or.inr (by rw [q, List.length_cons]; omega)
        · rw [if_neg c1] at hx
          exact (y1 x hx).elim Or.inl (fun z => Or.inr (by omega))
/-- what the parts of a level that isn't there bring doesn't hold it -/
theorem addL_new {d : Nat} {L : List (List Nat)} {t : Nat} {r : List Nat} (hl : lvO (t :: r)) (hm : (t :: r) ∉ L) : (t :: r) ∉ (st2 (addL d) (st1 (addL d) L (t :: r)).1 (t :: r)).1 := by
  obtain ⟨k1, k2⟩ := q_ok hl
  obtain ⟨g1, g2⟩ := q_len hl.2.2
  intro hin
  have y1 : ∀ x, x ∈ (st1 (addL d) L (t :: r)).1 → x ∈ L ∨ x.length ≤ r.length := by
    intro x hx
    rw [st1_c] at hx
    by_cases h1 : 1 ≤ tp t
    · rw [if_pos h1] at hx
      exact (addL_len d L _ x (k1 h1) hx).elim Or.inl (fun q => Or.inr (Nat.le_trans q (g1 h1)))
    · rw [if_neg h1] at hx; exact Or.inl hx
  have z : (t :: r) ∈ L ∨ (t :: r).length ≤ r.length := by
    rw [st2_c] at hin
    by_cases h1 : tp t = 2
    · rw [if_pos h1] at hin
      exact (addL_len d _ _ _ (k2 h1) hin).elim (y1 _) (fun q => Or.inr (Nat.le_trans q (g2 h1)))
    · rw [if_neg h1] at hin; exact y1 _ hin
  rcases z with q | q
  · exact hm q
  · rw [List.length_cons] at q; omega
/-- what a step of addL keeps -/
theorem addL_ok : ∀ (d : Nat) (L : List (List Nat)) (l : List Nat), LOk L → lvO l → l.length ≤ d → LOk (addL d L l).1 ∧ (∃ e, (addL d L l).1 = L ++ e) ∧ ((addL d L l).2 = true → l ∈ (addL d L l).1) := by
  intro d
  induction d with
  | zero => intro L l hL hl hd; exact ⟨hL, ⟨[], by simp [addL]⟩, fun z => by cases z⟩
  | succ d ih =>
    intro L l hL hl hd
    cases l with
    | nil => exact absurd hl.2.2 (fun z => z)
    | cons t r =>
      rw [List.length_cons] at hd
      obtain ⟨k1, k2⟩ := q_ok hl
      obtain ⟨g1, g2⟩ := q_len hl.2.2
      by_cases hm : (t :: r) ∈ L
      · rw [addL_in hm]; exact ⟨hL, ⟨[], by simp⟩, fun _ => hm⟩
      · rw [addL_nin hm]
        have hnew := addL_new (d := d) hl hm
        have s1 : LOk (st1 (addL d) L (t :: r)).1 ∧ (∃ e, (st1 (addL d) L (t :: r)).1 = L ++ e) ∧ ((st1 (addL d) L (t :: r)).2 = true → 1 ≤ tp t → q1 (t :: r) ∈ (st1 (addL d) L (t :: r)).1) := by
          rw [st1_c]
          by_cases h1 : 1 ≤ tp t
          · rw [if_pos h1]
            obtain ⟨a1, a2, a3⟩ := ih L (q1 (t :: r)) hL (k1 h1) (by have := g1 h1; omega)
            exact ⟨a1, a2, fun z _ => a3 z⟩
          · rw [if_neg h1]; exact ⟨hL, ⟨[], by simp⟩, fun _ z => absurd z h1⟩
        generalize st1 (addL d) L (t :: r) = r1 at *
        obtain ⟨b1, ⟨x1, b2⟩, b3⟩ := s1
        by_cases c1 : r1.2 = true
        · rw [if_pos c1]
          have s2 : LOk (st2 (addL d) r1.1 (t :: r)).1 ∧ (∃ e, (st2 (addL d) r1.1 (t :: r)).1 = r1.1 ++ e) ∧ ((st2 (addL d) r1.1 (t :: r)).2 = true → tp t = 2 → q2 (t :: r) ∈ (st2 (addL d) r1.1 (t :: r)).1) := by
            rw [st2_c]
            by_cases h1 : tp t = 2
            · rw [if_pos h1]
              obtain ⟨a1, a2, a3⟩ := ih r1.1 (q2 (t :: r)) b1 (k2 h1) (by have := g2 h1; omega)
              exact ⟨a1, a2, fun z _ => a3 z⟩
            · rw [if_neg h1]; exact ⟨b1, ⟨[], by simp⟩, fun _ z => absurd z h1⟩
          generalize st2 (addL d) r1.1 (t :: r) = r2 at *
          obtain ⟨c3, ⟨x2, c4⟩, c5⟩ := s2
          have pre : ∃ e, r2.1 = L ++ e := ⟨x1 ++ x2, by rw [c4, b2, List.append_assoc]⟩
          unfold st3
          by_cases c2 : r2.2 = true
          · rw [if_pos c2]
            by_cases hc : r2.1.length < 300
            · rw [if_pos hc]
              have hp : prt r2.1 (t :: r) := ⟨fun z => by rw [c4]; exact List.mem_append_left _ (b3 c1 z), fun z => c5 c2 z⟩
              refine ⟨LOk_add c3 hl hnew hp hc, ?_, fun _ => by simp⟩
              obtain ⟨e, he⟩ := pre
              exact ⟨e ++ [t :: r], by show r2.1 ++ [t :: r] = _; rw [he, List.append_assoc]⟩
            · rw [if_neg hc]; exact ⟨c3, pre, fun z => by cases z⟩
          · rw [if_neg c2]; exact ⟨c3, pre, fun z => by cases z⟩
        · rw [if_neg c1]; exact ⟨b1, ⟨x1, b2⟩, fun z => by cases z⟩
