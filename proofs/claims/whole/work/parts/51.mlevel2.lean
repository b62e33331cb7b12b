/-! numberOfLevel; a level is laid into a row -/
/-- the answer of numberOfLevel, and the state behind it: asked tells whether the size of 8 counts -/
def nolR (asked : Bool) (S : St) (L : List (List Nat)) (l : List Nat) : St × Int32 := if asked && decide (8 < l.length) then (S, -1) else if l ∈ L then (S, nI (ix L l)) else if L.length < 300 then (pushM S L l, nI L.length) else (S, -1)
theorem kd_tp {t : Nat} {r : List Nat} (h : okL (t :: r)) : (tp t = 0 ↔ (kd (t :: r) = 0 ∨ kd (t :: r) = 4)) ∧ (tp t = 1 ↔ kd (t :: r) = 1) ∧ (tp t = 2 ↔ (kd (t :: r) = 2 ∨ kd (t :: r) = 3)) := by
  have := (okL_c h).1
  rw [kd_c]
  rcases (show t = 0 ∨ t = 1 ∨ t = 2 ∨ t = 3 ∨ t = 4 ∨ t = 5 ∨ t = 6 by omega) with rfl | rfl | rfl | rfl | rfl | rfl | rfl <;> decide
theorem s_nol {n : Nat} {S : St} {L : List (List Nat)} (h : LM S L) (hL : LOk L) {l : List Nat} (hl : lvO l) (hp : prt L l) (hn : 301 ≤ n) {asked : Bool} (ha : S.1 379 0 = if asked then 1 else 0) : f_X8_numberOfLevel n S (nI (kd l)) (e1 L l) (e2 L l) = some (nolR asked S L l) := by
  have h300 := hL.2.1
  cases l with
  | nil => exact absurd hl.2.2 (fun z => z)
  | cons t r =>
    have hlen16 := hl.2.1
    rw [List.length_cons] at hlen16
    obtain ⟨q0, q1', q2'⟩ := kd_tp hl.1
    have fin : ∀ s1 s0 : Int32, s1 + s0 = nI (t :: r).length → j_X8_numberOfLevel_41 n S (nI (kd (t :: r))) (e1 L (t :: r)) (e2 L (t :: r)) s0 s1 = some (nolR asked S L (t :: r)) := by
      intro s1 s0 hs
      unfold j_X8_numberOfLevel_41
      rw [bV_e, hs, ha]
      have go : j_X8_numberOfLevel_60 n S (nI (kd (t :: r))) (e1 L (t :: r)) (e2 L (t :: r)) (nI (t :: r).length) = some (if (t :: r) ∈ L then (S, nI (ix L (t :: r))) else if L.length < 300 then (pushM S L (t :: r), nI L.length) else (S, -1)) := by
        unfold j_X8_numberOfLevel_60
        have := s_nol_l (n := n) h hL hl hp L.length n 0 (by omega) (by omega) (fun x hx => by simp at hx)
        have e : l_X8_numberOfLevel_63 n n S (nI (kd (t :: r))) (e1 L (t :: r)) (e2 L (t :: r)) (nI (t :: r).length) 0 = _ := this
        rw [e]
        by_cases hm : (t :: r) ∈ L
        · rw [if_pos hm, if_pos hm]
        · rw [if_neg hm, if_neg hm]
          by_cases hc : L.length < 300
          · rw [if_pos hc, if_pos hc]
          · rw [if_neg hc, if_neg hc]
      unfold nolR
      cases asked with
      | false =>
        rw [if_pos (by decide), Bool.false_and, if_neg (show ¬ (false = true) by decide), go]
      | true =>
        rw [if_neg (show ¬ ((if true = true then (1 : Int32) else 0) = 0) by decide), Bool.true_and]
        by_cases h8 : (t :: r).length ≤ 8
        · rw [if_pos (show nI (t :: r).length ≤ (8 : Int32) from nI_le (b := 8) h8 (by omega)), if_neg (show ¬ (decide (8 < (t :: r).length) = true) by rw [decide_eq_true_eq]; omega), go]
        · rw [if_neg (show ¬ nI (t :: r).length ≤ (8 : Int32) from nI_ge (a := 8) (by omega) (by rw [List.length_cons]; omega)), if_pos (show decide (8 < (t :: r).length) = true by rw [decide_eq_true_eq]; omega)]
    have szOf : ∀ x, x ∈ L → ∀ {k : Int32 → Option (St × Int32)}, gI S 354 0 (nI (ix L x)) 300 k = k (nI x.length) := by
      intro x hx k
      have hi := ix_lt hx
      rw [gI_n (by omega) (by omega), (h.2 _ hi).2.2.2]
      have := ix_get hx
      rw [List.getElem?_eq_getElem hi] at this
      rw [Option.some.inj this]
    unfold f_X8_numberOfLevel
    rcases (show tp t = 0 ∨ tp t = 1 ∨ tp t = 2 by have := tp_le t; omega) with c | c | c
    · have hr := (lc_parts hl.2.2).1 c
      have tail : j_X8_numberOfLevel_19 n S (nI (kd (t :: r))) (e1 L (t :: r)) (e2 L (t :: r)) 1 = some (nolR asked S L (t :: r)) := by
        unfold j_X8_numberOfLevel_19 j_X8_numberOfLevel_20
        have hk := q0.mp c
        rw [if_neg (fun z => by have := (nq2 (by omega)).mp z; omega), if_neg (fun z => by have := (nq3 (by omega)).mp z; omega)]
        exact fin _ _ (by rw [hr]; rfl)
      rcases q0.mp c with z | z
      · rw [if_pos (show nI (kd (t :: r)) ≤ (0 : Int32) from by rw [z]; decide +kernel)]; exact tail
      · rw [if_neg (show ¬ nI (kd (t :: r)) ≤ (0 : Int32) from by rw [z]; decide +kernel), if_pos (show (4 : Int32) ≤ nI (kd (t :: r)) from by rw [z]; decide +kernel)]; exact tail
    · have hk := q1'.mp c
      have hr := (lv_sh hl.2.2).1 c
      have hlr : (t :: r).length = 1 + (q1 (t :: r)).length := by
        rw [List.length_cons]
        have := congrArg List.length hr
        omega
      rw [if_neg (show ¬ nI (kd (t :: r)) ≤ (0 : Int32) from by rw [hk]; decide +kernel), if_neg (show ¬ (4 : Int32) ≤ nI (kd (t :: r)) from by rw [hk]; decide +kernel)]
      have ee : e1 L (t :: r) = nI (ix L (q1 (t :: r))) := by rw [e1_c, if_neg (by omega)]
      have st : gI S 354 0 (e1 L (t :: r)) 300 (fun v3 => j_X8_numberOfLevel_20 n S (nI (kd (t :: r))) (e1 L (t :: r)) (e2 L (t :: r)) v3 1) = j_X8_numberOfLevel_20 n S (nI (kd (t :: r))) (e1 L (t :: r)) (e2 L (t :: r)) (nI (q1 (t :: r)).length) 1 := by
        conv => lhs; arg 4; rw [ee]
        exact szOf _ (hp.1 (by show 1 ≤ tp t; omega))
      rw [st]
      unfold j_X8_numberOfLevel_20
      rw [if_neg (fun z => by have := (nq2 (by omega)).mp z; omega), if_neg (fun z => by have := (nq3 (by omega)).mp z; omega)]
      exact fin _ _ (by rw [hlr, Int32.add_zero]; exact nI_add 1 _)
    · have hk := q2'.mp c
      have hr := (lv_sh hl.2.2).2 c
      have hlr : (t :: r).length = 1 + (q1 (t :: r)).length + (q2 (t :: r)).length := by
        rw [List.length_cons]
        have := congrArg List.length hr
        rw [List.length_append] at this
        omega
      rw [if_neg (show ¬ nI (kd (t :: r)) ≤ (0 : Int32) from nI_nle (by omega) (by omega)), if_neg (show ¬ (4 : Int32) ≤ nI (kd (t :: r)) from nI_ge (b := 4) (by omega) (by omega))]
      have ee : e1 L (t :: r) = nI (ix L (q1 (t :: r))) := by rw [e1_c, if_neg (by omega)]
      have ee2 : e2 L (t :: r) = nI (ix L (q2 (t :: r))) := by rw [e2_c, if_pos c]
      have st : gI S 354 0 (e1 L (t :: r)) 300 (fun v3 => j_X8_numberOfLevel_20 n S (nI (kd (t :: r))) (e1 L (t :: r)) (e2 L (t :: r)) v3 1) = j_X8_numberOfLevel_20 n S (nI (kd (t :: r))) (e1 L (t :: r)) (e2 L (t :: r)) (nI (q1 (t :: r)).length) 1 := by
        conv => lhs; arg 4; rw [ee]
        exact szOf _ (hp.1 (by show 1 ≤ tp t; omega))
      rw [st]
      unfold j_X8_numberOfLevel_20
      have two : j_X8_numberOfLevel_31 n S (nI (kd (t :: r))) (e1 L (t :: r)) (e2 L (t :: r)) (1 + nI (q1 (t :: r)).length) = some (nolR asked S L (t :: r)) := by
        unfold j_X8_numberOfLevel_31
        have st2 : gI S 354 0 (e2 L (t :: r)) 300 (fun v1 => j_X8_numberOfLevel_41 n S (nI (kd (t :: r))) (e1 L (t :: r)) (e2 L (t :: r)) v1 (1 + nI (q1 (t :: r)).length)) = j_X8_numberOfLevel_41 n S (nI (kd (t :: r))) (e1 L (t :: r)) (e2 L (t :: r)) (nI (q2 (t :: r)).length) (1 + nI (q1 (t :: r)).length) := by
          conv => lhs; arg 4; rw [ee2]
          exact szOf _ (hp.2 c)
        rw [st2]
        refine fin _ _ ?_
        rw [hlr, show (1 : Int32) + nI (q1 (t :: r)).length = nI (1 + (q1 (t :: r)).length) from nI_add 1 _, nI_add]
      by_cases k2 : kd (t :: r) = 2
      · rw [if_pos ((nq2 (by omega)).mpr k2)]; exact two
      · rw [if_neg (fun z => k2 ((nq2 (by omega)).mp z)), if_pos ((nq3 (by omega)).mpr (by omega))]; exact two
