/-! Levels.keep is addL -/
theorem ix_appE {L e : List (List Nat)} {x : List Nat} (h : x ∈ L) : ix (L ++ e) x = ix L x := by
  unfold ix
  rw [List.idxOf_append, if_pos h]
theorem ix_new {L : List (List Nat)} {l : List Nat} (h : l ∉ L) : ix (L ++ [l]) l = L.length := by
  unfold ix
  rw [List.idxOf_append, if_neg h, List.idxOf_cons_self]; omega
theorem e1_c {L : List (List Nat)} {t : Nat} {r : List Nat} : e1 L (t :: r) = if tp t = 0 then (if t = 0 then -1 else nI (t - 4)) else nI (ix L (q1 (t :: r))) := rfl
theorem e2_c {L : List (List Nat)} {t : Nat} {r : List Nat} : e2 L (t :: r) = if tp t = 2 then nI (ix L (q2 (t :: r))) else -1 := rfl
theorem s_164 {n : Nat} {F : St → Int64 → Option (St × Int32)} {S : St} {len : Nat} {l8 s0 : Int32} (hc : S.1 0 0 = nI len) (hl : len < 300) : j_X1_keep_164 n F S l8 s0 (nI len) = some (sS (sI (sI S 2 0 len s0) 3 0 len l8) 0 0 (nI (len + 1)), nI len) := by
  unfold j_X1_keep_164
  rw [pI_n hl (by omega)]
  have e1 : (sI S 2 0 len s0).1 0 0 = nI len := hc
  rw [e1, pI_n hl (by omega)]
  have e2 : (sI (sI S 2 0 len s0) 3 0 len l8).1 0 0 = nI len := hc
  rw [e2, pS_e, nI_1]
  have e3 : (sS (sI (sI S 2 0 len s0) 3 0 len l8) 0 0 (nI (len + 1))).1 0 0 = nI (len + 1) := by simp [sS]
  rw [e3, nI_pred]
theorem s_120 {n : Nat} {F : St → Int64 → Option (St × Int32)} {S : St} {L : List (List Nat)} (hS : LC S L) (hL : LOk L) {t : Nat} {r : List Nat} (hl : lvO (t :: r)) (hnew : (t :: r) ∉ L) {l7 l8 : Int32} (h7 : 1 ≤ tp t → l7 = e1 L (t :: r)) (h8 : l8 = e2 L (t :: r)) :
    j_X1_keep_120 n F S (en (t :: r)) (nI (tp t)) l7 l8 = if L.length < 300 then some (pushL S L (t :: r), nI L.length) else some (S, -1) := by
  have h300 := hL.2.1
  have ht2 := tp_le t
  unfold j_X1_keep_120
  rw [hS.1]
  by_cases hc : L.length < 300
  · rw [if_pos (show nI L.length < (300 : Int32) from nI_lt (b := 300) hc (by omega)), if_pos hc, pL_n hc (by omega)]
    have e0 : (sL S 1 0 L.length (en (t :: r))).1 0 0 = nI L.length := hS.1
    rw [e0]
    by_cases h0 : tp t = 0
    · rw [if_pos (by rw [h0]; decide +kernel), s_parameterOf hl.1 hl.2.1, bI_s, s_164 e0 hc]
      have hr : r = [] := (lc_parts hl.2.2).1 h0
      have h6 := (okL_c hl.1).1
      have ht0 : t ≠ 0 := by
        intro z
        subst z; subst hr
        exact hnew (List.mem_of_getElem? hL.1)
      have ht4 : 4 ≤ t := by
        unfold tp at h0
        split at h0
        · cases h0
        · split at h0
          · cases h0
          · omega
      have e5 : nI (t + 1) - 5 = e1 L (t :: r) := by
        have : e1 L (t :: r) = nI (t - 4) := by
          rw [e1_c, if_pos h0, if_neg ht0]
        rw [this]
        have := pk_sub (a := t + 1) (b := 5) (by omega)
        rw [show t + 1 - 5 = t - 4 by omega] at this
        exact this
      rw [e5, h8]
      rfl
    · rw [if_neg (show ¬ nI (tp t) ≤ (0 : Int32) from nI_nle (by omega) (by omega)), s_164 e0 hc, h7 (by omega), h8]
      rfl
  · rw [if_neg (show ¬ nI L.length < (300 : Int32) from nI_nlt (b := 300) (by omega) (by omega)), if_neg hc]
set_option maxHeartbeats 1000000 in
theorem s_keep {n : Nat} (hn : 301 ≤ n) : ∀ (d : Nat) (L : List (List Nat)) (S : St) (l : List Nat), LC S L → LOk L → lvO l → l.length ≤ d → ∃ S', k_X1_keep n d S (en l) = some (S', if (addL d L l).2 then nI (ix (addL d L l).1 l) else -1) ∧ LC S' (addL d L l).1 ∧ frL S S' := by
  intro d
  induction d with
  | zero =>
    intro L S l _ _ hl hd
    cases l with
    | nil => exact absurd hl.2.2 (fun z => z)
    | cons t r => simp at hd
  | succ d ih =>
    intro L S l hS hL hl hd
    cases l with
    | nil => exact absurd hl.2.2 (fun z => z)
    | cons t r =>
      have hlen16 := hl.2.1
      rw [List.length_cons] at hd hlen16
      have ht2 := tp_le t
      have h6 := (okL_c hl.1).1
      obtain ⟨k1, k2⟩ := q_ok hl
      obtain ⟨g1, g2⟩ := q_len hl.2.2
      show ∃ S', f_X1_keep n (k_X1_keep n d) S (en (t :: r)) = _ ∧ _
      unfold f_X1_keep
      rw [s_find1 hS hL hl hn, bI_s]
      by_cases hm : (t :: r) ∈ L
      · rw [if_pos hm, if_neg (m1_ne (by have := ix_lt hm; have := hL.2.1; omega)), addL_in hm]
        exact ⟨S, rfl, hS, frL_rf S⟩
      · rw [if_neg hm, if_pos rfl, s_sizeOf hl.1 hl.2.1 (by omega), bI_s, if_neg (nI_ne0 (by rw [List.length_cons]; omega) (by rw [List.length_cons]; omega))]
        have em : f_X0_markAt n S (en (t :: r)) 0 = some (S, nI (t + 1)) := s_markAt hl.1 (by rw [List.length_cons]; omega) (i := 0) (by omega)
        obtain ⟨v, ev, hv1, hv16⟩ := s_fps hl.1 hl.2.1 hl.2.2 (n := n) (by omega) S
        rw [em, bI_s, s_partsOf0 (by omega), bI_s, tm_s, ev, bI_s, bV_e, show (1 : Int32) + nI v = nI (1 + v) from nI_add 1 v]
        rw [addL_nin hm]
        have hnew := addL_new (d := d) hl hm
        by_cases h0 : tp t = 0
        · -- a leaf
          have a1 : st1 (addL d) L (t :: r) = (L, true) := by rw [st1_c, if_neg (by omega)]
          rw [a1] at hnew
          have a2 : st2 (addL d) L (t :: r) = (L, true) := by rw [st2_c, if_neg (by omega)]
          rw [a2] at hnew
          rw [if_pos (show nI (tp t) ≤ (0 : Int32) from by rw [h0]; decide +kernel), a1]
          unfold j_X1_keep_66
          rw [if_pos (show nI (tp t) ≤ (0 : Int32) from by rw [h0]; decide +kernel)]
          unfold j_X1_keep_81
          rw [if_pos (show nI (tp t) ≤ (1 : Int32) from by rw [h0]; decide +kernel)]
          unfold j_X1_keep_106
          rw [if_pos (show nI (tp t) ≤ (1 : Int32) from by rw [h0]; decide +kernel)]
          have e2v : (-1 : Int32) = e2 L (t :: r) := by rw [e2_c, if_neg (by omega)]
          rw [s_120 hS hL hl hm (l7 := -1) (fun z => by omega) e2v]
          show ∃ S', _ = some (S', if (st3 (st2 (addL d) L (t :: r)) (t :: r)).2 = true then nI (ix (st3 (st2 (addL d) L (t :: r)) (t :: r)).1 (t :: r)) else -1) ∧ LC S' (st3 (st2 (addL d) L (t :: r)) (t :: r)).1 ∧ frL S S'
          rw [a2]
          unfold st3
          rw [if_pos rfl]
          by_cases hc : L.length < 300
          · rw [if_pos hc, if_pos hc]
            refine ⟨pushL S L (t :: r), ?_, LC_push hS hL ⟨fun z => by simp only [List.headD_cons] at z; omega, fun z => by simp only [List.headD_cons] at z; omega⟩, frL_push S L _⟩
            rw [if_pos rfl, ix_new hm]
          · rw [if_neg hc, if_neg hc]
            exact ⟨S, rfl, hS, frL_rf S⟩
        · -- with parts
          have hp1 : 1 ≤ tp t := by omega
          have hv := hv1 hp1
          rw [if_neg (show ¬ nI (tp t) ≤ (0 : Int32) from nI_nle (by omega) (by omega))]
          have ecut : f_X0_cut n S (en (t :: r)) 1 (nI (1 + v) - 1) = some (S, en (q1 (t :: r))) := by
            have e : nI (1 + v) - 1 = nI v := by rw [Nat.add_comm]; exact nI_pred v
            rw [e]
            have := s_cut (n := n) (S := S) hl.1 hl.2.1 (i := 1) (k := v) (by omega) (by omega)
            rw [hv] at this ⊢
            have e4 : ((t :: r).drop 1).take (q1 (t :: r)).length = q1 (t :: r) := by
              unfold q1
              simp
            rw [e4] at this
            exact this
          rw [ecut, bL_s]
          have a1 : st1 (addL d) L (t :: r) = addL d L (q1 (t :: r)) := by rw [st1_c, if_pos hp1]
          rw [a1] at hnew ⊢
          obtain ⟨S1, f1, c1, w1⟩ := ih L S (q1 (t :: r)) hS hL (k1 hp1) (by have := g1 hp1; omega)
          obtain ⟨o1, ⟨x1, o2⟩, o3⟩ := addL_ok d L (q1 (t :: r)) hL (k1 hp1) (by have := g1 hp1; omega)
          rw [f1, bI_s]
          generalize addL d L (q1 (t :: r)) = r1 at *
          unfold j_X1_keep_66
          rw [if_neg (show ¬ nI (tp t) ≤ (0 : Int32) from nI_nle (by omega) (by omega))]
          by_cases b1 : r1.2 = true
          · rw [if_pos b1, if_pos b1]
            have m1 := o3 b1
            have i1 := ix_lt m1
            rw [if_neg (m1_ne (by have := o1.2.1; omega))]
            unfold j_X1_keep_81
            by_cases h2 : tp t = 2
            · -- two parts
              obtain ⟨a, b, hr, ha, hb, hq1, hq2⟩ := (lc_parts hl.2.2).2.2 h2
              rw [if_neg (show ¬ nI (tp t) ≤ (1 : Int32) from nI_ge (a := 1) (by omega) (by omega))]
              have ecut2 : f_X0_cut n S1 (en (t :: r)) (nI (1 + v)) (nI (t :: r).length - nI (1 + v)) = some (S1, en (q2 (t :: r))) := by
                have hvr : 1 + v ≤ (t :: r).length := by rw [List.length_cons]; have := g1 hp1; omega
                rw [pk_sub hvr]
                have := s_cut (n := n) (S := S1) hl.1 hl.2.1 (i := 1 + v) (k := (t :: r).length - (1 + v)) (by rw [List.length_cons] at hvr; omega) (by rw [List.length_cons]; omega)
                have e4 : ((t :: r).drop (1 + v)).take ((t :: r).length - (1 + v)) = q2 (t :: r) := by
                  rw [← List.length_drop, List.take_length, hq2, hv, hq1, hr, Nat.add_comm, List.drop_succ_cons, List.drop_left]
                rw [e4] at this
                exact this
              rw [ecut2, bL_s]
              have a2 : st2 (addL d) r1.1 (t :: r) = addL d r1.1 (q2 (t :: r)) := by rw [st2_c, if_pos h2]
              rw [a2] at hnew ⊢
              obtain ⟨S2, f2, c2, w2⟩ := ih r1.1 S1 (q2 (t :: r)) c1 o1 (k2 h2) (by have := g2 h2; omega)
              obtain ⟨p1, ⟨x2, p2⟩, p3⟩ := addL_ok d r1.1 (q2 (t :: r)) o1 (k2 h2) (by have := g2 h2; omega)
              rw [f2, bI_s]
              generalize addL d r1.1 (q2 (t :: r)) = r2 at *
              unfold j_X1_keep_106
              rw [if_neg (show ¬ nI (tp t) ≤ (1 : Int32) from nI_ge (a := 1) (by omega) (by omega))]
              unfold st3
              by_cases b2 : r2.2 = true
              · rw [if_pos b2, if_pos b2]
                have m2 := p3 b2
                have i2 := ix_lt m2
                rw [if_neg (m1_ne (by have := p1.2.1; omega))]
                have hp : prt r2.1 (t :: r) := ⟨fun _ => by rw [p2]; exact List.mem_append_left _ m1, fun _ => m2⟩
                have e1v : nI (ix r1.1 (q1 (t :: r))) = e1 r2.1 (t :: r) := by
                  rw [e1_c, if_neg h0, p2, ix_appE m1]
                have e2v : nI (ix r2.1 (q2 (t :: r))) = e2 r2.1 (t :: r) := by
                  rw [e2_c, if_pos h2]
                rw [s_120 c2 p1 hl hnew (fun _ => e1v) e2v]
                by_cases hc : r2.1.length < 300
                · rw [if_pos hc, if_pos hc]
                  refine ⟨pushL S2 r2.1 (t :: r), ?_, LC_push c2 p1 hp, frL_tr (frL_tr w1 w2) (frL_push S2 _ _)⟩
                  rw [if_pos rfl, ix_new hnew]
                · rw [if_neg hc, if_neg hc]
                  exact ⟨S2, rfl, c2, frL_tr w1 w2⟩
              · rw [if_neg b2, if_pos rfl, if_neg b2]
                exact ⟨S2, rfl, c2, frL_tr w1 w2⟩
            · -- one part
              have h1 : tp t = 1 := by omega
              rw [if_pos (show nI (tp t) ≤ (1 : Int32) from by rw [h1]; decide +kernel)]
              unfold j_X1_keep_106
              rw [if_pos (show nI (tp t) ≤ (1 : Int32) from by rw [h1]; decide +kernel)]
              have a2 : st2 (addL d) r1.1 (t :: r) = (r1.1, true) := by rw [st2_c, if_neg h2]
              rw [a2] at hnew ⊢
              have hp : prt r1.1 (t :: r) := ⟨fun _ => m1, fun z => absurd z h2⟩
              have e1v : nI (ix r1.1 (q1 (t :: r))) = e1 r1.1 (t :: r) := by
                rw [e1_c, if_neg h0]
              have e2v : (-1 : Int32) = e2 r1.1 (t :: r) := by
                rw [e2_c, if_neg h2]
              rw [s_120 c1 o1 hl hnew (fun _ => e1v) e2v]
              unfold st3
              rw [if_pos rfl]
              by_cases hc : r1.1.length < 300
              · rw [if_pos hc, if_pos hc]
                refine ⟨pushL S1 r1.1 (t :: r), ?_, LC_push c1 o1 hp, frL_tr w1 (frL_push S1 _ _)⟩
                rw [if_pos rfl, ix_new hnew]
              · rw [if_neg hc, if_neg hc]
                exact ⟨S1, rfl, c1, w1⟩
          · rw [if_neg b1, if_pos rfl, if_neg b1]
            exact ⟨S1, rfl, c1, w1⟩
