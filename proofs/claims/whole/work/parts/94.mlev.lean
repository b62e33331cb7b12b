/-! the reference: a level in a row gets its number -/
def VR : List Nat := [351, 387, 388, 389]
theorem nolR_0 {S : St} {L : List (List Nat)} {l : List Nat} : nolR false S L l = if l ∈ L then (S, nI (ix L l)) else if L.length < 300 then (pushM S L l, nI L.length) else (S, -1) := rfl
theorem fr351 {S S' : St} (h : frM S S') : FR VR S S' := FR_mo (frM_FR h) (by simp [VR])
abbrev K11t : Type := St → Nat → Int32 → Int32 → Int32 → Int32 → Option (St × Int32)
def KL (n mm : Nat) : K11t := fun S a1 l3 l4 l5 l6 => l_X8_countLevel_11 n mm S a1 l3 l4 l5 l6
/-- a number that failed ends all -/
theorem lv_end {n mm k f s : Nat} {S : St} {p : Int32} (hm : 1 ≤ mm) (hk : 1 ≤ k) (hs : s < 2 ^ 31) : l_X8_countLevel_89 n (KL n mm) k S f p (nI s) mI (nI 1) = some (sS S 387 0 p, mI) := by
  obtain ⟨k, rfl⟩ : ∃ y, k = y + 1 := ⟨k - 1, by omega⟩
  obtain ⟨mm, rfl⟩ : ∃ y, mm = y + 1 := ⟨mm - 1, by omega⟩
  unfold l_X8_countLevel_89
  have e : j_X8_countLevel_192 n (KL n (mm + 1)) S f p (nI s) mI (nI 1) = some (sS S 387 0 p, mI) := by
    unfold j_X8_countLevel_192
    rw [if_pos (show mI < 0 from c_ml)]
    unfold j_X8_countLevel_206 j_X8_countLevel_207 KL
    show l_X8_countLevel_11 n (mm + 1) S f p (nI s) mI 0 = _
    unfold l_X8_countLevel_11
    rw [if_pos rfl]; rfl
  rw [if_neg (show ¬ nI 1 = 0 by decide)]
  by_cases z : nI s ≤ 0
  · rw [if_pos z]; exact e
  · rw [if_neg z, if_pos (show mI < 0 from c_ml)]; exact e
/-- the last thing: the level itself, its parts having numbers -/
theorem lv_num {n d : Nat} {S : St} {L L' : List (List Nat)} {l : List Nat} (hn : 10000 ≤ n) (hM : LM S L') (hL' : LOk L') (hl : lvO l) (hp : prt L' l) (h0 : S.1 379 0 = 0) (hin : l ∈ L → L' = L ∧ (addL (d + 1) L l) = (L, true)) (hout : l ∉ L → l ∉ L' ∧ addL (d + 1) L l = if L'.length < 300 then (L' ++ [l], true) else (L', false)) : ∃ S' v, f_X8_numberOfLevel n S (nI (kd l)) (e1 L' l) (e2 L' l) = some (S', v) ∧ LM S' (addL (d + 1) L l).1 ∧ FR [351] S S' ∧ ((addL (d + 1) L l).2 = true → v = nI (ix (addL (d + 1) L l).1 l)) ∧ ((addL (d + 1) L l).2 = false → v = mI) := by
  have hnol := s_nol (n := n) hM hL' hl hp (by omega) (asked := false) (by rw [h0]; rfl)
  rw [nolR_0] at hnol
  by_cases z : l ∈ L
  · obtain ⟨e1, e2⟩ := hin z
    rw [e2]
    have z' : l ∈ L' := by rw [e1]; exact z
    rw [if_pos z'] at hnol
    exact ⟨S, _, hnol, by rw [← e1]; exact hM, FR_rf, fun _ => by rw [e1], (fun w => nomatch w)⟩
  · obtain ⟨e1, e2⟩ := hout z
    rw [e2]
    rw [if_neg e1] at hnol
    by_cases w : L'.length < 300
    · rw [if_pos w] at hnol ⊢
      exact ⟨_, _, hnol, LM_push hM hL' hp, frM_FR (frM_push S L' l), fun _ => by rw [ix_new e1], (fun w => nomatch w)⟩
    · rw [if_neg w] at hnol ⊢
      exact ⟨S, _, hnol, hM, FR_rf, (fun w => nomatch w), fun _ => rfl⟩
theorem s0_ix {L : List (List Nat)} (hL : LOk L) : [0] ∈ L ∧ ix L [0] = 0 := by
  have h0 := hL.1
  have hm : [0] ∈ L := List.mem_of_getElem? h0
  refine ⟨hm, ?_⟩
  cases L with
  | nil => cases h0
  | cons a r =>
    have : a = [0] := by simpa using h0
    unfold ix
    rw [this, List.idxOf_cons_self]
theorem KPi {f g i : Nat} {S : St} {v : Int32} {o : Nat} (h : g ≠ f ∨ o ≤ i) : KP f o S (sI S g 0 i v) := fun k hk => by
  rcases h with h | h
  · rw [sI_ne (by omega)]
  · by_cases z : g = f
    · subst z; rw [sI_at (by omega)]
    · rw [sI_ne (by omega)]
theorem m_lev {n f : Nat} (hn : 10000 ≤ n) (hf : 367 ≤ f ∧ f ≤ 371) : ∀ (d : Nat) (l : List Nat) (mm : Nat) (S : St) (L : List (List Nat)) (o s : Nat) (l5 : Int32), l.length ≤ d → lvO l → LOk L → LM S L → S.1 379 0 = 0 → sg (S.2.1 f 0) o l → o + l.length ≤ ln f → s + l.length ≤ 50 → 1 ≤ mm → ∃ S', LM S' (addL d L l).1 ∧ KP 388 s S S' ∧ KP 389 s S S' ∧ FR VR S S' ∧ ((addL d L l).2 = true → ∀ R, (∀ k, s + 2 ≤ k → l_X8_countLevel_89 n (KL n mm) k S' f (nI (o + l.length)) (nI s) (nI (ix (addL d L l).1 l)) (nI 1) = R) → l_X8_countLevel_11 n (mm + l.length) S f (nI o) (nI s) l5 (nI 1) = R) ∧ ((addL d L l).2 = false → l_X8_countLevel_11 n (mm + l.length) S f (nI o) (nI s) l5 (nI 1) = some (S', mI)) := by
  obtain ⟨hf1, hf2⟩ := ln8 hf
  intro d
  induction d with
  | zero =>
    intro l mm S L o s l5 hd hl
    cases l with
    | nil => exact absurd hl.2.2 (fun z => z)
    | cons t r => simp at hd
  | succ d ih =>
    intro l mm S L o s l5 hd hl hL hM h0 hs ho hsl hmm
    cases l with
    | nil => exact absurd hl.2.2 (fun z => z)
    | cons t r =>
    have nf : rg f 0 ∉ VR := by rw [rg8 (by omega)]; simp [VR]; omega
    rw [List.length_cons] at hd ho hsl
    obtain ⟨ok1, ok2⟩ := okL_c hl.1
    obtain ⟨p0, p1', p2'⟩ := lc_parts hl.2.2
    have sh := lv_sh hl.2.2
    have qo := q_ok hl
    obtain ⟨ht, hr⟩ := hs
    have l300 := hL.2.1
    have r351 : rg 388 0 ∈ VR ∧ rg 389 0 ∈ VR := by rw [rg8 (by omega), rg8 (by omega)]; decide
    have hpl : ∀ L2 : List (List Nat), (1 ≤ tp t → q1 (t :: r) ∈ L2) → (tp t = 2 → q2 (t :: r) ∈ L2) → prt L2 (t :: r) := fun L2 a b => ⟨a, b⟩
    show ∃ S', LM S' _ ∧ _ ∧ _ ∧ _ ∧ (_ → ∀ R, (∀ k, s + 2 ≤ k → l_X8_countLevel_89 n (KL n mm) k S' f (nI (o + (r.length + 1))) (nI s) _ (nI 1) = R) → l_X8_countLevel_11 n (mm + r.length + 1) S f (nI o) (nI s) l5 (nI 1) = R) ∧ (_ → l_X8_countLevel_11 n (mm + r.length + 1) S f (nI o) (nI s) l5 (nI 1) = some (S', mI))
    have unf : l_X8_countLevel_11 n (mm + r.length + 1) S f (nI o) (nI s) l5 (nI 1) = (if nI t = 1 then j_X8_countLevel_42 n (KL n (mm + r.length)) S f (nI (o + 1)) (nI s) l5 (nI 1) (nI t) else if nI t = 2 then j_X8_countLevel_42 n (KL n (mm + r.length)) S f (nI (o + 1)) (nI s) l5 (nI 1) (nI t) else if nI t = 3 then j_X8_countLevel_42 n (KL n (mm + r.length)) S f (nI (o + 1)) (nI s) l5 (nI 1) (nI t) else if nI t = 0 then j_X8_countLevel_84 n (KL n (mm + r.length)) S f (nI (o + 1)) (nI s) 0 else bI (f_X8_numberOfLevel n S 4 (nI t - 4) (-1)) fun S13 v15 => j_X8_countLevel_84 n (KL n (mm + r.length)) S13 f (nI (o + 1)) (nI s) v15) := by
      conv => lhs; unfold l_X8_countLevel_11
      rw [if_neg (show ¬ nI 1 = 0 by decide), gI_n (by omega) (by omega), ht, bV_e, nI_1]
      rfl
    rw [unf]
    have ne : ∀ j : Nat, j ≤ 6 → t ≠ j → ¬ nI t = nI j := fun j h2 h3 => by rw [nIeq (by omega) (by omega)]; exact h3
    by_cases t0 : tp t = 0
    · have r0 := p0 t0
      subst r0
      rcases tp_0 t0 with q | q
      · subst q
        obtain ⟨m0, i0'⟩ := s0_ix hL
        rw [addL_in m0]
        refine ⟨S, hM, KP_rf, KP_rf, FR_rf, fun _ R hR => ?_, (fun z => nomatch z)⟩
        rw [if_neg (by decide), if_neg (by decide), if_neg (by decide), if_pos (show nI 0 = 0 from rfl)]
        have := hR n (by omega)
        rw [i0'] at this
        exact this
      · obtain ⟨S1, v, A1, M1, F1, V1, V2⟩ := lv_num (n := n) (d := d) (L := L) hn hM hL hl (hpl L (fun z => by omega) (fun z => by omega)) h0 (fun z => ⟨rfl, addL_in z⟩) (fun z => ⟨z, by
          have s1e : st1 (addL d) L [t] = (L, true) := by rw [st1_c, if_neg (by omega)]
          have s2e : st2 (addL d) L [t] = (L, true) := by rw [st2_c, if_neg (by omega)]
          rw [addL_nin z, s1e]
          show st3 (st2 (addL d) L [t]) [t] = _
          rw [s2e]
          rfl⟩)
        have A1' : f_X8_numberOfLevel n S 4 (nI t - 4) (-1) = some (S1, v) := by
          rw [e1_c, if_pos t0, if_neg (by omega), e2_c, if_neg (by omega)] at A1
          have k4 : kd [t] = 4 := by rw [kd_c]; split <;> omega
          rw [k4] at A1
          rw [show nI t - 4 = nI (t - 4) from nIs (by omega)]
          exact A1
        have pre : ∀ X : Option (St × Int32), (bI (f_X8_numberOfLevel n S 4 (nI t - 4) (-1)) fun S13 v15 => j_X8_countLevel_84 n (KL n (mm + 0)) S13 f (nI (o + 1)) (nI s) v15) = X → (if nI t = 1 then j_X8_countLevel_42 n (KL n (mm + 0)) S f (nI (o + 1)) (nI s) l5 (nI 1) (nI t) else if nI t = 2 then j_X8_countLevel_42 n (KL n (mm + 0)) S f (nI (o + 1)) (nI s) l5 (nI 1) (nI t) else if nI t = 3 then j_X8_countLevel_42 n (KL n (mm + 0)) S f (nI (o + 1)) (nI s) l5 (nI 1) (nI t) else if nI t = 0 then j_X8_countLevel_84 n (KL n (mm + 0)) S f (nI (o + 1)) (nI s) 0 else bI (f_X8_numberOfLevel n S 4 (nI t - 4) (-1)) fun S13 v15 => j_X8_countLevel_84 n (KL n (mm + 0)) S13 f (nI (o + 1)) (nI s) v15) = X := by
          intro X hX
          rw [if_neg (show ¬ nI t = 1 from ne 1 (by omega) (by omega)), if_neg (show ¬ nI t = 2 from ne 2 (by omega) (by omega)), if_neg (show ¬ nI t = 3 from ne 3 (by omega) (by omega)), if_neg (show ¬ nI t = 0 from ne 0 (by omega) (by omega))]
          exact hX
        cases h9 : (addL (d + 1) L [t]).2 with
        | true =>
          refine ⟨S1, M1, KP_fr F1 (n8o (by omega) (by decide)), KP_fr F1 (n8o (by omega) (by decide)), FR_mo F1 (by simp [VR]), fun _ R hR => pre R ?_, (fun z => nomatch z)⟩
          rw [A1', bI_s, V1 h9]
          exact hR n (by omega)
        | false =>
          refine ⟨sS S1 387 0 (nI (o + 1)), LM_fr M1 (R := [387]) (FR_sS FR_rf (by rw [rg8 (by omega)]; simp)) (by simp), KP_tr (KP_fr F1 (n8o (by omega) (by decide))) (fun i _ => rfl), KP_tr (KP_fr F1 (n8o (by omega) (by decide))) (fun i _ => rfl), FR_sS (FR_mo F1 (by simp [VR])) (by rw [rg8 (by omega)]; decide), (fun z => nomatch z), fun _ => pre _ ?_⟩
          rw [A1', bI_s, V2 h9]
          exact lv_end hmm (by omega) (by omega)
    · have q1m := qo.1 (by omega)
      have tle : t ≤ 3 ∧ 1 ≤ t := by
        have := tp_le t
        rcases (by omega : tp t = 1 ∨ tp t = 2) with q | q
        · have := tp_1 q; omega
        · have := tp_2 q; omega
      have kdt : kd (t :: r) = t := by rw [kd_c, if_neg (by omega)]
      -- the frame
      have F1 : FR VR S (sI (sI S 388 0 s (nI t)) 389 0 s mI) := FR_sI (FR_sI FR_rf r351.1) r351.2
      have pre : (if nI t = 1 then j_X8_countLevel_42 n (KL n (mm + r.length)) S f (nI (o + 1)) (nI s) l5 (nI 1) (nI t) else if nI t = 2 then j_X8_countLevel_42 n (KL n (mm + r.length)) S f (nI (o + 1)) (nI s) l5 (nI 1) (nI t) else if nI t = 3 then j_X8_countLevel_42 n (KL n (mm + r.length)) S f (nI (o + 1)) (nI s) l5 (nI 1) (nI t) else if nI t = 0 then j_X8_countLevel_84 n (KL n (mm + r.length)) S f (nI (o + 1)) (nI s) 0 else bI (f_X8_numberOfLevel n S 4 (nI t - 4) (-1)) fun S13 v15 => j_X8_countLevel_84 n (KL n (mm + r.length)) S13 f (nI (o + 1)) (nI s) v15) = l_X8_countLevel_11 n (mm + r.length) (sI (sI S 388 0 s (nI t)) 389 0 s mI) f (nI (o + 1)) (nI (s + 1)) l5 (nI 1) := by
        have e : j_X8_countLevel_42 n (KL n (mm + r.length)) S f (nI (o + 1)) (nI s) l5 (nI 1) (nI t) = l_X8_countLevel_11 n (mm + r.length) (sI (sI S 388 0 s (nI t)) 389 0 s mI) f (nI (o + 1)) (nI (s + 1)) l5 (nI 1) := by
          unfold j_X8_countLevel_42
          rw [pI_n (by omega) (by omega), pI_n (by omega) (by omega), bV_e, nI_1]
          rfl
        rw [e]
        rcases (by omega : t = 1 ∨ t = 2 ∨ t = 3) with q | q | q
        · rw [if_pos (by rw [q]; rfl)]
        · rw [if_neg (show ¬ nI t = 1 from ne 1 (by omega) (by omega)), if_pos (by rw [q]; rfl)]
        · rw [if_neg (show ¬ nI t = 1 from ne 1 (by omega) (by omega)), if_neg (show ¬ nI t = 2 from ne 2 (by omega) (by omega)), if_pos (by rw [q]; rfl)]
      rw [pre]
      have hM1 := LM_fr hM (R := [388, 389]) (FR_sI (FR_sI FR_rf (by rw [rg8 (by omega)]; simp)) (by rw [rg8 (by omega)]; simp) : FR [388, 389] S (sI (sI S 388 0 s (nI t)) 389 0 s mI)) (by simp)
      have K1 : KP 388 s S (sI (sI S 388 0 s (nI t)) 389 0 s mI) := KP_tr (KPi (Or.inr (Nat.le_refl _))) (KPi (Or.inl (by omega)))
      have K1' : KP 389 s S (sI (sI S 388 0 s (nI t)) 389 0 s mI) := KP_tr (KPi (Or.inl (by omega))) (KPi (Or.inr (Nat.le_refl _)))
      have f1k : (sI (sI S 388 0 s (nI t)) 389 0 s mI).2.1 388 0 s = nI t := by rw [sI_ne (by omega), sI_eq]
      have f1n : (sI (sI S 388 0 s (nI t)) 389 0 s mI).2.1 389 0 s = mI := by rw [sI_eq]
      by_cases t1 : tp t = 1
      · have rq := sh.1 t1
        have t1' := tp_1 t1
        rw [← rq] at q1m
        obtain ⟨S2, M2, k2, k2', F2, V1, V2⟩ := ih r mm (sI (sI S 388 0 s (nI t)) 389 0 s mI) L (o + 1) (s + 1) l5 (by omega) q1m hL hM1 h0 (by rw [sI_ne (by omega), sI_ne (by omega)]; exact hr) (by omega) (by omega) hmm
        obtain ⟨o1, ⟨eL, heL⟩, o3⟩ := addL_ok d L r hL q1m (by omega)
        have F2' : FR VR S S2 := FR_tr F1 F2
        have Ka : KP 388 s S S2 := KP_tr K1 (KP_mo k2 (by omega))
        have Kb : KP 389 s S S2 := KP_tr K1' (KP_mo k2' (by omega))
        have dpos : 1 ≤ d := by
          have : 1 ≤ r.length := by cases r with | nil => exact absurd q1m.2.2 (fun z => z) | cons a b => simp
          omega
        have inr : (t :: r) ∈ L → addL d L r = (L, true) := fun z => by
          obtain ⟨d', rfl⟩ : ∃ y, d = y + 1 := ⟨d - 1, by omega⟩
          refine addL_in ?_
          have := (hL.2.2.2.2 _ z).1 (show 1 ≤ tp t by omega)
          rw [← rq] at this
          exact this
        have s1e : st1 (addL d) L (t :: r) = addL d L r := by rw [st1_c, if_pos (by omega), ← rq]
        have s2e : ∀ L2, st2 (addL d) L2 (t :: r) = (L2, true) := fun L2 => by rw [st2_c, if_neg (by omega)]
        have nin : (t :: r) ∉ L → addL (d + 1) L (t :: r) = if (addL d L r).2 then st3 ((addL d L r).1, true) (t :: r) else ((addL d L r).1, false) := fun z => by
          rw [addL_nin z, s1e, s2e]
        cases h9 : (addL d L r).2 with
        | false =>
          have z : (t :: r) ∉ L := fun z => by rw [inr z] at h9; cases h9
          rw [nin z, h9]
          exact ⟨S2, M2, Ka, Kb, F2', (fun w => nomatch w), fun _ => V2 h9⟩
        | true =>
          have rm := o3 h9
          have h02 : S2.1 379 0 = 0 := by rw [(F2' 379 0 (n8o (by omega) (by decide))).1]; exact h0
          obtain ⟨S3, v, A3, M3, F3, U1, U2⟩ := lv_num (n := n) (d := d) (L := L) (L' := (addL d L r).1) hn M2 o1 hl (hpl _ (fun _ => by rw [← rq]; exact rm) (fun z => by omega)) h02 (fun z => ⟨by rw [inr z], addL_in z⟩) (fun z => by
            have nw := addL_new (d := d) hl z
            rw [s1e, s2e] at nw
            refine ⟨nw, ?_⟩
            rw [nin z, h9]
            rfl)
          rw [kdt, e1_c, if_neg t0, ← rq, e2_c, if_neg (by omega), t1'] at A3
          have A3' : f_X8_numberOfLevel n S2 (nI 1) (nI (ix (addL d L r).1 r)) mI = some (S3, v) := A3
          have kk : S2.2.1 388 0 s = nI 1 := by rw [k2 s (by omega), f1k, t1']
          have F3' : FR VR S S3 := FR_tr F2' (FR_mo F3 (by simp [VR]))
          have Kc : KP 388 s S S3 := KP_tr Ka (KP_fr F3 (n8o (by omega) (by decide)))
          have Kd : KP 389 s S S3 := KP_tr Kb (KP_fr F3 (n8o (by omega) (by decide)))
          have step : ∀ k, s + 1 + 2 ≤ k → l_X8_countLevel_89 n (KL n mm) k S2 f (nI (o + 1 + r.length)) (nI (s + 1)) (nI (ix (addL d L r).1 r)) (nI 1) = l_X8_countLevel_89 n (KL n mm) (k - 1) S3 f (nI (o + 1 + r.length)) (nI s) v (nI 1) := by
            intro k hk
            obtain ⟨k, rfl⟩ : ∃ y, k = y + 1 := ⟨k - 1, by omega⟩
            have ib := ix_lt rm
            have lb := o1.2.1
            conv => lhs; unfold l_X8_countLevel_89
            rw [if_neg (show ¬ nI 1 = 0 by decide), if_neg (nI_nle (by omega) (by omega)), if_neg (nI_pos (by omega)), show nI (s + 1) - 1 = nI s from nI_pred _, gI_n (by omega) (by omega), kk, if_pos (show nI 1 = 1 from rfl)]
            unfold j_X8_countLevel_150 j_X8_countLevel_184
            rw [if_pos (show nI 1 = 1 from rfl)]
            rw [show f_X8_numberOfLevel n S2 1 (nI (ix (addL d L r).1 r)) (-1) = some (S3, v) from A3', bI_s, bV_e, show nI (s + 1) + -1 = nI s by rw [add_m1]; exact nI_pred _]
            rfl
          have leno : o + (r.length + 1) = o + 1 + r.length := by omega
          cases h8 : (addL (d + 1) L (t :: r)).2 with
          | true =>
            refine ⟨S3, M3, Kc, Kd, F3', fun _ R hR => ?_, (fun w => nomatch w)⟩
            refine V1 h9 R (fun k hk => ?_)
            rw [step k hk, U1 h8, ← leno]
            exact hR (k - 1) (by omega)
          | false =>
            refine ⟨sS S3 387 0 (nI (o + 1 + r.length)), LM_fr M3 (R := [387]) (FR_sS FR_rf (by rw [rg8 (by omega)]; simp)) (by simp), KP_tr Kc (fun i _ => rfl), KP_tr Kd (fun i _ => rfl), FR_sS F3' (by rw [rg8 (by omega)]; decide), (fun w => nomatch w), fun _ => ?_⟩
            refine V1 h9 _ (fun k hk => ?_)
            rw [step k hk, U2 h8]
            exact lv_end hmm (by omega) (by omega)
      · have t2 : tp t = 2 := by have := tp_le t; omega
        have rq := sh.2 t2
        have q2m := qo.2 t2
        have rl : r.length = (q1 (t :: r)).length + (q2 (t :: r)).length := by
          conv => lhs; rw [rq]
          rw [List.length_append]
        generalize hu : q1 (t :: r) = u at *
        generalize hw : q2 (t :: r) = w at *
        have ul : 1 ≤ u.length := by cases u with | nil => exact absurd q1m.2.2 (fun z => z) | cons a b => simp
        have wl : 1 ≤ w.length := by cases w with | nil => exact absurd q2m.2.2 (fun z => z) | cons a b => simp
        rw [rq] at hr
        obtain ⟨hru, hrw⟩ := sg_app.mp hr
        have mml : mm + r.length = mm + w.length + u.length := by omega
        rw [mml]
        obtain ⟨S2, M2, k2, k2', F2, V1, V2⟩ := ih u (mm + w.length) (sI (sI S 388 0 s (nI t)) 389 0 s mI) L (o + 1) (s + 1) l5 (by omega) q1m hL hM1 h0 (by rw [sI_ne (by omega), sI_ne (by omega)]; exact hru) (by omega) (by omega) (by omega)
        obtain ⟨o1, ⟨eL, heL⟩, o3⟩ := addL_ok d L u hL q1m (by omega)
        have F2' : FR VR S S2 := FR_tr F1 F2
        have Ka : KP 388 s S S2 := KP_tr K1 (KP_mo k2 (by omega))
        have Kb : KP 389 s S S2 := KP_tr K1' (KP_mo k2' (by omega))
        obtain ⟨d', hd'⟩ : ∃ y, d = y + 1 := ⟨d - 1, by omega⟩
        have inr : (t :: r) ∈ L → addL d L u = (L, true) ∧ addL d L w = (L, true) := fun z => by
          have pz := hL.2.2.2.2 _ z
          have z1 := pz.1 (show 1 ≤ tp t by omega)
          have z2 := pz.2 t2
          rw [hu] at z1
          rw [hw] at z2
          rw [hd']
          exact ⟨addL_in z1, addL_in z2⟩
        have s1e : st1 (addL d) L (t :: r) = addL d L u := by rw [st1_c, if_pos (by omega), hu]
        have s2e : ∀ L2, st2 (addL d) L2 (t :: r) = addL d L2 w := fun L2 => by rw [st2_c, if_pos t2, hw]
        have nin : (t :: r) ∉ L → addL (d + 1) L (t :: r) = if (addL d L u).2 then st3 (addL d (addL d L u).1 w) (t :: r) else ((addL d L u).1, false) := fun z => by
          rw [addL_nin z, s1e, s2e]
        cases h9 : (addL d L u).2 with
        | false =>
          have z : (t :: r) ∉ L := fun z => by rw [(inr z).1] at h9; cases h9
          rw [nin z, h9]
          exact ⟨S2, M2, Ka, Kb, F2', (fun w => nomatch w), fun _ => V2 h9⟩
        | true =>
          have um := o3 h9
          have ib := ix_lt um
          have lb := o1.2.1
          -- the first part's number is kept
          have h02 : (sI S2 389 0 s (nI (ix (addL d L u).1 u))).1 379 0 = 0 := by rw [sI_1, (F2' 379 0 (n8o (by omega) (by decide))).1]; exact h0
          have kk : S2.2.1 388 0 s = nI t := by rw [k2 s (by omega), f1k]
          have kn : S2.2.1 389 0 s = mI := by rw [k2' s (by omega), f1n]
          have step1 : ∀ k, s + 1 + 2 ≤ k → l_X8_countLevel_89 n (KL n (mm + w.length)) k S2 f (nI (o + 1 + u.length)) (nI (s + 1)) (nI (ix (addL d L u).1 u)) (nI 1) = l_X8_countLevel_11 n (mm + w.length) (sI S2 389 0 s (nI (ix (addL d L u).1 u))) f (nI (o + 1 + u.length)) (nI (s + 1)) (nI (ix (addL d L u).1 u)) (nI 1) := by
            intro k hk
            obtain ⟨k, rfl⟩ : ∃ y, k = y + 2 := ⟨k - 2, by omega⟩
            conv => lhs; unfold l_X8_countLevel_89
            rw [if_neg (show ¬ nI 1 = 0 by decide), if_neg (nI_nle (by omega) (by omega)), if_neg (nI_pos (by omega)), show nI (s + 1) - 1 = nI s from nI_pred _, gI_n (by omega) (by omega), kk, if_neg (show ¬ nI t = 1 from ne 1 (by omega) (by rcases tp_2 t2 with z | z <;> omega)), gI_n (by omega) (by omega), kn, if_neg (show ¬ 0 ≤ mI from c_0m), pI_n (by omega) (by omega)]
            conv => lhs; unfold l_X8_countLevel_89
            rw [if_pos rfl]
            unfold j_X8_countLevel_192
            rw [if_neg (nI_pos (by omega)), if_pos rfl]
            rfl
          have F3 : FR VR S (sI S2 389 0 s (nI (ix (addL d L u).1 u))) := FR_sI F2' r351.2
          have M3 := LM_fr M2 (R := [389]) (FR_sI FR_rf (by rw [rg8 (by omega)]; simp) : FR [389] S2 (sI S2 389 0 s (nI (ix (addL d L u).1 u)))) (by simp)
          obtain ⟨S4, M4, k4, k4', F4, W1, W2⟩ := ih w mm (sI S2 389 0 s (nI (ix (addL d L u).1 u))) (addL d L u).1 (o + 1 + u.length) (s + 1) (nI (ix (addL d L u).1 u)) (by omega) q2m o1 M3 h02 (sg_fr F3 nf hrw) (by omega) (by omega) hmm
          obtain ⟨y1, ⟨eL2, heL2⟩, y3⟩ := addL_ok d (addL d L u).1 w o1 q2m (by omega)
          have F4' : FR VR S S4 := FR_tr F3 F4
          have Ka4 : KP 388 s S S4 := KP_tr Ka (KP_tr (KPi (Or.inl (by omega))) (KP_mo k4 (by omega)))
          have Kb4 : KP 389 s S S4 := KP_tr Kb (KP_tr (KPi (Or.inr (Nat.le_refl _))) (KP_mo k4' (by omega)))
          cases h7 : (addL d (addL d L u).1 w).2 with
          | false =>
            have z : (t :: r) ∉ L := fun z => by rw [(inr z).1, (inr z).2] at h7; cases h7
            have ef : addL (d + 1) L (t :: r) = ((addL d (addL d L u).1 w).1, false) := by
              rw [nin z, h9]
              show st3 _ _ = _
              unfold st3
              rw [h7]; rfl
            rw [ef]
            refine ⟨S4, M4, Ka4, Kb4, F4', (fun w => nomatch w), fun _ => ?_⟩
            refine V1 h9 _ (fun k hk => ?_)
            rw [step1 k hk]
            exact W2 h7
          | true =>
            have wm := y3 h7
            have um' : u ∈ (addL d (addL d L u).1 w).1 := by rw [heL2]; exact List.mem_append_left _ um
            have iE : ix (addL d (addL d L u).1 w).1 u = ix (addL d L u).1 u := by rw [heL2]; exact ix_appE um
            have h04 : S4.1 379 0 = 0 := by rw [(F4' 379 0 (n8o (by omega) (by decide))).1]; exact h0
            obtain ⟨S5, v, A5, M5, F5, U1, U2⟩ := lv_num (n := n) (d := d) (L := L) (L' := (addL d (addL d L u).1 w).1) hn M4 y1 hl (hpl _ (fun _ => um') (fun _ => wm)) h04 (fun z => ⟨by rw [(inr z).1, (inr z).2], addL_in z⟩) (fun z => by
              have nw := addL_new (d := d) hl z
              rw [s1e, s2e] at nw
              refine ⟨nw, ?_⟩
              rw [nin z, h9]
              show st3 _ _ = _
              unfold st3
              rw [h7]; rfl)
            rw [kdt, e1_c, if_neg t0, hu, e2_c, if_pos t2, hw, iE] at A5
            have kk4 : S4.2.1 388 0 s = nI t := by rw [k4 s (by omega), sI_ne (by omega)]; exact kk
            have kn4 : S4.2.1 389 0 s = nI (ix (addL d L u).1 u) := by rw [k4' s (by omega), sI_eq]
            have F5' : FR VR S S5 := FR_tr F4' (FR_mo F5 (by simp [VR]))
            have Kc : KP 388 s S S5 := KP_tr Ka4 (KP_fr F5 (n8o (by omega) (by decide)))
            have Kd : KP 389 s S S5 := KP_tr Kb4 (KP_fr F5 (n8o (by omega) (by decide)))
            have ibw := ix_lt wm
            have lbw := y1.2.1
            have step2 : ∀ k, s + 1 + 2 ≤ k → l_X8_countLevel_89 n (KL n mm) k S4 f (nI (o + 1 + u.length + w.length)) (nI (s + 1)) (nI (ix (addL d (addL d L u).1 w).1 w)) (nI 1) = l_X8_countLevel_89 n (KL n mm) (k - 1) S5 f (nI (o + 1 + u.length + w.length)) (nI s) v (nI 1) := by
              intro k hk
              obtain ⟨k, rfl⟩ : ∃ y, k = y + 1 := ⟨k - 1, by omega⟩
              have t1n : ¬ nI t = 1 := ne 1 (by omega) (by rcases tp_2 t2 with z | z <;> omega)
              conv => lhs; unfold l_X8_countLevel_89
              rw [if_neg (show ¬ nI 1 = 0 by decide), if_neg (nI_nle (by omega) (by omega)), if_neg (nI_pos (by omega)), show nI (s + 1) - 1 = nI s from nI_pred _, gI_n (by omega) (by omega), kk4, if_neg t1n, gI_n (by omega) (by omega), kn4, if_pos (show 0 ≤ nI (ix (addL d L u).1 u) by rw [k0, nIle (by omega) (by omega)]; omega)]
              unfold j_X8_countLevel_150 j_X8_countLevel_184
              rw [if_neg t1n, show nI (s + 1) - 1 = nI s from nI_pred _, gI_n (by omega) (by omega), kn4, A5, bI_s, bV_e, show nI (s + 1) + -1 = nI s by rw [add_m1]; exact nI_pred _]
              rfl
            have leno : o + (r.length + 1) = o + 1 + u.length + w.length := by omega
            cases h8 : (addL (d + 1) L (t :: r)).2 with
            | true =>
              refine ⟨S5, M5, Kc, Kd, F5', fun _ R hR => ?_, (fun w => nomatch w)⟩
              refine V1 h9 R (fun k hk => ?_)
              rw [step1 k hk]
              refine W1 h7 R (fun k hk => ?_)
              rw [step2 k hk, U1 h8, ← leno]
              exact hR (k - 1) (by omega)
            | false =>
              refine ⟨sS S5 387 0 (nI (o + 1 + u.length + w.length)), LM_fr M5 (R := [387]) (FR_sS FR_rf (by rw [rg8 (by omega)]; simp)) (by simp), KP_tr Kc (fun i _ => rfl), KP_tr Kd (fun i _ => rfl), FR_sS F5' (by rw [rg8 (by omega)]; decide), (fun w => nomatch w), fun _ => ?_⟩
              refine V1 h9 _ (fun k hk => ?_)
              rw [step1 k hk]
              refine W1 h7 _ (fun k hk => ?_)
              rw [step2 k hk, U2 h8]
              exact lv_end hmm (by omega) (by omega)
