/-! tokens in a row; the reference's value of a level -/
def sg (a : Nat → Int32) : Nat → List Nat → Prop
  | _, [] => True
  | o, t :: l => a o = nI t ∧ sg a (o + 1) l
theorem sg_app {a : Nat → Int32} : ∀ {l1 l2 : List Nat} {o : Nat}, sg a o (l1 ++ l2) ↔ sg a o l1 ∧ sg a (o + l1.length) l2 := by
  intro l1
  induction l1 with
  | nil => intro l2 o; simp [sg]
  | cons t l ih =>
    intro l2 o
    show a o = nI t ∧ sg a (o + 1) (l ++ l2) ↔ (a o = nI t ∧ sg a (o + 1) l) ∧ sg a (o + (l.length + 1)) l2
    rw [ih, show o + (l.length + 1) = o + 1 + l.length by omega, and_assoc]
theorem sg_at {a : Nat → Int32} : ∀ {l : List Nat} {o i : Nat} (_ : sg a o l) (hi : i < l.length), a (o + i) = nI l[i] := by
  intro l
  induction l with
  | nil => intro o i _ hi; simp at hi
  | cons t l ih =>
    intro o i h hi
    cases i with
    | zero => exact h.1
    | succ i =>
      have := ih (i := i) h.2 (by simp at hi; omega)
      rw [show o + (i + 1) = o + 1 + i by omega, this]
      simp
theorem sg_up {a : Nat → Int32} {k : Nat} {x : Int32} : ∀ {l : List Nat} {o : Nat}, sg a o l → (k < o ∨ o + l.length ≤ k) → sg (upd a k x) o l := by
  intro l
  induction l with
  | nil => intro o _ _; trivial
  | cons t l ih =>
    intro o h hk
    rw [List.length_cons] at hk
    exact ⟨by rw [pk_un (by omega)]; exact h.1, ih h.2 (by omega)⟩
theorem sg_congr {a b : Nat → Int32} : ∀ {l : List Nat} {o : Nat}, sg a o l → (∀ k, o ≤ k → k < o + l.length → b k = a k) → sg b o l := by
  intro l
  induction l with
  | nil => intro o _ _; trivial
  | cons t l ih =>
    intro o h hk
    rw [List.length_cons] at hk
    exact ⟨by rw [hk o (by omega) (by omega)]; exact h.1, ih h.2 (fun k h1 h2 => hk k (by omega) (by omega))⟩
theorem rA_ne {S : St} {f g : Nat} {a : Nat → Int32} (h : g ≠ f) (j : Nat) : (rA S f a).2.1 g j = S.2.1 g j := by simp [rA, h]
theorem s_behindLevel_l {n f : Nat} {S : St} (hf : ln f < 2 ^ 31) : ∀ (l : List Nat) (m o k : Nat), okL l → lc k l → sg (S.2.1 f 0) o l → o + l.length ≤ ln f → l.length < m → l_X8_behindLevel_4 n m S f (nI o) (nI k) = some (S, nI (o + l.length)) := by
  intro l
  induction l with
  | nil =>
    intro m o k _ hc _ _ hm
    cases k with
    | succ k => exact hc.elim
    | zero =>
      cases m with
      | zero => omega
      | succ m => unfold l_X8_behindLevel_4; rw [if_pos (show nI 0 ≤ (0 : Int32) from by decide +kernel)]; rfl
  | cons t l ih =>
    intro m o k hok hc hs ho hm
    obtain ⟨ht, hok⟩ := okL_c hok
    rw [List.length_cons] at ho hm
    cases k with
    | zero => exact hc.elim
    | succ k =>
      have hc2 : lc (k + tp t) l := hc
      have hle := lc_le hc2
      cases m with
      | zero => omega
      | succ m =>
        unfold l_X8_behindLevel_4
        rw [if_neg (show ¬ nI (k + 1) ≤ (0 : Int32) from nI_nle (by omega) (by omega)), gI_n (by omega) hf, hs.1]
        have go : ∀ k2 : Int32, k2 = nI (k + tp t) → j_X8_behindLevel_42 n (fun S a1 l2 l3 => l_X8_behindLevel_4 n m S a1 l2 l3) S f (nI o) k2 = some (S, nI (o + (t :: l).length)) := by
          intro k2 hk2
          subst hk2
          unfold j_X8_behindLevel_42
          rw [bV_e, nI_1]
          have := ih m (o + 1) (k + tp t) hok hc2 hs.2 (by omega) (by omega)
          rw [show o + (t :: l).length = o + 1 + l.length by rw [List.length_cons]; omega]
          exact this
        have hoin : o < ln f := by omega
        by_cases t1 : t = 1
        · subst t1
          rw [if_pos (show nI 1 = (1 : Int32) from rfl)]
          exact go _ rfl
        · rw [if_neg (fun z => t1 ((nq1 (by omega)).mp z)), gI_n hoin hf, hs.1]
          by_cases t2 : t = 2
          · subst t2
            rw [if_pos (show nI 2 = (2 : Int32) from rfl)]
            unfold j_X8_behindLevel_33
            exact go _ (by rw [nI_1]; rfl)
          · rw [if_neg (fun z => t2 ((nq2 (by omega)).mp z)), gI_n hoin hf, hs.1]
            by_cases t3 : t = 3
            · subst t3
              rw [if_pos (show nI 3 = (3 : Int32) from rfl)]
              unfold j_X8_behindLevel_33
              exact go _ (by rw [nI_1]; rfl)
            · rw [if_neg (fun z => t3 ((nq3 (by omega)).mp z))]
              exact go _ (by rw [nI_pred]; unfold tp; rw [if_neg t1, if_neg (by omega)]; rfl)
theorem s_behindLevel {n f o : Nat} {S : St} {l : List Nat} (hf : ln f < 2 ^ 31) (hok : okL l) (hc : lc 1 l) (hs : sg (S.2.1 f 0) o l) (ho : o + l.length ≤ ln f) (hn : l.length < n) : f_X8_behindLevel n S f (nI o) = some (S, nI (o + l.length)) := s_behindLevel_l hf l n o 1 hok hc hs ho hn
theorem nI_plt {x : Nat} (h : x < 2 ^ 31) : nI x - 1 < nI x := by
  cases x with
  | zero => decide +kernel
  | succ x => rw [nI_pred]; exact nI_lt (by omega) h
set_option maxHeartbeats 1000000 in
theorem s_valueOf_l {n f o p q r : Nat} {l : List Nat} (hp : p ≤ 1000) (hq : q ≤ 1000) (hr : r ≤ 1000) (h : okL l) (hl : l.length ≤ 16) (hc : lc 1 l) (S : St) (hf : ln f < 2 ^ 31) (hne : f ≠ 378) (hsg : sg (S.2.1 f 0) o l) (ho : o + l.length ≤ ln f) : ∀ (m i : Nat) (a : Nat → Int32), i ≤ l.length → i < m → stk a (vs p q r (l.drop i)) →
    ∃ a', l_X8_valueOf_12 n m (rA S 378 a) f (nI o) (nI p) (nI q) (nI r) (nI (vs p q r (l.drop i)).length) (nI (o + i) - 1) = some (rA S 378 a', nI ((vs p q r l).headD 0)) := by
  intro m
  induction m with
  | zero => intro i a _ h; omega
  | succ m ih =>
    intro i a hi hm hs
    unfold l_X8_valueOf_12
    cases i with
    | zero =>
      rw [if_pos (by rw [Nat.add_zero]; exact nI_plt (by omega))]
      have hlen := vs_len (p := p) (q := q) (r := r) hc
      rw [List.drop_zero] at hs
      match hv : vs p q r l, hlen, hs with
      | [v], _, hs =>
        refine ⟨a, ?_⟩
        have e : gI (rA S 378 a) 378 0 0 100 (fun v2 => some (rA S 378 a, v2)) = some (rA S 378 a, (rA S 378 a).2.1 378 0 0) := gI_n (i := 0) (by omega) (by omega)
        rw [e, rA_get]
        have h0 : a 0 = nI v := hs.1
        rw [h0]; rfl
    | succ i =>
      have e0 : nI (o + (i + 1)) - 1 = nI (o + i) := nI_pred (o + i)
      have hlt : i < l.length := by omega
      rw [e0, if_neg (nI_nlt (by omega) (by omega)), gI_n (by omega) hf, rA_ne hne, sg_at hsg hlt]
      have next : ∀ (a2 : Nat → Int32) (tp2 : Int32), tp2 = nI (vs p q r (l.drop i)).length → stk a2 (vs p q r (l.drop i)) → ∃ a', j_X8_valueOf_166 n (fun S a1 l2 l3 l4 l5 l6 l7 => l_X8_valueOf_12 n m S a1 l2 l3 l4 l5 l6 l7) (rA S 378 a2) f (nI o) (nI p) (nI q) (nI r) tp2 (nI (o + i)) = some (rA S 378 a', nI ((vs p q r l).headD 0)) := by
        intro a2 tp2 ht hs2
        subst ht
        unfold j_X8_valueOf_166
        rw [bV_e, add_m1]
        exact ih i a2 (by omega) (by omega) hs2
      have hd : l.drop i = l[i] :: l.drop (i + 1) := List.drop_eq_getElem_cons hlt
      have ht := h l[i] (List.getElem_mem hlt)
      generalize hs0 : vs p q r (l.drop (i + 1)) = s0 at hs
      generalize htt : l[i] = t at *
      have hvs : vs p q r (l.drop i) = vs p q r (t :: l.drop (i + 1)) := by rw [hd]
      obtain ⟨k, hk⟩ := lc_drop i hc (by omega)
      rw [hd] at hk
      have hk1 : ∃ k1, k = k1 + 1 ∧ lc (k1 + tp t) (l.drop (i + 1)) := by
        cases k with
        | zero => exact hk.elim
        | succ k1 => exact ⟨k1, rfl, hk⟩
      obtain ⟨k1, -, hk2⟩ := hk1
      have hlen := vs_len (p := p) (q := q) (r := r) hk2
      have hlen2 := lc_le hk2
      rw [List.length_drop] at hlen2
      rw [hs0] at hlen
      have hbd : ∀ v ∈ s0, v ≤ 1000 + 16 := by
        intro v hv
        rw [← hs0] at hv
        have := vs_le hp hq hr v hv
        rw [List.length_drop] at this
        omega
      by_cases t1 : t = 1
      · subst t1
        rw [if_pos (show nI 1 = (1 : Int32) from rfl)]
        match s0, hs0, hs, hlen, hbd with
        | [], _, _, hlen, _ => simp [tp] at hlen
        | v :: s, hs0, hs, hlen, hbd =>
          rw [List.length_cons, nI_pred]
          have hsl : s.length < 100 := by simp [tp] at hlen; omega
          rw [gI_n hsl (by omega), pI_n hsl (by omega), rA_sI, rA_get, hs.1, nI_1]
          have e2 : vs p q r (l.drop i) = (v + 1) :: s := by
            rw [hvs]; unfold vs; rw [if_pos rfl, hs0]
          refine next _ _ (by rw [e2]; rfl) ?_
          rw [e2]
          exact ⟨pk_us, stk_up hs.2 (Nat.le_refl _)⟩
      · rw [if_neg (fun z => t1 ((nq1 (by omega)).mp z))]
        by_cases t23 : t = 2 ∨ t = 3
        · have two : ∃ a', j_X8_valueOf_58 n (fun S a1 l2 l3 l4 l5 l6 l7 => l_X8_valueOf_12 n m S a1 l2 l3 l4 l5 l6 l7) (rA S 378 a) f (nI o) (nI p) (nI q) (nI r) (nI s0.length) (nI (o + i)) (nI t) = some (rA S 378 a', nI ((vs p q r l).headD 0)) := by
            have htp : tp t = 2 := by unfold tp; rw [if_neg t1, if_pos t23]
            match s0, hs0, hs, hlen, hbd with
            | [], _, _, hlen, _ => simp [htp] at hlen
            | [v], _, _, hlen, _ => simp [htp] at hlen
            | v :: w :: s, hs0, hs, hlen, hbd =>
              have hsl : s.length + 2 ≤ 16 := by simp at hlen; omega
              have bv := hbd v List.mem_cons_self
              have bw := hbd w (List.mem_cons_of_mem _ List.mem_cons_self)
              unfold j_X8_valueOf_58
              have el : (v :: w :: s).length = s.length + 1 + 1 := rfl
              rw [el, nI_pred]
              have e2' : nI (s.length + 1 + 1) - 2 = nI s.length := pk_sub (a := s.length + 2) (b := 2) (by omega)
              rw [e2', gI_n (by omega) (by omega), gI_n (by omega) (by omega), rA_get, hs.2.1, bV_e, add_m1, nI_pred, nI_pred]
              have hv1 : a (s.length + 1) = nI v := hs.1
              rw [hv1]
              have put : ∀ x : Nat, vs p q r (l.drop i) = x :: s → ∃ a', j_X8_valueOf_120 n (fun S a1 l2 l3 l4 l5 l6 l7 => l_X8_valueOf_12 n m S a1 l2 l3 l4 l5 l6 l7) (rA S 378 a) f (nI o) (nI p) (nI q) (nI r) (nI (s.length + 1)) (nI (o + i)) (nI x) (nI s.length) = some (rA S 378 a', nI ((vs p q r l).headD 0)) := by
                intro x hx
                unfold j_X8_valueOf_120
                rw [pI_n (by omega) (by omega), rA_sI]
                refine next _ _ (by rw [hx]; rfl) ?_
                rw [hx]
                exact ⟨pk_us, stk_up hs.2.2 (Nat.le_refl _)⟩
              have mx : ∀ x : Nat, x = (if v < w then w else v) → vs p q r (l.drop i) = x :: s → ∃ a', j_X8_valueOf_106 n (fun S a1 l2 l3 l4 l5 l6 l7 => l_X8_valueOf_12 n m S a1 l2 l3 l4 l5 l6 l7) (rA S 378 a) f (nI o) (nI p) (nI q) (nI r) (nI (s.length + 1)) (nI (o + i)) (nI v) (nI w) (nI s.length) = some (rA S 378 a', nI ((vs p q r l).headD 0)) := by
                intro x hx hv2
                unfold j_X8_valueOf_106
                by_cases hvw : v ≤ w
                · rw [if_pos (nI_le hvw (by omega))]
                  have : x = w := by rw [hx]; split <;> omega
                  rw [← this]
                  exact put x hv2
                · rw [if_neg (nI_ge (by omega) (by omega))]
                  have : x = v := by rw [hx]; split <;> omega
                  rw [← this]
                  exact put x hv2
              by_cases t3 : t = 3
              · rw [if_pos (by rw [t3]; rfl)]
                have e3 : vs p q r (l.drop i) = (if w = 0 then 0 else if v < w then w else v) :: s := by
                  rw [hvs]; unfold vs; rw [if_neg t1, if_neg (by omega), if_pos t3, hs0]
                by_cases w0 : w = 0
                · rw [if_pos (by rw [w0]; rfl)]
                  exact put 0 (by rw [e3, if_pos w0])
                · rw [if_neg (nI_ne0 (by omega) (by omega))]
                  exact mx _ rfl (by rw [e3, if_neg w0])
              · have t2 : t = 2 := by omega
                rw [if_neg (fun z => t3 ((nq3 (by omega)).mp z))]
                have e3 : vs p q r (l.drop i) = (if v < w then w else v) :: s := by
                  rw [hvs]; unfold vs; rw [if_neg t1, if_pos t2, hs0]
                exact mx _ rfl e3
          rcases t23 with rfl | rfl
          · rw [if_pos (show nI 2 = (2 : Int32) from rfl)]; exact two
          · rw [if_neg (by decide +kernel), if_pos (show nI 3 = (3 : Int32) from rfl)]; exact two
        · rw [if_neg (fun z => t23 (Or.inl ((nq2 (by omega)).mp z))), if_neg (fun z => t23 (Or.inr ((nq3 (by omega)).mp z)))]
          have htp : tp t = 0 := by unfold tp; rw [if_neg t1, if_neg t23]
          have hs16 : s0.length < 100 := by omega
          have e2 : vs p q r (l.drop i) = (if t = 0 then 0 else if t = 4 then p else if t = 5 then q else r) :: s0 := by
            rw [hvs]; unfold vs; rw [if_neg t1, if_neg (by omega), if_neg (by omega), hs0]
          have put : ∀ x : Nat, x = (if t = 0 then 0 else if t = 4 then p else if t = 5 then q else r) → ∃ a', j_X8_valueOf_162 n (fun S a1 l2 l3 l4 l5 l6 l7 => l_X8_valueOf_12 n m S a1 l2 l3 l4 l5 l6 l7) (rA S 378 a) f (nI o) (nI p) (nI q) (nI r) (nI s0.length) (nI (o + i)) (nI x) (nI s0.length) = some (rA S 378 a', nI ((vs p q r l).headD 0)) := by
            intro x hx
            unfold j_X8_valueOf_162
            rw [pI_n hs16 (by omega), rA_sI, bV_e, nI_1]
            refine next _ _ (by rw [e2]; rfl) ?_
            rw [e2, ← hx]
            exact ⟨pk_us, stk_up hs (Nat.le_refl _)⟩
          by_cases t0 : t = 0
          · rw [if_pos (by rw [t0]; rfl)]
            exact put 0 (by rw [if_pos t0])
          · rw [if_neg (nI_ne0 (by omega) (by omega))]
            have ht6 : t = 4 ∨ t = 5 ∨ t = 6 := by omega
            rcases ht6 with rfl | rfl | rfl
            · rw [if_pos (by decide +kernel)]; exact put p (by simp)
            · rw [if_neg (by decide +kernel), if_pos (by decide +kernel)]; exact put q (by simp)
            · rw [if_neg (by decide +kernel), if_neg (by decide +kernel)]; exact put r (by simp)
theorem s_valueOf {n f o p q r : Nat} {l : List Nat} (hp : p ≤ 1000) (hq : q ≤ 1000) (hr : r ≤ 1000) (h : okL l) (hl : l.length ≤ 16) (hc : lc 1 l) (S : St) (hf : ln f < 2 ^ 31) (hne : f ≠ 378) (hsg : sg (S.2.1 f 0) o l) (ho : o + l.length ≤ ln f) (hn : 17 ≤ n) : ∃ a, f_X8_valueOf n S f (nI o) (nI p) (nI q) (nI r) = some (rA S 378 a, nI ((vs p q r l).headD 0)) := by
  unfold f_X8_valueOf
  rw [s_behindLevel hf h hc hsg ho (by omega), bI_s, bV_e]
  have hd : l.drop l.length = [] := List.drop_eq_nil_iff.mpr (Nat.le_refl _)
  have := s_valueOf_l (n := n) hp hq hr h hl hc S hf hne hsg ho n l.length (S.2.1 378 0) (Nat.le_refl _) (by omega) (by rw [hd]; trivial)
  rw [hd, rA_self] at this
  exact this
