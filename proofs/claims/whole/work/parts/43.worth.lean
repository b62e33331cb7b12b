/-! what levels are worth -/
theorem nq0 {t : Nat} (h : t < 2 ^ 31) : nI t = (0 : Int32) ↔ t = 0 := nI_eq (b := 0) h (by omega)
theorem nq1 {t : Nat} (h : t < 2 ^ 31) : nI t = (1 : Int32) ↔ t = 1 := nI_eq (b := 1) h (by omega)
theorem nq2 {t : Nat} (h : t < 2 ^ 31) : nI t = (2 : Int32) ↔ t = 2 := nI_eq (b := 2) h (by omega)
theorem nq3 {t : Nat} (h : t < 2 ^ 31) : nI t = (3 : Int32) ↔ t = 3 := nI_eq (b := 3) h (by omega)
theorem nq4 {t : Nat} (h : t < 2 ^ 31) : nI t = (4 : Int32) ↔ t = 4 := nI_eq (b := 4) h (by omega)
theorem nq5 {t : Nat} (h : t < 2 ^ 31) : nI t = (5 : Int32) ↔ t = 5 := nI_eq (b := 5) h (by omega)
theorem nq6 {t : Nat} (h : t < 2 ^ 31) : nI t = (6 : Int32) ↔ t = 6 := nI_eq (b := 6) h (by omega)
theorem nq7 {t : Nat} (h : t < 2 ^ 31) : nI t = (7 : Int32) ↔ t = 7 := nI_eq (b := 7) h (by omega)
theorem add_m1 (x : Int32) : x + (-1) = x - 1 := by rw [Int32.sub_eq_add_neg]
/-- need of so many levels -/
def lc : Nat → List Nat → Prop
  | 0, [] => True
  | 0, _ :: _ => False
  | _ + 1, [] => False
  | k + 1, t :: r => lc (k + tp t) r
theorem lc_app : ∀ {l1 l2 : List Nat} {a b : Nat}, lc a l1 → lc b l2 → lc (a + b) (l1 ++ l2) := by
  intro l1
  induction l1 with
  | nil =>
    intro l2 a b h1 h2
    cases a with
    | zero => simpa using h2
    | succ a => exact h1.elim
  | cons t r ih =>
    intro l2 a b h1 h2
    cases a with
    | zero => exact h1.elim
    | succ a =>
      have h3 : lc (a + tp t) r := h1
      have h4 := ih h3 h2
      show lc (a + 1 + b) (t :: (r ++ l2))
      rw [show a + 1 + b = (a + b) + 1 by omega]
      show lc (a + b + tp t) (r ++ l2)
      rw [show a + b + tp t = a + tp t + b by omega]
      exact h4
theorem lc_split : ∀ {l : List Nat} {a b : Nat}, lc (a + b) l → ∃ l1 l2, l = l1 ++ l2 ∧ lc a l1 ∧ lc b l2 := by
  intro l
  induction l with
  | nil =>
    intro a b h
    cases a with
    | zero => exact ⟨[], [], rfl, trivial, by simpa using h⟩
    | succ a => rw [show a + 1 + b = (a + b) + 1 by omega] at h; exact h.elim
  | cons t r ih =>
    intro a b h
    cases a with
    | zero => exact ⟨[], t :: r, rfl, trivial, by simpa using h⟩
    | succ a =>
      rw [show a + 1 + b = (a + b) + 1 by omega] at h
      have h2 : lc (a + b + tp t) r := h
      rw [show a + b + tp t = (a + tp t) + b by omega] at h2
      obtain ⟨l1, l2, e, h3, h4⟩ := ih h2
      exact ⟨t :: l1, l2, by rw [e]; rfl, h3, h4⟩
theorem lc_drop : ∀ {l : List Nat} {k : Nat} (i : Nat), lc k l → i ≤ l.length → ∃ j, lc j (l.drop i) := by
  intro l
  induction l with
  | nil => intro k i h hi; exact ⟨k, by simpa using h⟩
  | cons t r ih =>
    intro k i h hi
    cases i with
    | zero => exact ⟨k, h⟩
    | succ i =>
      cases k with
      | zero => exact h.elim
      | succ k => exact ih i (show lc (k + tp t) r from h) (by simp at hi; omega)
/-- the values of the levels that stand in a list, the first one's first -/
def vs (p q r : Nat) : List Nat → List Nat
  | [] => []
  | t :: l => if t = 1 then (match vs p q r l with
      | a :: s => (a + 1) :: s
      | [] => [])
    else if t = 2 then (match vs p q r l with
      | a :: b :: s => (if a < b then b else a) :: s
      | s => s)
    else if t = 3 then (match vs p q r l with
      | a :: b :: s => (if b = 0 then 0 else if a < b then b else a) :: s
      | s => s)
    else (if t = 0 then 0 else if t = 4 then p else if t = 5 then q else r) :: vs p q r l
theorem vs_len {p q r : Nat} : ∀ {l : List Nat} {k : Nat}, lc k l → (vs p q r l).length = k := by
  intro l
  induction l with
  | nil => intro k h; cases k with
    | zero => rfl
    | succ k => exact h.elim
  | cons t l ih =>
    intro k h
    cases k with
    | zero => exact h.elim
    | succ k =>
      have h1 : lc (k + tp t) l := h
      have h2 := ih h1
      unfold vs
      by_cases t1 : t = 1
      · subst t1
        rw [if_pos rfl]
        cases hv : vs p q r l with
        | nil => rw [hv] at h2; simp [tp] at h2
        | cons a s => rw [hv] at h2; simp [tp] at h2 ⊢; omega
      · rw [if_neg t1]
        by_cases t2 : t = 2
        · subst t2
          rw [if_pos rfl]
          match hv : vs p q r l, h2 with
          | [], h2 => simp [tp] at h2
          | [a], h2 => simp [tp] at h2
          | a :: b :: s, h2 => simp [tp] at h2 ⊢; omega
        · rw [if_neg t2]
          by_cases t3 : t = 3
          · subst t3
            rw [if_pos rfl]
            match hv : vs p q r l, h2 with
            | [], h2 => simp [tp] at h2
            | [a], h2 => simp [tp] at h2
            | a :: b :: s, h2 => simp [tp] at h2 ⊢; omega
          · rw [if_neg t3, List.length_cons, h2]
            unfold tp
            rw [if_neg t1, if_neg (by omega)]
theorem vs_le {p q r M : Nat} (hp : p ≤ M) (hq : q ≤ M) (hr : r ≤ M) : ∀ {l : List Nat}, ∀ v ∈ vs p q r l, v ≤ M + l.length := by
  intro l
  induction l with
  | nil => intro v hv; cases hv
  | cons t l ih =>
    intro v hv
    unfold vs at hv
    rw [List.length_cons]
    by_cases t1 : t = 1
    · rw [if_pos t1] at hv
      match hs : vs p q r l, ih, hv with
      | [], _, hv => cases hv
      | a :: s, ih, hv =>
        dsimp only at hv
        rcases List.mem_cons.mp hv with rfl | h
        · have := ih a List.mem_cons_self; omega
        · have := ih v (List.mem_cons_of_mem _ h); omega
    · rw [if_neg t1] at hv
      by_cases t2 : t = 2
      · rw [if_pos t2] at hv
        match hs : vs p q r l, ih, hv with
        | [], _, hv => cases hv
        | [a], ih, hv => have := ih v hv; omega
        | a :: b :: s, ih, hv =>
          dsimp only at hv
          have h1 := ih a List.mem_cons_self
          have h2 := ih b (List.mem_cons_of_mem _ List.mem_cons_self)
          rcases List.mem_cons.mp hv with rfl | h
          · split <;> omega
          · have := ih v (List.mem_cons_of_mem _ (List.mem_cons_of_mem _ h)); omega
      · rw [if_neg t2] at hv
        by_cases t3 : t = 3
        · rw [if_pos t3] at hv
          match hs : vs p q r l, ih, hv with
          | [], _, hv => cases hv
          | [a], ih, hv => have := ih v hv; omega
          | a :: b :: s, ih, hv =>
            dsimp only at hv
            have h1 := ih a List.mem_cons_self
            have h2 := ih b (List.mem_cons_of_mem _ List.mem_cons_self)
            rcases List.mem_cons.mp hv with rfl | h
            · split
              · omega
              · split <;> omega
            · have := ih v (List.mem_cons_of_mem _ (List.mem_cons_of_mem _ h)); omega
        · rw [if_neg t3] at hv
          rcases List.mem_cons.mp hv with rfl | h
          · split
            · omega
            · split
              · omega
              · split <;> omega
          · have := ih v h; omega
/-- a stack in a row: its top last -/
def stk (a : Nat → Int32) : List Nat → Prop
  | [] => True
  | v :: s => a s.length = nI v ∧ stk a s
theorem stk_up {a : Nat → Int32} {s : List Nat} {k : Nat} {x : Int32} (h : stk a s) (hk : s.length ≤ k) : stk (upd a k x) s := by
  induction s with
  | nil => trivial
  | cons v s ih =>
    rw [List.length_cons] at hk
    exact ⟨by rw [pk_un (by omega)]; exact h.1, ih h.2 (by omega)⟩
/-- the state with another row in an array of owner 0 -/
def rA (S : St) (f : Nat) (a : Nat → Int32) : St := (S.1, fun g j => if g = f ∧ j = 0 then a else S.2.1 g j, S.2.2)
theorem rA_get (S : St) (f : Nat) (a : Nat → Int32) : (rA S f a).2.1 f 0 = a := by simp [rA]
theorem rA_self (S : St) (f : Nat) : rA S f (S.2.1 f 0) = S := by
  unfold rA
  have : (fun g j => if g = f ∧ j = 0 then S.2.1 f 0 else S.2.1 g j) = S.2.1 := by
    funext g j
    by_cases h : g = f ∧ j = 0
    · rw [if_pos h, h.1, h.2]
    · rw [if_neg h]
  rw [this]
theorem rA_sI (S : St) (f : Nat) (a : Nat → Int32) (i : Nat) (v : Int32) : sI (rA S f a) f 0 i v = rA S f (upd a i v) := by
  unfold sI
  rw [rA_get]
  unfold rA
  have : (fun g j => if g = f ∧ j = 0 then upd a i v else (fun g j => if g = f ∧ j = 0 then a else S.2.1 g j) g j) = (fun g j => if g = f ∧ j = 0 then upd a i v else S.2.1 g j) := by
    funext g j
    by_cases h : g = f ∧ j = 0 <;> simp [h]
  dsimp only
  rw [this]
theorem rA_rA (S : St) (f : Nat) (a b : Nat → Int32) : rA (rA S f a) f b = rA S f b := by
  unfold rA
  have : (fun g j => if g = f ∧ j = 0 then b else (fun g j => if g = f ∧ j = 0 then a else S.2.1 g j) g j) = (fun g j => if g = f ∧ j = 0 then b else S.2.1 g j) := by
    funext g j
    by_cases h : g = f ∧ j = 0 <;> simp [h]
  dsimp only
  rw [this]
theorem lc_le : ∀ {l : List Nat} {k : Nat}, lc k l → k ≤ l.length := by
  intro l
  induction l with
  | nil => intro k h; cases k with
    | zero => simp
    | succ k => exact h.elim
  | cons t l ih =>
    intro k h
    cases k with
    | zero => simp
    | succ k =>
      have := ih (show lc (k + tp t) l from h)
      rw [List.length_cons]; omega
set_option maxHeartbeats 1000000 in
theorem s_worth_l {n p q r : Nat} {l : List Nat} (hp : p ≤ 1000) (hq : q ≤ 1000) (hr : r ≤ 1000) (h : okL l) (hl : l.length ≤ 16) (hc : lc 1 l) (S : St) : ∀ (m i : Nat) (a : Nat → Int32), i ≤ 16 → i < m → stk a (vs p q r (l.drop i)) →
    ∃ a', l_X1_worth_14 n m (rA S 4 a) (en l) (nI p) (nI q) (nI r) (nI (vs p q r (l.drop i)).length) (nI i - 1) = some (rA S 4 a', nI ((vs p q r l).headD 0)) := by
  intro m
  induction m with
  | zero => intro i a _ h; omega
  | succ m ih =>
    intro i a hi hm hs
    unfold l_X1_worth_14
    cases i with
    | zero =>
      rw [if_pos (by decide +kernel)]
      have hlen := vs_len (p := p) (q := q) (r := r) hc
      rw [List.drop_zero] at hs
      match hv : vs p q r l, hlen, hs with
      | [v], _, hs =>
        refine ⟨a, ?_⟩
        have e : gI (rA S 4 a) 4 0 0 16 (fun v2 => some (rA S 4 a, v2)) = some (rA S 4 a, (rA S 4 a).2.1 4 0 0) := gI_n (i := 0) (by omega) (by omega)
        rw [e, rA_get]
        have h0 : a 0 = nI v := hs.1
        rw [h0]; rfl
    | succ i =>
      have e0 : nI (i + 1) - 1 = nI i := nI_pred i
      rw [e0, if_neg (nI_pos (by omega)), i3_mul, ush_en h (by omega) (by omega), en_and7 (okL_drop h i) (by rw [List.length_drop]; omega), mk_drop, lN_i, bV_e]
      -- what follows an instruction: the next round
      have next : ∀ (a2 : Nat → Int32) (tp2 : Int32), tp2 = nI (vs p q r (l.drop i)).length → stk a2 (vs p q r (l.drop i)) → ∃ a', j_X1_worth_206 n (fun S l1 l3 l4 l5 l6 l7 => l_X1_worth_14 n m S l1 l3 l4 l5 l6 l7) (rA S 4 a2) (en l) (nI p) (nI q) (nI r) tp2 (nI i) = some (rA S 4 a', nI ((vs p q r l).headD 0)) := by
        intro a2 tp2 ht hs2
        subst ht
        unfold j_X1_worth_206
        rw [bV_e, add_m1]
        exact ih i a2 (by omega) (by omega) hs2
      rcases Nat.lt_or_ge i l.length with hlt | hge
      · have hd : l.drop i = l[i] :: l.drop (i + 1) := List.drop_eq_getElem_cons hlt
        have hm1 : mk_ l i = l[i] + 1 := by unfold mk_; rw [List.getElem?_eq_getElem hlt]
        have ht := h l[i] (List.getElem_mem hlt)
        rw [hm1, nI_pred]
        generalize hs0 : vs p q r (l.drop (i + 1)) = s0 at hs
        generalize htt : l[i] = t at *
        have hvs : vs p q r (l.drop i) = vs p q r (t :: l.drop (i + 1)) := by rw [hd]
        obtain ⟨k, hk⟩ := lc_drop i hc (by omega)
        rw [hd] at hk
        have hk1 : ∃ k1, k = k1 + 1 ∧ lc (k1 + tp t) (l.drop (i + 1)) := by
          cases k with
          | zero => exact hk.elim
          | succ k1 => exact ⟨k1, rfl, hk⟩
        obtain ⟨k1, -, hk2⟩ := hk1
        have hlen := vs_len (p := p) (q := q) (r := r) hk2
        have hlen2 := lc_le hk2
        rw [List.length_drop] at hlen2
        rw [hs0] at hlen
        have hbd : ∀ v ∈ s0, v ≤ 1000 + 16 := by
          intro v hv
          rw [← hs0] at hv
          have := vs_le hp hq hr v hv
          rw [List.length_drop] at this
          omega
        by_cases t1 : t = 1
        · -- UP
          subst t1
          rw [if_pos (show nI 1 = (1 : Int32) from rfl)]
          match s0, hs0, hs, hlen, hbd with
          | [], _, _, hlen, _ => simp [tp] at hlen
          | v :: s, hs0, hs, hlen, hbd =>
            rw [List.length_cons, if_neg (nI_nle (by omega) (by simp at hlen; omega)), nI_pred]
            have hsl : s.length < 16 := by simp [tp] at hlen; omega
            rw [gI_n hsl (by omega), pI_n hsl (by omega), rA_sI, rA_get, hs.1, nI_1]
            have e2 : vs p q r (l.drop i) = (v + 1) :: s := by
              rw [hvs]; unfold vs; rw [if_pos rfl, hs0]
            refine next _ _ (by rw [e2]; rfl) ?_
            rw [e2]
            exact ⟨pk_us, stk_up hs.2 (Nat.le_refl _)⟩
        · rw [if_neg (fun z => t1 ((nq1 (by omega)).mp z))]
          unfold j_X1_worth_61
          -- the branch of the leaves
          have leaf : (t = 0 ∨ 4 ≤ t) → ∃ a', j_X1_worth_138 n (fun S l1 l3 l4 l5 l6 l7 => l_X1_worth_14 n m S l1 l3 l4 l5 l6 l7) (rA S 4 a) (en l) (nI p) (nI q) (nI r) (nI s0.length) (nI i) (nI t) = some (rA S 4 a', nI ((vs p q r l).headD 0)) := by
            intro hleaf
            have htp : tp t = 0 := by unfold tp; rw [if_neg t1, if_neg (by omega)]
            have hs16 : s0.length < 16 := by omega
            have e2 : vs p q r (l.drop i) = (if t = 0 then 0 else if t = 4 then p else if t = 5 then q else r) :: s0 := by
              rw [hvs]; unfold vs; rw [if_neg t1, if_neg (by omega), if_neg (by omega), hs0]
            have put : ∀ x : Nat, x = (if t = 0 then 0 else if t = 4 then p else if t = 5 then q else r) → ∃ a', j_X1_worth_202 n (fun S l1 l3 l4 l5 l6 l7 => l_X1_worth_14 n m S l1 l3 l4 l5 l6 l7) (rA S 4 a) (en l) (nI p) (nI q) (nI r) (nI s0.length) (nI i) (nI x) (nI s0.length) = some (rA S 4 a', nI ((vs p q r l).headD 0)) := by
              intro x hx
              unfold j_X1_worth_202
              rw [pI_n hs16 (by omega), rA_sI, bV_e, nI_1]
              refine next _ _ (by rw [e2]; rfl) ?_
              rw [e2, ← hx]
              exact ⟨pk_us, stk_up hs (Nat.le_refl _)⟩
            have go : ∃ a', j_X1_worth_149 n (fun S l1 l3 l4 l5 l6 l7 => l_X1_worth_14 n m S l1 l3 l4 l5 l6 l7) (rA S 4 a) (en l) (nI p) (nI q) (nI r) (nI s0.length) (nI i) (nI t) = some (rA S 4 a', nI ((vs p q r l).headD 0)) := by
              unfold j_X1_worth_149
              rw [if_neg (show ¬ (16 : Int32) ≤ nI s0.length from nI_ge (b := 16) hs16 (by omega)), bV_e]
              by_cases t0 : t = 0
              · rw [if_pos (by rw [t0]; rfl)]
                exact put 0 (by rw [if_pos t0])
              · have ht6 : t = 4 ∨ t = 5 ∨ t = 6 := by omega
                rw [if_neg (nI_ne0 (by omega) (by omega))]
                rcases ht6 with rfl | rfl | rfl
                · rw [if_pos (by decide +kernel)]; exact put p (by simp)
                · rw [if_neg (by decide +kernel), if_pos (by decide +kernel)]; exact put q (by simp)
                · rw [if_neg (by decide +kernel), if_neg (by decide +kernel)]; exact put r (by simp)
            unfold j_X1_worth_138
            by_cases t0 : t = 0
            · rw [if_pos (by rw [t0]; rfl)]; exact go
            · rw [if_neg (nI_ne0 (by omega) (by omega)), if_neg (show ¬ nI t < (4 : Int32) from nI_nlt (b := 4) (by omega) (by omega))]; exact go
          by_cases t23 : t = 2 ∨ t = 3
          · have two : ∃ a', j_X1_worth_73 n (fun S l1 l3 l4 l5 l6 l7 => l_X1_worth_14 n m S l1 l3 l4 l5 l6 l7) (rA S 4 a) (en l) (nI p) (nI q) (nI r) (nI s0.length) (nI i) (nI t) = some (rA S 4 a', nI ((vs p q r l).headD 0)) := by
              have htp : tp t = 2 := by unfold tp; rw [if_neg t1, if_pos t23]
              match s0, hs0, hs, hlen, hbd with
              | [], _, _, hlen, _ => simp [htp] at hlen
              | [v], _, _, hlen, _ => simp [htp] at hlen
              | v :: w :: s, hs0, hs, hlen, hbd =>
                have hsl : s.length + 2 ≤ 16 := by simp at hlen; omega
                have bv := hbd v List.mem_cons_self
                have bw := hbd w (List.mem_cons_of_mem _ List.mem_cons_self)
                unfold j_X1_worth_73
                have el : (v :: w :: s).length = s.length + 1 + 1 := rfl
                rw [el, if_neg (show ¬ nI (s.length + 1 + 1) ≤ (1 : Int32) from nI_ge (a := 1) (by omega) (by omega)), nI_pred]
                have e2' : nI (s.length + 1 + 1) - 2 = nI s.length := pk_sub (a := s.length + 2) (b := 2) (by omega)
                rw [e2', gI_n (by omega) (by omega), gI_n (by omega) (by omega), rA_get, hs.2.1]
                have hv1 : a (s.length + 1) = nI v := hs.1
                rw [hv1]
                have put : ∀ x : Nat, vs p q r (l.drop i) = x :: s → ∃ a', j_X1_worth_131 n (fun S l1 l3 l4 l5 l6 l7 => l_X1_worth_14 n m S l1 l3 l4 l5 l6 l7) (rA S 4 a) (en l) (nI p) (nI q) (nI r) (nI (s.length + 1 + 1)) (nI i) (nI x) (nI s.length) = some (rA S 4 a', nI ((vs p q r l).headD 0)) := by
                  intro x hx
                  unfold j_X1_worth_131
                  rw [pI_n (by omega) (by omega), rA_sI, bV_e, add_m1, nI_pred]
                  refine next _ _ (by rw [hx]; rfl) ?_
                  rw [hx]
                  exact ⟨pk_us, stk_up hs.2.2 (Nat.le_refl _)⟩
                have mx : ∀ x : Nat, x = (if v < w then w else v) → vs p q r (l.drop i) = x :: s → ∃ a', j_X1_worth_124 n (fun S l1 l3 l4 l5 l6 l7 => l_X1_worth_14 n m S l1 l3 l4 l5 l6 l7) (rA S 4 a) (en l) (nI p) (nI q) (nI r) (nI (s.length + 1 + 1)) (nI i) (nI v) (nI w) (nI s.length) = some (rA S 4 a', nI ((vs p q r l).headD 0)) := by
                  intro x hx hv2
                  unfold j_X1_worth_124
                  rw [bV_e]
                  have : (if nI v < nI w then nI w else nI v) = nI x := by
                    rw [hx]
                    by_cases hvw : v < w
                    · rw [if_pos (nI_lt hvw (by omega)), if_pos hvw]
                    · rw [if_neg (nI_nlt (by omega) (by omega)), if_neg hvw]
                  rw [this]
                  exact put x hv2
                by_cases t3 : t = 3
                · rw [if_pos (by rw [t3]; rfl)]
                  have e3 : vs p q r (l.drop i) = (if w = 0 then 0 else if v < w then w else v) :: s := by
                    rw [hvs]; unfold vs; rw [if_neg t1, if_neg (by omega), if_pos t3, hs0]
                  by_cases w0 : w = 0
                  · rw [if_pos (by rw [w0]; rfl)]
                    exact put 0 (by rw [e3, if_pos w0])
                  · rw [if_neg (nI_ne0 (by omega) (by omega))]
                    exact mx _ rfl (by rw [e3, if_neg w0])
                · have t2 : t = 2 := by omega
                  rw [if_neg (fun z => t3 ((nq3 (by omega)).mp z))]
                  have e3 : vs p q r (l.drop i) = (if v < w then w else v) :: s := by
                    rw [hvs]; unfold vs; rw [if_neg t1, if_pos t2, hs0]
                  exact mx _ rfl e3
            rcases t23 with rfl | rfl
            · rw [if_pos (show nI 2 = (2 : Int32) from rfl)]; exact two
            · rw [if_neg (by decide +kernel), if_pos (show nI 3 = (3 : Int32) from rfl)]; exact two
          · rw [if_neg (fun z => t23 (Or.inl ((nq2 (by omega)).mp z))), if_neg (fun z => t23 (Or.inr ((nq3 (by omega)).mp z)))]
            exact leaf (by omega)
      · have hd : l.drop i = [] := List.drop_eq_nil_iff.mpr hge
        have hd1 : l.drop (i + 1) = [] := List.drop_eq_nil_iff.mpr (by omega)
        have hm0 : mk_ l i = 0 := mk_pos.mpr hge
        rw [hm0, hd1]
        rw [if_neg (by decide +kernel)]
        unfold j_X1_worth_61
        rw [if_neg (by decide +kernel), if_neg (by decide +kernel)]
        unfold j_X1_worth_138
        rw [if_neg (by decide +kernel), if_pos (by decide +kernel)]
        exact next a _ (by rw [hd]) (by rw [hd]; trivial)
theorem s_worth {n p q r : Nat} {l : List Nat} (hp : p ≤ 1000) (hq : q ≤ 1000) (hr : r ≤ 1000) (h : okL l) (hl : l.length ≤ 16) (hc : lc 1 l) (hn : 17 ≤ n) (S : St) : ∃ a, f_X1_worth n S (en l) (nI p) (nI q) (nI r) = some (rA S 4 a, nI ((vs p q r l).headD 0)) := by
  unfold f_X1_worth
  have e : pI S 4 0 0 16 0 (fun S1 => l_X1_worth_14 n n S1 (en l) (nI p) (nI q) (nI r) 0 15) = l_X1_worth_14 n n (sI S 4 0 0 0) (en l) (nI p) (nI q) (nI r) 0 15 := pI_n (i := 0) (by omega) (by omega)
  rw [e]
  have e2 : sI S 4 0 0 0 = rA S 4 (upd (S.2.1 4 0) 0 0) := by rw [← rA_sI, rA_self]
  rw [e2]
  have hd : l.drop 16 = [] := List.drop_eq_nil_iff.mpr hl
  have := s_worth_l (n := n) hp hq hr h hl hc S n 16 (upd (S.2.1 4 0) 0 0) (by omega) (by omega) (by rw [hd]; trivial)
  rw [hd] at this
  exact this
