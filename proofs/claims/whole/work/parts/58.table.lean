/-! the table of terms -/
/-- a mark that may stand in a term: at most B variables from outside, N names -/
def vV (B N : Nat) (m : Mk) : Prop := m.1 ≤ 6 ∧ (m.1 = 1 → m.2.1 < m.2.2.1 + B) ∧ (m.1 = 2 → m.2.1 < N) ∧ (m.1 = 0 → lvO m.2.2.2.1) ∧ (m.1 = 2 → lvO m.2.2.2.1 ∧ lvO m.2.2.2.2) ∧ (m.1 ≠ 0 → m.1 ≠ 2 → m.2.2.2.1 = []) ∧ (m.1 ≠ 2 → m.2.2.2.2 = []) ∧ (m.1 ≠ 1 → m.1 ≠ 2 → m.2.1 = 0)
theorem vV_mV {B N : Nat} {m : Mk} (h : vV B N m) (hB : B ≤ 1500000) (hN : N ≤ 1000) (hd : m.2.2.1 ≤ 1000) : mV m := by
  obtain ⟨h1, h2, h3, h4, h5, h6, h7, h8⟩ := h
  refine ⟨⟨h1, ?_, by omega⟩, h4, h5, h6, h7, h8⟩
  by_cases z : m.1 = 1
  · have := h2 z; omega
  · by_cases y : m.1 = 2
    · have := h3 y; omega
    · have := h8 z y; omega
def gdT (B N : Nat) (ms : List Mk) : Prop := Tm ms ∧ ms.length ≤ 200 ∧ ∀ m ∈ ms, vV B N m
theorem gdT_d {B N : Nat} {ms : List Mk} (h : gdT B N ms) : ∀ m ∈ ms, m.2.2.1 ≤ 200 := fun m hm => by
  have := run_dep (D := 0) h.1 (fun d hd => by simp at hd; omega) m hm
  have := h.2.1
  omega
theorem gdT_mV {B N : Nat} {ms : List Mk} (h : gdT B N ms) (hB : B ≤ 1500000) (hN : N ≤ 1000) : ∀ m ∈ ms, mV m := fun m hm => vV_mV (h.2.2 m hm) hB hN (by have := gdT_d h m hm; omega)
theorem gdT_mB {B N : Nat} {ms : List Mk} (h : gdT B N ms) (hB : B ≤ 1500000) (hN : N ≤ 1000) : ∀ m ∈ ms, mB m := fun m hm => (gdT_mV h hB hN m hm).1
def ixT (T : List (List Mk)) (x : List Mk) : Nat := T.idxOf x
theorem ixT_lt {T : List (List Mk)} {x : List Mk} (h : x ∈ T) : ixT T x < T.length := List.idxOf_lt_length_of_mem h
theorem ixT_get {T : List (List Mk)} {x : List Mk} (h : x ∈ T) : T[ixT T x]? = some x := by
  have h1 := ixT_lt h
  rw [List.getElem?_eq_getElem h1]
  congr 1
  exact List.getElem_idxOf h1
theorem ixT_inj {T : List (List Mk)} {x y : List Mk} (hx : x ∈ T) (hy : y ∈ T) (h : ixT T x = ixT T y) : x = y := by
  have h1 := ixT_get hx
  rw [h, ixT_get hy] at h1
  exact (Option.some.inj h1).symm
theorem ixT_app {T : List (List Mk)} {l x : List Mk} (h : x ∈ T) : ixT (T ++ [l]) x = ixT T x := by
  unfold ixT
  rw [List.idxOf_append, if_pos h]
def hl1 (ms : List Mk) : List Nat := match ms with
  | m :: _ => m.2.2.2.1
  | [] => []
def hl2 (ms : List Mk) : List Nat := match ms with
  | m :: _ => m.2.2.2.2
  | [] => []
def hid (ms : List Mk) : Nat := match ms with
  | m :: _ => m.2.1
  | [] => 0
/-- the three numbers of a term in a table -/
def a1 (L : List (List Nat)) (T : List (List Mk)) (ms : List Mk) : Int32 := if hk ms = 0 then nI (ix L (hl1 ms)) else if hk ms ≤ 2 then nI (hid ms) else nI (ixT T (p1 ms))
def a2 (L : List (List Nat)) (T : List (List Mk)) (ms : List Mk) : Int32 := if hk ms ≤ 1 then mI else if hk ms = 2 then nI (ix L (hl1 ms)) else nI (ixT T (p2 ms))
def a3 (L : List (List Nat)) (T : List (List Mk)) (ms : List Mk) : Int32 := if hk ms = 2 then nI (ix L (hl2 ms)) else if hk ms = 6 then nI (ixT T (p3 ms)) else mI
/-- how many binders a term wants -/
def opm (m : Mk) : Nat := if m.1 = 1 then m.2.1 + 1 - m.2.2.1 else 0
def opn : List Mk → Nat
  | [] => 0
  | m :: r => max (opm m) (opn r)
theorem opn_app (x y : List Mk) : opn (x ++ y) = max (opn x) (opn y) := by
  induction x with
  | nil => simp [opn]
  | cons m r ih => simp only [List.cons_append, opn, ih]; omega
theorem opn_sh1 (x : List Mk) : opn (x.map (shM 1)) = opn x - 1 := by
  induction x with
  | nil => rfl
  | cons m r ih =>
    have : opm (shM 1 m) = opm m - 1 := by unfold opm shM; dsimp only; split <;> omega
    simp only [List.map_cons, opn, ih, this]; omega
theorem opn_le {B N : Nat} {ms : List Mk} (h : ∀ m ∈ ms, vV B N m) : opn ms ≤ B := by
  induction ms with
  | nil => simp [opn]
  | cons m r ih =>
    have h1 := ih (fun x hx => h x (List.mem_cons_of_mem _ hx))
    have h2 := (h m List.mem_cons_self).2.1
    have : opm m ≤ B := by
      unfold opm
      split
      · rename_i z; have := h2 z; omega
      · omega
    simp only [opn]; omega
/-- parts and levels of a term are told already -/
def pT (L : List (List Nat)) (T : List (List Mk)) (ms : List Mk) : Prop := (hk ms = 0 → hl1 ms ∈ L) ∧ (hk ms = 2 → hl1 ms ∈ L ∧ hl2 ms ∈ L) ∧ (3 ≤ hk ms → p1 ms ∈ T ∧ p2 ms ∈ T) ∧ (hk ms = 6 → p3 ms ∈ T)
def zB (T : List (List Mk)) : Nat := 60 + 200 * T.length
theorem zB_T {T : List (List Mk)} (h : T.length ≤ 1500) : zB T ≤ 300060 := by unfold zB; omega
theorem zB_60 {T : List (List Mk)} : 60 ≤ zB T := by unfold zB; omega
theorem gdT_mo {B C N : Nat} {ms : List Mk} (h : gdT B N ms) (hc : B ≤ C) : gdT C N ms := ⟨h.1, h.2.1, fun m hm => by
  obtain ⟨a, b, c⟩ := h.2.2 m hm
  exact ⟨a, fun z => by have := b z; omega, c⟩⟩
def TOk (L : List (List Nat)) (T : List (List Mk)) (N : Nat) : Prop := T.length ≤ 1500 ∧ T.Nodup ∧ N ≤ 40 ∧ (∀ ms ∈ T, gdT (zB T) N ms) ∧ ∀ ms ∈ T, pT L T ms
theorem zB_le {L : List (List Nat)} {T : List (List Mk)} {N : Nat} (h : TOk L T N) : zB T ≤ 300060 := zB_T h.1
theorem TOk_g {L : List (List Nat)} {T : List (List Mk)} {N : Nat} {ms : List Mk} (h : TOk L T N) (hm : ms ∈ T) : gdT 1000000 N ms := gdT_mo (h.2.2.2.1 ms hm) (by have := zB_le h; omega)
def TC (S : St) (L : List (List Nat)) (T : List (List Mk)) : Prop := S.1 200 0 = nI T.length ∧ ∀ i ms, T[i]? = some ms → S.2.1 201 0 i = nI (hk ms) ∧ S.2.1 202 0 i = a1 L T ms ∧ S.2.1 203 0 i = a2 L T ms ∧ S.2.1 204 0 i = a3 L T ms ∧ S.2.1 205 0 i = nI ms.length ∧ S.2.1 206 0 i = nI (opn ms)
def TM (S : St) (L : List (List Nat)) (T : List (List Mk)) : Prop := S.1 362 0 = nI T.length ∧ ∀ i ms, T[i]? = some ms → S.2.1 356 0 i = nI (hk ms) ∧ S.2.1 357 0 i = a1 L T ms ∧ S.2.1 358 0 i = a2 L T ms ∧ S.2.1 359 0 i = a3 L T ms ∧ S.2.1 360 0 i = nI ms.length ∧ S.2.1 361 0 i = nI (opn ms)
theorem rgT {f : Nat} (h : 200 ≤ f ∧ f ≤ 206) (j : Nat) : rg f j = 200 := by
  unfold rg; rw [if_neg (by omega), if_neg (by omega), if_neg (by omega), if_pos h]
theorem rgTM {f : Nat} (h : 356 ≤ f ∧ f ≤ 362) (j : Nat) : rg f j = 356 := by
  unfold rg; rw [if_neg (by omega), if_neg (by omega), if_neg (by omega), if_neg (by omega), if_neg (by omega), if_neg (by omega), if_pos h]
theorem rgLM {f : Nat} (h : 351 ≤ f ∧ f ≤ 355) (j : Nat) : rg f j = 351 := by
  unfold rg; rw [if_neg (by omega), if_neg (by omega), if_neg (by omega), if_neg (by omega), if_neg (by omega), if_pos h]
theorem rgL {f : Nat} (h : f < 4) (j : Nat) : rg f j = 0 := by unfold rg; rw [if_pos h]
theorem TC_fr {S S' : St} {R : List Nat} {L : List (List Nat)} {T : List (List Mk)} (h : TC S L T) (g : FR R S S') (hj : 200 ∉ R) : TC S' L T := by
  have k : ∀ f, 200 ≤ f ∧ f ≤ 206 → S'.1 f 0 = S.1 f 0 ∧ S'.2.1 f 0 = S.2.1 f 0 ∧ S'.2.2 f 0 = S.2.2 f 0 := fun f hf => g f 0 (by rw [rgT hf]; exact hj)
  refine ⟨(k 200 (by omega)).1.trans h.1, fun i m hm => ?_⟩
  have c := h.2 i m hm
  rw [(k 201 (by omega)).2.1, (k 202 (by omega)).2.1, (k 203 (by omega)).2.1, (k 204 (by omega)).2.1, (k 205 (by omega)).2.1, (k 206 (by omega)).2.1]
  exact c
theorem TM_fr {S S' : St} {R : List Nat} {L : List (List Nat)} {T : List (List Mk)} (h : TM S L T) (g : FR R S S') (hj : 356 ∉ R) : TM S' L T := by
  have k : ∀ f, 356 ≤ f ∧ f ≤ 362 → S'.1 f 0 = S.1 f 0 ∧ S'.2.1 f 0 = S.2.1 f 0 ∧ S'.2.2 f 0 = S.2.2 f 0 := fun f hf => g f 0 (by rw [rgTM hf]; exact hj)
  refine ⟨(k 362 (by omega)).1.trans h.1, fun i m hm => ?_⟩
  have c := h.2 i m hm
  rw [(k 356 (by omega)).2.1, (k 357 (by omega)).2.1, (k 358 (by omega)).2.1, (k 359 (by omega)).2.1, (k 360 (by omega)).2.1, (k 361 (by omega)).2.1]
  exact c
theorem LC_fr {S S' : St} {R : List Nat} {L : List (List Nat)} (h : LC S L) (g : FR R S S') (hj : 0 ∉ R) : LC S' L := by
  have k : ∀ f, f < 4 → S'.1 f 0 = S.1 f 0 ∧ S'.2.1 f 0 = S.2.1 f 0 ∧ S'.2.2 f 0 = S.2.2 f 0 := fun f hf => g f 0 (by rw [rgL hf]; exact hj)
  refine ⟨(k 0 (by omega)).1.trans h.1, fun i hi => ?_⟩
  have c := h.2 i hi
  rw [(k 1 (by omega)).2.2, (k 2 (by omega)).2.1, (k 3 (by omega)).2.1]
  exact c
theorem LM_fr {S S' : St} {R : List Nat} {L : List (List Nat)} (h : LM S L) (g : FR R S S') (hj : 351 ∉ R) : LM S' L := by
  have k : ∀ f, 351 ≤ f ∧ f ≤ 355 → S'.1 f 0 = S.1 f 0 ∧ S'.2.1 f 0 = S.2.1 f 0 ∧ S'.2.2 f 0 = S.2.2 f 0 := fun f hf => g f 0 (by rw [rgLM hf]; exact hj)
  refine ⟨(k 355 (by omega)).1.trans h.1, fun i hi => ?_⟩
  have c := h.2 i hi
  rw [(k 351 (by omega)).2.1, (k 352 (by omega)).2.1, (k 353 (by omega)).2.1, (k 354 (by omega)).2.1]
  exact c
theorem hk_le {B N : Nat} {ms : List Mk} (h : gdT B N ms) : hk ms ≤ 6 := by
  cases ms with
  | nil => simp [hk]
  | cons m r => exact (h.2.2 m List.mem_cons_self).1
theorem ar_2 {k : Nat} (h : 3 ≤ k) (h6 : k ≤ 6) : 2 ≤ ar k ∧ (k = 6 ↔ ar k = 3) ∧ (k ≠ 6 ↔ ar k = 2) := by
  rcases (show k = 3 ∨ k = 4 ∨ k = 5 ∨ k = 6 by omega) with h | h | h | h <;> subst h <;> decide
theorem ar_0 {k : Nat} (h : k ≤ 2) : ar k = 0 := by
  rcases (show k = 0 ∨ k = 1 ∨ k = 2 by omega) with h | h | h <;> subst h <;> rfl
theorem Mk_ext {a b : Mk} (h1 : a.1 = b.1) (h2 : a.2.1 = b.2.1) (h3 : a.2.2.1 = b.2.2.1) (h4 : a.2.2.2.1 = b.2.2.2.1) (h5 : a.2.2.2.2 = b.2.2.2.2) : a = b := by
  obtain ⟨x1, x2, x3, x4, x5⟩ := a
  obtain ⟨y1, y2, y3, y4, y5⟩ := b
  simp only at h1 h2 h3 h4 h5
  rw [h1, h2, h3, h4, h5]
/-- kind and numbers tell a term -/
theorem tm_inj {L : List (List Nat)} {T : List (List Mk)} {N : Nat} (hL : L.length ≤ 300) (hT : T.length ≤ 1500) (hN : N ≤ 40) {x y : List Mk} (hx : gdT 1000000 N x) (hy : gdT 1000000 N y) (px : pT L T x) (py : pT L T y) (h0 : hk x = hk y) (h1 : a1 L T x = a1 L T y) (h2 : a2 L T x = a2 L T y) (h3 : a3 L T x = a3 L T y) : x = y := by
  have hx6 := hk_le hx
  cases x with
  | nil => exact absurd (Tm_ne hx.1) (by simp)
  | cons m r =>
    cases y with
    | nil => exact absurd (Tm_ne hy.1) (by simp)
    | cons u s =>
      have k0 : m.1 = u.1 := h0
      have hk0 : hk (m :: r) = m.1 := rfl
      have hk0' : hk (u :: s) = u.1 := rfl
      have vm := hx.2.2 m List.mem_cons_self
      have vu := hy.2.2 u List.mem_cons_self
      obtain ⟨d0, e0, e1, e2, e3⟩ := tm_parts hx.1
      obtain ⟨d0', e0', e1', e2', e3'⟩ := tm_parts hy.1
      have mV1 := (gdT_mV hx (by omega) (by omega) m List.mem_cons_self).1.2.1
      have mV2 := (gdT_mV hy (by omega) (by omega) u List.mem_cons_self).1.2.1
      obtain ⟨v1, v2, v3, v4, v5, v6, v7, v8⟩ := vm
      obtain ⟨w1, w2, w3, w4, w5, w6, w7, w8⟩ := vu
      have lx : ∀ {l}, l ∈ L → ix L l < 2 ^ 31 := fun h => by have := ix_lt h; omega
      have tx : ∀ {l}, l ∈ T → ixT T l < 2 ^ 31 := fun h => by have := ixT_lt h; omega
      unfold a1 at h1
      unfold a2 at h2
      unfold a3 at h3
      rw [hk0, hk0', ← k0] at h1 h2 h3
      have head : m.2.1 = u.2.1 → m.2.2.2.1 = u.2.2.2.1 → m.2.2.2.2 = u.2.2.2.2 → m = u := fun q1 q2 q3 => Mk_ext k0 q1 (by omega) q2 q3
      by_cases z0 : m.1 = 0
      · have r0 := e0 (by rw [z0]; rfl)
        have s0 := e0' (by rw [← k0, z0]; rfl)
        subst r0; subst s0
        rw [if_pos z0, if_pos z0] at h1
        have q := ix_inj (px.1 z0) (py.1 (by omega)) ((nI_eq (lx (px.1 z0)) (lx (py.1 (by omega)))).mp h1)
        rw [head (by rw [v8 (by omega) (by omega), w8 (by omega) (by omega)]) q (by rw [v7 (by omega), w7 (by omega)])]
      · rw [if_neg z0, if_neg z0] at h1
        by_cases z2 : m.1 ≤ 2
        · have r0 := e0 (ar_0 z2)
          have s0 := e0' (by rw [← k0]; exact ar_0 z2)
          subst r0; subst s0
          rw [if_pos z2, if_pos z2] at h1
          have q : m.2.1 = u.2.1 := (nI_eq (by show m.2.1 < _; omega) (by show u.2.1 < _; omega)).mp h1
          by_cases z1 : m.1 = 1
          · rw [head q (by rw [v6 (by omega) (by omega), w6 (by omega) (by omega)]) (by rw [v7 (by omega), w7 (by omega)])]
          · have y2 : m.1 = 2 := by omega
            rw [if_neg (show ¬ m.1 ≤ 1 by omega), if_neg (show ¬ m.1 ≤ 1 by omega), if_pos y2, if_pos y2] at h2
            rw [if_pos y2, if_pos y2] at h3
            have pa := px.2.1 y2
            have pb := py.2.1 (show u.1 = 2 by omega)
            have q2 := ix_inj pa.1 pb.1 ((nI_eq (lx pa.1) (lx pb.1)).mp h2)
            have q3 := ix_inj pa.2 pb.2 ((nI_eq (lx pa.2) (lx pb.2)).mp h3)
            rw [head q q2 q3]
        · rw [if_neg z2, if_neg z2] at h1
          rw [if_neg (show ¬ m.1 ≤ 1 by omega), if_neg (show ¬ m.1 ≤ 1 by omega), if_neg (show ¬ m.1 = 2 by omega), if_neg (show ¬ m.1 = 2 by omega)] at h2
          rw [if_neg (show ¬ m.1 = 2 by omega), if_neg (show ¬ m.1 = 2 by omega)] at h3
          have a2' := ar_2 (show 3 ≤ m.1 by omega) v1
          have pa := px.2.2.1 (show 3 ≤ m.1 by omega)
          have pb := py.2.2.1 (show 3 ≤ u.1 by omega)
          have q1 := ixT_inj pa.1 pb.1 ((nI_eq (tx pa.1) (tx pb.1)).mp h1)
          have q2 := ixT_inj pa.2 pb.2 ((nI_eq (tx pa.2) (tx pb.2)).mp h2)
          have hmu : m = u := head (by rw [v8 (by omega) (by omega), w8 (by omega) (by omega)]) (by rw [v6 (by omega) (by omega), w6 (by omega) (by omega)]) (by rw [v7 (by omega), w7 (by omega)])
          by_cases z6 : m.1 = 6
          · rw [if_pos z6, if_pos z6] at h3
            have pc := px.2.2.2 z6
            have pd := py.2.2.2 (show u.1 = 6 by omega)
            have q3 := ixT_inj pc pd ((nI_eq (tx pc) (tx pd)).mp h3)
            have er := (e3 (a2'.2.1.mp z6)).1
            have es := (e3' (by rw [← k0]; exact a2'.2.1.mp z6)).1
            rw [er, es, q1, q2, q3, hmu]
          · have er := e2 (a2'.2.2.mp z6)
            have es := e2' (by rw [← k0]; exact a2'.2.2.mp z6)
            rw [er, es, q1, q2, hmu]
