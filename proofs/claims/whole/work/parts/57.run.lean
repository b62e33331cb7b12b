/-! terms as lists of marks: the depths that are still awaited -/
def kids (k d : Nat) : List Nat := if k = 6 then [d, d, d + 1] else if k = 3 ∨ k = 4 then [d, d + 1] else if k = 5 then [d, d] else []
theorem kids_len (k d : Nat) : (kids k d).length = ar k := by
  unfold kids ar
  by_cases h6 : k = 6
  · rw [if_pos h6, if_pos h6]; rfl
  · rw [if_neg h6, if_neg h6]
    by_cases h3 : k = 3 ∨ k = 4
    · rw [if_pos h3, if_pos (by omega)]; rfl
    · rw [if_neg h3]
      by_cases h5 : k = 5
      · rw [if_pos h5, if_pos (by omega)]; rfl
      · rw [if_neg h5, if_neg (by omega)]; rfl
theorem kids_sh (k d e : Nat) : kids k (d + e) = (kids k d).map (· + e) := by
  unfold kids
  split
  · simp; omega
  · split
    · simp; omega
    · split <;> simp
theorem kids_0 {k d : Nat} (h : ar k = 0) : kids k d = [] := by have := kids_len k d; rw [h] at this; exact List.length_eq_zero_iff.mp this
def run : List Nat → List Mk → Option (List Nat)
  | st, [] => some st
  | [], _ :: _ => none
  | d :: st, m :: r => if m.2.2.1 = d then run (kids m.1 d ++ st) r else none
theorem run_nil {st : List Nat} : run st [] = some st := by cases st <;> rfl
theorem run_c {d : Nat} {st : List Nat} {m : Mk} {r : List Mk} : run (d :: st) (m :: r) = if m.2.2.1 = d then run (kids m.1 d ++ st) r else none := rfl
theorem run_cc {st b : List Nat} {m : Mk} {r : List Mk} (h : run st (m :: r) = some b) : ∃ s, st = m.2.2.1 :: s ∧ run (kids m.1 m.2.2.1 ++ s) r = some b := by
  cases st with
  | nil => cases h
  | cons d s =>
    rw [run_c] at h
    split at h
    · rename_i e; subst e; exact ⟨s, rfl, h⟩
    · cases h
theorem run_app : ∀ {x y : List Mk} {st : List Nat}, run st (x ++ y) = (run st x).bind (fun s => run s y) := by
  intro x
  induction x with
  | nil => intro y st; rw [run_nil]; rfl
  | cons m r ih =>
    intro y st
    cases st with
    | nil => rfl
    | cons d st =>
      rw [List.cons_append, run_c, run_c]
      split
      · exact ih
      · rfl
theorem run_app2 {x y : List Mk} {st s : List Nat} (h : run st x = some s) : run st (x ++ y) = run s y := by rw [run_app, h]; rfl
theorem run_fr : ∀ {x : List Mk} {a b : List Nat} (c : List Nat), run a x = some b → run (a ++ c) x = some (b ++ c) := by
  intro x
  induction x with
  | nil => intro a b c h; rw [run_nil] at h; rw [run_nil, Option.some.inj h]
  | cons m r ih =>
    intro a b c h
    obtain ⟨s, e, h2⟩ := run_cc h
    subst e
    rw [List.cons_append, run_c, if_pos rfl, ← List.append_assoc]
    exact ih c h2
theorem run_split : ∀ {ms : List Mk} {a c : List Nat}, run (a ++ c) ms = some [] → ∃ x y, ms = x ++ y ∧ run a x = some [] ∧ run c y = some [] := by
  intro ms
  induction ms with
  | nil =>
    intro a c h
    rw [run_nil] at h
    have := List.append_eq_nil_iff.mp (Option.some.inj h)
    exact ⟨[], [], rfl, by rw [this.1]; rfl, by rw [this.2]; rfl⟩
  | cons m r ih =>
    intro a c h
    cases a with
    | nil => exact ⟨[], m :: r, rfl, rfl, h⟩
    | cons d a =>
      rw [List.cons_append, run_c] at h
      split at h
      · rename_i e
        rw [← List.append_assoc] at h
        obtain ⟨x, y, h1, h2, h3⟩ := ih h
        refine ⟨m :: x, y, by rw [h1]; rfl, ?_, h3⟩
        rw [run_c, if_pos e]; exact h2
      · cases h
theorem run_len : ∀ {x y : List Mk} {a : List Nat}, run a x = some [] → fpT a.length (x ++ y) = x.length := by
  intro x
  induction x with
  | nil =>
    intro y a h
    rw [run_nil] at h
    rw [Option.some.inj h]
    cases y <;> rfl
  | cons m r ih =>
    intro y a h
    obtain ⟨s, e, h2⟩ := run_cc h
    subst e
    have := ih (y := y) h2
    rw [List.length_append, kids_len] at this
    show 1 + fpT (s.length + ar m.1) (r ++ y) = _
    rw [Nat.add_comm s.length, this, List.length_cons]; omega
theorem run_le : ∀ {x : List Mk} {a : List Nat}, run a x = some [] → a.length ≤ x.length := by
  intro x
  induction x with
  | nil => intro a h; rw [run_nil] at h; rw [Option.some.inj h]; simp
  | cons m r ih =>
    intro a h
    obtain ⟨s, e, h2⟩ := run_cc h
    subst e
    have := ih h2
    rw [List.length_append] at this
    simp only [List.length_cons]; omega
/-- marks changed one by one: kinds stay, depths grow by e -/
theorem run_map {e : Nat} {g : Mk → Mk} (h1 : ∀ m, (g m).1 = m.1) (h2 : ∀ m, (g m).2.2.1 = m.2.2.1 + e) : ∀ {x : List Mk} {a b : List Nat}, run a x = some b → run (a.map (· + e)) (x.map g) = some (b.map (· + e)) := by
  intro x
  induction x with
  | nil => intro a b h; rw [run_nil] at h; rw [List.map_nil, run_nil, Option.some.inj h]
  | cons m r ih =>
    intro a b h
    obtain ⟨s, q, h3⟩ := run_cc h
    subst q
    rw [List.map_cons, List.map_cons, run_c, if_pos (h2 m), h1 m, kids_sh, ← List.map_append]
    exact ih h3
theorem run_map0 {g : Mk → Mk} (h1 : ∀ m, (g m).1 = m.1) (h2 : ∀ m, (g m).2.2.1 = m.2.2.1) {x : List Mk} {a b : List Nat} (h : run a x = some b) : run a (x.map g) = some b := by
  have := run_map (e := 0) h1 h2 h
  simpa using this
theorem run_dn {e : Nat} : ∀ {x : List Mk} {a b : List Nat}, run (a.map (· + e)) x = some b → ∃ b', b = b'.map (· + e) ∧ run a (x.map (dnM e)) = some b' ∧ ∀ m ∈ x, e ≤ m.2.2.1 := by
  intro x
  induction x with
  | nil => intro a b h; rw [run_nil] at h; exact ⟨a, (Option.some.inj h).symm, run_nil, fun m hm => by simp at hm⟩
  | cons m r ih =>
    intro a b h
    obtain ⟨s, q, h3⟩ := run_cc h
    cases a with
    | nil => cases q
    | cons d a =>
      rw [List.map_cons] at q
      have hd : m.2.2.1 = d + e := (List.cons.inj q).1.symm
      have hs : s = a.map (· + e) := (List.cons.inj q).2.symm
      rw [hd, hs, kids_sh, ← List.map_append] at h3
      obtain ⟨b', q1, q2, q3⟩ := ih h3
      refine ⟨b', q1, ?_, ?_⟩
      · rw [List.map_cons, run_c, if_pos (by show m.2.2.1 - e = d; omega)]
        exact q2
      · intro m' hm'
        rcases List.mem_cons.mp hm' with z | z
        · rw [z]; omega
        · exact q3 m' z
theorem dn_sh (e : Nat) (m : Mk) : dnM e (shM e m) = m := by unfold dnM shM; simp
theorem sh_dn {e : Nat} {m : Mk} (h : e ≤ m.2.2.1) : shM e (dnM e m) = m := by
  unfold dnM shM
  show (m.1, m.2.1, m.2.2.1 - e + e, m.2.2.2) = m
  rw [Nat.sub_add_cancel h]
theorem map_dn_sh (e : Nat) (x : List Mk) : (x.map (shM e)).map (dnM e) = x := by
  rw [List.map_map]
  conv => rhs; rw [← List.map_id x]
  exact List.map_congr_left (fun m _ => dn_sh e m)
theorem map_sh_dn {e : Nat} {x : List Mk} (h : ∀ m ∈ x, e ≤ m.2.2.1) : (x.map (dnM e)).map (shM e) = x := by
  rw [List.map_map]
  conv => rhs; rw [← List.map_id x]
  exact List.map_congr_left (fun m hm => sh_dn (h m hm))
theorem sh_0 (x : List Mk) : x.map (shM 0) = x := by
  conv => rhs; rw [← List.map_id x]
  exact List.map_congr_left (fun m _ => rfl)
theorem sh_sh (e f : Nat) (x : List Mk) : (x.map (shM e)).map (shM f) = x.map (shM (e + f)) := by
  rw [List.map_map]
  refine List.map_congr_left (fun m _ => ?_)
  show (m.1, m.2.1, m.2.2.1 + e + f, m.2.2.2) = (m.1, m.2.1, m.2.2.1 + (e + f), m.2.2.2)
  rw [Nat.add_assoc]
/-- a whole term -/
def Tm (ms : List Mk) : Prop := run [0] ms = some []
theorem Tm_sh {ms : List Mk} (h : Tm ms) (e : Nat) : run [e] (ms.map (shM e)) = some [] := by
  have := run_map (e := e) (g := shM e) (fun _ => rfl) (fun _ => rfl) h
  simpa using this
theorem Tm_dn {e : Nat} {ms : List Mk} (h : run [e] ms = some []) : Tm (ms.map (dnM e)) ∧ (∀ m ∈ ms, e ≤ m.2.2.1) ∧ (ms.map (dnM e)).map (shM e) = ms := by
  obtain ⟨b', q1, q2, q3⟩ := run_dn (e := e) (a := [0]) (by simpa using h)
  have : b' = [] := by
    cases b' with
    | nil => rfl
    | cons x y => cases q1
  subst this
  exact ⟨q2, q3, map_sh_dn q3⟩
theorem Tm_ne {ms : List Mk} (h : Tm ms) : 1 ≤ ms.length := run_le h
theorem run_fil {val : List Mk} (hv : Tm val) : ∀ {body : List Mk} {a b : List Nat}, run a body = some b → run a (fil body val) = some b := by
  intro body
  induction body with
  | nil => intro a b h; exact h
  | cons m r ih =>
    intro a b h
    obtain ⟨s, e, h2⟩ := run_cc h
    subst e
    rw [fil_c]
    unfold fil1
    by_cases hN : isN m
    · rw [if_pos hN]
      have hN2 : m.1 = 1 ∧ m.2.1 = m.2.2.1 := by unfold isN at hN; exact of_decide_eq_true hN
      have hk : kids m.1 m.2.2.1 = [] := kids_0 (by rw [hN2.1]; rfl)
      rw [hk, List.nil_append] at h2
      have h3 : run [m.2.2.1] (val.map (upM m.2.2.1)) = some [] := by
        have := run_map (e := m.2.2.1) (g := upM m.2.2.1) (fun _ => rfl) (fun _ => rfl) hv
        simpa using this
      have h4 : run (m.2.2.1 :: s) (val.map (upM m.2.2.1)) = some s := run_fr s h3
      rw [run_app2 h4]
      exact ih h2
    · rw [if_neg hN, List.singleton_append, run_c, if_pos (show (pdM m).2.2.1 = m.2.2.1 from rfl)]
      exact ih h2
theorem run_dep : ∀ {x : List Mk} {a b : List Nat} {D : Nat}, run a x = some b → (∀ d ∈ a, d ≤ D) → ∀ m ∈ x, m.2.2.1 ≤ D + x.length := by
  intro x
  induction x with
  | nil => intro a b D _ _ m hm; simp at hm
  | cons m r ih =>
    intro a b D h ha m' hm'
    obtain ⟨s, e, h2⟩ := run_cc h
    subst e
    have hd := ha _ List.mem_cons_self
    rcases List.mem_cons.mp hm' with z | z
    · rw [z]; omega
    · have := ih (D := D + 1) h2 (fun d hd2 => by
        rcases List.mem_append.mp hd2 with q | q
        · unfold kids at q
          split at q
          · simp at q; omega
          · split at q
            · simp at q; omega
            · split at q
              · simp at q; omega
              · simp at q
        · have := ha d (List.mem_cons_of_mem _ q); omega) m' z
      rw [List.length_cons]; omega
/-- the parts of a term -/
def dl (k : Nat) : Nat := if k = 3 ∨ k = 4 then 1 else 0
def p1 (ms : List Mk) : List Mk := (ms.drop 1).take (fpT 1 (ms.drop 1))
def r1 (ms : List Mk) : List Mk := (ms.drop 1).drop (fpT 1 (ms.drop 1))
def hk (ms : List Mk) : Nat := match ms with
  | m :: _ => m.1
  | [] => 0
def p2 (ms : List Mk) : List Mk := ((r1 ms).take (fpT 1 (r1 ms))).map (dnM (dl (hk ms)))
def p3 (ms : List Mk) : List Mk := ((r1 ms).drop (fpT 1 (r1 ms))).map (dnM 1)
theorem tm_parts {m : Mk} {r : List Mk} (h : Tm (m :: r)) : m.2.2.1 = 0 ∧ (ar m.1 = 0 → r = []) ∧ (2 ≤ ar m.1 → Tm (p1 (m :: r)) ∧ Tm (p2 (m :: r))) ∧ (ar m.1 = 2 → r = p1 (m :: r) ++ (p2 (m :: r)).map (shM (dl m.1))) ∧ (ar m.1 = 3 → r = p1 (m :: r) ++ ((p2 (m :: r)) ++ (p3 (m :: r)).map (shM 1)) ∧ Tm (p3 (m :: r))) := by
  obtain ⟨s, e, h2⟩ := run_cc h
  have h0 : m.2.2.1 = 0 := (List.cons.inj e).1.symm
  have hs : s = [] := (List.cons.inj e).2.symm
  subst hs
  rw [List.append_nil, h0] at h2
  have hk1 : hk (m :: r) = m.1 := rfl
  have two : ∀ c ks, kids m.1 0 = 0 :: c :: ks → dl m.1 = c → ∃ X Y Z, r = X ++ (Y ++ Z) ∧ run [0] X = some [] ∧ run [c] Y = some [] ∧ run ks Z = some [] ∧ p1 (m :: r) = X ∧ p2 (m :: r) = Y.map (dnM c) ∧ p3 (m :: r) = Z.map (dnM 1) := by
    intro c ks hkk hc
    rw [hkk] at h2
    obtain ⟨X, W, e1, hX, hW⟩ := run_split (a := [0]) (c := c :: ks) h2
    obtain ⟨Y, Z, e2, hY, hZ⟩ := run_split (a := [c]) (c := ks) hW
    have l1 : fpT 1 (X ++ W) = X.length := run_len (a := [0]) hX
    have l2 : fpT 1 (Y ++ Z) = Y.length := run_len (a := [c]) hY
    have q1 : p1 (m :: r) = X := by unfold p1; simp only [List.drop_succ_cons, List.drop_zero]; rw [e1, l1, List.take_left]
    have q2 : r1 (m :: r) = W := by unfold r1; simp only [List.drop_succ_cons, List.drop_zero]; rw [e1, l1, List.drop_left]
    refine ⟨X, Y, Z, by rw [e1, e2], hX, hY, hZ, q1, ?_, ?_⟩
    · unfold p2; rw [q2, e2, l2, List.take_left, hk1, hc]
    · unfold p3; rw [q2, e2, l2, List.drop_left]
  refine ⟨h0, fun z => ?_, fun z => ?_, fun z => ?_, fun z => ?_⟩
  · rw [kids_0 z] at h2
    cases r with
    | nil => rfl
    | cons a b => cases h2
  · by_cases h6 : m.1 = 6
    · obtain ⟨X, Y, Z, -, hX, hY, -, g1, g2, -⟩ := two 0 [1] (by rw [h6]; rfl) (by rw [h6]; rfl)
      rw [g1, g2]
      exact ⟨hX, (Tm_dn hY).1⟩
    · by_cases h5 : m.1 = 5
      · obtain ⟨X, Y, Z, -, hX, hY, -, g1, g2, -⟩ := two 0 [] (by rw [h5]; rfl) (by rw [h5]; rfl)
        rw [g1, g2]
        exact ⟨hX, (Tm_dn hY).1⟩
      · have h34 : m.1 = 3 ∨ m.1 = 4 := by unfold ar at z; rw [if_neg h6] at z; split at z <;> omega
        obtain ⟨X, Y, Z, -, hX, hY, -, g1, g2, -⟩ := two 1 [] (by unfold kids; rw [if_neg h6, if_pos h34]) (by unfold dl; rw [if_pos h34])
        rw [g1, g2]
        exact ⟨hX, (Tm_dn hY).1⟩
  · have h6 : m.1 ≠ 6 := fun q => by rw [q] at z; cases z
    by_cases h5 : m.1 = 5
    · obtain ⟨X, Y, Z, e1, hX, hY, hZ, g1, g2, -⟩ := two 0 [] (by rw [h5]; rfl) (by rw [h5]; rfl)
      have hZ0 : Z = [] := by cases Z with
        | nil => rfl
        | cons a b => cases hZ
      rw [g1, g2, h5, show dl 5 = 0 from rfl, (Tm_dn hY).2.2, e1, hZ0, List.append_nil]
    · have h34 : m.1 = 3 ∨ m.1 = 4 := by unfold ar at z; rw [if_neg h6] at z; split at z <;> omega
      have hdl : dl m.1 = 1 := by unfold dl; rw [if_pos h34]
      obtain ⟨X, Y, Z, e1, hX, hY, hZ, g1, g2, -⟩ := two 1 [] (by unfold kids; rw [if_neg h6, if_pos h34]) hdl
      have hZ0 : Z = [] := by cases Z with
        | nil => rfl
        | cons a b => cases hZ
      rw [g1, g2, hdl, (Tm_dn hY).2.2, e1, hZ0, List.append_nil]
  · have h6 : m.1 = 6 := by unfold ar at z; split at z; assumption; split at z <;> cases z
    obtain ⟨X, Y, Z, e1, hX, hY, hZ, g1, g2, g3⟩ := two 0 [1] (by rw [h6]; rfl) (by rw [h6]; rfl)
    have := Tm_dn (e := 0) hY
    have y0 : Y.map (dnM 0) = Y := by have := this.2.2; rw [sh_0] at this; exact this
    rw [g1, g2, g3, (Tm_dn hZ).2.2, y0]
    exact ⟨e1, (Tm_dn hZ).1⟩
