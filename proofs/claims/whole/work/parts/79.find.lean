/-! the class: typing -/
def CS (S : St) (L : List (List Nat)) (T : List (List Mk)) (Ns : List Nme) : Prop := TC S L T ∧ LC S L ∧ NC S T Ns
theorem CS_fr {S S' : St} {R : List Nat} {L : List (List Nat)} {T : List (List Mk)} {Ns : List Nme} (h : CS S L T Ns) (g : FR R S S') (h0 : 0 ∉ R) (h5 : 50 ∉ R) (h2 : 200 ∉ R) : CS S' L T Ns := ⟨TC_fr h.1 g h2, LC_fr h.2.1 g h0, NC_fr h.2.2 g h5⟩
def FD (a : Nat) : List Nat := [4, 208, 256, 1002, 1003, 1004, 1005] ++ (List.range (101 - a)).map (fun i => 1006 + a + i)
theorem mem_FD {x a : Nat} : x ∈ FD a ↔ (x = 4 ∨ x = 208 ∨ x = 256 ∨ (1002 ≤ x ∧ x ≤ 1005)) ∨ (1006 + a ≤ x ∧ x < 1107) := by
  unfold FD
  rw [List.mem_append, List.mem_map]
  constructor
  · rintro (h | ⟨i, hi, rfl⟩)
    · left; simp at h; omega
    · right; rw [List.mem_range] at hi; omega
  · rintro (h | h)
    · left; simp; omega
    · right; exact ⟨x - 1006 - a, by rw [List.mem_range]; omega, by omega⟩
theorem FD_le {a b : Nat} {S S' : St} (h : FR (FD b) S S') (hab : a ≤ b) : FR (FD a) S S' := FR_mo h (fun x hx => by rw [mem_FD] at hx ⊢; omega)
theorem FD_in {a : Nat} {R : List Nat} {S S' : St} (h : FR R S S') (hr : ∀ x ∈ R, (x = 4 ∨ x = 208 ∨ x = 256 ∨ (1002 ≤ x ∧ x ≤ 1005)) ∨ (1006 + a ≤ x ∧ x < 1107)) : FR (FD a) S S' := FR_mo h (fun x hx => mem_FD.mpr (hr x hx))
theorem CS_FD {S S' : St} {a : Nat} {L : List (List Nat)} {T : List (List Mk)} {Ns : List Nme} (h : CS S L T Ns) (g : FR (FD a) S S') : CS S' L T Ns := CS_fr h g (by rw [mem_FD]; omega) (by rw [mem_FD]; omega) (by rw [mem_FD]; omega)
def CXT (S : St) (T : List (List Mk)) (ctx : List (List Mk)) : Prop := ∀ i t, ctx[i]? = some t → S.2.1 256 0 (ctx.length - 1 - i) = nI (ixT T t) ∧ t ∈ T
theorem CXT_k {S S' : St} {T ctx : List (List Mk)} (h : CXT S T ctx) (g : KP 256 ctx.length S S') : CXT S' T ctx := fun i t hi => by
  have := gt_lt hi
  obtain ⟨a, b⟩ := h i t hi
  exact ⟨(g _ (by omega)).trans a, b⟩
theorem CXT_c {S : St} {T ctx : List (List Mk)} {t : List Mk} (h : CXT S T ctx) (ht : t ∈ T) : CXT (sI S 256 0 ctx.length (nI (ixT T t))) T (t :: ctx) := fun i u hi => by
  cases i with
  | zero =>
    cases hi
    refine ⟨?_, ht⟩
    rw [List.length_cons, show ctx.length + 1 - 1 - 0 = ctx.length by omega, sI_eq]
  | succ i =>
    have hi' : ctx[i]? = some u := hi
    have hlt := gt_lt hi'
    obtain ⟨a, b⟩ := h i u hi'
    rw [List.length_cons, show ctx.length + 1 - 1 - (i + 1) = ctx.length - 1 - i by omega, sI_at (by omega)]
    exact ⟨a, b⟩
theorem rg256 : rg 256 0 = 256 := rfl
theorem CXT_cOk {L : List (List Nat)} {T : List (List Mk)} {Ns : List Nme} {S : St} (hT : TOk L T Ns.length) : ∀ {ctx : List (List Mk)}, (∀ t ∈ ctx, t ∈ T) → cOk (zB T) Ns.length ctx := by
  intro ctx
  induction ctx with
  | nil => intro _; trivial
  | cons t c ih =>
    intro h
    exact ⟨gdT_mo (hT.2.2.2.1 t (h t List.mem_cons_self)) (by omega), ih (fun u hu => h u (List.mem_cons_of_mem _ hu))⟩
theorem CXT_mem {S : St} {T ctx : List (List Mk)} (h : CXT S T ctx) : ∀ t ∈ ctx, t ∈ T := fun t ht => by
  obtain ⟨i, hi, rfl⟩ := List.getElem_of_mem ht
  exact (h i _ (List.getElem?_eq_getElem hi)).2
/-! reading the table -/
theorem tb_k {S : St} {L : List (List Nat)} {T : List (List Mk)} {x : List Mk} (h : TC S L T) (hx : x ∈ T) : S.2.1 201 0 (ixT T x) = nI (hk x) := (h.2 _ _ (ixT_get hx)).1
theorem tb_1 {S : St} {L : List (List Nat)} {T : List (List Mk)} {x : List Mk} (h : TC S L T) (hx : x ∈ T) (h3 : 3 ≤ hk x) : S.2.1 202 0 (ixT T x) = nI (ixT T (p1 x)) := by rw [(h.2 _ _ (ixT_get hx)).2.1]; unfold a1; rw [if_neg (by omega), if_neg (by omega)]
theorem tb_2 {S : St} {L : List (List Nat)} {T : List (List Mk)} {x : List Mk} (h : TC S L T) (hx : x ∈ T) (h3 : 3 ≤ hk x) : S.2.1 203 0 (ixT T x) = nI (ixT T (p2 x)) := by rw [(h.2 _ _ (ixT_get hx)).2.2.1]; unfold a2; rw [if_neg (by omega), if_neg (by omega)]
theorem tb_3 {S : St} {L : List (List Nat)} {T : List (List Mk)} {x : List Mk} (h : TC S L T) (hx : x ∈ T) (h3 : hk x = 6) : S.2.1 204 0 (ixT T x) = nI (ixT T (p3 x)) := by rw [(h.2 _ _ (ixT_get hx)).2.2.2.1]; unfold a3; rw [if_neg (by omega), if_pos h3]
/-! reducing, as typing uses it -/
theorem red_c {Ns : List Nme} : ∀ {k c : Nat} {ms : List Mk} {p : Nat × List Mk}, k + c = 31 → red Ns k c ms = some p → p.1 ≤ 30 := by
  intro k
  induction k with
  | zero => intro c ms p _ h; cases h
  | succ k ih =>
    intro c ms p hk h
    have hr : red Ns (k + 1) c ms = match nxS Ns ms with
      | none => some (c, ms)
      | some i => if c = 30 then none else if fitB (stR Ns ms i) then red Ns k (c + 1) (stR Ns ms i) else none := rfl
    rw [hr] at h
    cases h9 : nxS Ns ms with
    | none => rw [h9] at h; cases h; show c ≤ 30; omega
    | some i =>
      rw [h9] at h
      replace h : (if c = 30 then none else if fitB (stR Ns ms i) then red Ns k (c + 1) (stR Ns ms i) else none) = some p := h
      by_cases q : c = 30
      · rw [if_pos q] at h; cases h
      · rw [if_neg q] at h
        by_cases qf : fitB (stR Ns ms i) = true
        · rw [if_pos qf] at h
          exact ih (by omega) h
        · rw [if_neg qf] at h; cases h
theorem nrm_c {Ns : List Nme} {ms : List Mk} {p : Nat × List Mk} (h : nrm Ns ms = some p) : p.1 ≤ 30 := by
  unfold nrm at h
  cases h9 : red Ns 31 0 ms with
  | none => rw [h9] at h; cases h
  | some q =>
    rw [h9] at h
    cases h
    have := red_c (k := 31) (c := 0) (by omega) h9
    exact this
theorem nr_n {Ns : List Nme} {ms : List Mk} (h : nrm Ns ms = none) : nr Ns ms = (5, []) := by unfold nr; rw [h]
theorem nr_s {Ns : List Nme} {ms : List Mk} {p : Nat × List Mk} (h : nrm Ns ms = some p) : nr Ns ms = (0, p.2) := by unfold nr; rw [h]
/-- a row reduced: it fails with minus six, or it holds the normal form -/
theorem s_nr {n j B : Nat} {L : List (List Nat)} {T : List (List Mk)} {Ns : List Nme} {S : St} {t : List Mk} (hn : 10000 ≤ n) (hj : 5 ≤ j ∨ j ≤ 1) (he : ENV L T Ns) (hB : zB T ≤ B ∧ B ≤ 1000000) (h : RW S j t) (hg : gdT B Ns.length t) (hc : CS S L T Ns) : ∃ S' v, f_X3_reduce n S j = some (S', v) ∧ FR (RDX j) S S' ∧ ((nr Ns t = (5, []) ∧ v = m6) ∨ (∃ c, c ≤ 30 ∧ v = nI c ∧ (nr Ns t).1 = 0 ∧ RW S' j (nr Ns t).2 ∧ gdT B Ns.length (nr Ns t).2)) := by
  obtain ⟨S', a, b, f⟩ := s_reduce (n := n) hn (by omega) he.1 he.2.1 rfl he.2.2 hB h hg hc.1 hc.2.1 hc.2.2
  refine ⟨S', _, a, f, ?_⟩
  cases h9 : nrm Ns t with
  | none => left; exact ⟨nr_n h9, rfl⟩
  | some p =>
    right
    obtain ⟨b1, b2⟩ := b p h9
    rw [nr_s h9]
    exact ⟨p.1, nrm_c h9, rfl, rfl, b1, b2⟩
theorem srt_n {Ns : List Nme} {r : Nat × List Mk} (h : ¬ r.1 = 0) : srt Ns r = (r.1, []) := thn_n h
theorem srt_0 {Ns : List Nme} {r : Nat × List Mk} (h : r.1 = 0) : srt Ns r = thn (nr Ns r.2) fun y => if hk y = 0 then (0, hl1 y) else (4, []) := thn_0 h
theorem s_srt {n j B : Nat} {L : List (List Nat)} {T : List (List Mk)} {Ns : List Nme} {S : St} {r : Nat × List Mk} (hn : 10000 ≤ n) (hj : 5 ≤ j) (he : ENV L T Ns) (hB : zB T ≤ B ∧ B ≤ 1000000) (h0 : r.1 = 0) (h : RW S j r.2) (hg : gdT B Ns.length r.2) (hc : CS S L T Ns) : ∃ S' v, f_X3_reduce n S j = some (S', v) ∧ f_X6_needSort n S' v j = some (S', nI (srt Ns r).1) ∧ ((srt Ns r).1 = 0 → S'.2.2 154 j 0 = en (srt Ns r).2 ∧ lvO (srt Ns r).2) ∧ (srt Ns r).1 ≤ 8 ∧ FR (RDX j) S S' := by
  obtain ⟨S', v, a, f, b⟩ := s_nr (n := n) hn (Or.inl hj) he hB h hg hc
  refine ⟨S', v, a, ?_⟩
  rw [srt_0 h0]
  rcases b with ⟨b1, b2⟩ | ⟨c, hc30, hv, b1, b2, b3⟩
  · rw [b1, thn_n (by decide), b2]
    refine ⟨?_, fun z => (by cases z), (by decide), f⟩
    unfold f_X6_needSort
    rw [if_pos (show m6 = -6 from rfl)]
    rfl
  · rw [thn_0 b1]
    have kA := s_kindAt (n := n) b2 (p := 0) (by omega)
    cases h9 : (nr Ns r.2).2 with
    | nil => rw [h9] at b3; exact absurd (Tm_ne b3.1) (by simp)
    | cons m q =>
      rw [h9] at kA b2 b3
      have kA' : f_X4_kindAt n S' j (nI 0) = some (S', nI m.1) := kA
      have m6 := (b3.2.2 m List.mem_cons_self).1
      obtain ⟨c1, c2, c3, c4, c5⟩ := b2.2.2 0 m rfl
      by_cases z : m.1 = 0
      · rw [if_pos (show hk (m :: q) = 0 from z)]
        refine ⟨?_, fun _ => ⟨c4, hl1_lv b3 z⟩, Nat.zero_le _, f⟩
        unfold f_X6_needSort
        rw [hv]
        ((try simp only [k0, k1, k2, k3, k4, k5, k6, k8, k16, k30, k60, k100, k200, k201, k300, k1500, k8000, kM, k_m6]); repeat (first | rw [zt_eq (by omega)] | rw [zt_ne (by omega) (by omega) (by omega)] | rw [zt_nle (by omega) (by omega)] | rw [zt_le (by omega) (by omega)] | rw [zt_nlt (by omega) (by omega)] | rw [zt_lt (by omega) (by omega)] | rw [zt_nm (by omega)] | rw [zt_mm] | rw [zt_ml] | rw [zt_0m] | rw [zt_m0] | rw [zt_n6 (by omega)] | rw [zt_66] | rw [zt_06] | simp (disch := omega) only [k0, k1, k2, k3, k4, k5, k6, k8, k16, k30, k60, k100, k200, k201, k300, k1500, k8000, kM, k_m6, nIa, nIp, nIs, sI_1, sI_22, sL_1, sL_21, sS_21, sS_22, sI_ne, sL_ne, sS_ne, sS_eq, sI_eq, sI_at, sL_eq, sL_at, Nat.add_zero, if_true, if_false, kA', z] | rw [bV_e] | rw [pS_e] | rw [bI_s] | rw [bU_s] | rw [bL_s] | rw [gI_n (by omega) (by omega)] | rw [gR_n (by omega)] | rw [pI_n (by omega) (by omega)] | rw [gL_n (by omega) (by omega)] | rw [pL_n (by omega) (by omega)]))
      · rw [if_neg (show ¬ hk (m :: q) = 0 from z)]
        refine ⟨?_, fun w => (by cases w), (by decide), f⟩
        unfold f_X6_needSort
        rw [hv]
        ((try simp only [k0, k1, k2, k3, k4, k5, k6, k8, k16, k30, k60, k100, k200, k201, k300, k1500, k8000, kM, k_m6]); repeat (first | rw [zt_eq (by omega)] | rw [zt_ne (by omega) (by omega) (by omega)] | rw [zt_nle (by omega) (by omega)] | rw [zt_le (by omega) (by omega)] | rw [zt_nlt (by omega) (by omega)] | rw [zt_lt (by omega) (by omega)] | rw [zt_nm (by omega)] | rw [zt_mm] | rw [zt_ml] | rw [zt_0m] | rw [zt_m0] | rw [zt_n6 (by omega)] | rw [zt_66] | rw [zt_06] | simp (disch := omega) only [k0, k1, k2, k3, k4, k5, k6, k8, k16, k30, k60, k100, k200, k201, k300, k1500, k8000, kM, k_m6, nIa, nIp, nIs, sI_1, sI_22, sL_1, sL_21, sS_21, sS_22, sI_ne, sL_ne, sS_ne, sS_eq, sI_eq, sI_at, sL_eq, sL_at, Nat.add_zero, if_true, if_false, kA'] | rw [bV_e] | rw [pS_e] | rw [bI_s] | rw [bU_s] | rw [bL_s] | rw [gI_n (by omega) (by omega)] | rw [gR_n (by omega)] | rw [pI_n (by omega) (by omega)] | rw [gL_n (by omega) (by omega)] | rw [pL_n (by omega) (by omega)]))
theorem s_putSort {n j : Nat} {S : St} {l : List Nat} {v : Int64} {b : Prop} [Decidable b] (hv : v = if b then en l else -1) (hl : b → lvO l) : ∃ S', f_X6_putSort n S v j = some (S', if b then nI 0 else nI 5) ∧ (b → RW S' j (sortT l)) ∧ FR [1000 + j] S S' := by
  unfold f_X6_putSort
  by_cases z : b
  · rw [if_pos z] at hv
    obtain ⟨S', a1, a2, a3⟩ := s_beSort (n := n) (S := S) (j := j) (l := l)
    refine ⟨S', ?_, fun _ => a2, a3⟩
    have := (hl z).2.1
    rw [hv, if_neg (fun w => en_m1 (hl z).1 (by omega) ((cmp_eq _ _).mp w)), a1, bU_s, if_pos z]
    rfl
  · rw [if_neg z] at hv
    refine ⟨S, ?_, fun w => absurd w z, FR_rf⟩
    rw [hv, if_pos ((cmp_eq _ _).mpr rfl), if_neg z]
    rfl
def FH (n d a : Nat) (L : List (List Nat)) (T : List (List Mk)) (Ns : List Nme) (F : St → Int32 → Int32 → Int32 → Option (St × Int32)) : Prop := ∀ (S : St) (ctx : List (List Mk)) (x : List Mk), x ∈ T → x.length + 2 * a ≤ 200 → ctx.length ≤ a → CS S L T Ns → CXT S T ctx → ∃ S', F S (nI (ixT T x)) (nI ctx.length) (nI a) = some (S', nI (tyS Ns d ctx x).1) ∧ (tyS Ns d ctx x).1 ≤ 8 ∧ ((tyS Ns d ctx x).1 = 0 → RW S' (6 + a) (tyS Ns d ctx x).2) ∧ KP 256 ctx.length S S' ∧ FR (FD a) S S'
