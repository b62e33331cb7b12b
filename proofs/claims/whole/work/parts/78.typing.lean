/-! typing, on lists -/
def ENV (L : List (List Nat)) (T : List (List Mk)) (Ns : List Nme) : Prop := LOk L ∧ TOk L T Ns.length ∧ NOk T Ns
def ntyp (Ns : List Nme) (i : Nat) : List Mk := match Ns[i]? with
  | some e => e.2.1
  | none => []
def thn {α β : Type} [Inhabited β] (r : Nat × α) (k : α → Nat × β) : Nat × β := if r.1 = 0 then k r.2 else (r.1, default)
theorem thn_0 {α β : Type} [Inhabited β] {r : Nat × α} {k : α → Nat × β} (h : r.1 = 0) : thn r k = k r.2 := if_pos h
theorem thn_n {α β : Type} [Inhabited β] {r : Nat × α} {k : α → Nat × β} (h : ¬ r.1 = 0) : thn r k = (r.1, default) := if_neg h
theorem thn_z {α β : Type} [Inhabited β] {r : Nat × α} {k : α → Nat × β} (h : (thn r k).1 = 0) : r.1 = 0 ∧ thn r k = k r.2 := by
  by_cases z : r.1 = 0
  · exact ⟨z, thn_0 z⟩
  · rw [thn_n z] at h; exact absurd h z
def nr (Ns : List Nme) (ms : List Mk) : Nat × List Mk := match nrm Ns ms with
  | none => (5, [])
  | some p => (0, p.2)
def srt (Ns : List Nme) (r : Nat × List Mk) : Nat × List Nat := thn r fun t => thn (nr Ns t) fun y => if hk y = 0 then (0, hl1 y) else (4, [])
def sortT (l : List Nat) : List Mk := [(0, 0, 0, l, [])]
def szd (t : List Mk) : Nat × List Mk := if t.length ≤ 200 then (0, t) else (5, [])
abbrev TyF : Type := List (List Mk) → List Mk → Nat × List Mk
def tyPi (Ns : List Nme) (F : TyF) (ctx : List (List Mk)) (x : List Mk) : Nat × List Mk := thn (srt Ns (F ctx (p1 x))) fun a => thn (srt Ns (F (p1 x :: ctx) (p2 x))) fun b => if 1 + a.length + b.length ≤ 16 then (0, sortT (3 :: (a ++ b))) else (5, [])
def piT (a b : List Mk) : List Mk := (3, 0, 0, [], []) :: (a ++ b.map (shM 1))
def tyLa (Ns : List Nme) (F : TyF) (ctx : List (List Mk)) (x : List Mk) : Nat × List Mk := thn (srt Ns (F ctx (p1 x))) fun _ => thn (F (p1 x :: ctx) (p2 x)) fun b => szd (piT (p1 x) b)
def tyAp (Ns : List Nme) (F : TyF) (ctx : List (List Mk)) (x : List Mk) : Nat × List Mk := thn (F ctx (p1 x)) fun f => thn (nr Ns f) fun y => if hk y = 3 then thn (F ctx (p2 x)) fun a => thn (nr Ns a) fun z => if mtc (p1 y) z then szd (fil (p2 y) (p2 x)) else (3, []) else (2, [])
def tyLe (Ns : List Nme) (F : TyF) (ctx : List (List Mk)) (x : List Mk) : Nat × List Mk := thn (srt Ns (F ctx (p1 x))) fun _ => thn (F ctx (p2 x)) fun v => thn (nr Ns v) fun y => thn (nr Ns (p1 x)) fun z => if mtc z y then thn (F (p1 x :: ctx) (p3 x)) fun b => szd (fil b (p2 x)) else (6, [])
def tyV (ctx : List (List Mk)) (i : Nat) : Nat × List Mk := match ctx[i]? with
  | some t => (0, t.map (rsM (i + 1)))
  | none => (1, [])
def tyN (t : List Mk) : Nat × List Mk := if t.all f16 then (0, t) else (5, [])
def tyS (Ns : List Nme) : Nat → TyF
  | 0, _, _ => (5, [])
  | d + 1, ctx, x => if hk x = 0 then (if (hl1 x).length < 16 then (0, sortT (1 :: hl1 x)) else (5, [])) else if hk x = 1 then tyV ctx (hid x) else if hk x = 2 then tyN ((ntyp Ns (hid x)).map (gvM (hl1 x) (hl2 x))) else if hk x = 3 then tyPi Ns (tyS Ns d) ctx x else if hk x = 4 then tyLa Ns (tyS Ns d) ctx x else if hk x = 5 then tyAp Ns (tyS Ns d) ctx x else tyLe Ns (tyS Ns d) ctx x
theorem tyS_s {Ns : List Nme} {d : Nat} {ctx : List (List Mk)} {x : List Mk} : tyS Ns (d + 1) ctx x = if hk x = 0 then (if (hl1 x).length < 16 then (0, sortT (1 :: hl1 x)) else (5, [])) else if hk x = 1 then tyV ctx (hid x) else if hk x = 2 then tyN ((ntyp Ns (hid x)).map (gvM (hl1 x) (hl2 x))) else if hk x = 3 then tyPi Ns (tyS Ns d) ctx x else if hk x = 4 then tyLa Ns (tyS Ns d) ctx x else if hk x = 5 then tyAp Ns (tyS Ns d) ctx x else tyLe Ns (tyS Ns d) ctx x := rfl
/-! types are terms -/
theorem shrs_gd {B N : Nat} : ∀ {k : Nat} {ms : List Mk}, gdT B N ms → k ≤ ms.length → gdT B N (shrs k ms) := by
  intro k
  induction k with
  | zero => intro ms h _; exact h
  | succ k ih =>
    intro ms h hk
    obtain ⟨a, b⟩ := shr_gd h (List.getElem?_eq_getElem (show k < ms.length by omega))
    exact ih a (by omega)
theorem red_gd {B : Nat} {L : List (List Nat)} {T : List (List Mk)} {Ns : List Nme} (he : ENV L T Ns) (hB : zB T ≤ B ∧ B ≤ 1000000) : ∀ {k c : Nat} {ms : List Mk} {p : Nat × List Mk}, gdT B Ns.length ms → red Ns k c ms = some p → gdT B Ns.length p.2 := by
  intro k
  induction k with
  | zero => intro c ms p _ h; cases h
  | succ k ih =>
    intro c ms p hg h
    have hr : red Ns (k + 1) c ms = match nxS Ns ms with
      | none => some (c, ms)
      | some i => if c = 30 then none else if fitB (stR Ns ms i) then red Ns k (c + 1) (stR Ns ms i) else none := rfl
    rw [hr] at h
    cases h9 : nxS Ns ms with
    | none => rw [h9] at h; cases h; exact hg
    | some i =>
      rw [h9] at h
      replace h : (if c = 30 then none else if fitB (stR Ns ms i) then red Ns k (c + 1) (stR Ns ms i) else none) = some p := h
      obtain ⟨m, hi, hs⟩ := nxS_at h9
      by_cases q : c = 30
      · rw [if_pos q] at h; cases h
      · rw [if_neg q] at h
        by_cases qf : fitB (stR Ns ms i) = true
        · rw [if_pos qf] at h
          exact ih ((stR_ok he.2.1 he.2.2 hB hg hi hs).2 qf) h
        · rw [if_neg qf] at h; cases h
theorem nrm_gd {B : Nat} {L : List (List Nat)} {T : List (List Mk)} {Ns : List Nme} {ms : List Mk} {p : Nat × List Mk} (he : ENV L T Ns) (hB : zB T ≤ B ∧ B ≤ 1000000) (hg : gdT B Ns.length ms) (h : nrm Ns ms = some p) : gdT B Ns.length p.2 := by
  unfold nrm at h
  cases h9 : red Ns 31 0 ms with
  | none => rw [h9] at h; cases h
  | some q =>
    rw [h9] at h
    cases h
    exact shrs_gd (red_gd he hB hg h9) (Nat.le_refl _)
theorem nr_gd {B : Nat} {L : List (List Nat)} {T : List (List Mk)} {Ns : List Nme} {ms : List Mk} (he : ENV L T Ns) (hB : zB T ≤ B ∧ B ≤ 1000000) (hg : gdT B Ns.length ms) (h : (nr Ns ms).1 = 0) : gdT B Ns.length (nr Ns ms).2 := by
  unfold nr at h ⊢
  cases h9 : nrm Ns ms with
  | none => rw [h9] at h; cases h
  | some p =>
    have := nrm_gd he hB hg h9
    exact this
theorem lf_gd {B N : Nat} {l : List Nat} (h : lvO l) : gdT B N (sortT l) := by
  refine ⟨rfl, by simp [sortT], fun m hm => ?_⟩
  rw [List.mem_singleton.mp hm]
  exact ⟨by simp, fun z => (by cases z), fun z => (by cases z), fun _ => h, fun z => (by cases z), fun z => absurd rfl z, fun _ => rfl, fun _ _ => rfl⟩
theorem hl1_lv {B N : Nat} {y : List Mk} (h : gdT B N y) (h0 : hk y = 0) : lvO (hl1 y) := by
  cases y with
  | nil => exact absurd (Tm_ne h.1) (by simp)
  | cons m r => exact (h.2.2 m List.mem_cons_self).2.2.2.1 h0
theorem lvO_1 {l : List Nat} (h : lvO l) (hl : l.length < 16) : lvO (1 :: l) := ⟨okL_cons (by omega) h.1, by rw [List.length_cons]; omega, h.2.2⟩
theorem lc_ap2 {a b : List Nat} : ∀ {k : Nat}, lc k a → ∀ {j : Nat}, lc j b → lc (k + j) (a ++ b) := by
  induction a with
  | nil =>
    intro k h j hb
    cases k with
    | zero => rw [Nat.zero_add]; exact hb
    | succ k => exact h.elim
  | cons t r ih =>
    intro k h j hb
    cases k with
    | zero => exact h.elim
    | succ k =>
      have h' : lc (k + tp t) r := h
      have := ih h' hb
      show lc (k + 1 + j) (t :: (r ++ b))
      rw [show k + 1 + j = (k + j) + 1 by omega]
      show lc (k + j + tp t) (r ++ b)
      rw [show k + j + tp t = k + tp t + j by omega]
      exact this
theorem lvO_3 {a b : List Nat} (ha : lvO a) (hb : lvO b) (hl : 1 + a.length + b.length ≤ 16) : lvO (3 :: (a ++ b)) := by
  refine ⟨okL_cons (by omega) (fun t ht => ?_), by rw [List.length_cons, List.length_append]; omega, ?_⟩
  · rcases List.mem_append.mp ht with z | z
    · exact ha.1 t z
    · exact hb.1 t z
  · show lc (0 + tp 3) (a ++ b)
    exact lc_ap2 (k := 1) ha.2.2 (j := 1) hb.2.2
theorem srt_lv {B : Nat} {L : List (List Nat)} {T : List (List Mk)} {Ns : List Nme} {r : Nat × List Mk} (he : ENV L T Ns) (hB : zB T ≤ B ∧ B ≤ 1000000) (hg : r.1 = 0 → gdT B Ns.length r.2) (h : (srt Ns r).1 = 0) : lvO (srt Ns r).2 := by
  unfold srt at h ⊢
  obtain ⟨z1, e1⟩ := thn_z h
  rw [e1] at h ⊢
  obtain ⟨z2, e2⟩ := thn_z h
  rw [e2] at h ⊢
  by_cases z3 : hk (nr Ns r.2).2 = 0
  · rw [if_pos z3]
    exact hl1_lv (nr_gd he hB (hg z1) z2) z3
  · rw [if_neg z3] at h; cases h
theorem pi_gd {B N : Nat} {a b : List Mk} (ha : gdT B N a) (hb : gdT (B + 1) N b) (hl : (piT a b).length ≤ 200) : gdT B N (piT a b) := by
  refine ⟨?_, hl, fun m hm => ?_⟩
  · show run [0] ((3, 0, 0, [], []) :: (a ++ b.map (shM 1))) = some []
    rw [run_c, if_pos rfl]
    have := run_fr [1] ha.1
    show run ([0] ++ [1]) (a ++ b.map (shM 1)) = some []
    rw [run_app2 this]
    exact Tm_sh hb.1 1
  · rcases List.mem_cons.mp hm with z | z
    · rw [z]
      exact ⟨by simp, fun z => (by cases z), fun z => (by cases z), fun z => (by cases z), fun z => (by cases z), fun _ _ => rfl, fun _ => rfl, fun _ _ => rfl⟩
    · rcases List.mem_append.mp z with z | z
      · exact ha.2.2 m z
      · obtain ⟨w, hw, rfl⟩ := List.mem_map.mp z
        exact vV_sh.mpr (hb.2.2 w hw)
def cOk (Z N : Nat) : List (List Mk) → Prop
  | [] => True
  | t :: c => gdT (Z + c.length) N t ∧ cOk Z N c
theorem cOk_at {Z N : Nat} : ∀ {ctx : List (List Mk)} {i : Nat} {t : List Mk}, cOk Z N ctx → ctx[i]? = some t → gdT (Z + (ctx.length - 1 - i)) N t := by
  intro ctx
  induction ctx with
  | nil => intro i t _ h; cases h
  | cons a c ih =>
    intro i t h hi
    cases i with
    | zero => cases hi; exact h.1
    | succ i =>
      have := ih h.2 (show c[i]? = some t from hi)
      rw [List.length_cons]
      rw [show c.length + 1 - 1 - (i + 1) = c.length - 1 - i by omega]
      exact this
theorem rs_gd {B N e : Nat} {t : List Mk} (h : gdT B N t) : gdT (B + e) N (t.map (rsM e)) := by
  refine ⟨run_map0 (g := rsM e) (fun _ => rfl) (fun _ => rfl) h.1, by rw [List.length_map]; exact h.2.1, fun m hm => ?_⟩
  obtain ⟨y, hy, rfl⟩ := List.mem_map.mp hm
  obtain ⟨a, b, c, d1, d2, d3, d4, d5⟩ := h.2.2 y hy
  refine ⟨a, fun z => ?_, fun z => ?_, d1, d2, d3, d4, fun z w => ?_⟩
  · have := b z
    show (if y.1 = 1 ∧ y.2.2.1 ≤ y.2.1 then y.2.1 + e else y.2.1) < y.2.2.1 + (B + e)
    split <;> omega
  · show (if y.1 = 1 ∧ y.2.2.1 ≤ y.2.1 then y.2.1 + e else y.2.1) < N
    have z' : y.1 = 2 := z
    rw [if_neg (by omega)]; exact c z
  · have z' : y.1 ≠ 1 := z
    show (if y.1 = 1 ∧ y.2.2.1 ≤ y.2.1 then y.2.1 + e else y.2.1) = 0
    rw [if_neg (fun q => z' q.1)]; exact d5 z w
theorem szd_z {t : List Mk} (h : (szd t).1 = 0) : t.length ≤ 200 ∧ szd t = (0, t) := by
  unfold szd at h ⊢
  by_cases z : t.length ≤ 200
  · rw [if_pos z]; exact ⟨z, rfl⟩
  · rw [if_neg z] at h; cases h
theorem gd_pt {B N : Nat} {x : List Mk} (h : gdT B N x) : (3 ≤ hk x → gdT B N (p1 x) ∧ gdT (B + dl (hk x)) N (p2 x)) ∧ (hk x = 6 → gdT (B + 1) N (p3 x)) := by
  cases x with
  | nil => exact absurd (Tm_ne h.1) (by simp)
  | cons m r => exact gd_parts h
theorem tyS_gd {L : List (List Nat)} {T : List (List Mk)} {Ns : List Nme} (he : ENV L T Ns) : ∀ (d : Nat) (ctx : List (List Mk)) (x : List Mk), gdT (zB T + ctx.length) Ns.length x → cOk (zB T) Ns.length ctx → ctx.length + d ≤ 150 → (tyS Ns d ctx x).1 = 0 → gdT (zB T + ctx.length) Ns.length (tyS Ns d ctx x).2 := by
  intro d
  induction d with
  | zero => intro ctx x _ _ _ h; cases h
  | succ d ih =>
    intro ctx x hg hc hl h
    have hz := zB_le he.2.1
    have hB : zB T ≤ zB T + ctx.length ∧ zB T + ctx.length ≤ 1000000 := by omega
    have h6 := hk_le hg
    obtain ⟨gp, gp3⟩ := gd_pt hg
    rw [tyS_s] at h ⊢
    by_cases q0 : hk x = 0
    · rw [if_pos q0] at h ⊢
      have lv := hl1_lv hg q0
      by_cases z : (hl1 x).length < 16
      · rw [if_pos z]; exact lf_gd (lvO_1 lv z)
      · rw [if_neg z] at h; cases h
    · rw [if_neg q0] at h ⊢
      by_cases q1 : hk x = 1
      · rw [if_pos q1] at h ⊢
        unfold tyV at h ⊢
        cases h9 : ctx[hid x]? with
        | none => rw [h9] at h; cases h
        | some t =>
          have g1 := cOk_at hc h9
          have hlt := gt_lt h9
          have := rs_gd (e := hid x + 1) g1
          rw [show zB T + (ctx.length - 1 - hid x) + (hid x + 1) = zB T + ctx.length by omega] at this
          exact this
      · rw [if_neg q1] at h ⊢
        by_cases q2 : hk x = 2
        · rw [if_pos q2] at h ⊢
          unfold tyN at h ⊢
          cases x with
          | nil => exact absurd (Tm_ne hg.1) (by simp)
          | cons m r =>
            obtain ⟨v1, v2, v3, v4, v5, v6⟩ := hg.2.2 m List.mem_cons_self
            have e9 := List.getElem?_eq_getElem (v3 q2)
            have en : ntyp Ns (hid (m :: r)) = (Ns[m.2.1]'(v3 q2)).2.1 := by unfold ntyp; show (match Ns[m.2.1]? with | some e => e.2.1 | none => []) = _; rw [e9]
            have mT := (he.2.2.2 _ (List.getElem_mem (v3 q2))).2.1
            by_cases z : ((ntyp Ns (hid (m :: r))).map (gvM (hl1 (m :: r)) (hl2 (m :: r)))).all f16 = true
            · rw [if_pos z]
              refine gd_gv (v5 q2).1 (v5 q2).2 ?_ z
              rw [en]
              exact gdT_mo (he.2.1.2.2.2.1 _ mT) (by omega)
            · rw [if_neg z] at h; cases h
        · rw [if_neg q2] at h ⊢
          obtain ⟨g1, g2⟩ := gp (by omega)
          have i1 := ih ctx (p1 x) g1 hc (by omega)
          by_cases q3 : hk x = 3
          · rw [if_pos q3] at h ⊢
            rw [q3, show dl 3 = 1 from rfl] at g2
            unfold tyPi at h ⊢
            obtain ⟨z1, e1⟩ := thn_z h
            rw [e1] at h ⊢
            obtain ⟨z2, e2⟩ := thn_z h
            rw [e2] at h ⊢
            have l1 := srt_lv he hB i1 z1
            have l2 := srt_lv (B := zB T + (ctx.length + 1)) he (by omega) (ih (p1 x :: ctx) (p2 x) g2 ⟨g1, hc⟩ (by rw [List.length_cons]; omega)) z2
            by_cases z : 1 + (srt Ns (tyS Ns d ctx (p1 x))).2.length + (srt Ns (tyS Ns d (p1 x :: ctx) (p2 x))).2.length ≤ 16
            · rw [if_pos z]; exact lf_gd (lvO_3 l1 l2 z)
            · rw [if_neg z] at h; cases h
          · rw [if_neg q3] at h ⊢
            by_cases q4 : hk x = 4
            · rw [if_pos q4] at h ⊢
              rw [q4, show dl 4 = 1 from rfl] at g2
              unfold tyLa at h ⊢
              obtain ⟨z1, e1⟩ := thn_z h
              rw [e1] at h ⊢
              obtain ⟨z2, e2⟩ := thn_z h
              rw [e2] at h ⊢
              obtain ⟨z3, e3⟩ := szd_z h
              rw [e3]
              exact pi_gd g1 (ih (p1 x :: ctx) (p2 x) g2 ⟨g1, hc⟩ (by rw [List.length_cons]; omega) z2) z3
            · rw [if_neg q4] at h ⊢
              by_cases q5 : hk x = 5
              · rw [if_pos q5] at h ⊢
                rw [q5, show dl 5 = 0 from rfl] at g2
                unfold tyAp at h ⊢
                obtain ⟨z1, e1⟩ := thn_z h
                rw [e1] at h ⊢
                obtain ⟨z2, e2⟩ := thn_z h
                rw [e2] at h ⊢
                have gy := nr_gd he hB (i1 z1) z2
                by_cases k3 : hk (nr Ns (tyS Ns d ctx (p1 x)).2).2 = 3
                · rw [if_pos k3] at h ⊢
                  obtain ⟨z3, e3⟩ := thn_z h
                  rw [e3] at h ⊢
                  obtain ⟨z4, e4⟩ := thn_z h
                  rw [e4] at h ⊢
                  by_cases z5 : mtc (p1 (nr Ns (tyS Ns d ctx (p1 x)).2).2) (nr Ns (tyS Ns d ctx (p2 x)).2).2 = true
                  · rw [if_pos z5] at h ⊢
                    obtain ⟨z6, e6⟩ := szd_z h
                    rw [e6]
                    have gy2 := ((gd_pt gy).1 (by omega)).2
                    rw [k3, show dl 3 = 1 from rfl] at gy2
                    exact gd_fil gy2 g2 z6
                  · rw [if_neg z5] at h; cases h
                · rw [if_neg k3] at h; cases h
              · rw [if_neg q5] at h ⊢
                have q6 : hk x = 6 := by omega
                rw [q6, show dl 6 = 0 from rfl] at g2
                unfold tyLe at h ⊢
                obtain ⟨z1, e1⟩ := thn_z h
                rw [e1] at h ⊢
                obtain ⟨z2, e2⟩ := thn_z h
                rw [e2] at h ⊢
                obtain ⟨z3, e3⟩ := thn_z h
                rw [e3] at h ⊢
                obtain ⟨z4, e4⟩ := thn_z h
                rw [e4] at h ⊢
                by_cases z5 : mtc (nr Ns (p1 x)).2 (nr Ns (tyS Ns d ctx (p2 x)).2).2 = true
                · rw [if_pos z5] at h ⊢
                  obtain ⟨z6, e6⟩ := thn_z h
                  rw [e6] at h ⊢
                  obtain ⟨z7, e7⟩ := szd_z h
                  rw [e7]
                  exact gd_fil (ih (p1 x :: ctx) (p3 x) (gp3 q6) ⟨g1, hc⟩ (by rw [List.length_cons]; omega) z6) g2 z7
                · rw [if_neg z5] at h; cases h
theorem smL_c (a b : List Nat) : smL a b = smL b a := by unfold smL; rw [Bool.and_comm]
theorem smM_c (a b : Mk) : smM a b = smM b a := by
  unfold smM
  rw [smL_c a.2.2.2.1, smL_c a.2.2.2.2]
  have e1 : decide (a.1 = b.1) = decide (b.1 = a.1) := by congr 1; exact propext ⟨Eq.symm, Eq.symm⟩
  have e2 : decide (a.2.1 = b.2.1) = decide (b.2.1 = a.2.1) := by congr 1; exact propext ⟨Eq.symm, Eq.symm⟩
  rw [e1, e2]
theorem mtc_c : ∀ (x y : List Mk), mtc x y = mtc y x := by
  intro x
  induction x with
  | nil => intro y; cases y <;> rfl
  | cons m r ih =>
    intro y
    cases y with
    | nil => rfl
    | cons m2 y =>
      show (smM m m2 && mtc r y) = (smM m2 m && mtc y r)
      rw [smM_c, ih]
