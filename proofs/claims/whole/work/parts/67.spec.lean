/-! what a step makes of a term; terms stay terms -/
theorem vV_sh {B N d : Nat} {m : Mk} : vV B N (shM d m) ↔ vV (B + d) N m := by
  unfold vV shM
  have : ∀ x : Nat, x < m.2.2.1 + d + B ↔ x < m.2.2.1 + (B + d) := fun x => by omega
  simp only [this]
theorem vV_dn {B N d : Nat} {m : Mk} (h : vV B N m) (hd : d ≤ m.2.2.1) : vV (B + d) N (dnM d m) := by
  rw [← vV_sh, sh_dn hd]; exact h
theorem vV_up {B N e : Nat} {m : Mk} (h : vV B N m) : vV B N (upM e m) := by
  obtain ⟨a, b, c, d⟩ := h
  refine ⟨a, fun z => ?_, fun z => ?_, ?_⟩
  · have := b z
    show (if m.1 = 1 ∧ m.2.2.1 ≤ m.2.1 then m.2.1 + e else m.2.1) < m.2.2.1 + e + B
    split <;> omega
  · show (if m.1 = 1 ∧ m.2.2.1 ≤ m.2.1 then m.2.1 + e else m.2.1) < N
    have z' : m.1 = 2 := z
    rw [if_neg (by omega)]; exact c z
  · obtain ⟨d1, d2, d3, d4, d5⟩ := d
    refine ⟨d1, d2, d3, d4, fun z w => ?_⟩
    have z' : m.1 ≠ 1 := z
    show (if m.1 = 1 ∧ m.2.2.1 ≤ m.2.1 then m.2.1 + e else m.2.1) = 0
    rw [if_neg (fun q => z' q.1)]; exact d5 z w
theorem vV_pd {B N : Nat} {m : Mk} (h : vV (B + 1) N m) (hn : ¬ isN m = true) : vV B N (pdM m) := by
  obtain ⟨a, b, c, d1, d2, d3, d4, d5⟩ := h
  refine ⟨a, fun z => ?_, fun z => ?_, d1, d2, d3, d4, fun z w => ?_⟩
  · have z' : m.1 = 1 := z
    have := b z
    have hn' : ¬ m.2.1 = m.2.2.1 := fun q => hn (by unfold isN; simp [z', q])
    show (if m.1 = 1 ∧ m.2.2.1 ≤ m.2.1 then m.2.1 - 1 else m.2.1) < m.2.2.1 + B
    split <;> omega
  · show (if m.1 = 1 ∧ m.2.2.1 ≤ m.2.1 then m.2.1 - 1 else m.2.1) < N
    have z' : m.1 = 2 := z
    rw [if_neg (by omega)]; exact c z
  · have z' : m.1 ≠ 1 := z
    show (if m.1 = 1 ∧ m.2.2.1 ≤ m.2.1 then m.2.1 - 1 else m.2.1) = 0
    rw [if_neg (fun q => z' q.1)]; exact d5 z w
theorem lvO_wLv {a b l : List Nat} (ha : lvO a) (hb : lvO b) (h : lvO l) (hl : (wLv a b l).length ≤ 16) : lvO (wLv a b l) := by
  rcases lO_wLv ha hb (Or.inr h) hl with q | q
  · have := lc_wLv ha.2.2 hb.2.2 h.2.2
    rw [q] at this
    exact this.elim
  · exact q
theorem vV_gv {B N : Nat} {a b : List Nat} {m : Mk} (ha : lvO a) (hb : lvO b) (h : vV B N m) (hf : f16 (gvM a b m) = true) : vV B N (gvM a b m) := by
  obtain ⟨h1, h2, h3, d1, d2, d3, d4, d5⟩ := h
  have hf' : (wLv a b m.2.2.2.1).length ≤ 16 ∧ (wLv a b m.2.2.2.2).length ≤ 16 := by unfold f16 at hf; exact of_decide_eq_true hf
  refine ⟨h1, h2, h3, fun z => lvO_wLv ha hb (d1 z) hf'.1, fun z => ⟨lvO_wLv ha hb (d2 z).1 hf'.1, lvO_wLv ha hb (d2 z).2 hf'.2⟩, fun z w => ?_, fun z => ?_, d5⟩
  · show wLv a b m.2.2.2.1 = []
    rw [d3 z w]; rfl
  · show wLv a b m.2.2.2.2 = []
    rw [d4 z]; rfl
theorem gd_parts {B N : Nat} {m : Mk} {r : List Mk} (h : gdT B N (m :: r)) : (3 ≤ m.1 → gdT B N (p1 (m :: r)) ∧ gdT (B + dl m.1) N (p2 (m :: r))) ∧ (m.1 = 6 → gdT (B + 1) N (p3 (m :: r))) := by
  obtain ⟨h0, hl, hv⟩ := h
  have h6 := (hv m List.mem_cons_self).1
  obtain ⟨d0, dA, dB, dC, dD⟩ := tm_parts h0
  rw [List.length_cons] at hl
  have hr : ∀ x ∈ r, vV B N x := fun x hx => hv x (List.mem_cons_of_mem _ hx)
  refine ⟨fun z => ?_, fun z => ?_⟩
  · obtain ⟨ar2, ar6, arn⟩ := ar_2 z h6
    obtain ⟨t1, t2⟩ := dB ar2
    by_cases q6 : m.1 = 6
    · obtain ⟨e, _⟩ := dD (ar6.mp q6)
      have el := congrArg List.length e
      simp only [List.length_append, List.length_map] at el
      rw [q6]
      refine ⟨⟨t1, by omega, fun x hx => hr x (by rw [e]; simp [hx])⟩, t2, by omega, fun x hx => hr x (by rw [e]; simp [hx])⟩
    · have e := dC (arn.mp q6)
      have el := congrArg List.length e
      simp only [List.length_append, List.length_map] at el
      refine ⟨⟨t1, by omega, fun x hx => hr x (by rw [e]; simp [hx])⟩, t2, by omega, fun x hx => ?_⟩
      exact vV_sh.mp (hr (shM (dl m.1) x) (by rw [e]; exact List.mem_append_right _ (List.mem_map_of_mem hx)))
  · obtain ⟨e, t3⟩ := dD ((ar_2 (by omega) h6).2.1.mp z)
    have el := congrArg List.length e
    simp only [List.length_append, List.length_map] at el
    exact ⟨t3, by omega, fun x hx => vV_sh.mp (hr (shM 1 x) (by rw [e]; exact List.mem_append_right _ (List.mem_append_right _ (List.mem_map_of_mem hx))))⟩
theorem gd_fil {B N : Nat} {x v : List Mk} (hx : gdT (B + 1) N x) (hv : gdT B N v) (hl : (fil x v).length ≤ 200) : gdT B N (fil x v) := by
  refine ⟨run_fil hv.1 hx.1, hl, fun m hm => ?_⟩
  obtain ⟨y, hy, hm⟩ := List.mem_flatMap.mp hm
  unfold fil1 at hm
  split at hm
  · obtain ⟨w, hw, rfl⟩ := List.mem_map.mp hm
    exact vV_up (hv.2.2 w hw)
  · rename_i hn
    rw [List.mem_singleton.mp hm]
    exact vV_pd (hx.2.2 y hy) hn
theorem gd_gv {B N : Nat} {a b : List Nat} {x : List Mk} (ha : lvO a) (hb : lvO b) (hx : gdT B N x) (hf : (x.map (gvM a b)).all f16 = true) : gdT B N (x.map (gvM a b)) := by
  refine ⟨run_map0 (g := gvM a b) (fun _ => rfl) (fun _ => rfl) hx.1, by rw [List.length_map]; exact hx.2.1, fun m hm => ?_⟩
  have hfm := List.all_eq_true.mp hf m hm
  obtain ⟨y, hy, rfl⟩ := List.mem_map.mp hm
  exact vV_gv ha hb (hx.2.2 y hy) hfm
theorem cntN_0 {x : List Mk} (h : cntN x = 0) : ∀ m ∈ x, ¬ isN m = true := by
  unfold cntN at h
  rw [List.countP_eq_zero] at h
  exact h
theorem gd_pd {B N : Nat} {x : List Mk} (hx : gdT (B + 1) N x) (h0 : cntN x = 0) : gdT B N (x.map pdM) := by
  refine ⟨run_map0 (g := pdM) (fun _ => rfl) (fun _ => rfl) hx.1, by rw [List.length_map]; exact hx.2.1, fun m hm => ?_⟩
  obtain ⟨y, hy, rfl⟩ := List.mem_map.mp hm
  exact vV_pd (hx.2.2 y hy) (cntN_0 h0 y hy)
/-! a part of a term at a place -/
def dpt (ms : List Mk) (i : Nat) : Nat := match ms[i]? with
  | some m => m.2.2.1
  | none => 0
def cutT (ms : List Mk) (i : Nat) : List Mk := (ms.drop i).take (fpT 1 (ms.drop i))
def subT (ms : List Mk) (i : Nat) : List Mk := (cutT ms i).map (dnM (dpt ms i))
def rst (ms : List Mk) (i : Nat) : List Mk := (ms.drop i).drop (fpT 1 (ms.drop i))
def repl (ms : List Mk) (i : Nat) (made : List Mk) : List Mk := ms.take i ++ made.map (shM (dpt ms i)) ++ rst ms i
theorem cut_at {ms : List Mk} {i : Nat} : ms.drop i = cutT ms i ++ rst ms i := (List.take_append_drop _ _).symm
theorem cut_all {ms : List Mk} {i : Nat} : ms = ms.take i ++ (cutT ms i ++ rst ms i) := by rw [← cut_at, List.take_append_drop]
theorem cut_run {ms : List Mk} {i : Nat} {m : Mk} {a : List Nat} (h : run a ms = some []) (hi : ms[i]? = some m) : ∃ s, run a (ms.take i) = some (m.2.2.1 :: s) ∧ run [m.2.2.1] (cutT ms i) = some [] ∧ run s (rst ms i) = some [] := by
  have hlt := gt_lt hi
  have e : ms[i] = m := by rw [List.getElem?_eq_getElem hlt] at hi; exact Option.some.inj hi
  have h2 := h
  rw [← List.take_append_drop i ms, run_app] at h2
  cases h3 : run a (ms.take i) with
  | none => rw [h3] at h2; cases h2
  | some st =>
    rw [h3] at h2
    have h4 : run st (ms.drop i) = some [] := h2
    have h5 := h4
    rw [drop_c hlt] at h5
    obtain ⟨s, rfl, _⟩ := run_cc h5
    rw [e] at h4
    obtain ⟨x, y, e1, hx, hy⟩ := run_split (a := [m.2.2.1]) (c := s) h4
    have l1 : fpT 1 (x ++ y) = x.length := run_len (a := [m.2.2.1]) hx
    have c1 : cutT ms i = x := by unfold cutT; rw [e1, l1, List.take_left]
    have c2 : rst ms i = y := by unfold rst; rw [e1, l1, List.drop_left]
    rw [c1, c2, e]
    exact ⟨s, rfl, hx, hy⟩
theorem dpt_e {ms : List Mk} {i : Nat} {m : Mk} (hi : ms[i]? = some m) : dpt ms i = m.2.2.1 := by unfold dpt; rw [hi]
theorem cut_h {ms : List Mk} {i : Nat} {m : Mk} (hi : ms[i]? = some m) : ∃ r, cutT ms i = m :: r := by
  have hlt := gt_lt hi
  have e : ms[i] = m := by rw [List.getElem?_eq_getElem hlt] at hi; exact Option.some.inj hi
  unfold cutT
  rw [drop_c hlt, e]
  exact ⟨_, by simp only [fpT]; rw [Nat.add_comm 1, List.take_succ_cons]⟩
theorem sub_gd {B N : Nat} {ms : List Mk} {i : Nat} {m : Mk} (h : gdT B N ms) (hi : ms[i]? = some m) : gdT (B + m.2.2.1) N (subT ms i) ∧ (subT ms i).map (shM m.2.2.1) = cutT ms i ∧ (∀ y ∈ cutT ms i, m.2.2.1 ≤ y.2.2.1) := by
  obtain ⟨s, h1, h2, h3⟩ := cut_run h.1 hi
  obtain ⟨t1, t2, t3⟩ := Tm_dn h2
  unfold subT
  rw [dpt_e hi]
  have hsub : ∀ y ∈ cutT ms i, y ∈ ms := fun y hy => List.mem_of_mem_drop (List.mem_of_mem_take hy)
  refine ⟨⟨t1, ?_, fun y hy => ?_⟩, t3, t2⟩
  · rw [List.length_map]
    have := congrArg List.length (cut_all (ms := ms) (i := i))
    have := h.2.1
    simp only [List.length_append] at *
    omega
  · obtain ⟨w, hw, rfl⟩ := List.mem_map.mp hy
    exact vV_dn (h.2.2 w (hsub w hw)) (t2 w hw)
theorem repl_gd {B N : Nat} {ms made : List Mk} {i : Nat} {m : Mk} (h : gdT B N ms) (hi : ms[i]? = some m) (hm : gdT (B + m.2.2.1) N made) (hl : (repl ms i made).length ≤ 200) : gdT B N (repl ms i made) := by
  obtain ⟨s, h1, h2, h3⟩ := cut_run h.1 hi
  refine ⟨?_, hl, fun y hy => ?_⟩
  · unfold repl Tm
    rw [dpt_e hi, List.append_assoc, run_app2 h1]
    have := run_fr s (Tm_sh hm.1 m.2.2.1)
    rw [List.singleton_append, List.nil_append] at this
    rw [run_app2 this]
    exact h3
  · unfold repl at hy
    rw [dpt_e hi] at hy
    rcases List.mem_append.mp hy with hy | hy
    · rcases List.mem_append.mp hy with hy | hy
      · exact h.2.2 y (List.mem_of_mem_take hy)
      · obtain ⟨w, hw, rfl⟩ := List.mem_map.mp hy
        exact vV_sh.mpr (hm.2.2 w hw)
    · exact h.2.2 y (List.mem_of_mem_drop (List.mem_of_mem_drop hy))
/-! names: how many parameters, the type, the value -/
abbrev Nme : Type := Nat × List Mk × Option (List Mk)
def nval (Ns : List Nme) (i : Nat) : Option (List Mk) := match Ns[i]? with
  | some e => e.2.2
  | none => none
def NOk (T : List (List Mk)) (Ns : List Nme) : Prop := Ns.length ≤ 40 ∧ ∀ e ∈ Ns, e.1 ≤ 2 ∧ e.2.1 ∈ T ∧ ∀ v, e.2.2 = some v → v ∈ T
def nvI (T : List (List Mk)) (v : Option (List Mk)) : Int32 := match v with
  | some x => nI (ixT T x)
  | none => mI
def NM (S : St) (T : List (List Mk)) (Ns : List Nme) : Prop := S.1 366 0 = nI Ns.length ∧ ∀ i e, Ns[i]? = some e → S.2.1 363 0 i = nI e.1 ∧ S.2.1 364 0 i = nI (ixT T e.2.1) ∧ S.2.1 365 0 i = nvI T e.2.2
def NC (S : St) (T : List (List Mk)) (Ns : List Nme) : Prop := S.1 50 0 = nI Ns.length ∧ ∀ i e, Ns[i]? = some e → S.2.1 51 0 i = nI e.1 ∧ S.2.1 52 0 i = nI (ixT T e.2.1) ∧ S.2.1 53 0 i = nvI T e.2.2
theorem rgN {f : Nat} (h : 363 ≤ f ∧ f ≤ 366) (j : Nat) : rg f j = 363 := by
  unfold rg
  rw [if_neg (by omega), if_neg (by omega), if_neg (by omega), if_neg (by omega), if_neg (by omega), if_neg (by omega), if_neg (by omega), if_pos h]
theorem rgNC {f : Nat} (h : 50 ≤ f ∧ f ≤ 53) (j : Nat) : rg f j = 50 := by
  unfold rg
  rw [if_neg (by omega), if_pos h]
theorem NM_fr {S S' : St} {R : List Nat} {T : List (List Mk)} {Ns : List Nme} (h : NM S T Ns) (g : FR R S S') (hj : 363 ∉ R) : NM S' T Ns := by
  have k : ∀ f, 363 ≤ f ∧ f ≤ 366 → S'.1 f 0 = S.1 f 0 ∧ S'.2.1 f 0 = S.2.1 f 0 := fun f hf => ⟨(g f 0 (by rw [rgN hf]; exact hj)).1, (g f 0 (by rw [rgN hf]; exact hj)).2.1⟩
  refine ⟨(k 366 (by omega)).1.trans h.1, fun i e he => ?_⟩
  rw [(k 363 (by omega)).2, (k 364 (by omega)).2, (k 365 (by omega)).2]
  exact h.2 i e he
theorem NC_fr {S S' : St} {R : List Nat} {T : List (List Mk)} {Ns : List Nme} (h : NC S T Ns) (g : FR R S S') (hj : 50 ∉ R) : NC S' T Ns := by
  have k : ∀ f, 50 ≤ f ∧ f ≤ 53 → S'.1 f 0 = S.1 f 0 ∧ S'.2.1 f 0 = S.2.1 f 0 := fun f hf => ⟨(g f 0 (by rw [rgNC hf]; exact hj)).1, (g f 0 (by rw [rgNC hf]; exact hj)).2.1⟩
  refine ⟨(k 50 (by omega)).1.trans h.1, fun i e he => ?_⟩
  rw [(k 51 (by omega)).2, (k 52 (by omega)).2, (k 53 (by omega)).2]
  exact h.2 i e he
/-! the next step, what it makes, the way to the end -/
def isStp (Ns : List Nme) (m : Mk) (r : List Mk) : Bool := decide (m.1 = 6) || (decide (m.1 = 5) && decide (hk r = 4 ∧ r ≠ [])) || (decide (m.1 = 2) && (nval Ns m.2.1).isSome)
def nxS (Ns : List Nme) : List Mk → Option Nat
  | [] => none
  | m :: r => if isStp Ns m r then some 0 else (nxS Ns r).map (· + 1)
def rdx (Ns : List Nme) (x : List Mk) : List Mk := if hk x = 2 then ((nval Ns (hid x)).getD []).map (gvM (hl1 x) (hl2 x)) else if hk x = 6 then fil (p3 x) (p2 x) else fil (p2 (p1 x)) (p2 x)
def stR (Ns : List Nme) (ms : List Mk) (i : Nat) : List Mk := repl ms i (rdx Ns (subT ms i))
def red (Ns : List Nme) : Nat → Nat → List Mk → Option (Nat × List Mk)
  | 0, _, _ => none
  | k + 1, c, ms => match nxS Ns ms with
    | none => some (c, ms)
    | some i => if c = 30 then none else if fitB (stR Ns ms i) then red Ns k (c + 1) (stR Ns ms i) else none
def etaB (x : List Mk) : Bool := decide (hk x = 4 ∧ hk (p2 x) = 5 ∧ hk (p2 (p2 x)) = 1 ∧ hid (p2 (p2 x)) = 0 ∧ cntN (p1 (p2 x)) = 0)
def shr (ms : List Mk) (i : Nat) : List Mk := if etaB (subT ms i) then repl ms i ((p1 (p2 (subT ms i))).map pdM) else ms
def shrs : Nat → List Mk → List Mk
  | 0, ms => ms
  | k + 1, ms => shrs k (shr ms k)
def nrm (Ns : List Nme) (ms : List Mk) : Option (Nat × List Mk) := (red Ns 31 0 ms).map (fun p => (p.1, shrs p.2.length p.2))
