/-! the law from its entry: what the tables and the premises give -/
theorem ltb1 {w : Cond} (h : w ∈ tables_1_1) : w ∈ lw_tbl := List.mem_append_right _ (List.mem_append_left _ h)
theorem ltb2 {w : Cond} (h : w ∈ tables_1_2) : w ∈ lw_tbl := List.mem_append_right _ (List.mem_append_right _ (List.mem_append_left _ h))
theorem st_tabs {w : Cond} (h : w ∈ tables_1) : w ∈ lw_tbl := List.mem_append_right _ h
theorem st_ref : ∀ q ∈ strs, Cond.stringRef q.1 q.2.1 q.2.2 ∈ tables_1 := by decide +kernel
theorem st_ex : ∀ q ∈ strs, Cond.exactly (.string q.1 q.2.1) "java/lang/String" ∈ flatC (Jvm.Cond.and given_1 narrow_1) := by decide +kernel
theorem st_ca : ∀ q ∈ xcs, Cond.castable q q ∈ tables_1 := by decide +kernel
theorem st_nc : ∀ q ∈ ncs, Cond.not (.castable q.1 q.2) ∈ flatC (Jvm.Cond.and given_1 narrow_1) := by decide +kernel
theorem st_dc : ∀ q ∈ dcs, Cond.declares q ∈ tables_1 := by decide +kernel
theorem NA_old {sz a : Nat} (ha : a < sz) : ¬ NA sz sz a := fun hn => by
  rcases hn with h | h
  · omega
  · omega
theorem NA_new {sz a : Nat} (h : NA sz sz a) : sz ≤ a := by
  rcases h with h | h
  · omega
  · exact h
theorem len_lt {tm : Term} {args : Array Value} {s : State} {v : Value} {a : Nat} {cell : Cell} (ht : tm.eval args s none [] s = some (.ref a)) (hat : s.arrayAt? a = some cell) (hv : (Term.length tm).eval args s none [] s = some v) : cell.slots.size < 2 ^ 31 := by
  simp only [Term.eval, ht, hat, Option.bind_eq_bind, Option.bind_some] at hv
  by_cases hlt : cell.slots.size < 2147483648
  · exact hlt
  · simp [hlt] at hv
abbrev tmT : Term := .static "TypeKernel$Levels" "TELLING_VALUES" "[I"
theorem RO_0 {b : Nat} {s : State} (hts : ∀ w ∈ lw_tbl, w.before #[Value.ref b] s = true) (hgv : (Jvm.Cond.and given_1 narrow_1).before #[Value.ref b] s = true) : RO (NA s.heap.size s.heap.size) s s.heap := by
  have hA : ∀ a : Nat, a < s.heap.size → ¬ NA s.heap.size s.heap.size a := fun a ha => NA_old ha
  have hs := flat_of_before _ hgv
  have hlen : (Term.length tmT).eval #[Value.ref b] s none [] s = some (.int (Int32.ofNat 3)) := va_eqt (hs (.eq (.length tmT) (.int 3)) (by decide +kernel))
  have e0 := va_eqt (hs (.eq (.elem tmT (.int 0)) (.int 0)) (by decide +kernel))
  have e1 := va_eqt (hs (.eq (.elem tmT (.int 1)) (.int 1)) (by decide +kernel))
  have e2 := va_eqt (hs (.eq (.elem tmT (.int 2)) (.int 100)) (by decide +kernel))
  obtain ⟨tv, hev, cell, h1, h2, h3, h4, h5, h6, h7⟩ := va_Tof (tm := tmT) (ty := .int) (N := 3) (f := fun j => .int (tell j)) (by decide) (hs (.arrayOf tmT .int) (by decide +kernel)) hlen (fun j hj => by
    match j, hj with
    | 0, _ => exact e0
    | 1, _ => exact e1
    | 2, _ => exact e2
    | j + 3, hj => exact absurd hj (by omega)) hA
  have hsz : cell.slots.size = 3 := by
    obtain ⟨tv', cell', ht', hat, -⟩ := Term.length_spec hlen
    cases hev.symm.trans ht'
    obtain ⟨hc', -, -, -⟩ := State.arrayAt?_spec hat
    cases h1.symm.trans hc'
    have hlt : cell.slots.size < 2 ^ 31 := len_lt ht' hat hlen
    have e : Int32.ofNat cell.slots.size = Int32.ofNat 3 := h5
    exact (nI_eq hlt (by omega)).mp e
  have hZ : va_Z RX1 "TELLING_VALUES" "[I" (.ref tv) (NA s.heap.size s.heap.size) s s.heap := va_Zof (hts _ (ltb2 (List.mem_of_getElem? (i := 197) rfl))) (hts _ (ltb1 (List.mem_of_getElem? (i := 2) rfl))) hev hA
  refine ⟨⟨tv, hZ, h7, (Array.getElem?_eq_some_iff.mp h1).1, cell, h1, h2, h3, hsz, fun j hj => h6 j hj⟩, ?_, ?_, fun q hq => ?_, fun q hq => ?_, fun q hq => ?_, fun q hq => ?_⟩
  · exact vx_Zqof (hts _ (ltb2 (List.mem_of_getElem? (i := 55) rfl))) (hts _ (ltb1 (List.mem_of_getElem? (i := 9) rfl))) (hs _ (by decide +kernel)) hA
  · exact vx_Zqof (hts _ (ltb2 (List.mem_of_getElem? (i := 57) rfl))) (hts _ (ltb1 (List.mem_of_getElem? (i := 9) rfl))) (hs _ (by decide +kernel)) hA
  · obtain ⟨a, -, -, -, ha, -⟩ := Cond.exactly_spec (hs _ (st_ex q hq))
    exact ⟨a, vk_R.of (hts _ (st_tabs (st_ref q hq))) ha⟩
  · exact va_Nw.of rfl (hts _ (st_tabs (st_ca q hq)))
  · exact va_Nc.of (hs _ (st_nc q hq))
  · exact va_Nw.of rfl (hts _ (st_tabs (st_dc q hq)))
theorem ty_0 {b : Nat} {s : State} (hts : ∀ w ∈ lw_tbl, w.before #[Value.ref b] s = true) : ∃ t : Ty3, ∀ (k : Nat) (q : ClassId × FieldType), (tyl t)[k]? = some q → ArrOfT s q.1 q.2 ∧ va_RA s q.1 q.2 := by
  obtain ⟨c1, k1, m1, a1, a2, a3⟩ := Cond.arrayClass_spec (hts (.arrayClass .int) (ltb1 (List.mem_of_getElem? (i := 52) rfl)))
  obtain ⟨c2, k2, m2, b1, b2, b3⟩ := Cond.arrayClass_spec (hts (.arrayClass .long) (ltb1 (List.mem_of_getElem? (i := 51) rfl)))
  obtain ⟨m3, c3, k3, d1, -, d3, d4, d5⟩ := Cond.arrayOver_spec (hts (.arrayOver (.object "TypeKernel$Row")) (ltb1 (List.mem_of_getElem? (i := 198) rfl)))
  refine ⟨(c1, c2, c3), fun k q hq => ?_⟩
  match k, hq with
  | 0, hq => cases hq; exact ⟨fun n z => ⟨fun k h => (by cases h), k1, a2, m1, a3⟩, a1⟩
  | 1, hq => cases hq; exact ⟨fun n z => ⟨fun k h => (by cases h), k2, b2, m2, b3⟩, b1⟩
  | 2, hq => cases hq; exact ⟨fun n z => ⟨fun k h => (by cases h), k3, d3, m3, d4⟩, k3, m3, d3, d4, d1, d5⟩
  | k + 3, hq => simp [tyl] at hq
theorem cl_0 {args : Array Value} {s : State} (hts : ∀ w ∈ TB, w.before args s = true) : ∃ (dC : Nat → ClassId) (dI : Nat → Nat → Nat), ∀ (k : Nat) (q : vw_C), vwCl[k]? = some q → u_Kn s q.1 q.2.1 q.2.2 (dC k) (dI k) := by
  obtain ⟨c0, i0, h0⟩ := u_known hts in_X1 (hts _ wb_X1)
  obtain ⟨c1, i1, h1⟩ := u_known hts in_X2 (hts _ wb_X2)
  obtain ⟨c2, i2, h2⟩ := u_known hts in_X3 (hts _ wb_X3)
  obtain ⟨c3, i3, h3⟩ := u_known hts in_X4 (hts _ wb_X4)
  obtain ⟨c4, i4, h4⟩ := u_known hts in_X5 (hts _ wb_X5)
  obtain ⟨c5, i5, h5⟩ := u_known hts in_X6 (hts _ wb_X6)
  obtain ⟨c6, i6, h6⟩ := u_known hts in_X7 (hts _ wb_X7)
  obtain ⟨c7, i7, h7⟩ := u_known hts in_X8 (hts _ wb_X8)
  refine ⟨fun k => if k = 0 then c0 else if k = 1 then c1 else if k = 2 then c2 else if k = 3 then c3 else if k = 4 then c4 else if k = 5 then c5 else if k = 6 then c6 else c7, fun k => if k = 0 then i0 else if k = 1 then i1 else if k = 2 then i2 else if k = 3 then i3 else if k = 4 then i4 else if k = 5 then i5 else if k = 6 then i6 else i7, fun k q hq => ?_⟩
  match k, hq with
  | 0, hq => cases hq; exact h0
  | 1, hq => cases hq; exact h1
  | 2, hq => cases hq; exact h2
  | 3, hq => cases hq; exact h3
  | 4, hq => cases hq; exact h4
  | 5, hq => cases hq; exact h5
  | 6, hq => cases hq; exact h6
  | 7, hq => cases hq; exact h7
  | k + 8, hq => simp [vwCl] at hq
set_option maxRecDepth 100000 in
set_option maxHeartbeats 4000000 in
theorem law_head {x : XC} {h b : Nat} (hx : CN x h code 7 RL) (hR : x_R x = room_1) (kk : ∀ (q1 q2 q3 : Nat) (b1 b2 : AA), WN x h 7 695 1672784 (X7W (x_t x) q1 b1.1 b1.2 ++ X8W (x_t x) q2 b2.1 ++ [(q3, eL (x_t x) 1 (fun _ => 0))]) 23 [(4, .int 0), (3, .ref q3), (2, .ref q2), (1, .ref q1), (0, .ref b)] []) : WN x h 7 0 0 [] 0 [(0, .ref b)] [] := by
  refine n_new (C := RX7) (T := TX7) (N := 7) (ci := 6) (fs := [.null, .null, .null, .null, .null, .null, .null]) (ty := tyX7) hx rfl in_X7 tyX7_ok wa_L_8 wb_X7 wn_X7 df_X7 (by rw [hR]; decide) (by rw [hR]; decide) dL_law_0 (fun q1 => ?_)
  refine n_dup hx dL_law_3 ?_
  refine n_call (pre := []) (q := q1) (As := []) (rest := [.ref q1]) (n := 0) hx N_X7 wl_L_68 wi_X7_init wn_X7 wc_X7_init rfl (by decide +kernel) rfl (by rw [hR]; exact ⟨by decide +kernel, rfl, rfl, by decide +kernel, by decide +kernel⟩) rfl (Nat.le_of_ble_eq_true rfl) dL_law_4 (fun b1 => ?_)
  refine n_astore_n (lv' := [(1, .ref q1), (0, .ref b)]) hx dL_law_7 rfl (by decide) rfl ?_
  show WN x h 7 665 118323 (X7W (x_t x) q1 b1.1 b1.2) 8 [(1, .ref q1), (0, .ref b)] []
  refine n_new (C := RX8) (T := TX8) (N := 40) (ci := 7) (fs := FS8) (ty := tyX8) hx rfl in_X8 tyX8_ok wa_L_69 wb_X8 wn_X8 df_X8 (by rw [hR]; decide) (by rw [hR]; decide) dL_law_8 (fun q2 => ?_)
  refine n_dup hx dL_law_11 ?_
  refine n_call (pre := X7W (x_t x) q1 b1.1 b1.2) (q := q2) (As := []) (rest := [.ref q2]) (n := 0) hx N_X8 wl_L_71 wi_X8_init wn_X8 wc_X8_init rfl (by decide +kernel) rfl (by rw [hR]; exact ⟨by decide +kernel, rfl, rfl, by decide +kernel, by decide +kernel⟩) rfl (Nat.le_of_ble_eq_true rfl) dL_law_12 (fun b2 => ?_)
  refine n_astore_n (lv' := [(2, .ref q2), (1, .ref q1), (0, .ref b)]) hx dL_law_15 rfl (by decide) rfl ?_
  refine n_iconst (v := 1) hx dL_law_16 (by decide) ?_
  refine n_newl (N := 1) hx (by decide) (by decide +kernel) (by decide +kernel) (by rw [hR]; decide) (by rw [hR]; decide) dL_law_17 (fun q3 => ?_)
  refine n_astore_n (lv' := [(3, .ref q3), (2, .ref q2), (1, .ref q1), (0, .ref b)]) hx dL_law_19 rfl (by decide) rfl ?_
  refine n_iconst (v := 0) hx dL_law_20 (by decide) ?_
  refine n_istore (lv' := [(4, .int 0), (3, .ref q3), (2, .ref q2), (1, .ref q1), (0, .ref b)]) hx dL_law_21 (by decide) rfl ?_
  exact kk q1 q2 q3 b1 b2
/-! the claim out of one walk of the law's body -/
def R_law : String := "TypeKernelLaw"
def lw_P (b : Addr) (xs : List Int32) (args : Array Value) (s : State) : Prop := args = #[.ref b] ∧ s.IntsAt b xs ∧ xs.length ≤ 2560 ∧ (Jvm.Cond.and given_1 narrow_1).before args s = true
def lw_Q (_ : Array Value) (s : State) (o : Outcome) (t : State) : Prop := o = .returned (some (.int 1)) ∧ Framed s o t [] 601024 7293034
def lw_Z (below : List Frame) (a : Array Value) (s : State) : State → Prop := fun t => ∃ o, t.status = .running ∧ Ended t below o ∧ lw_Q a s o t
theorem lw_ret {p : Program} {l : Launch} {e : Env} {s : State} {m : MethodId} {below : List Frame} {meth : Method} {c : Code} {b : Nat} (hx : p.tables.exec = Jvm.exec) (hb : c.code = code) (hr : meth.sig.returnType = ret) (hlocks : meth.locks = false) {pc : Nat} {H : Heap} {ls : Array Slot} (hdg : decode code pc = .ok (.ireturn, 1)) : W p l e room_1 s m #[Value.ref b] below meth c H [] 601024 7293034 (lw_Z below #[Value.ref b] s) (F0 m pc ls [.int 1]) := by
  intro T hT X
  obtain ⟨fs, hret, hrun, hended, hW, hframe⟩ := X.leave (v := some (.int 1)) (hlocks := hlocks) (fun h => by rw [hr] at h; cases h)
  have hmeth' : T.vm.method? m = some meth := X.method'
  refine ⟨T.setFrames fs, ?_, .returned (some (.int 1)), hrun, hended, rfl, ⟨_, rfl⟩, hW, hframe⟩
  jvm_step X.here [X.here.top, hx, hb, hdg, hmeth', hr, ret, narrow_b1]
  (try refine ⟨rfl, ?_⟩); (try refine ⟨rfl, ?_⟩)
  first | (intro acts; rw [hret _ acts rfl rfl rfl]) | rw [hret _ _ rfl rfl rfl]
  exact Steps.refl _
def lw_At (p : Program) (s : State) (m : MethodId) (meth : Method) (c : Code) (b L : Nat) (xs : Nat → Int32) : Prop :=
  p.tables.exec = Jvm.exec ∧ c.code = code ∧ meth.sig.returnType = ret ∧ c.maxLocals = 7 ∧ s.vm.findClass R_law = some m.cls ∧ (∀ w ∈ lw_tbl, w.before #[Value.ref b] s = true) ∧ va_X b L xs s s.heap ∧ b < s.heap.size ∧ meth.locks = false ∧ (Jvm.Cond.and given_1 narrow_1).before #[Value.ref b] s = true
theorem whole_start {p : Program} {e : Env} {s : State} {m : MethodId} {below : List Frame} {meth : Method} {c : Code} (l : Launch) (hst : l.stackTraces = false) {b L : Nat} {xs : Nat → Int32} (hL : L ≤ 2560) (C0 : lw_At p s m meth c b L xs) : W p l e room_1 s m #[Value.ref b] below meth c s.heap [] 0 0 (lw_Z below #[Value.ref b] s) (entryFrame m ([Value.ref b] : List Value).toArray 7) := by
  obtain ⟨hx, hb, hr, hml, hown, hts, hX, hbl, hlocks, hgv⟩ := C0
  have hTB := TB_of hts
  obtain ⟨t, ht⟩ := ty_0 hts
  obtain ⟨dC, dI, hKc⟩ := cl_0 hTB
  have hRO := RO_0 hts hgv
  have hAO : va_AO RX4 s := va_AO.of (hts (.arrayOver (.object "TypeKernel$Row")) (ltb1 (List.mem_of_getElem? (i := 198) rfl)))
  have hl := lv_entry ([.ref b]) (n := 7) (Nat.le_of_ble_eq_true rfl)
  rw [lg_entry_eq]
  generalize (lg_sl ([.ref b]) ++ List.replicate (7 - (lg_sl ([.ref b])).length) Slot.unset).toArray = ls at hl ⊢
  have hl : lv_has ls 7 [(0, .ref b)] := hl
  have hN : CN (p, l, e, room_1, s, m, #[Value.ref b], below, meth, c, lw_Z below #[Value.ref b] s, (dC, dI), (fun _ _ _ => 0), t, []) s.heap.size code 7 RL := ⟨hx, hb, hml, hown, hTB, ⟨hKc, ht⟩, hRO, hAO⟩
  refine law_head (b := b) hN rfl (fun q1 q2 q3 b1 b2 => ?_) s.heap [] ls hl (fun k q h => by simp at h) ⟨fun i j p q h => by simp at h, fun k q h => by simp at h⟩ va_S.rf
  intro H locs ls hl hP hD hS
  have hP : va_P (dC, dI) vwCl (X7W t q1 b1.1 b1.2 ++ X8W t q2 b2.1 ++ [(q3, eL t 1 (fun _ => 0))]) H := hP
  have hD : va_D (NA s.heap.size s.heap.size) (X7W t q1 b1.1 b1.2 ++ X8W t q2 b2.1 ++ [(q3, eL t 1 (fun _ => 0))]) := hD
  have hS : va_S (NA s.heap.size s.heap.size) s.heap H locs := hS
  rw [← wl_G] at hP hD
  have hA : ∀ q, AW (adF q1 q2 q3 b1.1 b1.2 b2.1) KLw s.heap.size q → s.heap.size ≤ q := fun q hq => NA_new (AW_G (fun _ h => Or.inr h) hD hq)
  have hLX : LX (p, l, e, room_1, s, m, #[Value.ref b], below, meth, c, lw_Z below #[Value.ref b] s, (dC, dI), adF q1 q2 q3 b1.1 b1.2 b2.1, t, KLw) b L xs :=
    ⟨⟨hx, hb, hml, hown, hTB, ⟨hKc, ht⟩, KD_G hD, hRO.narrow (fun q hq => Or.inr (hA q hq))⟩, rfl, rfl, hst, hX, hbl, fun hq => absurd (hA b hq) (by omega), hL⟩
  have hLE : LE (p, l, e, room_1, s, m, #[Value.ref b], below, meth, c, lw_Z below #[Value.ref b] s, (dC, dI), adF q1 q2 q3 b1.1 b1.2 b2.1, t, KLw) := fun kc ks S lv h1 h2 H1 locs1 ls1 _ _ hS1 =>
    va_forget (fun q hq => hA _ (hS1.2.2 q hq)) (W.widen h1 h2 (lw_ret hx hb hr hlocks dL_law_1286))
  exact law_loop hLX hLE 512 0 695 1672784 (by omega) (by omega) (by omega) (by omega) SC0 SM0 (fun _ => 0) _ _ INV_0 H locs ls (lv_sub hl [4, 3, 2, 1, 0] rfl) (P_G hP) ⟨hS.1, fun q hq _ => hS.2.1 q hq (NA_old hq), fun q hq => Or.inr (NA_new (hS.2.2 q hq))⟩
