/-- by which name a number tells an exception: 1, 2, 3 -/
def exn (c : Int32) : String := if c = 1 then "java/lang/IllegalArgumentException" else if c = 2 then "java/lang/IndexOutOfBoundsException" else "java/lang/UnsupportedOperationException"
abbrev XO3 : Type := St × Int32 × Int32
/-- contracts of methods that may throw: the second of out is 0 where the method returns -/
def MXI (c : YC) (y : MethodName) (cc : ByteArray) (ml : Nat) (ret : Option FieldType) (rm : Room) (mc ms : Nat) (S : St) (av : List Value) (out : XO3) : Prop := ∀ sz, vx_Met c.1 y (wsO y cc ml ret) rm (va_Pc av (PW c S sz)) (va_Qi (fun r (_ : Unit) => out.2.1 = 0 ∧ r = out.2.2) (fun _ u => va_P c.2.1 vwCl (y_W c out.1) u.heap) (AW c.2.2.1 c.2.2.2.2 sz)) (vx_X (fun (_ : Unit) => ¬ out.2.1 = 0) (fun E _ u => E = exn out.2.1 ∧ va_P c.2.1 vwCl (y_W c out.1) u.heap) (AW c.2.2.1 c.2.2.2.2 sz)) mc ms (AW c.2.2.1 c.2.2.2.2 sz)
def MXV (c : YC) (y : MethodName) (cc : ByteArray) (ml : Nat) (ret : Option FieldType) (rm : Room) (mc ms : Nat) (S : St) (av : List Value) (out : XO3) : Prop := ∀ sz, vx_Met c.1 y (wsO y cc ml ret) rm (va_Pc av (PW c S sz)) (va_Qv (fun (_ : Unit) => out.2.1 = 0) (fun _ u => va_P c.2.1 vwCl (y_W c out.1) u.heap) (AW c.2.2.1 c.2.2.2.2 sz)) (vx_X (fun (_ : Unit) => ¬ out.2.1 = 0) (fun E _ u => E = exn out.2.1 ∧ va_P c.2.1 vwCl (y_W c out.1) u.heap) (AW c.2.2.1 c.2.2.2.2 sz)) mc ms (AW c.2.2.1 c.2.2.2.2 sz)
def x_QI (x : XC) (out : XO3) : Array Value → State → Outcome → State → Prop := va_Qi (fun r (_ : Unit) => out.2.1 = 0 ∧ r = out.2.2) (fun _ u => va_P (x_D x) vwCl (wl (x_ad x) (x_t x) (x_K x) out.1) u.heap) (x_A x)
def x_QV (x : XC) (out : XO3) : Array Value → State → Outcome → State → Prop := va_Qv (fun (_ : Unit) => out.2.1 = 0) (fun _ u => va_P (x_D x) vwCl (wl (x_ad x) (x_t x) (x_K x) out.1) u.heap) (x_A x)
def x_XO (x : XC) (out : XO3) : String → State → State → Prop := vx_X (fun (_ : Unit) => ¬ out.2.1 = 0) (fun E _ u => E = exn out.2.1 ∧ va_P (x_D x) vwCl (wl (x_ad x) (x_t x) (x_K x) out.1) u.heap) (x_A x)
/-- what is owed at the end of a method that may throw -/
def XE (x : XC) (Qc : Array Value → State → Outcome → State → Prop) (mc ms : Nat) (out : XO3) : Prop := x_Q x = vx_MQ (x_b x) Qc (x_XO x out) (x_a x) (x_s x) mc ms (x_A x) ∧ (∀ z ∈ (x_c x).exceptionTable.toList, False) ∧ (x_me x).locks = false ∧ (x_l x).stackTraces = false
abbrev XEI (x : XC) (ret : FieldType) (mc ms : Nat) (out : XO3) : Prop := XE x (x_QI x out) mc ms out ∧ (x_me x).sig.returnType = some ret
abbrev XEV (x : XC) (mc ms : Nat) (out : XO3) : Prop := XE x (x_QV x out) mc ms out ∧ (x_me x).sig.returnType = none
section TH
variable {x : XC} {nL kc ks mc ms : Nat} {S S1 : St} {pc : Nat} {lv : List (Nat × Value)} {st rest As : List Value} {cc cy : ByteArray} {own C : String} {ci j idx ml n : Nat} {y : MethodName} {ret : Option FieldType} {rm : Room} {T : u_T} {N : Nat} {Qc : Array Value → State → Outcome → State → Prop}
theorem r_xiret (hx : CX x cc nL own) {v : Int32} {out : XO3} (hE : XEI x .int mc ms out) (hk : kc ≤ mc ∧ ks ≤ ms) (h : some (S, 0, v) = some out) (hd : decode cc pc = .ok (.ireturn, 1)) : WX x nL kc ks S pc lv [.int v] := by
  cases h
  intro H locs ls hl hP hS
  obtain ⟨⟨hQ, -, hlocks, -⟩, hr⟩ := hE
  rw [hQ]
  exact vx_ret (W.widen hk.1 hk.2 (W.iret hx.1 hx.2.1 hr (fun t ht _ => ⟨⟨v, (), rfl, ⟨rfl, rfl⟩, by subst ht; exact hP⟩, hS.F ht⟩) hS.2.2 hd))
theorem r_xzret (hx : CX x cc nL own) {v : Int32} {out : XO3} (hE : XEI x .boolean mc ms out) (hk : kc ≤ mc ∧ ks ≤ ms) (hz : v = 0 ∨ v = 1) (h : some (S, 0, v) = some out) (hd : decode cc pc = .ok (.ireturn, 1)) : WX x nL kc ks S pc lv [.int v] := by
  cases h
  intro H locs ls hl hP hS
  obtain ⟨⟨hQ, -, hlocks, -⟩, hr⟩ := hE
  rw [hQ]
  exact vx_ret (W.widen hk.1 hk.2 (W.zret hx.1 hx.2.1 hr (narrow_z hz) (fun t ht _ => ⟨⟨v, (), rfl, ⟨rfl, rfl⟩, by subst ht; exact hP⟩, hS.F ht⟩) hS.2.2 hd))
theorem r_xvret (hx : CX x cc nL own) {out : XO3} (hE : XEV x mc ms out) (hk : kc ≤ mc ∧ ks ≤ ms) (h : some (S, 0, 0) = some out) (hd : decode cc pc = .ok (.return_, 1)) : WX x nL kc ks S pc lv [] := by
  cases h
  intro H locs ls hl hP hS
  obtain ⟨⟨hQ, -, hlocks, -⟩, hr⟩ := hE
  rw [hQ]
  exact vx_ret (W.widen hk.1 hk.2 (W.vret hx.1 hx.2.1 hr (fun t ht _ => ⟨⟨(), rfl, rfl, by subst ht; exact hP⟩, hS.F ht⟩) hS.2.2 hd))
abbrev atB (cls : String) : List Cond := [Cond.castable cls cls, .declares (Bundle.initS "java/lang/RuntimeException"), .declares (Bundle.initS "java/lang/Exception"), .declares (Bundle.initS Bundle.tN)]
theorem atS_ok (hx : CX x cc nL own) {cls : String} {ic : Nat} {names : List String} (hw : ∀ w ∈ (vx_atS own ic cls names).filter goodWord, w ∈ lw_tbl) (hb : ∀ w ∈ (vx_atS own ic cls names).filter (fun w => !goodWord w), w ∈ atB cls) (hc : cls ∈ xcs) : ∀ w ∈ vx_atS own ic cls names, w.before (x_a x) (x_s x) = true := by
  obtain ⟨-, -, -, -, h8, -, h10⟩ := hx.2.2.2.2.2.2.2
  refine vx_hat (B := atB cls) (fun w hw9 => hx.2.2.2.2.1 w (List.mem_filter.mpr ⟨hw w hw9, (List.mem_filter.mp hw9).2⟩)) hb (vx_c ?_ (vx_c ?_ (vx_c ?_ (vx_c ?_ vx_n))))
  · exact va_tabs (u := x_s x) (U := x_s x) rfl rfl (h8 cls hc)
  · exact va_Nw.use rfl (h10 _ (by simp [dcs]))
  · exact va_Nw.use rfl (h10 _ (by simp [dcs]))
  · exact va_Nw.use rfl (h10 _ (by simp [dcs]))
/-- throw new E("text") -/
theorem r_throw (hx : CX x cc nL own) {code : Int32} {out : XO3} {ik is ic : Nat} {text : String} {names : List String} (hE : XE x Qc mc ms out) (hk : kc + 1 ≤ mc ∧ ks + 6 ≤ ms) (hc0 : ¬ code = 0) (h : some (S, code, 0) = some out) (hfit : Bundle.fit (exn code) = true) (hnames : ∀ n ∈ names, Bundle.fit n = true) (w1 : Cond.classLink own ik (exn code) ∈ TB) (w2 : Cond.initialized (exn code) ∈ TB) (hs : (own, is, text) ∈ strs)
    (hat : ∀ w ∈ vx_atS own ic (exn code) names, w.before (x_a x) (x_s x) = true) (hgood : ∀ w ∈ Cond.classLink own ik (exn code) :: Cond.initialized (exn code) :: vx_atS own ic (exn code) names, vx_ot w = true)
    (d0 : decode cc pc = .ok (.new ik, 3)) (d3 : decode cc (pc + 3) = .ok (.dup, 1)) (d4 : decode cc (pc + 4) = .ok (.ldc is, 2)) (d6 : decode cc (pc + 6) = .ok (.invokespecial ic, 3)) (d9 : decode cc (pc + 9) = .ok (.athrow, 1)) (hR : names.length + 3 < (x_R x).frames ∧ (st.map fun v => v.category).sum + (13 * (names.length + 1) + 43) ≤ (x_R x).locals ∧ (x_R x).cells = mc ∧ (x_R x).slots = ms) : WX x nL kc ks S pc lv st := by
  cases h
  intro H locs ls hl hP hS
  obtain ⟨hQ, htab, hlocks, hl9⟩ := hE
  obtain ⟨-, hU, hN, hst, -⟩ := hx.2.2.2.2.2.2.2
  obtain ⟨sa, hsa⟩ := hst _ hs
  rw [hQ]
  have ht := hx.2.2.2.2.1
  refine vx_throwS (A := x_A x) (sa := sa) (text := text) hx.1 hx.2.1 hl9 hx.2.2.2.1 hfit hnames (ht _ w1) (ht _ w2) hsa hat hgood hU hN hS (hl.1.trans hx.2.2.1.symm) d0 d3 d4 d6 d9 (fun z hz => (htab z hz).elim) hR.1 hR.2.1 (by rw [hR.2.2.1]; exact hk.1) (by rw [hR.2.2.2]; exact hk.2) hlocks (fun t _ h1 h2 => ?_) hS.2.2 hk.1 hk.2
  refine ⟨(), hc0, ⟨rfl, ?_⟩, ?_⟩
  · exact hP.kept (fun k q hq => h2 _ (hP k q hq).lt)
  · exact ⟨Nat.le_trans hS.1 h1, fun q h3 h4 => (h2 q (Nat.lt_of_lt_of_le h3 hS.1)).trans (hS.2.1 q h3 h4)⟩
theorem r_throwW (hx : CX x cc nL own) {code : Int32} {out : XO3} {ik is ic : Nat} {text : String} {names : List String} (hE : XE x Qc mc ms out) (hk : kc + 1 ≤ mc ∧ ks + 6 ≤ ms) (hc0 : ¬ code = 0) (h : some (S, code, 0) = some out) (hfit : Bundle.fit (exn code) = true) (hnames : ∀ n ∈ names, Bundle.fit n = true) (w1 : Cond.classLink own ik (exn code) ∈ TB) (w2 : Cond.initialized (exn code) ∈ TB) (hs : (own, is, text) ∈ strs)
    (hat : ∀ w ∈ vx_atS own ic (exn code) names, w.before (x_a x) (x_s x) = true) (hgood : ∀ w ∈ Cond.classLink own ik (exn code) :: Cond.initialized (exn code) :: vx_atS own ic (exn code) names, vx_ot w = true)
    (d0 : decode cc pc = .ok (.new ik, 3)) (d3 : decode cc (pc + 3) = .ok (.dup, 1)) (d4 : decode cc (pc + 4) = .ok (.ldc_w is, 3)) (d7 : decode cc (pc + 7) = .ok (.invokespecial ic, 3)) (d10 : decode cc (pc + 10) = .ok (.athrow, 1)) (hR : names.length + 3 < (x_R x).frames ∧ (st.map fun v => v.category).sum + (13 * (names.length + 1) + 43) ≤ (x_R x).locals ∧ (x_R x).cells = mc ∧ (x_R x).slots = ms) : WX x nL kc ks S pc lv st := by
  cases h
  intro H locs ls hl hP hS
  obtain ⟨hQ, htab, hlocks, hl9⟩ := hE
  obtain ⟨-, hU, hN, hst, -⟩ := hx.2.2.2.2.2.2.2
  obtain ⟨sa, hsa⟩ := hst _ hs
  rw [hQ]
  have ht := hx.2.2.2.2.1
  refine vx_throwSW (A := x_A x) (sa := sa) (text := text) hx.1 hx.2.1 hl9 hx.2.2.2.1 hfit hnames (ht _ w1) (ht _ w2) hsa hat hgood hU hN hS (hl.1.trans hx.2.2.1.symm) d0 d3 d4 d7 d10 (fun z hz => (htab z hz).elim) hR.1 hR.2.1 (by rw [hR.2.2.1]; exact hk.1) (by rw [hR.2.2.2]; exact hk.2) hlocks (fun t _ h1 h2 => ?_) hS.2.2 hk.1 hk.2
  refine ⟨(), hc0, ⟨rfl, ?_⟩, ?_⟩
  · exact hP.kept (fun k q hq => h2 _ (hP k q hq).lt)
  · exact ⟨Nat.le_trans hS.1 h1, fun q h3 h4 => (h2 q (Nat.lt_of_lt_of_le h3 hS.1)).trans (hS.2.1 q h3 h4)⟩
abbrev RX9 (R rm : Room) (ml kc ks mc ms : Nat) : Prop := (rm.frames + 1 ≤ R.frames ∧ 8 + (ml + 11) + rm.locals ≤ R.locals) ∧ rm.cells = mc ∧ rm.slots = ms ∧ kc + mc ≤ R.cells ∧ ks + ms ≤ R.slots
/-- a call of a method that may throw; what it throws goes on to the caller -/
theorem r_XV (hx : CX x cc nL own) {S9 : St} {t9 v9 : Int32} {out : XO3} {m9 s9 : Nat} (hE : XE x Qc mc ms out) (hM : MXV (x_y x) y cy ml ret rm m9 s9 S (.ref (x_ad x 0 ci j) :: As) (S9, t9, v9)) (hk : (0, ci, j) ∈ x_K x) (hc : vwCl[ci]? = some (C, T, N)) (w1 : Cond.methodLink own idx y ∈ TB) (w2 : Cond.instanceMethod y ∈ TB) (w3 : Cond.selects C y y ∈ TB) (w4 : Cond.initialized y.cls ∈ TB) (w5 : Cond.code y cy ml ret ∈ TB) (hdy : DY y n) (hn : As.length = n) (hR : RX9 (x_R x) rm ml kc ks m9 s9) (hm : kc + m9 ≤ mc ∧ ks + s9 ≤ ms) (hst : st = As.reverse ++ .ref (x_ad x 0 ci j) :: rest) (hW : (rest.map fun v => v.category).sum ≤ 8) (hd : decode cc pc = .ok (.invokevirtual idx, 3))
    (hthr : ¬ t9 = 0 → (S9, t9, (0 : Int32)) = out) (kk : t9 = 0 → WX x nL (kc + m9) (ks + s9) S9 (pc + 3) lv rest) : WX x nL kc ks S pc lv st := by
  intro H locs ls hl hP hS
  subst hst
  have ht := hx.2.2.2.2.1
  obtain ⟨q0, hq⟩ := wl_at hk
  refine vx_callv (vx_runV (C := C) (As := As) (rest := rest) ⟨hx.1, hx.2.1, hx.2.2.1, hx.2.2.2.1, ht⟩ (hM H.size) ⟨callB_of n ht (good_O w5) rfl hR.2.1 hR.2.2.1 (ht _ w4) (ht _ w1) hdy hR.1, ht _ w2, ht _ w3⟩ ⟨PW.blind, va_recv hx.2.2.2.2.2.1 hP hc (wl_of hq), fun U hU hW => ⟨rfl, PW.of hx hP hS hU hW⟩⟩ rfl hn hl.1 rfl (lv_room hW) hd ⟨hR.2.2.2.1, hR.2.2.2.2⟩) hS (fun q _ h => AW.up hS.1 h) (fun q h => AW.up hS.1 h) (fun q _ h => AW.up hS.1 h) (fun E ce q9 u t8 H1 locs1 ht9 hvm hp hB hz hk1 hS1 hc1 hc2 hc3 => ?_) (fun u t8 H1 locs1 ht9 hvm hp hB hz hk1 hS1 => ?_)
  · obtain ⟨hQ, htab, hlocks, hl9⟩ := hE
    have ho := hthr hp
    subst ho
    rw [hQ]
    refine vx_widen hm.1 hm.2 (vx_out (fun z hz => (htab z hz).elim) hlocks hc1 hc2 hc3 (fun t ht1 _ => ⟨(), hp, ⟨hB.1, by rw [ht1, ← ht9]; exact hB.2⟩, hS1.F ht1⟩) hS1.2.2 (Nat.le_refl _) (Nat.le_refl _))
  · exact kk hp H1 locs1 ls hl (by rw [← ht9]; exact hB) hS1
theorem r_XI (hx : CX x cc nL own) {S9 : St} {t9 v9 : Int32} {out : XO3} {m9 s9 : Nat} (hE : XE x Qc mc ms out) (hM : MXI (x_y x) y cy ml ret rm m9 s9 S (.ref (x_ad x 0 ci j) :: As) (S9, t9, v9)) (hk : (0, ci, j) ∈ x_K x) (hc : vwCl[ci]? = some (C, T, N)) (w1 : Cond.methodLink own idx y ∈ TB) (w2 : Cond.instanceMethod y ∈ TB) (w3 : Cond.selects C y y ∈ TB) (w4 : Cond.initialized y.cls ∈ TB) (w5 : Cond.code y cy ml ret ∈ TB) (hdy : DY y n) (hn : As.length = n) (hR : RX9 (x_R x) rm ml kc ks m9 s9) (hm : kc + m9 ≤ mc ∧ ks + s9 ≤ ms) (hst : st = As.reverse ++ .ref (x_ad x 0 ci j) :: rest) (hW : (rest.map fun v => v.category).sum ≤ 8) (hd : decode cc pc = .ok (.invokevirtual idx, 3))
    (hthr : ¬ t9 = 0 → (S9, t9, (0 : Int32)) = out) (kk : t9 = 0 → WX x nL (kc + m9) (ks + s9) S9 (pc + 3) lv (.int v9 :: rest)) : WX x nL kc ks S pc lv st := by
  intro H locs ls hl hP hS
  subst hst
  have ht := hx.2.2.2.2.1
  obtain ⟨q0, hq⟩ := wl_at hk
  refine vx_calli (vx_runV (C := C) (As := As) (rest := rest) ⟨hx.1, hx.2.1, hx.2.2.1, hx.2.2.2.1, ht⟩ (hM H.size) ⟨callB_of n ht (good_O w5) rfl hR.2.1 hR.2.2.1 (ht _ w4) (ht _ w1) hdy hR.1, ht _ w2, ht _ w3⟩ ⟨PW.blind, va_recv hx.2.2.2.2.2.1 hP hc (wl_of hq), fun U hU hW => ⟨rfl, PW.of hx hP hS hU hW⟩⟩ rfl hn hl.1 rfl (lv_room hW) hd ⟨hR.2.2.2.1, hR.2.2.2.2⟩) hS (fun q _ h => AW.up hS.1 h) (fun q h => AW.up hS.1 h) (fun q _ h => AW.up hS.1 h) (fun E ce q9 u t8 H1 locs1 ht9 hvm hp hB hz hk1 hS1 hc1 hc2 hc3 => ?_) (fun r u t8 H1 locs1 ht9 hvm hp hB hz hk1 hS1 => ?_)
  · obtain ⟨hQ, htab, hlocks, hl9⟩ := hE
    have ho := hthr hp
    subst ho
    rw [hQ]
    refine vx_widen hm.1 hm.2 (vx_out (fun z hz => (htab z hz).elim) hlocks hc1 hc2 hc3 (fun t ht1 _ => ⟨(), hp, ⟨hB.1, by rw [ht1, ← ht9]; exact hB.2⟩, hS1.F ht1⟩) hS1.2.2 (Nat.le_refl _) (Nat.le_refl _))
  · obtain ⟨hp1, hp2⟩ := hp
    subst hp2
    exact kk hp1 H1 locs1 ls hl (by rw [← ht9]; exact hB) hS1
theorem WX.widen {k9 n9 : Nat} (h1 : kc ≤ k9) (h2 : ks ≤ n9) (k : WX x nL k9 n9 S pc lv st) : WX x nL kc ks S pc lv st := fun H locs ls hl hP hS => W.widen h1 h2 (k H locs ls hl hP hS)
end TH
/-- the bind of what may throw -/
def bX (p : Option XO3) (k : St → Int32 → Option XO3) : Option XO3 := match p with
  | none => none
  | some q => if q.2.1 = 0 then k q.1 q.2.2 else some (q.1, q.2.1, 0)
theorem bX_some {p : Option XO3} {k : St → Int32 → Option XO3} {o : XO3} (h : bX p k = some o) : ∃ (S : St) (t v : Int32), p = some (S, t, v) ∧ (¬ t = 0 → (S, t, (0 : Int32)) = o) ∧ (t = 0 → k S v = some o) := by
  cases p with
  | none => cases h
  | some q =>
    refine ⟨q.1, q.2.1, q.2.2, rfl, fun hc => ?_, fun hc => ?_⟩
    · unfold bX at h
      dsimp only at h
      rw [if_neg hc] at h
      exact Option.some.inj h
    · unfold bX at h
      dsimp only at h
      rw [if_pos hc] at h
      exact h
def zX (S : St) (v : Int32) : Option XO3 := if v = 0 ∨ v = 1 then some (S, 0, v) else none
theorem zX_some {S : St} {v : Int32} {o : XO3} (h : zX S v = some o) : (v = 0 ∨ v = 1) ∧ some (S, (0 : Int32), v) = some o := by
  unfold zX at h
  split at h
  · exact ⟨by assumption, h⟩
  · cases h
theorem exn_1 : exn 1 = "java/lang/IllegalArgumentException" := by decide +kernel
theorem exn_2 : exn 2 = "java/lang/IndexOutOfBoundsException" := by decide +kernel
theorem exn_3 : exn 3 = "java/lang/UnsupportedOperationException" := by decide +kernel
abbrev nms : List String := ["java/lang/RuntimeException", "java/lang/Exception"]
theorem mk_XI {c : YC} {y : MethodName} {cc : ByteArray} {ml mc ms : Nat} {rm : Room} {S : St} {av : List Value} {out : XO3} {own : String} {ty : FieldType} (hy : plainName y.cls = true) (ho : y.cls = own) (hlen : (lg_sl av).length ≤ ml) (hst : c.1.stackTraces = false) (body : ∀ x : XC, CX x cc ml own → x_R x = rm → x_y x = c → XEI x ty mc ms out → WX x ml 0 0 S 0 (lv_args 0 av) []) : MXI c y cc ml (some ty) rm mc ms S av out := by
  intro sz
  refine vx_ofW (cc := cc) (maxL := ml) (ret := (some ty)) hy rfl ?_
  intro p e s m args below meth cd s₁ B hml htab hv
  obtain ⟨rfl, hsz, hP, hK, hD, hRO⟩ := hv
  have hts := atoms_spec (ws := wsO y cc ml (some ty)) B.pre
  have hown : s.vm.findClass own = some m.cls := ho ▸ findClass_of_methodNamed B.named
  have hr := B.returns
  have hlocks := B.notSynchronized
  subst hsz
  obtain ⟨l, D, ad, t, KS⟩ := c
  rw [lg_entry_eq]
  have hx : CX (p, l, e, rm, s, m, av.toArray, below, meth, cd, vx_MQ below (va_Qi (fun r (_ : Unit) => out.2.1 = 0 ∧ r = out.2.2) (fun _ u => va_P D vwCl (wl ad t KS out.1) u.heap) (AW ad KS s.heap.size)) (vx_X (fun (_ : Unit) => ¬ out.2.1 = 0) (fun E _ u => E = exn out.2.1 ∧ va_P D vwCl (wl ad t KS out.1) u.heap) (AW ad KS s.heap.size)) av.toArray s mc ms (AW ad KS s.heap.size), D, ad, t, KS) cc ml own := ⟨B.exec, B.bytes, hml, hown, fun w hw => hts w (List.mem_cons_of_mem _ hw), hK, hD, hRO⟩
  exact body _ hx rfl rfl ⟨⟨rfl, htab, hlocks, hst⟩, hr⟩ s.heap [] _ (lv_entry av hlen) hP va_S.rf
theorem mk_XV {c : YC} {y : MethodName} {cc : ByteArray} {ml mc ms : Nat} {rm : Room} {S : St} {av : List Value} {out : XO3} {own : String} (hy : plainName y.cls = true) (ho : y.cls = own) (hlen : (lg_sl av).length ≤ ml) (hst : c.1.stackTraces = false) (body : ∀ x : XC, CX x cc ml own → x_R x = rm → x_y x = c → XEV x mc ms out → WX x ml 0 0 S 0 (lv_args 0 av) []) : MXV c y cc ml none rm mc ms S av out := by
  intro sz
  refine vx_ofW (cc := cc) (maxL := ml) (ret := none) hy rfl ?_
  intro p e s m args below meth cd s₁ B hml htab hv
  obtain ⟨rfl, hsz, hP, hK, hD, hRO⟩ := hv
  have hts := atoms_spec (ws := wsO y cc ml none) B.pre
  have hown : s.vm.findClass own = some m.cls := ho ▸ findClass_of_methodNamed B.named
  have hr := B.returns
  have hlocks := B.notSynchronized
  subst hsz
  obtain ⟨l, D, ad, t, KS⟩ := c
  rw [lg_entry_eq]
  have hx : CX (p, l, e, rm, s, m, av.toArray, below, meth, cd, vx_MQ below (va_Qv (fun (_ : Unit) => out.2.1 = 0) (fun _ u => va_P D vwCl (wl ad t KS out.1) u.heap) (AW ad KS s.heap.size)) (vx_X (fun (_ : Unit) => ¬ out.2.1 = 0) (fun E _ u => E = exn out.2.1 ∧ va_P D vwCl (wl ad t KS out.1) u.heap) (AW ad KS s.heap.size)) av.toArray s mc ms (AW ad KS s.heap.size), D, ad, t, KS) cc ml own := ⟨B.exec, B.bytes, hml, hown, fun w hw => hts w (List.mem_cons_of_mem _ hw), hK, hD, hRO⟩
  exact body _ hx rfl rfl ⟨⟨rfl, htab, hlocks, hst⟩, hr⟩ s.heap [] _ (lv_entry av hlen) hP va_S.rf
