/-! an exception that a callee threw, taken by a row of this method's table -/
section CT
theorem ct_row {Q : Handler → Pre} {E : CtlPost} {e : Env} {d : Bool} {acts : List Action} {s : State} {f : JFrame} {a : Addr} {z : ExceptionTableEntry} {t : List ExceptionTableEntry} {c : ClassId} {cell : Cell} (hz : covers z f.pc = true) (h0 : z.catchType ≠ 0)
    (hl : s.vm.ClassLinks e.platform f.method.cls z.catchType c) (hcell : s.heap[a]? = some cell) (hobj : ∀ k, cell.vm ≠ .statics k) (h1 : ∃ k, s.vm.classes[cell.cls]? = some k) (h2 : ∃ k, s.vm.classes[c]? = some k) :
    wp (findHandler.go f a (z :: t)) Q E e d acts s ↔ if s.vm.assignable cell.cls c = true then Q (.found z.handlerPc) d acts (s.setVm (s.vm.noted f.method.cls z.catchType (.cls c))) else wp (findHandler.go f a t) Q E e d acts (s.setVm (s.vm.noted f.method.cls z.catchType (.cls c))) := by
  simp only [covers] at hz
  obtain ⟨ha, ht⟩ := (resolveClass_links e.toSetting hl).op (op := VmOp.resolveClass f.method.cls z.catchType) rfl
  have hal : s.vm.Alike (s.vm.noted f.method.cls z.catchType (.cls c)) := (Vm.Alike.refl s.vm).noted _ _ _
  obtain ⟨k1, hk1⟩ := h1
  obtain ⟨k2, hk2⟩ := h2
  obtain ⟨k3, hk3, -⟩ := hal.2.2 _ _ hk1
  obtain ⟨k4, hk4, -⟩ := hal.2.2 _ _ hk2
  have hsame := hal.assignable cell.cls c
  cases hb : s.vm.assignable cell.cls c <;> rw [hb] at hsame <;> simp [findHandler.go, hz, h0, ha, ht, hcell, hobj, hk3, hk4, hsame, VmOp.dirties, VmOp.acts]
theorem ct_go {e : Env} {s₀ : State} {f : JFrame} {a : Addr} {cell : Cell} {z : ExceptionTableEntry} {rest : List ExceptionTableEntry} {c9 : ClassId} (hobj : ∀ k, cell.vm ≠ .statics k) (h1 : ∃ k, s₀.vm.classes[cell.cls]? = some k)
    (hz : covers z f.pc = true) (h0 : z.catchType ≠ 0) (hl : s₀.vm.ClassLinks e.platform f.method.cls z.catchType c9) (hfit : s₀.vm.assignable cell.cls c9 = true) :
    ∀ (pre : List ExceptionTableEntry) (S : State), s₀.WarmedH S.vm → S.heap[a]? = some cell → (∀ y ∈ pre, covers y f.pc = false ∨ (y.catchType ≠ 0 ∧ ∃ c, s₀.vm.ClassLinks e.platform f.method.cls y.catchType c ∧ s₀.vm.assignable cell.cls c = false)) →
      ∃ vm', s₀.WarmedH vm' ∧ ∀ (Q : Handler → Pre) (E : CtlPost) (d : Bool) (acts : List Action), wp (findHandler.go f a (pre ++ z :: rest)) Q E e d acts S ↔ Q (.found z.handlerPc) d acts (S.setVm vm') := by
  obtain ⟨k1, h1⟩ := h1
  have one : ∀ (S : State) (y : ExceptionTableEntry) (c : ClassId) (t : List ExceptionTableEntry), s₀.WarmedH S.vm → S.heap[a]? = some cell → covers y f.pc = true → y.catchType ≠ 0 → s₀.vm.ClassLinks e.platform f.method.cls y.catchType c →
      s₀.WarmedH (S.vm.noted f.method.cls y.catchType (.cls c)) ∧ ∀ (Q : Handler → Pre) (E : CtlPost) (d : Bool) (acts : List Action), wp (findHandler.go f a (y :: t)) Q E e d acts S ↔ if s₀.vm.assignable cell.cls c = true then Q (.found y.handlerPc) d acts (S.setVm (S.vm.noted f.method.cls y.catchType (.cls c))) else wp (findHandler.go f a t) Q E e d acts (S.setVm (S.vm.noted f.method.cls y.catchType (.cls c))) := by
    intro S y c t hW hcell hy hy0 hly
    obtain ⟨dk, _, _, kt, hd, _, _, _, _, hkt, _, hopen⟩ := hly.here
    obtain ⟨k2, hk2, -⟩ := hW.alike.2.2 _ _ h1
    obtain ⟨k3, hk3, -⟩ := hW.alike.2.2 _ _ hkt
    refine ⟨hW.noted hd hopen (State.rightAt_cls hly), fun Q E d acts => ?_⟩
    rw [ct_row hy hy0 (hW.classLinks hly) hcell hobj ⟨k2, hk2⟩ ⟨k3, hk3⟩, hW.alike.assignable]
  intro pre
  induction pre with
  | nil =>
    intro S hW hcell _
    obtain ⟨w1, w2⟩ := one S z c9 rest hW hcell hz h0 hl
    exact ⟨_, w1, fun Q E d acts => by rw [List.nil_append, w2, if_pos hfit]⟩
  | cons y ys ih =>
    intro S hW hcell hpass
    have hr := fun z' hz' => hpass z' (List.mem_cons_of_mem y hz')
    rcases hpass y List.mem_cons_self with hn | ⟨hy0, c, hly, hno⟩
    · obtain ⟨vm', w1, w2⟩ := ih S hW hcell hr
      exact ⟨vm', w1, fun Q E d acts => by rw [List.cons_append, W.findHandler_go_skip hn]; exact w2 Q E d acts⟩
    · cases hcov : covers y f.pc with
      | false =>
        obtain ⟨vm', w1, w2⟩ := ih S hW hcell hr
        exact ⟨vm', w1, fun Q E d acts => by rw [List.cons_append, W.findHandler_go_skip hcov]; exact w2 Q E d acts⟩
      | true =>
        obtain ⟨w3, w4⟩ := one S y c (ys ++ z :: rest) hW hcell hcov hy0 hly
        obtain ⟨vm', w1, w2⟩ := ih (S.setVm (S.vm.noted f.method.cls y.catchType (.cls c))) w3 hcell hr
        exact ⟨vm', w1, fun Q E d acts => by rw [List.cons_append, w4, if_neg (by rw [hno]; simp)]; exact w2 Q E d acts⟩
variable {p : Program} {l : Launch} {e : Env} {R : Room} {s : State} {m : MethodId} {args : Array Value} {below : List Frame} {meth : Method} {c : Code} {T : State} {locs : List Loc} {cells slots : Nat}
theorem ct_caught (X : Stand p l e R s m args below meth c T locs cells slots) (a : Addr) {g : JFrame} (hg : g.method = m) {cell : Cell} (hcell : T.heap[a]? = some cell) (hobj : cell.vm.isStatics = false) (h1 : ∃ k, s.vm.classes[cell.cls]? = some k)
    (pre : List ExceptionTableEntry) (z : ExceptionTableEntry) (rest : List ExceptionTableEntry) (hsplit : c.exceptionTable.toList = pre ++ z :: rest) (hpass : ∀ y ∈ pre, covers y g.pc = false ∨ (y.catchType ≠ 0 ∧ ∃ c, s.vm.ClassLinks e.platform m.cls y.catchType c ∧ s.vm.assignable cell.cls c = false))
    (hz : covers z g.pc = true) (h0 : z.catchType ≠ 0) {c9 : ClassId} (hl : s.vm.ClassLinks e.platform m.cls z.catchType c9) (hfit : s.vm.assignable cell.cls c9 = true) :
    ∃ vm', Stand p l e R s m args below meth c (T.setVm vm') locs cells slots ∧ ∀ target, Steps p.tables e below ((T.setVm vm').setTop { g with pc := z.handlerPc, stack := [.ref a] }) target → Steps p.tables e below ((T.setTop g).pushFrame (.throwing a)) target := by
  subst hg
  obtain ⟨vm', hW', hq⟩ := ct_go (e := e) (f := g) (a := a) (rest := rest) (VmData.ne_statics_of hobj) h1 hz h0 hl hfit pre ((T.setTop g).pushFrame (.throwing a)) X.warmed hcell hpass
  refine ⟨vm', X.noted hW', fun target hrest => ?_⟩
  have hfind : ∀ (Q : Handler → Pre) (E : CtlPost) (d : Bool) (acts : List Action), wp (findHandler g a) Q E e d acts ((T.setTop g).pushFrame (.throwing a)) ↔ Q (.found z.handlerPc) d acts (((T.setTop g).pushFrame (.throwing a)).setVm vm') := fun Q E d acts => by
    rw [W.findHandler_eq (s := (T.setTop g).pushFrame (.throwing a)) (meth := meth) (code := c) X.method' X.code, hsplit]; exact hq Q E d acts
  have hto : ∀ r : List Frame, (stepThrowing e ((T.setTop g).pushFrame (.throwing a)) a (.java g :: r)).Is ((((T.setTop g).pushFrame (.throwing a)).setVm vm').setFrames (.java { g with pc := z.handlerPc, stack := [.ref a] } :: r)) [] := by
    intro r
    simp only [stepThrowing, searchFrame, vmDo]
    generalize hr : Sem.go _ e false [] ((T.setTop g).pushFrame (.throwing a)) = res
    obtain ⟨as, rfl, ha⟩ := Sem.eq_ok_of hr (a := Handler.found z.handlerPc) (s' := ((T.setTop g).pushFrame (.throwing a)).setVm vm') (acts' := []) (by simp [hfind _ _ _ _])
    exact ⟨rfl, ha⟩
  obtain ⟨hgo, hw⟩ := X.here.throwing a
  refine Steps.head hgo hw ?_
  rw [stepThread_throwing (frames_entered X.here.top _), (hto _).1]
  obtain ⟨g₀, hfr⟩ := X.frames_eq
  have hfr' : (T.setVm vm').frames = .java g₀ :: below := hfr
  rw [State.setTop_of_frames _ hfr'] at hrest
  rw [hfr, List.tail_cons, State.pushFrame, State.setTop_of_frames _ hfr, State.setFrames_setFrames]
  have swap : ∀ (F G : List Frame), ((T.setFrames F).setVm vm').setFrames G = (T.setVm vm').setFrames G := fun F G => by rw [show (T.setFrames F).setVm vm' = (T.setVm vm').setFrames F from rfl, State.setFrames_setFrames]
  rw [swap]
  exact hrest
end CT
section VXC
variable {p : Program} {l : Launch} {e : Env} {R : Room} {s : State} {m : MethodId} {args : Array Value} {below : List Frame} {meth : Method} {c : Code} {H : Heap} {locs : List Loc} {cells slots : Nat} {Q : State → Prop}
variable {mc ms : Nat} {free : Addr → Prop} {A0 A1 : Nat → Prop} {H0 : Heap} {a : Array Value} {pc : Nat} {ls : Array Slot} {st0 rest : List Value}
/-- caught by the row x of this method's table; the rows ahead don't take it -/
theorem vx_catch {own name : String} {E : String} {ce : Cell} {q : Addr} (hown : s.vm.findClass own = some m.cls) (pre : List ExceptionTableEntry) (x : ExceptionTableEntry) (suf : List ExceptionTableEntry) (hsplit : c.exceptionTable.toList = pre ++ x :: suf)
    (hpass : ∀ z ∈ pre, covers z pc = false ∨ (z.catchType ≠ 0 ∧ ∃ nm : String, (Cond.classLink own z.catchType nm).before args s = true ∧ va_Nc E nm s)) (hx : covers x pc = true) (h0 : x.catchType ≠ 0)
    (hlink : (Cond.classLink own x.catchType name).before args s = true) (hcast : (Cond.castable E name).before args s = true) (hcell : H[q]? = some ce) (hv : ce.vm = .none) (hcl : s.vm.findClass E = some ce.cls)
    (kk : W p l e R s m args below meth c H locs cells slots Q (F0 m x.handlerPc ls [.ref q])) : vx_W p l e R s m args below meth c H locs cells slots Q (F0 m pc ls rest) q := by
  intro T hT X
  have hpl : e.platform.magicAccessors = ({} : Platform).magicAccessors := by rw [X.admits.platform]
  obtain ⟨c3, c4, hc3, hc4, hasg⟩ := Cond.castable_spec hcast
  cases Option.some.inj (hc3.symm.trans hcl)
  obtain ⟨c5, hc5, hcl5⟩ := Cond.classLink_spec hown hlink e.platform hpl
  cases Option.some.inj (hc4.symm.trans hc5)
  obtain ⟨vm', X', st⟩ := ct_caught X q (g := F0 m pc ls rest) rfl (by rw [hT]; exact hcell) (by rw [hv]; rfl) (by obtain ⟨k9, h9, -⟩ := Vm.findClass_spec hcl; exact ⟨k9, h9⟩) pre x suf hsplit
    (fun z hz => by
      rcases hpass z hz with h | ⟨hz0, nm, hl1, hn1⟩
      · exact Or.inl h
      · obtain ⟨c6, hc6, hcl6⟩ := Cond.classLink_spec hown hl1 e.platform hpl
        obtain ⟨a8, b8, h1, h2, h3⟩ := hn1
        cases Option.some.inj (h1.symm.trans hcl)
        cases Option.some.inj (h2.symm.trans hc6)
        exact Or.inr ⟨hz0, _, hcl6, h3⟩) hx h0 hcl5 hasg
  obtain ⟨t, a1, b1⟩ := kk (T.setVm vm') hT X'
  exact ⟨t, st _ a1, b1⟩
end VXC
