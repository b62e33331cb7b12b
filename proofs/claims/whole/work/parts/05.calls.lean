abbrev YC : Type := Launch × va_G × Ad × Ty3 × List Ky
abbrev x_y (x : XC) : YC := (x_l x, x_D x, x_ad x, x_t x, x_K x)
abbrev y_W (c : YC) (S : St) : va_W := wl c.2.2.1 c.2.2.2.1 c.2.2.2.2 S
def PW (c : YC) (S : St) (sz : Nat) (U : State) : Prop := U.heap.size = sz ∧ va_P c.2.1 vwCl (y_W c S) U.heap ∧ va_K c.2.1 vwCl (tyl c.2.2.2.1) U ∧ KD c.2.2.1 c.2.2.2.2 ∧ RO (AW c.2.2.1 c.2.2.2.2 sz) U U.heap
abbrev wsO (y : MethodName) (cc : ByteArray) (ml : Nat) (ret : Option FieldType) : List Cond := Cond.code y cc ml ret :: TB
/-- the method's contract where it answers an int (a boolean), a long, nothing -/
def MI (c : YC) (y : MethodName) (cc : ByteArray) (ml : Nat) (ret : Option FieldType) (rm : Room) (S : St) (av : List Value) (out : St × Int32) : Prop := ∀ sz, Met c.1 y (wsO y cc ml ret) rm (va_Pc av (PW c S sz)) (va_Qi (fun r (_ : Unit) => r = out.2) (fun _ u => va_P c.2.1 vwCl (y_W c out.1) u.heap) (AW c.2.2.1 c.2.2.2.2 sz)) 0 0 (AW c.2.2.1 c.2.2.2.2 sz)
def ML (c : YC) (y : MethodName) (cc : ByteArray) (ml : Nat) (ret : Option FieldType) (rm : Room) (S : St) (av : List Value) (out : St × Int64) : Prop := ∀ sz, Met c.1 y (wsO y cc ml ret) rm (va_Pc av (PW c S sz)) (va_Ql (fun r (_ : Unit) => r = out.2) (fun _ u => va_P c.2.1 vwCl (y_W c out.1) u.heap) (AW c.2.2.1 c.2.2.2.2 sz)) 0 0 (AW c.2.2.1 c.2.2.2.2 sz)
def MV (c : YC) (y : MethodName) (cc : ByteArray) (ml : Nat) (ret : Option FieldType) (rm : Room) (S : St) (av : List Value) (out : St) : Prop := ∀ sz, Met c.1 y (wsO y cc ml ret) rm (va_Pc av (PW c S sz)) (va_Qv (fun (_ : Unit) => True) (fun _ u => va_P c.2.1 vwCl (y_W c out) u.heap) (AW c.2.2.1 c.2.2.2.2 sz)) 0 0 (AW c.2.2.1 c.2.2.2.2 sz)
theorem PW.blind {c : YC} {S : St} {sz : Nat} {av : List Value} : FrameBlind (va_Pc av (PW c S sz)) := by
  intro a U g mk ⟨h1, h2, h3, h4, h5, h6⟩
  exact ⟨h1, h2, h3, va_K.moved (u := U) (U := U.calling g mk a) (Vm.Alike.refl U.vm) h4, h5, RO.same (u := U) (U := U.calling g mk a) rfl h6⟩
theorem AW.up {ad : Ad} {KS : List Ky} {a b : Nat} (h : a ≤ b) {q : Nat} (hq : AW ad KS b q) : AW ad KS a q := hq.elim Or.inl (fun z => Or.inr (Nat.le_trans h z))
theorem PW.of {x : XC} {cc : ByteArray} {nL : Nat} {own : String} {S : St} {H : Heap} {locs : List Loc} {U : State} (hx : CX x cc nL own) (hP : va_P (x_D x) vwCl (wl (x_ad x) (x_t x) (x_K x) S) H) (hS : va_S (x_A x) (x_s x).heap H locs) (hU : U.heap = H) (hW : (x_s x).WarmedH U.vm) : PW (x_y x) S H.size U := by
  obtain ⟨-, -, -, -, -, hK, hD, hR⟩ := hx
  refine ⟨by rw [hU], by rw [hU]; exact hP, va_K.moved hW.alike hK, hD, ?_⟩
  rw [hU]
  exact RO.warm hW ((hR.kept hS.1 hS.2.1).narrow (fun q h => AW.up hS.1 h))
theorem good_O {y : MethodName} {cc : ByteArray} {ml : Nat} {ret : Option FieldType} (h : Cond.code y cc ml ret ∈ TB) : GoodIn TB (wsO y cc ml ret) := by
  intro w hw
  rcases List.mem_cons.mp hw with rfl | hw
  · exact ⟨h, TB_good h⟩
  · exact ⟨hw, TB_good hw⟩
abbrev DY (y : MethodName) (n : Nat) : Prop := y.cls ≠ "java/lang/invoke/MethodHandle" ∧ y.cls ≠ "java/lang/invoke/VarHandle" ∧ (parseMethodDescriptor y.desc).map (fun d => d.parameters.length) = some n
abbrev RY (R rm : Room) (ml kc ks : Nat) : Prop := (rm.frames + 1 ≤ R.frames ∧ 8 + (ml + 11) + rm.locals ≤ R.locals) ∧ rm.cells = 0 ∧ rm.slots = 0 ∧ kc ≤ R.cells ∧ ks ≤ R.slots
section CL
variable {x : XC} {nL kc ks : Nat} {S S1 : St} {pc : Nat} {lv : List (Nat × Value)} {st rest As : List Value} {cc cy : ByteArray} {own C : String} {ci j idx ml n : Nat} {y : MethodName} {ret : Option FieldType} {rm : Room} {T : u_T} {N : Nat}
theorem r_Vi (hx : CX x cc nL own) {out : St × Int32} (hM : MI (x_y x) y cy ml ret rm S (.ref (x_ad x 0 ci j) :: As) out) (hk : (0, ci, j) ∈ x_K x) (hc : vwCl[ci]? = some (C, T, N)) (w1 : Cond.methodLink own idx y ∈ TB) (w2 : Cond.instanceMethod y ∈ TB) (w3 : Cond.selects C y y ∈ TB) (w4 : Cond.initialized y.cls ∈ TB) (w5 : Cond.code y cy ml ret ∈ TB) (hdy : DY y n) (hn : As.length = n) (hR : RY (x_R x) rm ml kc ks) (hst : st = As.reverse ++ .ref (x_ad x 0 ci j) :: rest) (hW : (rest.map fun v => v.category).sum ≤ 8) (hd : decode cc pc = .ok (.invokevirtual idx, 3)) (kk : WX x nL kc ks out.1 (pc + 3) lv (.int out.2 :: rest)) : WX x nL kc ks S pc lv st := by
  intro H locs ls hl hP hS
  subst hst
  have ht := hx.2.2.2.2.1
  obtain ⟨q0, hq⟩ := wl_at hk
  refine va_calli (va_runV (C := C) (As := As) (rest := rest) ⟨hx.1, hx.2.1, hx.2.2.1, hx.2.2.2.1, ht⟩ (hM H.size) ⟨callB_of n ht (good_O w5) rfl hR.2.1 hR.2.2.1 (ht _ w4) (ht _ w1) hdy hR.1, ht _ w2, ht _ w3⟩ ⟨PW.blind, va_recv hx.2.2.2.2.2.1 hP hc (wl_of hq), fun U hU hW => ⟨rfl, PW.of hx hP hS hU hW⟩⟩ rfl hn hl.1 rfl (lv_room hW) hd ⟨hR.2.2.2.1, hR.2.2.2.2⟩) hS (fun q _ h => AW.up hS.1 h) (fun q h => AW.up hS.1 h) (fun r u t9 H1 locs1 ht9 hvm hp hB hz hk1 hS1 => ?_)
  subst hp
  exact kk H1 locs1 ls hl (by rw [← ht9]; exact hB) hS1
theorem r_Si (hx : CX x cc nL own) {out : St × Int32} (hM : MI (x_y x) y cy ml ret rm S As out) (w1 : Cond.methodLink own idx y ∈ TB) (w2 : Cond.static y ∈ TB) (w4 : Cond.initialized y.cls ∈ TB) (w5 : Cond.code y cy ml ret ∈ TB) (hdy : DY y n) (hn : As.length = n) (hR : RY (x_R x) rm ml kc ks) (hst : st = As.reverse ++ rest) (hW : (rest.map fun v => v.category).sum ≤ 8) (hd : decode cc pc = .ok (.invokestatic idx, 3)) (kk : WX x nL kc ks out.1 (pc + 3) lv (.int out.2 :: rest)) : WX x nL kc ks S pc lv st := by
  intro H locs ls hl hP hS
  subst hst
  have ht := hx.2.2.2.2.1
  refine va_calli (va_runS (As := As) (rest := rest) ⟨hx.1, hx.2.1, hx.2.2.1, hx.2.2.2.1, ht⟩ (hM H.size) ⟨callB_of n ht (good_O w5) rfl hR.2.1 hR.2.2.1 (ht _ w4) (ht _ w1) hdy hR.1, ht _ w2⟩ ⟨PW.blind, fun U hU hW => ⟨rfl, PW.of hx hP hS hU hW⟩⟩ rfl hn hl.1 rfl (lv_room hW) hd ⟨hR.2.2.2.1, hR.2.2.2.2⟩) hS (fun q _ h => AW.up hS.1 h) (fun q h => AW.up hS.1 h) (fun r u t9 H1 locs1 ht9 hvm hp hB hz hk1 hS1 => ?_)
  subst hp
  exact kk H1 locs1 ls hl (by rw [← ht9]; exact hB) hS1
theorem r_Vl (hx : CX x cc nL own) {out : St × Int64} (hM : ML (x_y x) y cy ml ret rm S (.ref (x_ad x 0 ci j) :: As) out) (hk : (0, ci, j) ∈ x_K x) (hc : vwCl[ci]? = some (C, T, N)) (w1 : Cond.methodLink own idx y ∈ TB) (w2 : Cond.instanceMethod y ∈ TB) (w3 : Cond.selects C y y ∈ TB) (w4 : Cond.initialized y.cls ∈ TB) (w5 : Cond.code y cy ml ret ∈ TB) (hdy : DY y n) (hn : As.length = n) (hR : RY (x_R x) rm ml kc ks) (hst : st = As.reverse ++ .ref (x_ad x 0 ci j) :: rest) (hW : (rest.map fun v => v.category).sum ≤ 8) (hd : decode cc pc = .ok (.invokevirtual idx, 3)) (kk : WX x nL kc ks out.1 (pc + 3) lv (.long out.2 :: rest)) : WX x nL kc ks S pc lv st := by
  intro H locs ls hl hP hS
  subst hst
  have ht := hx.2.2.2.2.1
  obtain ⟨q0, hq⟩ := wl_at hk
  refine va_calll (va_runV (C := C) (As := As) (rest := rest) ⟨hx.1, hx.2.1, hx.2.2.1, hx.2.2.2.1, ht⟩ (hM H.size) ⟨callB_of n ht (good_O w5) rfl hR.2.1 hR.2.2.1 (ht _ w4) (ht _ w1) hdy hR.1, ht _ w2, ht _ w3⟩ ⟨PW.blind, va_recv hx.2.2.2.2.2.1 hP hc (wl_of hq), fun U hU hW => ⟨rfl, PW.of hx hP hS hU hW⟩⟩ rfl hn hl.1 rfl (lv_room hW) hd ⟨hR.2.2.2.1, hR.2.2.2.2⟩) hS (fun q _ h => AW.up hS.1 h) (fun q h => AW.up hS.1 h) (fun r u t9 H1 locs1 ht9 hvm hp hB hz hk1 hS1 => ?_)
  subst hp
  exact kk H1 locs1 ls hl (by rw [← ht9]; exact hB) hS1
theorem r_Sl (hx : CX x cc nL own) {out : St × Int64} (hM : ML (x_y x) y cy ml ret rm S As out) (w1 : Cond.methodLink own idx y ∈ TB) (w2 : Cond.static y ∈ TB) (w4 : Cond.initialized y.cls ∈ TB) (w5 : Cond.code y cy ml ret ∈ TB) (hdy : DY y n) (hn : As.length = n) (hR : RY (x_R x) rm ml kc ks) (hst : st = As.reverse ++ rest) (hW : (rest.map fun v => v.category).sum ≤ 8) (hd : decode cc pc = .ok (.invokestatic idx, 3)) (kk : WX x nL kc ks out.1 (pc + 3) lv (.long out.2 :: rest)) : WX x nL kc ks S pc lv st := by
  intro H locs ls hl hP hS
  subst hst
  have ht := hx.2.2.2.2.1
  refine va_calll (va_runS (As := As) (rest := rest) ⟨hx.1, hx.2.1, hx.2.2.1, hx.2.2.2.1, ht⟩ (hM H.size) ⟨callB_of n ht (good_O w5) rfl hR.2.1 hR.2.2.1 (ht _ w4) (ht _ w1) hdy hR.1, ht _ w2⟩ ⟨PW.blind, fun U hU hW => ⟨rfl, PW.of hx hP hS hU hW⟩⟩ rfl hn hl.1 rfl (lv_room hW) hd ⟨hR.2.2.2.1, hR.2.2.2.2⟩) hS (fun q _ h => AW.up hS.1 h) (fun q h => AW.up hS.1 h) (fun r u t9 H1 locs1 ht9 hvm hp hB hz hk1 hS1 => ?_)
  subst hp
  exact kk H1 locs1 ls hl (by rw [← ht9]; exact hB) hS1
theorem r_Vv (hx : CX x cc nL own) {out : St} (hM : MV (x_y x) y cy ml ret rm S (.ref (x_ad x 0 ci j) :: As) out) (hk : (0, ci, j) ∈ x_K x) (hc : vwCl[ci]? = some (C, T, N)) (w1 : Cond.methodLink own idx y ∈ TB) (w2 : Cond.instanceMethod y ∈ TB) (w3 : Cond.selects C y y ∈ TB) (w4 : Cond.initialized y.cls ∈ TB) (w5 : Cond.code y cy ml ret ∈ TB) (hdy : DY y n) (hn : As.length = n) (hR : RY (x_R x) rm ml kc ks) (hst : st = As.reverse ++ .ref (x_ad x 0 ci j) :: rest) (hW : (rest.map fun v => v.category).sum ≤ 8) (hd : decode cc pc = .ok (.invokevirtual idx, 3)) (kk : WX x nL kc ks out (pc + 3) lv (rest)) : WX x nL kc ks S pc lv st := by
  intro H locs ls hl hP hS
  subst hst
  have ht := hx.2.2.2.2.1
  obtain ⟨q0, hq⟩ := wl_at hk
  refine va_callv (va_runV (C := C) (As := As) (rest := rest) ⟨hx.1, hx.2.1, hx.2.2.1, hx.2.2.2.1, ht⟩ (hM H.size) ⟨callB_of n ht (good_O w5) rfl hR.2.1 hR.2.2.1 (ht _ w4) (ht _ w1) hdy hR.1, ht _ w2, ht _ w3⟩ ⟨PW.blind, va_recv hx.2.2.2.2.2.1 hP hc (wl_of hq), fun U hU hW => ⟨rfl, PW.of hx hP hS hU hW⟩⟩ rfl hn hl.1 rfl (lv_room hW) hd ⟨hR.2.2.2.1, hR.2.2.2.2⟩) hS (fun q _ h => AW.up hS.1 h) (fun q h => AW.up hS.1 h) (fun u t9 H1 locs1 ht9 hvm hp hB hz hk1 hS1 => ?_)
  exact kk H1 locs1 ls hl (by rw [← ht9]; exact hB) hS1
theorem r_Sv (hx : CX x cc nL own) {out : St} (hM : MV (x_y x) y cy ml ret rm S As out) (w1 : Cond.methodLink own idx y ∈ TB) (w2 : Cond.static y ∈ TB) (w4 : Cond.initialized y.cls ∈ TB) (w5 : Cond.code y cy ml ret ∈ TB) (hdy : DY y n) (hn : As.length = n) (hR : RY (x_R x) rm ml kc ks) (hst : st = As.reverse ++ rest) (hW : (rest.map fun v => v.category).sum ≤ 8) (hd : decode cc pc = .ok (.invokestatic idx, 3)) (kk : WX x nL kc ks out (pc + 3) lv (rest)) : WX x nL kc ks S pc lv st := by
  intro H locs ls hl hP hS
  subst hst
  have ht := hx.2.2.2.2.1
  refine va_callv (va_runS (As := As) (rest := rest) ⟨hx.1, hx.2.1, hx.2.2.1, hx.2.2.2.1, ht⟩ (hM H.size) ⟨callB_of n ht (good_O w5) rfl hR.2.1 hR.2.2.1 (ht _ w4) (ht _ w1) hdy hR.1, ht _ w2⟩ ⟨PW.blind, fun U hU hW => ⟨rfl, PW.of hx hP hS hU hW⟩⟩ rfl hn hl.1 rfl (lv_room hW) hd ⟨hR.2.2.2.1, hR.2.2.2.2⟩) hS (fun q _ h => AW.up hS.1 h) (fun q h => AW.up hS.1 h) (fun u t9 H1 locs1 ht9 hvm hp hB hz hk1 hS1 => ?_)
  exact kk H1 locs1 ls hl (by rw [← ht9]; exact hB) hS1
/-- what is owed at a method's end -/
def EI (x : XC) (cc : ByteArray) (out : St × Int32) : Prop := ∀ (pc : Nat) (ls : Array Slot) (H : Heap) (locs : List Loc), decode cc pc = .ok (.ireturn, 1) → va_P (x_D x) vwCl (wl (x_ad x) (x_t x) (x_K x) out.1) H → va_S (x_A x) (x_s x).heap H locs → W (x_p x) (x_l x) (x_e x) (x_R x) (x_s x) (x_m x) (x_a x) (x_b x) (x_me x) (x_c x) H locs 0 0 (x_Q x) (F0 (x_m x) pc ls [.int out.2])
def EL (x : XC) (cc : ByteArray) (out : St × Int64) : Prop := ∀ (pc : Nat) (ls : Array Slot) (H : Heap) (locs : List Loc), decode cc pc = .ok (.lreturn, 1) → va_P (x_D x) vwCl (wl (x_ad x) (x_t x) (x_K x) out.1) H → va_S (x_A x) (x_s x).heap H locs → W (x_p x) (x_l x) (x_e x) (x_R x) (x_s x) (x_m x) (x_a x) (x_b x) (x_me x) (x_c x) H locs 0 0 (x_Q x) (F0 (x_m x) pc ls [.long out.2])
def EV (x : XC) (cc : ByteArray) (out : St) : Prop := ∀ (pc : Nat) (ls : Array Slot) (H : Heap) (locs : List Loc), decode cc pc = .ok (.return_, 1) → va_P (x_D x) vwCl (wl (x_ad x) (x_t x) (x_K x) out) H → va_S (x_A x) (x_s x).heap H locs → W (x_p x) (x_l x) (x_e x) (x_R x) (x_s x) (x_m x) (x_a x) (x_b x) (x_me x) (x_c x) H locs 0 0 (x_Q x) (F0 (x_m x) pc ls [])
theorem r_iret {v : Int32} {out : St × Int32} (hE : EI x cc out) (h : some (S, v) = some out) (hd : decode cc pc = .ok (.ireturn, 1)) : WX x nL 0 0 S pc lv [.int v] := by
  cases h
  exact fun H locs ls _ hP hS => hE pc ls H locs hd hP hS
theorem r_lret {v : Int64} {out : St × Int64} (hE : EL x cc out) (h : some (S, v) = some out) (hd : decode cc pc = .ok (.lreturn, 1)) : WX x nL 0 0 S pc lv [.long v] := by
  cases h
  exact fun H locs ls _ hP hS => hE pc ls H locs hd hP hS
theorem r_vret {out : St} (hE : EV x cc out) (h : some S = some out) (hd : decode cc pc = .ok (.return_, 1)) : WX x nL 0 0 S pc lv [] := by
  cases h
  exact fun H locs ls _ hP hS => hE pc ls H locs hd hP hS
/-- a boolean's answer is 0 or 1 -/
def zW (o : Option (St × Int32)) : Option (St × Int32) := match o with
  | none => none
  | some q => if q.2 = 0 ∨ q.2 = 1 then some q else none
theorem zW_some {o : Option (St × Int32)} {out : St × Int32} (h : zW o = some out) : o = some out ∧ (out.2 = 0 ∨ out.2 = 1) := by
  cases o with
  | none => cases h
  | some q =>
    unfold zW at h
    dsimp only at h
    split at h
    · cases h; exact ⟨rfl, by assumption⟩
    · cases h
end CL
theorem narrow_z {v : Int32} (h : v = 0 ∨ v = 1) : narrow .boolean (.int v) = .int v := by rcases h with rfl | rfl <;> rfl
theorem mk_I {c : YC} {y : MethodName} {cc : ByteArray} {ml : Nat} {rm : Room} {S : St} {av : List Value} {out : St × Int32} {own : String} (hy : plainName y.cls = true) (ho : y.cls = own) (hlen : (lg_sl av).length ≤ ml) (body : ∀ x : XC, CX x cc ml own → x_R x = rm → x_y x = c → EI x cc out → WX x ml 0 0 S 0 (lv_args 0 av) []) : MI c y cc ml (some .int) rm S av out := by
  intro sz
  refine Met.ofW (cc := cc) (maxL := ml) (ret := (some .int)) hy rfl ?_
  intro p e s m args below meth cd s₁ B hml hv
  obtain ⟨rfl, hsz, hP, hK, hD, hRO⟩ := hv
  have hts := atoms_spec (ws := wsO y cc ml (some .int)) B.pre
  have hown : s.vm.findClass own = some m.cls := ho ▸ findClass_of_methodNamed B.named
  have hr := B.returns
  have hlocks := B.notSynchronized
  subst hsz
  obtain ⟨l, D, ad, t, KS⟩ := c
  rw [lg_entry_eq]
  have hx : CX (p, l, e, rm, s, m, av.toArray, below, meth, cd, MQ below (va_Qi (fun r (_ : Unit) => r = out.2) (fun _ u => va_P D vwCl (wl ad t KS out.1) u.heap) (AW ad KS s.heap.size)) av.toArray s 0 0 (AW ad KS s.heap.size), D, ad, t, KS) cc ml own := ⟨B.exec, B.bytes, hml, hown, fun w hw => hts w (List.mem_cons_of_mem _ hw), hK, hD, hRO⟩
  refine body _ hx rfl rfl (fun pc ls H locs hd hP1 hS1 => ?_) s.heap [] _ (lv_entry av hlen) hP va_S.rf
  exact W.iret hx.1 hx.2.1 hr (fun t9 ht9 _ => ⟨⟨out.2, (), rfl, rfl, by subst ht9; exact hP1⟩, hS1.F ht9⟩) hS1.2.2 hd
theorem mk_Z {c : YC} {y : MethodName} {cc : ByteArray} {ml : Nat} {rm : Room} {S : St} {av : List Value} {out : St × Int32} {own : String} (hy : plainName y.cls = true) (ho : y.cls = own) (hlen : (lg_sl av).length ≤ ml) (hz : out.2 = 0 ∨ out.2 = 1) (body : ∀ x : XC, CX x cc ml own → x_R x = rm → x_y x = c → EI x cc out → WX x ml 0 0 S 0 (lv_args 0 av) []) : MI c y cc ml (some .boolean) rm S av out := by
  intro sz
  refine Met.ofW (cc := cc) (maxL := ml) (ret := (some .boolean)) hy rfl ?_
  intro p e s m args below meth cd s₁ B hml hv
  obtain ⟨rfl, hsz, hP, hK, hD, hRO⟩ := hv
  have hts := atoms_spec (ws := wsO y cc ml (some .boolean)) B.pre
  have hown : s.vm.findClass own = some m.cls := ho ▸ findClass_of_methodNamed B.named
  have hr := B.returns
  have hlocks := B.notSynchronized
  subst hsz
  obtain ⟨l, D, ad, t, KS⟩ := c
  rw [lg_entry_eq]
  have hx : CX (p, l, e, rm, s, m, av.toArray, below, meth, cd, MQ below (va_Qi (fun r (_ : Unit) => r = out.2) (fun _ u => va_P D vwCl (wl ad t KS out.1) u.heap) (AW ad KS s.heap.size)) av.toArray s 0 0 (AW ad KS s.heap.size), D, ad, t, KS) cc ml own := ⟨B.exec, B.bytes, hml, hown, fun w hw => hts w (List.mem_cons_of_mem _ hw), hK, hD, hRO⟩
  refine body _ hx rfl rfl (fun pc ls H locs hd hP1 hS1 => ?_) s.heap [] _ (lv_entry av hlen) hP va_S.rf
  exact W.zret hx.1 hx.2.1 hr (narrow_z hz) (fun t9 ht9 _ => ⟨⟨out.2, (), rfl, rfl, by subst ht9; exact hP1⟩, hS1.F ht9⟩) hS1.2.2 hd
theorem mk_L {c : YC} {y : MethodName} {cc : ByteArray} {ml : Nat} {rm : Room} {S : St} {av : List Value} {out : St × Int64} {own : String} (hy : plainName y.cls = true) (ho : y.cls = own) (hlen : (lg_sl av).length ≤ ml) (body : ∀ x : XC, CX x cc ml own → x_R x = rm → x_y x = c → EL x cc out → WX x ml 0 0 S 0 (lv_args 0 av) []) : ML c y cc ml (some .long) rm S av out := by
  intro sz
  refine Met.ofW (cc := cc) (maxL := ml) (ret := (some .long)) hy rfl ?_
  intro p e s m args below meth cd s₁ B hml hv
  obtain ⟨rfl, hsz, hP, hK, hD, hRO⟩ := hv
  have hts := atoms_spec (ws := wsO y cc ml (some .long)) B.pre
  have hown : s.vm.findClass own = some m.cls := ho ▸ findClass_of_methodNamed B.named
  have hr := B.returns
  have hlocks := B.notSynchronized
  subst hsz
  obtain ⟨l, D, ad, t, KS⟩ := c
  rw [lg_entry_eq]
  have hx : CX (p, l, e, rm, s, m, av.toArray, below, meth, cd, MQ below (va_Ql (fun r (_ : Unit) => r = out.2) (fun _ u => va_P D vwCl (wl ad t KS out.1) u.heap) (AW ad KS s.heap.size)) av.toArray s 0 0 (AW ad KS s.heap.size), D, ad, t, KS) cc ml own := ⟨B.exec, B.bytes, hml, hown, fun w hw => hts w (List.mem_cons_of_mem _ hw), hK, hD, hRO⟩
  refine body _ hx rfl rfl (fun pc ls H locs hd hP1 hS1 => ?_) s.heap [] _ (lv_entry av hlen) hP va_S.rf
  exact W.lret hx.1 hx.2.1 hr (fun t9 ht9 _ => ⟨⟨out.2, (), rfl, rfl, by subst ht9; exact hP1⟩, hS1.F ht9⟩) hS1.2.2 hd
theorem mk_V {c : YC} {y : MethodName} {cc : ByteArray} {ml : Nat} {rm : Room} {S : St} {av : List Value} {out : St} {own : String} (hy : plainName y.cls = true) (ho : y.cls = own) (hlen : (lg_sl av).length ≤ ml) (body : ∀ x : XC, CX x cc ml own → x_R x = rm → x_y x = c → EV x cc out → WX x ml 0 0 S 0 (lv_args 0 av) []) : MV c y cc ml none rm S av out := by
  intro sz
  refine Met.ofW (cc := cc) (maxL := ml) (ret := none) hy rfl ?_
  intro p e s m args below meth cd s₁ B hml hv
  obtain ⟨rfl, hsz, hP, hK, hD, hRO⟩ := hv
  have hts := atoms_spec (ws := wsO y cc ml none) B.pre
  have hown : s.vm.findClass own = some m.cls := ho ▸ findClass_of_methodNamed B.named
  have hr := B.returns
  have hlocks := B.notSynchronized
  subst hsz
  obtain ⟨l, D, ad, t, KS⟩ := c
  rw [lg_entry_eq]
  have hx : CX (p, l, e, rm, s, m, av.toArray, below, meth, cd, MQ below (va_Qv (fun (_ : Unit) => True) (fun _ u => va_P D vwCl (wl ad t KS out) u.heap) (AW ad KS s.heap.size)) av.toArray s 0 0 (AW ad KS s.heap.size), D, ad, t, KS) cc ml own := ⟨B.exec, B.bytes, hml, hown, fun w hw => hts w (List.mem_cons_of_mem _ hw), hK, hD, hRO⟩
  refine body _ hx rfl rfl (fun pc ls H locs hd hP1 hS1 => ?_) s.heap [] _ (lv_entry av hlen) hP va_S.rf
  exact W.vret hx.1 hx.2.1 hr (fun t9 ht9 _ => ⟨⟨(), rfl, trivial, by subst ht9; exact hP1⟩, hS1.F ht9⟩) hS1.2.2 hd
section FL
variable {x : XC} {nL kc ks : Nat} {S S1 : St} {pc : Nat} {lv : List (Nat × Value)} {st : List Value} {cc : ByteArray} {own : String} {j idx : Nat}
/-- TypeKernel$Levels.count -/
theorem g_0 (hx : CX x cc nL own) (hk : (0, 0, j) ∈ x_K x) (hlink : Cond.fieldLink own idx "TypeKernel$Levels" "count" "I" ∈ TB) (hd : decode cc pc = .ok (.getfield idx, 3)) (kk : WX x nL kc ks S (pc + 3) lv (.int (S.1 0 j) :: st)) : WX x nL kc ks S pc lv (.ref (x_ad x 0 0 j) :: st) := r_get (k := 0) hx hk rfl (by decide) rfl in_X1 hlink hd kk
theorem p_0 (hx : CX x cc nL own) {v : Int32} (hk : (0, 0, j) ∈ x_K x) (hlink : Cond.fieldLink own idx "TypeKernel$Levels" "count" "I" ∈ TB) (hd : decode cc pc = .ok (.putfield idx, 3)) (e : S1 = sS S 0 j v) (kk : WX x nL kc ks S1 (pc + 3) lv st) : WX x nL kc ks S pc lv (.int v :: .ref (x_ad x 0 0 j) :: st) := r_put (k := 0) (ty := .int) hx hk rfl (by decide) (by decide +kernel) rfl in_X1 tyX1_ok nmX1 rfl (by decide +kernel) rfl rfl hlink hd e kk
/-- TypeKernel$Levels.code -/
theorem g_1 (hx : CX x cc nL own) (hk : (0, 0, j) ∈ x_K x) (hlink : Cond.fieldLink own idx "TypeKernel$Levels" "code" "[J" ∈ TB) (hd : decode cc pc = .ok (.getfield idx, 3)) (kk : WX x nL kc ks S (pc + 3) lv (.ref (x_ad x 2 1 j) :: st)) : WX x nL kc ks S pc lv (.ref (x_ad x 0 0 j) :: st) := r_get (k := 1) hx hk rfl (by decide) rfl in_X1 hlink hd kk
/-- TypeKernel$Levels.one -/
theorem g_2 (hx : CX x cc nL own) (hk : (0, 0, j) ∈ x_K x) (hlink : Cond.fieldLink own idx "TypeKernel$Levels" "one" "[I" ∈ TB) (hd : decode cc pc = .ok (.getfield idx, 3)) (kk : WX x nL kc ks S (pc + 3) lv (.ref (x_ad x 1 2 j) :: st)) : WX x nL kc ks S pc lv (.ref (x_ad x 0 0 j) :: st) := r_get (k := 2) hx hk rfl (by decide) rfl in_X1 hlink hd kk
/-- TypeKernel$Levels.two -/
theorem g_3 (hx : CX x cc nL own) (hk : (0, 0, j) ∈ x_K x) (hlink : Cond.fieldLink own idx "TypeKernel$Levels" "two" "[I" ∈ TB) (hd : decode cc pc = .ok (.getfield idx, 3)) (kk : WX x nL kc ks S (pc + 3) lv (.ref (x_ad x 1 3 j) :: st)) : WX x nL kc ks S pc lv (.ref (x_ad x 0 0 j) :: st) := r_get (k := 3) hx hk rfl (by decide) rfl in_X1 hlink hd kk
/-- TypeKernel$Levels.stack -/
theorem g_4 (hx : CX x cc nL own) (hk : (0, 0, j) ∈ x_K x) (hlink : Cond.fieldLink own idx "TypeKernel$Levels" "stack" "[I" ∈ TB) (hd : decode cc pc = .ok (.getfield idx, 3)) (kk : WX x nL kc ks S (pc + 3) lv (.ref (x_ad x 1 4 j) :: st)) : WX x nL kc ks S pc lv (.ref (x_ad x 0 0 j) :: st) := r_get (k := 4) hx hk rfl (by decide) rfl in_X1 hlink hd kk
/-- TypeKernel$Names.count -/
theorem g_50 (hx : CX x cc nL own) (hk : (0, 1, j) ∈ x_K x) (hlink : Cond.fieldLink own idx "TypeKernel$Names" "count" "I" ∈ TB) (hd : decode cc pc = .ok (.getfield idx, 3)) (kk : WX x nL kc ks S (pc + 3) lv (.int (S.1 50 j) :: st)) : WX x nL kc ks S pc lv (.ref (x_ad x 0 1 j) :: st) := r_get (k := 0) hx hk rfl (by decide) rfl in_X2 hlink hd kk
theorem p_50 (hx : CX x cc nL own) {v : Int32} (hk : (0, 1, j) ∈ x_K x) (hlink : Cond.fieldLink own idx "TypeKernel$Names" "count" "I" ∈ TB) (hd : decode cc pc = .ok (.putfield idx, 3)) (e : S1 = sS S 50 j v) (kk : WX x nL kc ks S1 (pc + 3) lv st) : WX x nL kc ks S pc lv (.int v :: .ref (x_ad x 0 1 j) :: st) := r_put (k := 0) (ty := .int) hx hk rfl (by decide) (by decide +kernel) rfl in_X2 tyX2_ok nmX2 rfl (by decide +kernel) rfl rfl hlink hd e kk
/-- TypeKernel$Names.parameters -/
theorem g_51 (hx : CX x cc nL own) (hk : (0, 1, j) ∈ x_K x) (hlink : Cond.fieldLink own idx "TypeKernel$Names" "parameters" "[I" ∈ TB) (hd : decode cc pc = .ok (.getfield idx, 3)) (kk : WX x nL kc ks S (pc + 3) lv (.ref (x_ad x 1 51 j) :: st)) : WX x nL kc ks S pc lv (.ref (x_ad x 0 1 j) :: st) := r_get (k := 1) hx hk rfl (by decide) rfl in_X2 hlink hd kk
/-- TypeKernel$Names.typeTerm -/
theorem g_52 (hx : CX x cc nL own) (hk : (0, 1, j) ∈ x_K x) (hlink : Cond.fieldLink own idx "TypeKernel$Names" "typeTerm" "[I" ∈ TB) (hd : decode cc pc = .ok (.getfield idx, 3)) (kk : WX x nL kc ks S (pc + 3) lv (.ref (x_ad x 1 52 j) :: st)) : WX x nL kc ks S pc lv (.ref (x_ad x 0 1 j) :: st) := r_get (k := 2) hx hk rfl (by decide) rfl in_X2 hlink hd kk
/-- TypeKernel$Names.valueTerm -/
theorem g_53 (hx : CX x cc nL own) (hk : (0, 1, j) ∈ x_K x) (hlink : Cond.fieldLink own idx "TypeKernel$Names" "valueTerm" "[I" ∈ TB) (hd : decode cc pc = .ok (.getfield idx, 3)) (kk : WX x nL kc ks S (pc + 3) lv (.ref (x_ad x 1 53 j) :: st)) : WX x nL kc ks S pc lv (.ref (x_ad x 0 1 j) :: st) := r_get (k := 3) hx hk rfl (by decide) rfl in_X2 hlink hd kk
/-- TypeKernel$Reducer.terms -/
theorem g_100 (hx : CX x cc nL own) (hk : (0, 2, j) ∈ x_K x) (hlink : Cond.fieldLink own idx "TypeKernel$Reducer" "terms" "LTypeKernel$Terms;" ∈ TB) (hd : decode cc pc = .ok (.getfield idx, 3)) (kk : WX x nL kc ks S (pc + 3) lv (.ref (x_ad x 0 4 0) :: st)) : WX x nL kc ks S pc lv (.ref (x_ad x 0 2 j) :: st) := r_get (k := 0) hx hk rfl (by decide) rfl in_X3 hlink hd kk
/-- TypeKernel$Reducer.names -/
theorem g_101 (hx : CX x cc nL own) (hk : (0, 2, j) ∈ x_K x) (hlink : Cond.fieldLink own idx "TypeKernel$Reducer" "names" "LTypeKernel$Names;" ∈ TB) (hd : decode cc pc = .ok (.getfield idx, 3)) (kk : WX x nL kc ks S (pc + 3) lv (.ref (x_ad x 0 1 0) :: st)) : WX x nL kc ks S pc lv (.ref (x_ad x 0 2 j) :: st) := r_get (k := 1) hx hk rfl (by decide) rfl in_X3 hlink hd kk
/-- TypeKernel$Reducer.body -/
theorem g_102 (hx : CX x cc nL own) (hk : (0, 2, j) ∈ x_K x) (hlink : Cond.fieldLink own idx "TypeKernel$Reducer" "body" "LTypeKernel$Row;" ∈ TB) (hd : decode cc pc = .ok (.getfield idx, 3)) (kk : WX x nL kc ks S (pc + 3) lv (.ref (x_ad x 0 3 2) :: st)) : WX x nL kc ks S pc lv (.ref (x_ad x 0 2 j) :: st) := r_get (k := 2) hx hk rfl (by decide) rfl in_X3 hlink hd kk
/-- TypeKernel$Reducer.argument -/
theorem g_103 (hx : CX x cc nL own) (hk : (0, 2, j) ∈ x_K x) (hlink : Cond.fieldLink own idx "TypeKernel$Reducer" "argument" "LTypeKernel$Row;" ∈ TB) (hd : decode cc pc = .ok (.getfield idx, 3)) (kk : WX x nL kc ks S (pc + 3) lv (.ref (x_ad x 0 3 3) :: st)) : WX x nL kc ks S pc lv (.ref (x_ad x 0 2 j) :: st) := r_get (k := 3) hx hk rfl (by decide) rfl in_X3 hlink hd kk
/-- TypeKernel$Reducer.made -/
theorem g_104 (hx : CX x cc nL own) (hk : (0, 2, j) ∈ x_K x) (hlink : Cond.fieldLink own idx "TypeKernel$Reducer" "made" "LTypeKernel$Row;" ∈ TB) (hd : decode cc pc = .ok (.getfield idx, 3)) (kk : WX x nL kc ks S (pc + 3) lv (.ref (x_ad x 0 3 4) :: st)) : WX x nL kc ks S pc lv (.ref (x_ad x 0 2 j) :: st) := r_get (k := 4) hx hk rfl (by decide) rfl in_X3 hlink hd kk
/-- TypeKernel$Row.size -/
theorem g_150 (hx : CX x cc nL own) (hk : (0, 3, j) ∈ x_K x) (hlink : Cond.fieldLink own idx "TypeKernel$Row" "size" "I" ∈ TB) (hd : decode cc pc = .ok (.getfield idx, 3)) (kk : WX x nL kc ks S (pc + 3) lv (.int (S.1 150 j) :: st)) : WX x nL kc ks S pc lv (.ref (x_ad x 0 3 j) :: st) := r_get (k := 0) hx hk rfl (by decide) rfl in_X4 hlink hd kk
theorem p_150 (hx : CX x cc nL own) {v : Int32} (hk : (0, 3, j) ∈ x_K x) (hlink : Cond.fieldLink own idx "TypeKernel$Row" "size" "I" ∈ TB) (hd : decode cc pc = .ok (.putfield idx, 3)) (e : S1 = sS S 150 j v) (kk : WX x nL kc ks S1 (pc + 3) lv st) : WX x nL kc ks S pc lv (.int v :: .ref (x_ad x 0 3 j) :: st) := r_put (k := 0) (ty := .int) hx hk rfl (by decide) (by decide +kernel) rfl in_X4 tyX4_ok nmX4 rfl (by decide +kernel) rfl rfl hlink hd e kk
/-- TypeKernel$Row.kind -/
theorem g_151 (hx : CX x cc nL own) (hk : (0, 3, j) ∈ x_K x) (hlink : Cond.fieldLink own idx "TypeKernel$Row" "kind" "[I" ∈ TB) (hd : decode cc pc = .ok (.getfield idx, 3)) (kk : WX x nL kc ks S (pc + 3) lv (.ref (x_ad x 1 151 j) :: st)) : WX x nL kc ks S pc lv (.ref (x_ad x 0 3 j) :: st) := r_get (k := 1) hx hk rfl (by decide) rfl in_X4 hlink hd kk
/-- TypeKernel$Row.index -/
theorem g_152 (hx : CX x cc nL own) (hk : (0, 3, j) ∈ x_K x) (hlink : Cond.fieldLink own idx "TypeKernel$Row" "index" "[I" ∈ TB) (hd : decode cc pc = .ok (.getfield idx, 3)) (kk : WX x nL kc ks S (pc + 3) lv (.ref (x_ad x 1 152 j) :: st)) : WX x nL kc ks S pc lv (.ref (x_ad x 0 3 j) :: st) := r_get (k := 2) hx hk rfl (by decide) rfl in_X4 hlink hd kk
/-- TypeKernel$Row.depth -/
theorem g_153 (hx : CX x cc nL own) (hk : (0, 3, j) ∈ x_K x) (hlink : Cond.fieldLink own idx "TypeKernel$Row" "depth" "[I" ∈ TB) (hd : decode cc pc = .ok (.getfield idx, 3)) (kk : WX x nL kc ks S (pc + 3) lv (.ref (x_ad x 1 153 j) :: st)) : WX x nL kc ks S pc lv (.ref (x_ad x 0 3 j) :: st) := r_get (k := 3) hx hk rfl (by decide) rfl in_X4 hlink hd kk
/-- TypeKernel$Row.first -/
theorem g_154 (hx : CX x cc nL own) (hk : (0, 3, j) ∈ x_K x) (hlink : Cond.fieldLink own idx "TypeKernel$Row" "first" "[J" ∈ TB) (hd : decode cc pc = .ok (.getfield idx, 3)) (kk : WX x nL kc ks S (pc + 3) lv (.ref (x_ad x 2 154 j) :: st)) : WX x nL kc ks S pc lv (.ref (x_ad x 0 3 j) :: st) := r_get (k := 4) hx hk rfl (by decide) rfl in_X4 hlink hd kk
/-- TypeKernel$Row.second -/
theorem g_155 (hx : CX x cc nL own) (hk : (0, 3, j) ∈ x_K x) (hlink : Cond.fieldLink own idx "TypeKernel$Row" "second" "[J" ∈ TB) (hd : decode cc pc = .ok (.getfield idx, 3)) (kk : WX x nL kc ks S (pc + 3) lv (.ref (x_ad x 2 155 j) :: st)) : WX x nL kc ks S pc lv (.ref (x_ad x 0 3 j) :: st) := r_get (k := 5) hx hk rfl (by decide) rfl in_X4 hlink hd kk
/-- TypeKernel$Terms.count -/
theorem g_200 (hx : CX x cc nL own) (hk : (0, 4, j) ∈ x_K x) (hlink : Cond.fieldLink own idx "TypeKernel$Terms" "count" "I" ∈ TB) (hd : decode cc pc = .ok (.getfield idx, 3)) (kk : WX x nL kc ks S (pc + 3) lv (.int (S.1 200 j) :: st)) : WX x nL kc ks S pc lv (.ref (x_ad x 0 4 j) :: st) := r_get (k := 0) hx hk rfl (by decide) rfl in_X5 hlink hd kk
theorem p_200 (hx : CX x cc nL own) {v : Int32} (hk : (0, 4, j) ∈ x_K x) (hlink : Cond.fieldLink own idx "TypeKernel$Terms" "count" "I" ∈ TB) (hd : decode cc pc = .ok (.putfield idx, 3)) (e : S1 = sS S 200 j v) (kk : WX x nL kc ks S1 (pc + 3) lv st) : WX x nL kc ks S pc lv (.int v :: .ref (x_ad x 0 4 j) :: st) := r_put (k := 0) (ty := .int) hx hk rfl (by decide) (by decide +kernel) rfl in_X5 tyX5_ok nmX5 rfl (by decide +kernel) rfl rfl hlink hd e kk
/-- TypeKernel$Terms.kind -/
theorem g_201 (hx : CX x cc nL own) (hk : (0, 4, j) ∈ x_K x) (hlink : Cond.fieldLink own idx "TypeKernel$Terms" "kind" "[I" ∈ TB) (hd : decode cc pc = .ok (.getfield idx, 3)) (kk : WX x nL kc ks S (pc + 3) lv (.ref (x_ad x 1 201 j) :: st)) : WX x nL kc ks S pc lv (.ref (x_ad x 0 4 j) :: st) := r_get (k := 1) hx hk rfl (by decide) rfl in_X5 hlink hd kk
/-- TypeKernel$Terms.one -/
theorem g_202 (hx : CX x cc nL own) (hk : (0, 4, j) ∈ x_K x) (hlink : Cond.fieldLink own idx "TypeKernel$Terms" "one" "[I" ∈ TB) (hd : decode cc pc = .ok (.getfield idx, 3)) (kk : WX x nL kc ks S (pc + 3) lv (.ref (x_ad x 1 202 j) :: st)) : WX x nL kc ks S pc lv (.ref (x_ad x 0 4 j) :: st) := r_get (k := 2) hx hk rfl (by decide) rfl in_X5 hlink hd kk
/-- TypeKernel$Terms.two -/
theorem g_203 (hx : CX x cc nL own) (hk : (0, 4, j) ∈ x_K x) (hlink : Cond.fieldLink own idx "TypeKernel$Terms" "two" "[I" ∈ TB) (hd : decode cc pc = .ok (.getfield idx, 3)) (kk : WX x nL kc ks S (pc + 3) lv (.ref (x_ad x 1 203 j) :: st)) : WX x nL kc ks S pc lv (.ref (x_ad x 0 4 j) :: st) := r_get (k := 3) hx hk rfl (by decide) rfl in_X5 hlink hd kk
/-- TypeKernel$Terms.three -/
theorem g_204 (hx : CX x cc nL own) (hk : (0, 4, j) ∈ x_K x) (hlink : Cond.fieldLink own idx "TypeKernel$Terms" "three" "[I" ∈ TB) (hd : decode cc pc = .ok (.getfield idx, 3)) (kk : WX x nL kc ks S (pc + 3) lv (.ref (x_ad x 1 204 j) :: st)) : WX x nL kc ks S pc lv (.ref (x_ad x 0 4 j) :: st) := r_get (k := 4) hx hk rfl (by decide) rfl in_X5 hlink hd kk
/-- TypeKernel$Terms.size -/
theorem g_205 (hx : CX x cc nL own) (hk : (0, 4, j) ∈ x_K x) (hlink : Cond.fieldLink own idx "TypeKernel$Terms" "size" "[I" ∈ TB) (hd : decode cc pc = .ok (.getfield idx, 3)) (kk : WX x nL kc ks S (pc + 3) lv (.ref (x_ad x 1 205 j) :: st)) : WX x nL kc ks S pc lv (.ref (x_ad x 0 4 j) :: st) := r_get (k := 5) hx hk rfl (by decide) rfl in_X5 hlink hd kk
/-- TypeKernel$Terms.open -/
theorem g_206 (hx : CX x cc nL own) (hk : (0, 4, j) ∈ x_K x) (hlink : Cond.fieldLink own idx "TypeKernel$Terms" "open" "[I" ∈ TB) (hd : decode cc pc = .ok (.getfield idx, 3)) (kk : WX x nL kc ks S (pc + 3) lv (.ref (x_ad x 1 206 j) :: st)) : WX x nL kc ks S pc lv (.ref (x_ad x 0 4 j) :: st) := r_get (k := 6) hx hk rfl (by decide) rfl in_X5 hlink hd kk
/-- TypeKernel$Terms.levels -/
theorem g_207 (hx : CX x cc nL own) (hk : (0, 4, j) ∈ x_K x) (hlink : Cond.fieldLink own idx "TypeKernel$Terms" "levels" "LTypeKernel$Levels;" ∈ TB) (hd : decode cc pc = .ok (.getfield idx, 3)) (kk : WX x nL kc ks S (pc + 3) lv (.ref (x_ad x 0 0 0) :: st)) : WX x nL kc ks S pc lv (.ref (x_ad x 0 4 j) :: st) := r_get (k := 7) hx hk rfl (by decide) rfl in_X5 hlink hd kk
/-- TypeKernel$Terms.waiting -/
theorem g_208 (hx : CX x cc nL own) (hk : (0, 4, j) ∈ x_K x) (hlink : Cond.fieldLink own idx "TypeKernel$Terms" "waiting" "[I" ∈ TB) (hd : decode cc pc = .ok (.getfield idx, 3)) (kk : WX x nL kc ks S (pc + 3) lv (.ref (x_ad x 1 208 j) :: st)) : WX x nL kc ks S pc lv (.ref (x_ad x 0 4 j) :: st) := r_get (k := 8) hx hk rfl (by decide) rfl in_X5 hlink hd kk
/-- TypeKernel$Terms.waitingDepth -/
theorem g_209 (hx : CX x cc nL own) (hk : (0, 4, j) ∈ x_K x) (hlink : Cond.fieldLink own idx "TypeKernel$Terms" "waitingDepth" "[I" ∈ TB) (hd : decode cc pc = .ok (.getfield idx, 3)) (kk : WX x nL kc ks S (pc + 3) lv (.ref (x_ad x 1 209 j) :: st)) : WX x nL kc ks S pc lv (.ref (x_ad x 0 4 j) :: st) := r_get (k := 9) hx hk rfl (by decide) rfl in_X5 hlink hd kk
/-- TypeKernel$Terms.waits -/
theorem g_210 (hx : CX x cc nL own) (hk : (0, 4, j) ∈ x_K x) (hlink : Cond.fieldLink own idx "TypeKernel$Terms" "waits" "I" ∈ TB) (hd : decode cc pc = .ok (.getfield idx, 3)) (kk : WX x nL kc ks S (pc + 3) lv (.int (S.1 210 j) :: st)) : WX x nL kc ks S pc lv (.ref (x_ad x 0 4 j) :: st) := r_get (k := 10) hx hk rfl (by decide) rfl in_X5 hlink hd kk
theorem p_210 (hx : CX x cc nL own) {v : Int32} (hk : (0, 4, j) ∈ x_K x) (hlink : Cond.fieldLink own idx "TypeKernel$Terms" "waits" "I" ∈ TB) (hd : decode cc pc = .ok (.putfield idx, 3)) (e : S1 = sS S 210 j v) (kk : WX x nL kc ks S1 (pc + 3) lv st) : WX x nL kc ks S pc lv (.int v :: .ref (x_ad x 0 4 j) :: st) := r_put (k := 10) (ty := .int) hx hk rfl (by decide) (by decide +kernel) rfl in_X5 tyX5_ok nmX5 rfl (by decide +kernel) rfl rfl hlink hd e kk
/-- TypeKernel$Terms.reading -/
theorem g_211 (hx : CX x cc nL own) (hk : (0, 4, j) ∈ x_K x) (hlink : Cond.fieldLink own idx "TypeKernel$Terms" "reading" "I" ∈ TB) (hd : decode cc pc = .ok (.getfield idx, 3)) (kk : WX x nL kc ks S (pc + 3) lv (.int (S.1 211 j) :: st)) : WX x nL kc ks S pc lv (.ref (x_ad x 0 4 j) :: st) := r_get (k := 11) hx hk rfl (by decide) rfl in_X5 hlink hd kk
theorem p_211 (hx : CX x cc nL own) {v : Int32} (hk : (0, 4, j) ∈ x_K x) (hlink : Cond.fieldLink own idx "TypeKernel$Terms" "reading" "I" ∈ TB) (hd : decode cc pc = .ok (.putfield idx, 3)) (e : S1 = sS S 211 j v) (kk : WX x nL kc ks S1 (pc + 3) lv st) : WX x nL kc ks S pc lv (.int v :: .ref (x_ad x 0 4 j) :: st) := r_put (k := 11) (ty := .int) hx hk rfl (by decide) (by decide +kernel) rfl in_X5 tyX5_ok nmX5 rfl (by decide +kernel) rfl rfl hlink hd e kk
/-- TypeKernel$Typer.levels -/
theorem g_250 (hx : CX x cc nL own) (hk : (0, 5, j) ∈ x_K x) (hlink : Cond.fieldLink own idx "TypeKernel$Typer" "levels" "LTypeKernel$Levels;" ∈ TB) (hd : decode cc pc = .ok (.getfield idx, 3)) (kk : WX x nL kc ks S (pc + 3) lv (.ref (x_ad x 0 0 0) :: st)) : WX x nL kc ks S pc lv (.ref (x_ad x 0 5 j) :: st) := r_get (k := 0) hx hk rfl (by decide) rfl in_X6 hlink hd kk
/-- TypeKernel$Typer.terms -/
theorem g_251 (hx : CX x cc nL own) (hk : (0, 5, j) ∈ x_K x) (hlink : Cond.fieldLink own idx "TypeKernel$Typer" "terms" "LTypeKernel$Terms;" ∈ TB) (hd : decode cc pc = .ok (.getfield idx, 3)) (kk : WX x nL kc ks S (pc + 3) lv (.ref (x_ad x 0 4 0) :: st)) : WX x nL kc ks S pc lv (.ref (x_ad x 0 5 j) :: st) := r_get (k := 1) hx hk rfl (by decide) rfl in_X6 hlink hd kk
/-- TypeKernel$Typer.names -/
theorem g_252 (hx : CX x cc nL own) (hk : (0, 5, j) ∈ x_K x) (hlink : Cond.fieldLink own idx "TypeKernel$Typer" "names" "LTypeKernel$Names;" ∈ TB) (hd : decode cc pc = .ok (.getfield idx, 3)) (kk : WX x nL kc ks S (pc + 3) lv (.ref (x_ad x 0 1 0) :: st)) : WX x nL kc ks S pc lv (.ref (x_ad x 0 5 j) :: st) := r_get (k := 2) hx hk rfl (by decide) rfl in_X6 hlink hd kk
/-- TypeKernel$Typer.reducer -/
theorem g_253 (hx : CX x cc nL own) (hk : (0, 5, j) ∈ x_K x) (hlink : Cond.fieldLink own idx "TypeKernel$Typer" "reducer" "LTypeKernel$Reducer;" ∈ TB) (hd : decode cc pc = .ok (.getfield idx, 3)) (kk : WX x nL kc ks S (pc + 3) lv (.ref (x_ad x 0 2 0) :: st)) : WX x nL kc ks S pc lv (.ref (x_ad x 0 5 j) :: st) := r_get (k := 3) hx hk rfl (by decide) rfl in_X6 hlink hd kk
/-- TypeKernel$Typer.found -/
theorem g_254 (hx : CX x cc nL own) (hk : (0, 5, j) ∈ x_K x) (hlink : Cond.fieldLink own idx "TypeKernel$Typer" "found" "LTypeKernel$Row;" ∈ TB) (hd : decode cc pc = .ok (.getfield idx, 3)) (kk : WX x nL kc ks S (pc + 3) lv (.ref (x_ad x 0 3 6) :: st)) : WX x nL kc ks S pc lv (.ref (x_ad x 0 5 j) :: st) := r_get (k := 4) hx hk rfl (by decide) rfl in_X6 hlink hd kk
/-- TypeKernel$Typer.rows -/
theorem g_255 (hx : CX x cc nL own) (hk : (0, 5, j) ∈ x_K x) (hlink : Cond.fieldLink own idx "TypeKernel$Typer" "rows" "[LTypeKernel$Row;" ∈ TB) (hd : decode cc pc = .ok (.getfield idx, 3)) (kk : WX x nL kc ks S (pc + 3) lv (.ref (x_ad x 3 255 j) :: st)) : WX x nL kc ks S pc lv (.ref (x_ad x 0 5 j) :: st) := r_get (k := 5) hx hk rfl (by decide) rfl in_X6 hlink hd kk
/-- TypeKernel$Typer.binderType -/
theorem g_256 (hx : CX x cc nL own) (hk : (0, 5, j) ∈ x_K x) (hlink : Cond.fieldLink own idx "TypeKernel$Typer" "binderType" "[I" ∈ TB) (hd : decode cc pc = .ok (.getfield idx, 3)) (kk : WX x nL kc ks S (pc + 3) lv (.ref (x_ad x 1 256 j) :: st)) : WX x nL kc ks S pc lv (.ref (x_ad x 0 5 j) :: st) := r_get (k := 6) hx hk rfl (by decide) rfl in_X6 hlink hd kk
/-- TypeKernel$Typer.written -/
theorem g_257 (hx : CX x cc nL own) (hk : (0, 5, j) ∈ x_K x) (hlink : Cond.fieldLink own idx "TypeKernel$Typer" "written" "LTypeKernel$Row;" ∈ TB) (hd : decode cc pc = .ok (.getfield idx, 3)) (kk : WX x nL kc ks S (pc + 3) lv (.ref (x_ad x 0 3 5) :: st)) : WX x nL kc ks S pc lv (.ref (x_ad x 0 5 j) :: st) := r_get (k := 7) hx hk rfl (by decide) rfl in_X6 hlink hd kk
/-- TypeKernel.levels -/
theorem g_300 (hx : CX x cc nL own) (hk : (0, 6, j) ∈ x_K x) (hlink : Cond.fieldLink own idx "TypeKernel" "levels" "LTypeKernel$Levels;" ∈ TB) (hd : decode cc pc = .ok (.getfield idx, 3)) (kk : WX x nL kc ks S (pc + 3) lv (.ref (x_ad x 0 0 0) :: st)) : WX x nL kc ks S pc lv (.ref (x_ad x 0 6 j) :: st) := r_get (k := 0) hx hk rfl (by decide) rfl in_X7 hlink hd kk
/-- TypeKernel.terms -/
theorem g_301 (hx : CX x cc nL own) (hk : (0, 6, j) ∈ x_K x) (hlink : Cond.fieldLink own idx "TypeKernel" "terms" "LTypeKernel$Terms;" ∈ TB) (hd : decode cc pc = .ok (.getfield idx, 3)) (kk : WX x nL kc ks S (pc + 3) lv (.ref (x_ad x 0 4 0) :: st)) : WX x nL kc ks S pc lv (.ref (x_ad x 0 6 j) :: st) := r_get (k := 1) hx hk rfl (by decide) rfl in_X7 hlink hd kk
/-- TypeKernel.names -/
theorem g_302 (hx : CX x cc nL own) (hk : (0, 6, j) ∈ x_K x) (hlink : Cond.fieldLink own idx "TypeKernel" "names" "LTypeKernel$Names;" ∈ TB) (hd : decode cc pc = .ok (.getfield idx, 3)) (kk : WX x nL kc ks S (pc + 3) lv (.ref (x_ad x 0 1 0) :: st)) : WX x nL kc ks S pc lv (.ref (x_ad x 0 6 j) :: st) := r_get (k := 2) hx hk rfl (by decide) rfl in_X7 hlink hd kk
/-- TypeKernel.reducer -/
theorem g_303 (hx : CX x cc nL own) (hk : (0, 6, j) ∈ x_K x) (hlink : Cond.fieldLink own idx "TypeKernel" "reducer" "LTypeKernel$Reducer;" ∈ TB) (hd : decode cc pc = .ok (.getfield idx, 3)) (kk : WX x nL kc ks S (pc + 3) lv (.ref (x_ad x 0 2 0) :: st)) : WX x nL kc ks S pc lv (.ref (x_ad x 0 6 j) :: st) := r_get (k := 3) hx hk rfl (by decide) rfl in_X7 hlink hd kk
/-- TypeKernel.typer -/
theorem g_304 (hx : CX x cc nL own) (hk : (0, 6, j) ∈ x_K x) (hlink : Cond.fieldLink own idx "TypeKernel" "typer" "LTypeKernel$Typer;" ∈ TB) (hd : decode cc pc = .ok (.getfield idx, 3)) (kk : WX x nL kc ks S (pc + 3) lv (.ref (x_ad x 0 5 0) :: st)) : WX x nL kc ks S pc lv (.ref (x_ad x 0 6 j) :: st) := r_get (k := 4) hx hk rfl (by decide) rfl in_X7 hlink hd kk
/-- TypeKernel.here -/
theorem g_305 (hx : CX x cc nL own) (hk : (0, 6, j) ∈ x_K x) (hlink : Cond.fieldLink own idx "TypeKernel" "here" "LTypeKernel$Row;" ∈ TB) (hd : decode cc pc = .ok (.getfield idx, 3)) (kk : WX x nL kc ks S (pc + 3) lv (.ref (x_ad x 0 3 0) :: st)) : WX x nL kc ks S pc lv (.ref (x_ad x 0 6 j) :: st) := r_get (k := 5) hx hk rfl (by decide) rfl in_X7 hlink hd kk
/-- TypeKernel.there -/
theorem g_306 (hx : CX x cc nL own) (hk : (0, 6, j) ∈ x_K x) (hlink : Cond.fieldLink own idx "TypeKernel" "there" "LTypeKernel$Row;" ∈ TB) (hd : decode cc pc = .ok (.getfield idx, 3)) (kk : WX x nL kc ks S (pc + 3) lv (.ref (x_ad x 0 3 1) :: st)) : WX x nL kc ks S pc lv (.ref (x_ad x 0 6 j) :: st) := r_get (k := 6) hx hk rfl (by decide) rfl in_X7 hlink hd kk
/-- TypeKernelModel.code -/
theorem g_350 (hx : CX x cc nL own) (hk : (0, 7, j) ∈ x_K x) (hlink : Cond.fieldLink own idx "TypeKernelModel" "code" "I" ∈ TB) (hd : decode cc pc = .ok (.getfield idx, 3)) (kk : WX x nL kc ks S (pc + 3) lv (.int (S.1 350 j) :: st)) : WX x nL kc ks S pc lv (.ref (x_ad x 0 7 j) :: st) := r_get (k := 0) hx hk rfl (by decide) rfl in_X8 hlink hd kk
theorem p_350 (hx : CX x cc nL own) {v : Int32} (hk : (0, 7, j) ∈ x_K x) (hlink : Cond.fieldLink own idx "TypeKernelModel" "code" "I" ∈ TB) (hd : decode cc pc = .ok (.putfield idx, 3)) (e : S1 = sS S 350 j v) (kk : WX x nL kc ks S1 (pc + 3) lv st) : WX x nL kc ks S pc lv (.int v :: .ref (x_ad x 0 7 j) :: st) := r_put (k := 0) (ty := .int) hx hk rfl (by decide) (by decide +kernel) rfl in_X8 tyX8_ok nmX8 rfl (by decide +kernel) rfl rfl hlink hd e kk
/-- TypeKernelModel.levelKind -/
theorem g_351 (hx : CX x cc nL own) (hk : (0, 7, j) ∈ x_K x) (hlink : Cond.fieldLink own idx "TypeKernelModel" "levelKind" "[I" ∈ TB) (hd : decode cc pc = .ok (.getfield idx, 3)) (kk : WX x nL kc ks S (pc + 3) lv (.ref (x_ad x 1 351 j) :: st)) : WX x nL kc ks S pc lv (.ref (x_ad x 0 7 j) :: st) := r_get (k := 1) hx hk rfl (by decide) rfl in_X8 hlink hd kk
/-- TypeKernelModel.levelA -/
theorem g_352 (hx : CX x cc nL own) (hk : (0, 7, j) ∈ x_K x) (hlink : Cond.fieldLink own idx "TypeKernelModel" "levelA" "[I" ∈ TB) (hd : decode cc pc = .ok (.getfield idx, 3)) (kk : WX x nL kc ks S (pc + 3) lv (.ref (x_ad x 1 352 j) :: st)) : WX x nL kc ks S pc lv (.ref (x_ad x 0 7 j) :: st) := r_get (k := 2) hx hk rfl (by decide) rfl in_X8 hlink hd kk
/-- TypeKernelModel.levelB -/
theorem g_353 (hx : CX x cc nL own) (hk : (0, 7, j) ∈ x_K x) (hlink : Cond.fieldLink own idx "TypeKernelModel" "levelB" "[I" ∈ TB) (hd : decode cc pc = .ok (.getfield idx, 3)) (kk : WX x nL kc ks S (pc + 3) lv (.ref (x_ad x 1 353 j) :: st)) : WX x nL kc ks S pc lv (.ref (x_ad x 0 7 j) :: st) := r_get (k := 3) hx hk rfl (by decide) rfl in_X8 hlink hd kk
/-- TypeKernelModel.levelSize -/
theorem g_354 (hx : CX x cc nL own) (hk : (0, 7, j) ∈ x_K x) (hlink : Cond.fieldLink own idx "TypeKernelModel" "levelSize" "[I" ∈ TB) (hd : decode cc pc = .ok (.getfield idx, 3)) (kk : WX x nL kc ks S (pc + 3) lv (.ref (x_ad x 1 354 j) :: st)) : WX x nL kc ks S pc lv (.ref (x_ad x 0 7 j) :: st) := r_get (k := 4) hx hk rfl (by decide) rfl in_X8 hlink hd kk
/-- TypeKernelModel.levels -/
theorem g_355 (hx : CX x cc nL own) (hk : (0, 7, j) ∈ x_K x) (hlink : Cond.fieldLink own idx "TypeKernelModel" "levels" "I" ∈ TB) (hd : decode cc pc = .ok (.getfield idx, 3)) (kk : WX x nL kc ks S (pc + 3) lv (.int (S.1 355 j) :: st)) : WX x nL kc ks S pc lv (.ref (x_ad x 0 7 j) :: st) := r_get (k := 5) hx hk rfl (by decide) rfl in_X8 hlink hd kk
theorem p_355 (hx : CX x cc nL own) {v : Int32} (hk : (0, 7, j) ∈ x_K x) (hlink : Cond.fieldLink own idx "TypeKernelModel" "levels" "I" ∈ TB) (hd : decode cc pc = .ok (.putfield idx, 3)) (e : S1 = sS S 355 j v) (kk : WX x nL kc ks S1 (pc + 3) lv st) : WX x nL kc ks S pc lv (.int v :: .ref (x_ad x 0 7 j) :: st) := r_put (k := 5) (ty := .int) hx hk rfl (by decide) (by decide +kernel) rfl in_X8 tyX8_ok nmX8 rfl (by decide +kernel) rfl rfl hlink hd e kk
/-- TypeKernelModel.termKind -/
theorem g_356 (hx : CX x cc nL own) (hk : (0, 7, j) ∈ x_K x) (hlink : Cond.fieldLink own idx "TypeKernelModel" "termKind" "[I" ∈ TB) (hd : decode cc pc = .ok (.getfield idx, 3)) (kk : WX x nL kc ks S (pc + 3) lv (.ref (x_ad x 1 356 j) :: st)) : WX x nL kc ks S pc lv (.ref (x_ad x 0 7 j) :: st) := r_get (k := 6) hx hk rfl (by decide) rfl in_X8 hlink hd kk
/-- TypeKernelModel.partA -/
theorem g_357 (hx : CX x cc nL own) (hk : (0, 7, j) ∈ x_K x) (hlink : Cond.fieldLink own idx "TypeKernelModel" "partA" "[I" ∈ TB) (hd : decode cc pc = .ok (.getfield idx, 3)) (kk : WX x nL kc ks S (pc + 3) lv (.ref (x_ad x 1 357 j) :: st)) : WX x nL kc ks S pc lv (.ref (x_ad x 0 7 j) :: st) := r_get (k := 7) hx hk rfl (by decide) rfl in_X8 hlink hd kk
/-- TypeKernelModel.partB -/
theorem g_358 (hx : CX x cc nL own) (hk : (0, 7, j) ∈ x_K x) (hlink : Cond.fieldLink own idx "TypeKernelModel" "partB" "[I" ∈ TB) (hd : decode cc pc = .ok (.getfield idx, 3)) (kk : WX x nL kc ks S (pc + 3) lv (.ref (x_ad x 1 358 j) :: st)) : WX x nL kc ks S pc lv (.ref (x_ad x 0 7 j) :: st) := r_get (k := 8) hx hk rfl (by decide) rfl in_X8 hlink hd kk
/-- TypeKernelModel.partC -/
theorem g_359 (hx : CX x cc nL own) (hk : (0, 7, j) ∈ x_K x) (hlink : Cond.fieldLink own idx "TypeKernelModel" "partC" "[I" ∈ TB) (hd : decode cc pc = .ok (.getfield idx, 3)) (kk : WX x nL kc ks S (pc + 3) lv (.ref (x_ad x 1 359 j) :: st)) : WX x nL kc ks S pc lv (.ref (x_ad x 0 7 j) :: st) := r_get (k := 9) hx hk rfl (by decide) rfl in_X8 hlink hd kk
/-- TypeKernelModel.termSize -/
theorem g_360 (hx : CX x cc nL own) (hk : (0, 7, j) ∈ x_K x) (hlink : Cond.fieldLink own idx "TypeKernelModel" "termSize" "[I" ∈ TB) (hd : decode cc pc = .ok (.getfield idx, 3)) (kk : WX x nL kc ks S (pc + 3) lv (.ref (x_ad x 1 360 j) :: st)) : WX x nL kc ks S pc lv (.ref (x_ad x 0 7 j) :: st) := r_get (k := 10) hx hk rfl (by decide) rfl in_X8 hlink hd kk
/-- TypeKernelModel.termOpen -/
theorem g_361 (hx : CX x cc nL own) (hk : (0, 7, j) ∈ x_K x) (hlink : Cond.fieldLink own idx "TypeKernelModel" "termOpen" "[I" ∈ TB) (hd : decode cc pc = .ok (.getfield idx, 3)) (kk : WX x nL kc ks S (pc + 3) lv (.ref (x_ad x 1 361 j) :: st)) : WX x nL kc ks S pc lv (.ref (x_ad x 0 7 j) :: st) := r_get (k := 11) hx hk rfl (by decide) rfl in_X8 hlink hd kk
/-- TypeKernelModel.terms -/
theorem g_362 (hx : CX x cc nL own) (hk : (0, 7, j) ∈ x_K x) (hlink : Cond.fieldLink own idx "TypeKernelModel" "terms" "I" ∈ TB) (hd : decode cc pc = .ok (.getfield idx, 3)) (kk : WX x nL kc ks S (pc + 3) lv (.int (S.1 362 j) :: st)) : WX x nL kc ks S pc lv (.ref (x_ad x 0 7 j) :: st) := r_get (k := 12) hx hk rfl (by decide) rfl in_X8 hlink hd kk
theorem p_362 (hx : CX x cc nL own) {v : Int32} (hk : (0, 7, j) ∈ x_K x) (hlink : Cond.fieldLink own idx "TypeKernelModel" "terms" "I" ∈ TB) (hd : decode cc pc = .ok (.putfield idx, 3)) (e : S1 = sS S 362 j v) (kk : WX x nL kc ks S1 (pc + 3) lv st) : WX x nL kc ks S pc lv (.int v :: .ref (x_ad x 0 7 j) :: st) := r_put (k := 12) (ty := .int) hx hk rfl (by decide) (by decide +kernel) rfl in_X8 tyX8_ok nmX8 rfl (by decide +kernel) rfl rfl hlink hd e kk
/-- TypeKernelModel.nameParameters -/
theorem g_363 (hx : CX x cc nL own) (hk : (0, 7, j) ∈ x_K x) (hlink : Cond.fieldLink own idx "TypeKernelModel" "nameParameters" "[I" ∈ TB) (hd : decode cc pc = .ok (.getfield idx, 3)) (kk : WX x nL kc ks S (pc + 3) lv (.ref (x_ad x 1 363 j) :: st)) : WX x nL kc ks S pc lv (.ref (x_ad x 0 7 j) :: st) := r_get (k := 13) hx hk rfl (by decide) rfl in_X8 hlink hd kk
/-- TypeKernelModel.nameType -/
theorem g_364 (hx : CX x cc nL own) (hk : (0, 7, j) ∈ x_K x) (hlink : Cond.fieldLink own idx "TypeKernelModel" "nameType" "[I" ∈ TB) (hd : decode cc pc = .ok (.getfield idx, 3)) (kk : WX x nL kc ks S (pc + 3) lv (.ref (x_ad x 1 364 j) :: st)) : WX x nL kc ks S pc lv (.ref (x_ad x 0 7 j) :: st) := r_get (k := 14) hx hk rfl (by decide) rfl in_X8 hlink hd kk
/-- TypeKernelModel.nameValue -/
theorem g_365 (hx : CX x cc nL own) (hk : (0, 7, j) ∈ x_K x) (hlink : Cond.fieldLink own idx "TypeKernelModel" "nameValue" "[I" ∈ TB) (hd : decode cc pc = .ok (.getfield idx, 3)) (kk : WX x nL kc ks S (pc + 3) lv (.ref (x_ad x 1 365 j) :: st)) : WX x nL kc ks S pc lv (.ref (x_ad x 0 7 j) :: st) := r_get (k := 15) hx hk rfl (by decide) rfl in_X8 hlink hd kk
/-- TypeKernelModel.names -/
theorem g_366 (hx : CX x cc nL own) (hk : (0, 7, j) ∈ x_K x) (hlink : Cond.fieldLink own idx "TypeKernelModel" "names" "I" ∈ TB) (hd : decode cc pc = .ok (.getfield idx, 3)) (kk : WX x nL kc ks S (pc + 3) lv (.int (S.1 366 j) :: st)) : WX x nL kc ks S pc lv (.ref (x_ad x 0 7 j) :: st) := r_get (k := 16) hx hk rfl (by decide) rfl in_X8 hlink hd kk
theorem p_366 (hx : CX x cc nL own) {v : Int32} (hk : (0, 7, j) ∈ x_K x) (hlink : Cond.fieldLink own idx "TypeKernelModel" "names" "I" ∈ TB) (hd : decode cc pc = .ok (.putfield idx, 3)) (e : S1 = sS S 366 j v) (kk : WX x nL kc ks S1 (pc + 3) lv st) : WX x nL kc ks S pc lv (.int v :: .ref (x_ad x 0 7 j) :: st) := r_put (k := 16) (ty := .int) hx hk rfl (by decide) (by decide +kernel) rfl in_X8 tyX8_ok nmX8 rfl (by decide +kernel) rfl rfl hlink hd e kk
/-- TypeKernelModel.term -/
theorem g_367 (hx : CX x cc nL own) (hk : (0, 7, j) ∈ x_K x) (hlink : Cond.fieldLink own idx "TypeKernelModel" "term" "[I" ∈ TB) (hd : decode cc pc = .ok (.getfield idx, 3)) (kk : WX x nL kc ks S (pc + 3) lv (.ref (x_ad x 1 367 j) :: st)) : WX x nL kc ks S pc lv (.ref (x_ad x 0 7 j) :: st) := r_get (k := 17) hx hk rfl (by decide) rfl in_X8 hlink hd kk
/-- TypeKernelModel.now -/
theorem g_368 (hx : CX x cc nL own) (hk : (0, 7, j) ∈ x_K x) (hlink : Cond.fieldLink own idx "TypeKernelModel" "now" "[I" ∈ TB) (hd : decode cc pc = .ok (.getfield idx, 3)) (kk : WX x nL kc ks S (pc + 3) lv (.ref (x_ad x 1 368 j) :: st)) : WX x nL kc ks S pc lv (.ref (x_ad x 0 7 j) :: st) := r_get (k := 18) hx hk rfl (by decide) rfl in_X8 hlink hd kk
/-- TypeKernelModel.next -/
theorem g_369 (hx : CX x cc nL own) (hk : (0, 7, j) ∈ x_K x) (hlink : Cond.fieldLink own idx "TypeKernelModel" "next" "[I" ∈ TB) (hd : decode cc pc = .ok (.getfield idx, 3)) (kk : WX x nL kc ks S (pc + 3) lv (.ref (x_ad x 1 369 j) :: st)) : WX x nL kc ks S pc lv (.ref (x_ad x 0 7 j) :: st) := r_get (k := 19) hx hk rfl (by decide) rfl in_X8 hlink hd kk
/-- TypeKernelModel.told -/
theorem g_370 (hx : CX x cc nL own) (hk : (0, 7, j) ∈ x_K x) (hlink : Cond.fieldLink own idx "TypeKernelModel" "told" "[I" ∈ TB) (hd : decode cc pc = .ok (.getfield idx, 3)) (kk : WX x nL kc ks S (pc + 3) lv (.ref (x_ad x 1 370 j) :: st)) : WX x nL kc ks S pc lv (.ref (x_ad x 0 7 j) :: st) := r_get (k := 20) hx hk rfl (by decide) rfl in_X8 hlink hd kk
/-- TypeKernelModel.pool -/
theorem g_371 (hx : CX x cc nL own) (hk : (0, 7, j) ∈ x_K x) (hlink : Cond.fieldLink own idx "TypeKernelModel" "pool" "[I" ∈ TB) (hd : decode cc pc = .ok (.getfield idx, 3)) (kk : WX x nL kc ks S (pc + 3) lv (.ref (x_ad x 1 371 j) :: st)) : WX x nL kc ks S pc lv (.ref (x_ad x 0 7 j) :: st) := r_get (k := 21) hx hk rfl (by decide) rfl in_X8 hlink hd kk
/-- TypeKernelModel.nowSize -/
theorem g_372 (hx : CX x cc nL own) (hk : (0, 7, j) ∈ x_K x) (hlink : Cond.fieldLink own idx "TypeKernelModel" "nowSize" "I" ∈ TB) (hd : decode cc pc = .ok (.getfield idx, 3)) (kk : WX x nL kc ks S (pc + 3) lv (.int (S.1 372 j) :: st)) : WX x nL kc ks S pc lv (.ref (x_ad x 0 7 j) :: st) := r_get (k := 22) hx hk rfl (by decide) rfl in_X8 hlink hd kk
theorem p_372 (hx : CX x cc nL own) {v : Int32} (hk : (0, 7, j) ∈ x_K x) (hlink : Cond.fieldLink own idx "TypeKernelModel" "nowSize" "I" ∈ TB) (hd : decode cc pc = .ok (.putfield idx, 3)) (e : S1 = sS S 372 j v) (kk : WX x nL kc ks S1 (pc + 3) lv st) : WX x nL kc ks S pc lv (.int v :: .ref (x_ad x 0 7 j) :: st) := r_put (k := 22) (ty := .int) hx hk rfl (by decide) (by decide +kernel) rfl in_X8 tyX8_ok nmX8 rfl (by decide +kernel) rfl rfl hlink hd e kk
/-- TypeKernelModel.nextSize -/
theorem g_373 (hx : CX x cc nL own) (hk : (0, 7, j) ∈ x_K x) (hlink : Cond.fieldLink own idx "TypeKernelModel" "nextSize" "I" ∈ TB) (hd : decode cc pc = .ok (.getfield idx, 3)) (kk : WX x nL kc ks S (pc + 3) lv (.int (S.1 373 j) :: st)) : WX x nL kc ks S pc lv (.ref (x_ad x 0 7 j) :: st) := r_get (k := 23) hx hk rfl (by decide) rfl in_X8 hlink hd kk
theorem p_373 (hx : CX x cc nL own) {v : Int32} (hk : (0, 7, j) ∈ x_K x) (hlink : Cond.fieldLink own idx "TypeKernelModel" "nextSize" "I" ∈ TB) (hd : decode cc pc = .ok (.putfield idx, 3)) (e : S1 = sS S 373 j v) (kk : WX x nL kc ks S1 (pc + 3) lv st) : WX x nL kc ks S pc lv (.int v :: .ref (x_ad x 0 7 j) :: st) := r_put (k := 23) (ty := .int) hx hk rfl (by decide) (by decide +kernel) rfl in_X8 tyX8_ok nmX8 rfl (by decide +kernel) rfl rfl hlink hd e kk
/-- TypeKernelModel.toldSize -/
theorem g_374 (hx : CX x cc nL own) (hk : (0, 7, j) ∈ x_K x) (hlink : Cond.fieldLink own idx "TypeKernelModel" "toldSize" "I" ∈ TB) (hd : decode cc pc = .ok (.getfield idx, 3)) (kk : WX x nL kc ks S (pc + 3) lv (.int (S.1 374 j) :: st)) : WX x nL kc ks S pc lv (.ref (x_ad x 0 7 j) :: st) := r_get (k := 24) hx hk rfl (by decide) rfl in_X8 hlink hd kk
theorem p_374 (hx : CX x cc nL own) {v : Int32} (hk : (0, 7, j) ∈ x_K x) (hlink : Cond.fieldLink own idx "TypeKernelModel" "toldSize" "I" ∈ TB) (hd : decode cc pc = .ok (.putfield idx, 3)) (e : S1 = sS S 374 j v) (kk : WX x nL kc ks S1 (pc + 3) lv st) : WX x nL kc ks S pc lv (.int v :: .ref (x_ad x 0 7 j) :: st) := r_put (k := 24) (ty := .int) hx hk rfl (by decide) (by decide +kernel) rfl in_X8 tyX8_ok nmX8 rfl (by decide +kernel) rfl rfl hlink hd e kk
/-- TypeKernelModel.top -/
theorem g_375 (hx : CX x cc nL own) (hk : (0, 7, j) ∈ x_K x) (hlink : Cond.fieldLink own idx "TypeKernelModel" "top" "I" ∈ TB) (hd : decode cc pc = .ok (.getfield idx, 3)) (kk : WX x nL kc ks S (pc + 3) lv (.int (S.1 375 j) :: st)) : WX x nL kc ks S pc lv (.ref (x_ad x 0 7 j) :: st) := r_get (k := 25) hx hk rfl (by decide) rfl in_X8 hlink hd kk
theorem p_375 (hx : CX x cc nL own) {v : Int32} (hk : (0, 7, j) ∈ x_K x) (hlink : Cond.fieldLink own idx "TypeKernelModel" "top" "I" ∈ TB) (hd : decode cc pc = .ok (.putfield idx, 3)) (e : S1 = sS S 375 j v) (kk : WX x nL kc ks S1 (pc + 3) lv st) : WX x nL kc ks S pc lv (.int v :: .ref (x_ad x 0 7 j) :: st) := r_put (k := 25) (ty := .int) hx hk rfl (by decide) (by decide +kernel) rfl in_X8 tyX8_ok nmX8 rfl (by decide +kernel) rfl rfl hlink hd e kk
/-- TypeKernelModel.stack -/
theorem g_376 (hx : CX x cc nL own) (hk : (0, 7, j) ∈ x_K x) (hlink : Cond.fieldLink own idx "TypeKernelModel" "stack" "[I" ∈ TB) (hd : decode cc pc = .ok (.getfield idx, 3)) (kk : WX x nL kc ks S (pc + 3) lv (.ref (x_ad x 1 376 j) :: st)) : WX x nL kc ks S pc lv (.ref (x_ad x 0 7 j) :: st) := r_get (k := 26) hx hk rfl (by decide) rfl in_X8 hlink hd kk
/-- TypeKernelModel.deeper -/
theorem g_377 (hx : CX x cc nL own) (hk : (0, 7, j) ∈ x_K x) (hlink : Cond.fieldLink own idx "TypeKernelModel" "deeper" "[I" ∈ TB) (hd : decode cc pc = .ok (.getfield idx, 3)) (kk : WX x nL kc ks S (pc + 3) lv (.ref (x_ad x 1 377 j) :: st)) : WX x nL kc ks S pc lv (.ref (x_ad x 0 7 j) :: st) := r_get (k := 27) hx hk rfl (by decide) rfl in_X8 hlink hd kk
/-- TypeKernelModel.work -/
theorem g_378 (hx : CX x cc nL own) (hk : (0, 7, j) ∈ x_K x) (hlink : Cond.fieldLink own idx "TypeKernelModel" "work" "[I" ∈ TB) (hd : decode cc pc = .ok (.getfield idx, 3)) (kk : WX x nL kc ks S (pc + 3) lv (.ref (x_ad x 1 378 j) :: st)) : WX x nL kc ks S pc lv (.ref (x_ad x 0 7 j) :: st) := r_get (k := 28) hx hk rfl (by decide) rfl in_X8 hlink hd kk
/-- TypeKernelModel.isAsked -/
theorem g_379 (hx : CX x cc nL own) (hk : (0, 7, j) ∈ x_K x) (hlink : Cond.fieldLink own idx "TypeKernelModel" "isAsked" "Z" ∈ TB) (hd : decode cc pc = .ok (.getfield idx, 3)) (kk : WX x nL kc ks S (pc + 3) lv (.int (S.1 379 j) :: st)) : WX x nL kc ks S pc lv (.ref (x_ad x 0 7 j) :: st) := r_get (k := 29) hx hk rfl (by decide) rfl in_X8 hlink hd kk
theorem p_379 (hx : CX x cc nL own) {v : Int32} (hk : (0, 7, j) ∈ x_K x) (hlink : Cond.fieldLink own idx "TypeKernelModel" "isAsked" "Z" ∈ TB) (hz : v = 0 ∨ v = 1) (hd : decode cc pc = .ok (.putfield idx, 3)) (e : S1 = sS S 379 j v) (kk : WX x nL kc ks S1 (pc + 3) lv st) : WX x nL kc ks S pc lv (.int v :: .ref (x_ad x 0 7 j) :: st) := r_put (k := 29) (ty := .boolean) hx hk rfl (by decide) (by decide +kernel) rfl in_X8 tyX8_ok nmX8 rfl (by decide +kernel) (narrow_z hz) (by rcases hz with rfl | rfl <;> rfl) hlink hd e kk
/-- TypeKernelModel.wide -/
theorem g_380 (hx : CX x cc nL own) (hk : (0, 7, j) ∈ x_K x) (hlink : Cond.fieldLink own idx "TypeKernelModel" "wide" "Z" ∈ TB) (hd : decode cc pc = .ok (.getfield idx, 3)) (kk : WX x nL kc ks S (pc + 3) lv (.int (S.1 380 j) :: st)) : WX x nL kc ks S pc lv (.ref (x_ad x 0 7 j) :: st) := r_get (k := 30) hx hk rfl (by decide) rfl in_X8 hlink hd kk
theorem p_380 (hx : CX x cc nL own) {v : Int32} (hk : (0, 7, j) ∈ x_K x) (hlink : Cond.fieldLink own idx "TypeKernelModel" "wide" "Z" ∈ TB) (hz : v = 0 ∨ v = 1) (hd : decode cc pc = .ok (.putfield idx, 3)) (e : S1 = sS S 380 j v) (kk : WX x nL kc ks S1 (pc + 3) lv st) : WX x nL kc ks S pc lv (.int v :: .ref (x_ad x 0 7 j) :: st) := r_put (k := 30) (ty := .boolean) hx hk rfl (by decide) (by decide +kernel) rfl in_X8 tyX8_ok nmX8 rfl (by decide +kernel) (narrow_z hz) (by rcases hz with rfl | rfl <;> rfl) hlink hd e kk
/-- TypeKernelModel.places -/
theorem g_381 (hx : CX x cc nL own) (hk : (0, 7, j) ∈ x_K x) (hlink : Cond.fieldLink own idx "TypeKernelModel" "places" "[I" ∈ TB) (hd : decode cc pc = .ok (.getfield idx, 3)) (kk : WX x nL kc ks S (pc + 3) lv (.ref (x_ad x 1 381 j) :: st)) : WX x nL kc ks S pc lv (.ref (x_ad x 0 7 j) :: st) := r_get (k := 31) hx hk rfl (by decide) rfl in_X8 hlink hd kk
/-- TypeKernelModel.binders -/
theorem g_382 (hx : CX x cc nL own) (hk : (0, 7, j) ∈ x_K x) (hlink : Cond.fieldLink own idx "TypeKernelModel" "binders" "[I" ∈ TB) (hd : decode cc pc = .ok (.getfield idx, 3)) (kk : WX x nL kc ks S (pc + 3) lv (.ref (x_ad x 1 382 j) :: st)) : WX x nL kc ks S pc lv (.ref (x_ad x 0 7 j) :: st) := r_get (k := 32) hx hk rfl (by decide) rfl in_X8 hlink hd kk
/-- TypeKernelModel.binderCount -/
theorem g_383 (hx : CX x cc nL own) (hk : (0, 7, j) ∈ x_K x) (hlink : Cond.fieldLink own idx "TypeKernelModel" "binderCount" "I" ∈ TB) (hd : decode cc pc = .ok (.getfield idx, 3)) (kk : WX x nL kc ks S (pc + 3) lv (.int (S.1 383 j) :: st)) : WX x nL kc ks S pc lv (.ref (x_ad x 0 7 j) :: st) := r_get (k := 33) hx hk rfl (by decide) rfl in_X8 hlink hd kk
theorem p_383 (hx : CX x cc nL own) {v : Int32} (hk : (0, 7, j) ∈ x_K x) (hlink : Cond.fieldLink own idx "TypeKernelModel" "binderCount" "I" ∈ TB) (hd : decode cc pc = .ok (.putfield idx, 3)) (e : S1 = sS S 383 j v) (kk : WX x nL kc ks S1 (pc + 3) lv st) : WX x nL kc ks S pc lv (.int v :: .ref (x_ad x 0 7 j) :: st) := r_put (k := 33) (ty := .int) hx hk rfl (by decide) (by decide +kernel) rfl in_X8 tyX8_ok nmX8 rfl (by decide +kernel) rfl rfl hlink hd e kk
/-- TypeKernelModel.openKind -/
theorem g_384 (hx : CX x cc nL own) (hk : (0, 7, j) ∈ x_K x) (hlink : Cond.fieldLink own idx "TypeKernelModel" "openKind" "[I" ∈ TB) (hd : decode cc pc = .ok (.getfield idx, 3)) (kk : WX x nL kc ks S (pc + 3) lv (.ref (x_ad x 1 384 j) :: st)) : WX x nL kc ks S pc lv (.ref (x_ad x 0 7 j) :: st) := r_get (k := 34) hx hk rfl (by decide) rfl in_X8 hlink hd kk
/-- TypeKernelModel.openHas -/
theorem g_385 (hx : CX x cc nL own) (hk : (0, 7, j) ∈ x_K x) (hlink : Cond.fieldLink own idx "TypeKernelModel" "openHas" "[I" ∈ TB) (hd : decode cc pc = .ok (.getfield idx, 3)) (kk : WX x nL kc ks S (pc + 3) lv (.ref (x_ad x 1 385 j) :: st)) : WX x nL kc ks S pc lv (.ref (x_ad x 0 7 j) :: st) := r_get (k := 35) hx hk rfl (by decide) rfl in_X8 hlink hd kk
/-- TypeKernelModel.openParts -/
theorem g_386 (hx : CX x cc nL own) (hk : (0, 7, j) ∈ x_K x) (hlink : Cond.fieldLink own idx "TypeKernelModel" "openParts" "[I" ∈ TB) (hd : decode cc pc = .ok (.getfield idx, 3)) (kk : WX x nL kc ks S (pc + 3) lv (.ref (x_ad x 1 386 j) :: st)) : WX x nL kc ks S pc lv (.ref (x_ad x 0 7 j) :: st) := r_get (k := 36) hx hk rfl (by decide) rfl in_X8 hlink hd kk
/-- TypeKernelModel.readEnd -/
theorem g_387 (hx : CX x cc nL own) (hk : (0, 7, j) ∈ x_K x) (hlink : Cond.fieldLink own idx "TypeKernelModel" "readEnd" "I" ∈ TB) (hd : decode cc pc = .ok (.getfield idx, 3)) (kk : WX x nL kc ks S (pc + 3) lv (.int (S.1 387 j) :: st)) : WX x nL kc ks S pc lv (.ref (x_ad x 0 7 j) :: st) := r_get (k := 37) hx hk rfl (by decide) rfl in_X8 hlink hd kk
theorem p_387 (hx : CX x cc nL own) {v : Int32} (hk : (0, 7, j) ∈ x_K x) (hlink : Cond.fieldLink own idx "TypeKernelModel" "readEnd" "I" ∈ TB) (hd : decode cc pc = .ok (.putfield idx, 3)) (e : S1 = sS S 387 j v) (kk : WX x nL kc ks S1 (pc + 3) lv st) : WX x nL kc ks S pc lv (.int v :: .ref (x_ad x 0 7 j) :: st) := r_put (k := 37) (ty := .int) hx hk rfl (by decide) (by decide +kernel) rfl in_X8 tyX8_ok nmX8 rfl (by decide +kernel) rfl rfl hlink hd e kk
/-- TypeKernelModel.levelOpen -/
theorem g_388 (hx : CX x cc nL own) (hk : (0, 7, j) ∈ x_K x) (hlink : Cond.fieldLink own idx "TypeKernelModel" "levelOpen" "[I" ∈ TB) (hd : decode cc pc = .ok (.getfield idx, 3)) (kk : WX x nL kc ks S (pc + 3) lv (.ref (x_ad x 1 388 j) :: st)) : WX x nL kc ks S pc lv (.ref (x_ad x 0 7 j) :: st) := r_get (k := 38) hx hk rfl (by decide) rfl in_X8 hlink hd kk
/-- TypeKernelModel.levelFirst -/
theorem g_389 (hx : CX x cc nL own) (hk : (0, 7, j) ∈ x_K x) (hlink : Cond.fieldLink own idx "TypeKernelModel" "levelFirst" "[I" ∈ TB) (hd : decode cc pc = .ok (.getfield idx, 3)) (kk : WX x nL kc ks S (pc + 3) lv (.ref (x_ad x 1 389 j) :: st)) : WX x nL kc ks S pc lv (.ref (x_ad x 0 7 j) :: st) := r_get (k := 39) hx hk rfl (by decide) rfl in_X8 hlink hd kk
end FL
theorem kk_row {j : Nat} (h : j < 107) {k : Ky} (hk : k ∈ [(0, 3, j), (1, 151, j), (1, 152, j), (1, 153, j), (2, 154, j), (2, 155, j)]) : k ∈ KK := List.mem_append_right _ (List.mem_flatMap.mpr ⟨j, List.mem_range.mpr h, hk⟩)
