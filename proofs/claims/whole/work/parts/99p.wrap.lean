/-! the law's sixteen wrappers: their contract, their ends, a call of one -/
abbrev HH : Type := List (Nat × Nat × Nat × Nat)
abbrev wsW (y : MethodName) (cc : ByteArray) (ml : Nat) (hh : HH) : List Cond := Cond.codeWith y cc ml (some .int) hh :: TB
def MW (c : YC) (y : MethodName) (cc : ByteArray) (ml : Nat) (hh : HH) (rm : Room) (mc ms : Nat) (S S1 : St) (av : List Value) (r1 : Int32) : Prop := ∀ sz, vx_Met c.1 y (wsW y cc ml hh) rm (va_Pc av (PW c S sz)) (va_Qi (fun r (_ : Unit) => r = r1) (fun _ u => va_P c.2.1 vwCl (y_W c S1) u.heap) (AW c.2.2.1 c.2.2.2.2 sz)) (vx_X (fun (_ : Unit) => False) (fun _ _ _ => True) (AW c.2.2.1 c.2.2.2.2 sz)) mc ms (AW c.2.2.1 c.2.2.2.2 sz)
def WE (x : XC) (cc : ByteArray) (mc ms : Nat) (S1 : St) (r1 : Int32) : Prop := ∀ (pc kc ks : Nat) (ls : Array Slot) (H : Heap) (locs : List Loc), kc ≤ mc → ks ≤ ms → decode cc pc = .ok (.ireturn, 1) → va_P (x_D x) vwCl (wl (x_ad x) (x_t x) (x_K x) S1) H → va_S (x_A x) (x_s x).heap H locs → W (x_p x) (x_l x) (x_e x) (x_R x) (x_s x) (x_m x) (x_a x) (x_b x) (x_me x) (x_c x) H locs kc ks (x_Q x) (F0 (x_m x) pc ls [.int r1])
theorem r_wret {x : XC} {nL kc ks mc ms : Nat} {S S1 : St} {pc : Nat} {lv : List (Nat × Value)} {cc : ByteArray} {v r1 : Int32} (hE : WE x cc mc ms S1 r1) (h1 : kc ≤ mc) (h2 : ks ≤ ms) (hS : S = S1) (hv : v = r1) (hd : decode cc pc = .ok (.ireturn, 1)) : WX x nL kc ks S pc lv [.int v] := by
  subst hS
  subst hv
  exact fun H locs ls _ hP hS => hE pc kc ks ls H locs h1 h2 hd hP hS
theorem mk_W {c : YC} {y : MethodName} {cc : ByteArray} {ml mc ms : Nat} {hh : HH} {rm : Room} {S S1 : St} {av : List Value} {r1 : Int32} {own : String} (hy : plainName y.cls = true) (ho : y.cls = own) (hlen : (lg_sl av).length ≤ ml) (body : ∀ x : XC, CX x cc ml own → x_R x = rm → x_y x = c → (x_c x).exceptionTable.toList = tableOf hh → WE x cc mc ms S1 r1 → WX x ml 0 0 S 0 (lv_args 0 av) []) : MW c y cc ml hh rm mc ms S S1 av r1 := by
  intro sz
  refine vx_ofWH (cc := cc) (maxL := ml) (ret := (some .int)) (hh := hh) hy rfl ?_
  intro p e s m args below meth cd s₁ B hml hv
  obtain ⟨rfl, hsz, hP, hK, hD, hRO⟩ := hv
  have hts := atoms_spec (ws := wsW y cc ml hh) B.pre
  have hown : s.vm.findClass own = some m.cls := ho ▸ findClass_of_methodNamed B.named
  have hr := B.returns
  have htab := vx_table (x := y) B (hts _ List.mem_cons_self)
  subst hsz
  obtain ⟨l, D, ad, t, KS⟩ := c
  rw [lg_entry_eq]
  have hx : CX (p, l, e, rm, s, m, av.toArray, below, meth, cd, vx_MQ below (va_Qi (fun r (_ : Unit) => r = r1) (fun _ u => va_P D vwCl (wl ad t KS S1) u.heap) (AW ad KS s.heap.size)) (vx_X (fun (_ : Unit) => False) (fun _ _ _ => True) (AW ad KS s.heap.size)) av.toArray s mc ms (AW ad KS s.heap.size), D, ad, t, KS) cc ml own := ⟨B.exec, B.bytes, hml, hown, fun w hw => hts w (List.mem_cons_of_mem _ hw), hK, hD, hRO⟩
  refine body _ hx rfl rfl htab (fun pc kc ks ls H locs h1 h2 hd hP1 hS1 => ?_) s.heap [] _ (lv_entry av hlen) hP va_S.rf
  exact vx_ret (W.widen h1 h2 (W.iret hx.1 hx.2.1 hr (fun t9 ht9 _ => ⟨⟨r1, (), rfl, rfl, by subst ht9; exact hP1⟩, hS1.F ht9⟩) hS1.2.2 hd))
theorem r_SW {x : XC} {nL kc ks m9 s9 : Nat} {S S1 : St} {pc : Nat} {lv : List (Nat × Value)} {st rest As : List Value} {cc cy : ByteArray} {own : String} {idx ml n : Nat} {y : MethodName} {hh : HH} {rm : Room} (hx : CX x cc nL own) {k1 : Int32} (hM : MW (x_y x) y cy ml hh rm m9 s9 S S1 As k1) (w1 : Cond.methodLink own idx y ∈ TB) (w2 : Cond.static y ∈ TB) (w4 : Cond.initialized y.cls ∈ TB) (w5 : Cond.codeWith y cy ml (some .int) hh ∈ TB) (hdy : DY y n) (hn : As.length = n) (hR : RX9 (x_R x) rm ml kc ks m9 s9) (hst : st = As.reverse ++ rest) (hW : (rest.map fun v => v.category).sum ≤ 8) (hd : decode cc pc = .ok (.invokestatic idx, 3)) (kk : WX x nL (kc + m9) (ks + s9) S1 (pc + 3) lv (.int k1 :: rest)) : WX x nL kc ks S pc lv st := by
  intro H locs ls hl hP hS
  subst hst
  have ht := hx.2.2.2.2.1
  have hG : GoodIn TB (wsW y cy ml hh) := fun w hw => by
    rcases List.mem_cons.mp hw with rfl | hw
    · exact ⟨w5, TB_good w5⟩
    · exact ⟨hw, TB_good hw⟩
  refine vx_calli (vx_runSX (hh := hh) (bytes := cy) (maxL := ml) (ret := some .int) (As := As) (rest := rest) ⟨hx.1, hx.2.1, hx.2.2.1, hx.2.2.2.1, ht⟩ (hM H.size) ⟨⟨hR.2.1, hR.2.2.1, hR.1.1, hR.1.2, pay_in ht hG, List.mem_cons_self⟩, ht _ w5, ht _ w4, ⟨hdy.1, hdy.2.1⟩, fun sig h => ?_, ht _ w1, ht _ w2⟩ ⟨PW.blind, fun U hU hW => ⟨rfl, PW.of hx hP hS hU hW⟩⟩ rfl hn hl.1 rfl (lv_room hW) hd ⟨hR.2.2.2.1, hR.2.2.2.2⟩) hS (fun q _ h => AW.up hS.1 h) (fun q h => AW.up hS.1 h) (fun q _ h => AW.up hS.1 h) (fun E ce q9 u t8 H1 locs1 ht9 hvm hp hB hz hk1 hS1 hc1 hc2 hc3 => hp.elim) (fun r u t8 H1 locs1 ht9 hvm hp hB hz hk1 hS1 => ?_)
  · have h2 := hdy.2.2
    rw [h] at h2
    exact (Option.some.inj h2).symm
  · subst hp
    exact kk H1 locs1 ls hl (by rw [← ht9]; exact hB) hS1
/-- what the law's own row holds behind a wrapper -/
def oW (w : Nat → Int64) (code : Int32) (v : Int64) : Nat → Int64 := if code = 0 then vp_updL w 0 v else w
theorem oW_0 {w : Nat → Int64} {v : Int64} : oW w 0 v = vp_updL w 0 v := if_pos rfl
theorem oW_n {w : Nat → Int64} {code : Int32} {v : Int64} (h : ¬ code = 0) : oW w code v = w := if_neg h
abbrev rmW : Room := { frames := 490, cells := 4, slots := 24, locals := 19300 }
theorem eC0 {ad : Ad} {t : Ty3} {SC SM : St} {w : Nat → Int64} : ∀ k ∈ KK, ent ad t (mx SC SM w) k = ent ad t SC k := fun k hk => ent_mC (KK_ok k hk)
theorem eM0 {ad : Ad} {t : Ty3} {SC SM : St} {w : Nat → Int64} : ∀ k ∈ KM, ent ad t (mx SC SM w) k = ent ad t SM k := fun k hk => ent_mM (KM_ok k hk)
theorem eC2 {ad : Ad} {t : Ty3} {SC SC' SM : St} {w : Nat → Int64} : ∀ k ∈ KM ++ [(2, 900, 0)], ent ad t (mx SC' SM w) k = ent ad t (mx SC SM w) k := fun k hk => by
  rcases List.mem_append.mp hk with h | h
  · rw [eM0 k h, eM0 k h]
  · rw [List.mem_singleton.mp h]; exact ent_mO
theorem eM2 {ad : Ad} {t : Ty3} {SC SM SM' : St} {w : Nat → Int64} : ∀ k ∈ KK ++ [(2, 900, 0)], ent ad t (mx SC SM' w) k = ent ad t (mx SC SM w) k := fun k hk => by
  rcases List.mem_append.mp hk with h | h
  · rw [eC0 k h, eC0 k h]
  · rw [List.mem_singleton.mp h]; exact ent_mO
