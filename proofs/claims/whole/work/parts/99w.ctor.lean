/-! contracts of constructors -/
def PN (D : va_G) (t : Ty3) (h : Nat) (e0 : va_E) (sz : Nat) (U : State) : Prop := U.heap.size = sz ∧ va_P D vwCl [(h, e0)] U.heap ∧ va_K D vwCl (tyl t) U ∧ RO (NA h sz) U U.heap ∧ va_AO RX4 U
def MN (l : Launch) (D : va_G) (t : Ty3) (y : MethodName) (cc : ByteArray) (ml : Nat) (rm : Room) (mc ms h : Nat) (e0 : va_E) (av : List Value) (Sh : AA → va_W) : Prop := ∀ sz, Met l y (wsO y cc ml none) rm (va_Pc av (PN D t h e0 sz)) (va_Qv (fun (_ : AA) => True) (fun a u => va_P D vwCl (Sh a) u.heap ∧ va_D (NA h sz) (Sh a)) (NA h sz)) mc ms (NA h sz)
def EN (x : XC) (h : Nat) (cc : ByteArray) (mc ms : Nat) (Sh : AA → va_W) : Prop := ∀ (pc kc ks : Nat) (ls : Array Slot) (H : Heap) (locs : List Loc) (a : AA), kc ≤ mc → ks ≤ ms → decode cc pc = .ok (.return_, 1) → va_P (x_D x) vwCl (Sh a) H → va_D (x_N x h) (Sh a) → va_S (x_N x h) (x_s x).heap H locs → W (x_p x) (x_l x) (x_e x) (x_R x) (x_s x) (x_m x) (x_a x) (x_b x) (x_me x) (x_c x) H locs kc ks (x_Q x) (F0 (x_m x) pc ls [])
theorem PN.blind {D : va_G} {t : Ty3} {h : Nat} {e0 : va_E} {sz : Nat} {av : List Value} : FrameBlind (va_Pc av (PN D t h e0 sz)) := by
  intro a U g mk ⟨h1, h2, h3, h4, h5, h6⟩
  exact ⟨h1, h2, h3, va_K.moved (u := U) (U := U.calling g mk a) (Vm.Alike.refl U.vm) h4, RO.same (u := U) (U := U.calling g mk a) rfl h5, va_AO.moved (u := U) (U := U.calling g mk a) (Vm.Alike.refl U.vm) h6⟩
theorem n_ret {x : XC} {h nL kc ks mc ms : Nat} {ws : va_W} {pc : Nat} {lv : List (Nat × Value)} {cc : ByteArray} {Sh : AA → va_W} (hE : EN x h cc mc ms Sh) (a : AA) (h1 : kc ≤ mc) (h2 : ks ≤ ms) (hw : ws = Sh a) (hd : decode cc pc = .ok (.return_, 1)) : WN x h nL kc ks ws pc lv [] := by
  subst hw
  exact fun H locs ls hl hP hD hS => hE pc kc ks ls H locs a h1 h2 hd hP hD hS
theorem mk_N {l : Launch} {D : va_G} {t : Ty3} {y : MethodName} {cc : ByteArray} {ml mc ms h : Nat} {rm : Room} {e0 : va_E} {av : List Value} {Sh : AA → va_W} {own : String} (hy : plainName y.cls = true) (ho : y.cls = own) (hlen : (lg_sl av).length ≤ ml) (hy1 : y.name = "<init>") (body : ∀ x : XC, CN x h cc ml own → x_R x = rm → x_l x = l → x_D x = D → x_t x = t → (x_me x).name = "<init>" → EN x h cc mc ms Sh → WN x h ml 0 0 [(h, e0)] 0 (lv_args 0 av) []) : MN l D t y cc ml rm mc ms h e0 av Sh := by
  intro sz
  refine Met.ofW (cc := cc) (maxL := ml) (ret := none) hy rfl ?_
  intro p e s m args below meth cd s₁ B hml hv
  obtain ⟨rfl, hsz, hP, hK, hRO, hAO⟩ := hv
  have hts := atoms_spec (ws := wsO y cc ml none) B.pre
  have hown : s.vm.findClass own = some m.cls := ho ▸ findClass_of_methodNamed B.named
  have hr := B.returns
  have hin : meth.name = "<init>" := (name_of_methodNamed B.named B.method).1.trans hy1
  subst hsz
  rw [lg_entry_eq]
  have hx : CN (p, l, e, rm, s, m, av.toArray, below, meth, cd, MQ below (va_Qv (fun (_ : AA) => True) (fun a u => va_P D vwCl (Sh a) u.heap ∧ va_D (NA h s.heap.size) (Sh a)) (NA h s.heap.size)) av.toArray s mc ms (NA h s.heap.size), D, (fun _ _ _ => 0), t, []) h cc ml own := ⟨B.exec, B.bytes, hml, hown, fun w hw => hts w (List.mem_cons_of_mem _ hw), hK, hRO, hAO⟩
  refine body _ hx rfl rfl rfl rfl hin (fun pc kc ks ls H locs a h1 h2 hd hP1 hD1 hS1 => ?_) s.heap [] _ (lv_entry av hlen) hP ⟨fun i j a b hi hj _ => ?_, fun k q hk => ?_⟩ va_S.rf
  · exact W.widen h1 h2 (W.vret hx.1 hx.2.1 hr (fun t9 ht9 _ => ⟨⟨a, rfl, trivial, by subst ht9; exact ⟨hP1, hD1⟩⟩, hS1.F ht9⟩) hS1.2.2 hd)
  · have h1 : i < 1 := (List.getElem?_eq_some_iff.mp hi).1
    have h2 : j < 1 := (List.getElem?_eq_some_iff.mp hj).1
    omega
  · have h1 : k < 1 := (List.getElem?_eq_some_iff.mp hk).1
    rw [show k = 0 by omega] at hk
    cases hk
    exact Or.inl rfl
theorem NA_sub {h sz q sz' z : Nat} (hq : NA h sz q) (hz : sz ≤ sz') (h9 : NA q sz' z) : NA h sz z := by
  rcases h9 with rfl | h9
  · exact hq
  · exact Or.inr (Nat.le_trans hz h9)
section NC
variable {x : XC} {h nL kc ks : Nat} {pre : va_W} {pc : Nat} {lv : List (Nat × Value)} {st rest As : List Value} {cc cy : ByteArray} {own : String} {idx ml n m9 s9 q : Nat} {y : MethodName} {rm : Room} {e0 : va_E} {Sh : AA → va_W}
theorem n_call (hx : CN x h cc nL own) (hM : MN (x_l x) (x_D x) (x_t x) y cy ml rm m9 s9 q e0 (.ref q :: As) Sh) (w1 : Cond.methodLink own idx y ∈ TB) (w2 : Cond.instanceMethod y ∈ TB) (w4 : Cond.initialized y.cls ∈ TB) (w5 : Cond.code y cy ml none ∈ TB) (hy1 : y.name = "<init>") (hdy : DY y n) (hn : As.length = n) (hR : RX9 (x_R x) rm ml kc ks m9 s9) (hst : st = As.reverse ++ .ref q :: rest) (hW : (rest.map fun v => v.category).sum ≤ 8) (hd : decode cc pc = .ok (.invokespecial idx, 3)) (kk : ∀ a : AA, WN x h nL (kc + m9) (ks + s9) (pre ++ Sh a) (pc + 3) lv rest) : WN x h nL kc ks (pre ++ [(q, e0)]) pc lv st := by
  intro H locs ls hl hP hD hS
  subst hst
  have ht := hx.2.2.2.2.1
  have hat : (pre ++ [(q, e0)])[pre.length]? = some (q, e0) := by rw [List.getElem?_append_right (Nat.le_refl _), Nat.sub_self]; rfl
  have hqA : x_N x h q := hD.2 _ _ hat
  have hpre : ∀ (i : Nat) (z : Nat × va_E), pre[i]? = some z → i < pre.length ∧ (pre ++ [(q, e0)])[i]? = some z := fun i z hi => by
    have hlt := (List.getElem?_eq_some_iff.mp hi).1
    exact ⟨hlt, by rw [List.getElem?_append_left hlt]; exact hi⟩
  refine va_callv (va_runI (As := As) (rest := rest) ⟨hx.1, hx.2.1, hx.2.2.1, hx.2.2.2.1, ht⟩ (hM H.size) ⟨callB_of n ht (good_O w5) rfl hR.2.1 hR.2.2.1 (ht _ w4) (ht _ w1) hdy hR.1, hy1, ht _ w2⟩ ⟨PN.blind, fun U hU hW => ⟨rfl, by rw [hU], ?_, va_K.moved hW.alike hx.2.2.2.2.2.1, ?_, va_AO.moved hW.alike hx.2.2.2.2.2.2.2⟩⟩ rfl hn hl.1 rfl (lv_room hW) hd ⟨hR.2.2.2.1, hR.2.2.2.2⟩) hS (fun z _ hz => NA_sub hqA hS.1 hz) (fun z hz => NA_sub hqA hS.1 hz) (fun a t9 H1 locs1 ht9 hvm _ hB hz hk1 hS1 => ?_)
  · rw [hU]
    intro k z hk
    have h1 : k < 1 := (List.getElem?_eq_some_iff.mp hk).1
    rw [show k = 0 by omega] at hk
    cases hk
    exact hP _ _ hat
  · rw [hU]
    exact RO.warm hW ((hx.2.2.2.2.2.2.1.kept hS.1 hS.2.1).narrow (fun z hz => NA_sub hqA hS.1 hz))
  · rw [ht9] at hB
    have hno : ∀ (i : Nat) (z : Nat × va_E), pre[i]? = some z → ¬ NA q H.size z.1 := fun i z hi hz => by
      obtain ⟨hlt, hi2⟩ := hpre i z hi
      rcases hz with hz | hz
      · have := hD.1 i pre.length z (q, e0) hi2 hat hz
        omega
      · exact absurd (hP i z hi2).lt (Nat.not_lt.mpr hz)
    refine kk a H1 locs1 ls hl (va_P.app (fun i z hi => ?_) hB.1) (va_D.app ⟨fun i j z z' hi hj hzz => hD.1 i j z z' (hpre i z hi).2 (hpre j z' hj).2 hzz, fun i z hi => hD.2 i z (hpre i z hi).2⟩ (hB.2.weaken (fun _ z _ hz => NA_sub hqA hS.1 hz)) (fun i j z z' hi hj hzz => hno i z hi (hzz ▸ hB.2.2 j z' hj))) hS1
    exact (hP i z (hpre i z hi).2).kept (hk1 z.1 (hP i z (hpre i z hi).2).lt (hno i z hi))
theorem wl_DK {ad : Ad} {t : Ty3} {K : List Ky} {S : St} {A : Nat → Prop} (hD : va_D A (wl ad t K S)) : KD ad K := fun i j a b ha hb e => hD.1 i j _ _ (wl_of ha) (wl_of hb) e
theorem wl_DD {ad : Ad} {t : Ty3} {K : List Ky} {S S1 : St} {A : Nat → Prop} (hD : va_D A (wl ad t K S)) : va_D A (wl ad t K S1) := by
  refine ⟨fun i j a b hi hj e => ?_, fun i a hi => ?_⟩
  · obtain ⟨k1, h1, rfl⟩ := wl_get hi
    obtain ⟨k2, h2, rfl⟩ := wl_get hj
    exact hD.1 i j _ _ (wl_of h1) (wl_of h2) e
  · obtain ⟨k1, h1, rfl⟩ := wl_get hi
    exact hD.2 i (adk ad k1, ent ad t S k1) (wl_of h1)
theorem n_mv (hx : CN x h cc nL own) {ad : Ad} {K : List Ky} {S out : St} {ret : Option FieldType} {C : String} {T : u_T} {N ci j : Nat} (hM : MV (x_l x, x_D x, ad, x_t x, K) y cy ml ret rm S (.ref (ad 0 ci j) :: As) out) (hk : (0, ci, j) ∈ K) (hc : vwCl[ci]? = some (C, T, N)) (w1 : Cond.methodLink own idx y ∈ TB) (w2 : Cond.instanceMethod y ∈ TB) (w3 : Cond.selects C y y ∈ TB) (w4 : Cond.initialized y.cls ∈ TB) (w5 : Cond.code y cy ml ret ∈ TB) (hdy : DY y n) (hn : As.length = n) (hR : RY (x_R x) rm ml kc ks) (hst : st = As.reverse ++ .ref (ad 0 ci j) :: rest) (hW : (rest.map fun v => v.category).sum ≤ 8) (hd : decode cc pc = .ok (.invokevirtual idx, 3)) (kk : WN x h nL kc ks (wl ad (x_t x) K out) (pc + 3) lv rest) : WN x h nL kc ks (wl ad (x_t x) K S) pc lv st := by
  intro H locs ls hl hP hD hS
  subst hst
  have ht := hx.2.2.2.2.1
  obtain ⟨q0, hq⟩ := wl_at hk
  have hsub : ∀ z, AW ad K H.size z → x_N x h z := fun z hz => by
    rcases hz with ⟨k, hk, rfl⟩ | hz
    · obtain ⟨i, hi⟩ := wl_at hk
      exact hD.2 i _ (wl_of hi)
    · exact Or.inr (Nat.le_trans hS.1 hz)
  refine va_callv (va_runV (C := C) (As := As) (rest := rest) ⟨hx.1, hx.2.1, hx.2.2.1, hx.2.2.2.1, ht⟩ (hM H.size) ⟨callB_of n ht (good_O w5) rfl hR.2.1 hR.2.2.1 (ht _ w4) (ht _ w1) hdy hR.1, ht _ w2, ht _ w3⟩ ⟨PW.blind, va_recv hx.2.2.2.2.2.1 hP hc (wl_of hq), fun U hU hW => ⟨rfl, by rw [hU], by rw [hU]; exact hP, va_K.moved hW.alike hx.2.2.2.2.2.1, wl_DK hD, ?_⟩⟩ rfl hn hl.1 rfl (lv_room hW) hd ⟨hR.2.2.2.1, hR.2.2.2.2⟩) hS (fun z _ hz => hsub z hz) (fun z hz => hsub z hz) (fun u t9 H1 locs1 ht9 hvm hp hB hz hk1 hS1 => ?_)
  · rw [hU]
    exact RO.warm hW ((hx.2.2.2.2.2.2.1.kept hS.1 hS.2.1).narrow hsub)
  · exact kk H1 locs1 ls hl (by rw [← ht9]; exact hB) (wl_DD hD) hS1
end NC
