/-! the law's world: the class's cells, the reference's, the law's own row -/
def KLw : List Ky := KK ++ (KM ++ [(2, 900, 0)])
def mx (SC SM : St) (w : Nat → Int64) : St := (fun f j => if f < 350 then SC.1 f j else SM.1 f j, fun f j => if f < 350 then SC.2.1 f j else SM.2.1 f j, fun f j => if f = 900 ∧ j = 0 then w else SC.2.2 f j)
def okC (k : Ky) : Bool := match k with
  | (0, ci, _) => decide (ci < 7)
  | (_, f, _) => decide (f < 350)
def okM (k : Ky) : Bool := match k with
  | (0, ci, _) => decide (ci = 7)
  | (1, f, _) => decide (350 ≤ f)
  | _ => false
set_option maxRecDepth 100000 in
theorem KK_ok : ∀ k ∈ KK, okC k = true := List.all_eq_true.mp (by decide +kernel)
theorem KM_ok : ∀ k ∈ KM, okM k = true := List.all_eq_true.mp (by decide +kernel)
theorem tb_C : ∀ ci : Nat, ci < 7 → ∀ e ∈ tb ci, e.1 = 0 → e.2.1 < 350 := by decide +kernel
theorem tb_M : ∀ e ∈ tb 7, e.1 = 0 → ¬ e.2.1 < 350 := by decide +kernel
section MX
variable {ad : Ad} {t : Ty3} {SC SC' SM SM' : St} {w w' : Nat → Int64}
theorem fv_mC {j : Nat} {e : Ky} (h : e.1 = 0 → e.2.1 < 350) : fv ad (mx SC SM w) j e = fv ad SC j e := by
  match e, h with
  | (0, f, z), h => show Value.int (if f < 350 then SC.1 f j else SM.1 f j) = Value.int (SC.1 f j); rw [if_pos (h rfl)]
  | (1, _, _), _ => rfl
  | (2, _, _), _ => rfl
  | (3, _, _), _ => rfl
  | (4, _, _), _ => rfl
  | (n + 5, _, _), _ => rfl
theorem fv_mM {j : Nat} {e : Ky} (h : e.1 = 0 → ¬ e.2.1 < 350) : fv ad (mx SC SM w) j e = fv ad SM j e := by
  match e, h with
  | (0, f, z), h => show Value.int (if f < 350 then SC.1 f j else SM.1 f j) = Value.int (SM.1 f j); rw [if_neg (h rfl)]
  | (1, _, _), _ => rfl
  | (2, _, _), _ => rfl
  | (3, _, _), _ => rfl
  | (4, _, _), _ => rfl
  | (n + 5, _, _), _ => rfl
theorem ent_mC {k : Ky} (h : okC k = true) : ent ad t (mx SC SM w) k = ent ad t SC k := by
  match k, h with
  | (0, ci, j), h =>
    show (Sum.inr (ci, fld ad (mx SC SM w) ci j) : va_E) = Sum.inr (ci, fld ad SC ci j)
    congr 2
    exact List.map_congr_left (fun e he => fv_mC (tb_C ci (of_decide_eq_true h) e he))
  | (1, f, j), h =>
    have hf : f < 350 := of_decide_eq_true h
    show (Sum.inl (t.1, ln f, .inl (if f < 350 then SC.2.1 f j else SM.2.1 f j)) : va_E) = _
    rw [if_pos hf]; rfl
  | (2, f, j), h =>
    have hf : f < 350 := of_decide_eq_true h
    show (Sum.inl (t.2.1, ln f, .inr (.inl (if f = 900 ∧ j = 0 then w else SC.2.2 f j))) : va_E) = _
    rw [if_neg (by omega)]; rfl
  | (n + 3, f, j), _ => rfl
theorem ent_mM {k : Ky} (h : okM k = true) : ent ad t (mx SC SM w) k = ent ad t SM k := by
  match k, h with
  | (0, ci, j), h =>
    have hc : ci = 7 := of_decide_eq_true h
    subst hc
    show (Sum.inr (7, fld ad (mx SC SM w) 7 j) : va_E) = Sum.inr (7, fld ad SM 7 j)
    refine congrArg (fun z => (Sum.inr (7, z) : va_E)) ?_
    exact List.map_congr_left (fun e he => fv_mM (tb_M e he))
  | (1, f, j), h =>
    have hf : 350 ≤ f := of_decide_eq_true h
    show (Sum.inl (t.1, ln f, .inl (if f < 350 then SC.2.1 f j else SM.2.1 f j)) : va_E) = _
    rw [if_neg (by omega)]; rfl
  | (2, f, j), h => cases h
  | (n + 3, f, j), h => cases h
theorem ent_mO : ent ad t (mx SC SM w) (2, 900, 0) = ent ad t (mx SC' SM' w) (2, 900, 0) := by
  show (Sum.inl (t.2.1, ln 900, .inr (.inl (if (900 = 900 ∧ 0 = 0) then w else SC.2.2 900 0))) : va_E) = (Sum.inl (t.2.1, ln 900, .inr (.inl (if (900 = 900 ∧ 0 = 0) then w else SC'.2.2 900 0))) : va_E)
  rw [if_pos ⟨rfl, rfl⟩, if_pos ⟨rfl, rfl⟩]
theorem sL_mx {i : Nat} {v : Int64} : sL (mx SC SM w) 900 0 i v = mx SC SM (vp_updL w i v) := by
  show ((mx SC SM w).1, (mx SC SM w).2.1, (fun a b => if a = 900 ∧ b = 0 then vp_updL ((mx SC SM w).2.2 900 0) i v else (mx SC SM w).2.2 a b)) = mx SC SM (vp_updL w i v)
  have h0 : (mx SC SM w).2.2 900 0 = w := by show (if (900 : Nat) = 900 ∧ (0 : Nat) = 0 then w else SC.2.2 900 0) = w; rw [if_pos ⟨rfl, rfl⟩]
  rw [h0]
  show ((mx SC SM w).1, (mx SC SM w).2.1, _) = ((mx SC SM w).1, (mx SC SM w).2.1, _)
  congr 2
  funext a b
  by_cases h : a = 900 ∧ b = 0
  · rw [if_pos h]
    show _ = (if a = 900 ∧ b = 0 then vp_updL w i v else SC.2.2 a b)
    rw [if_pos h]
  · rw [if_neg h]
    show (if a = 900 ∧ b = 0 then w else SC.2.2 a b) = (if a = 900 ∧ b = 0 then vp_updL w i v else SC.2.2 a b)
    rw [if_neg h, if_neg h]
theorem KL_C {k : Ky} (h : k ∈ KK) : k ∈ KLw := List.mem_append_left _ h
theorem KL_M {k : Ky} (h : k ∈ KM) : k ∈ KLw := List.mem_append_right _ (List.mem_append_left _ h)
theorem KL_O : (2, 900, 0) ∈ KLw := List.mem_append_right _ (List.mem_append_right _ (List.mem_singleton.mpr rfl))
theorem KD_l {A B : List Ky} (h : KD ad (A ++ B)) : KD ad A := fun i j a b ha hb e => by
  refine h i j a b ?_ ?_ e
  · rw [List.getElem?_append_left (List.getElem?_eq_some_iff.mp ha).1]; exact ha
  · rw [List.getElem?_append_left (List.getElem?_eq_some_iff.mp hb).1]; exact hb
theorem KD_r {A B : List Ky} (h : KD ad (A ++ B)) : KD ad B := fun i j a b ha hb e => by
  have := h (A.length + i) (A.length + j) a b (by rw [List.getElem?_append_right (by omega), Nat.add_sub_cancel_left]; exact ha) (by rw [List.getElem?_append_right (by omega), Nat.add_sub_cancel_left]; exact hb) e
  omega
theorem KD_x {A B : List Ky} (h : KD ad (A ++ B)) {a b : Ky} (ha : a ∈ A) (hb : b ∈ B) : adk ad a ≠ adk ad b := fun e => by
  obtain ⟨i, hi⟩ := List.getElem?_of_mem ha
  obtain ⟨j, hj⟩ := List.getElem?_of_mem hb
  have h1 := (List.getElem?_eq_some_iff.mp hi).1
  have := h i (A.length + j) a b (by rw [List.getElem?_append_left h1]; exact hi) (by rw [List.getElem?_append_right (by omega), Nat.add_sub_cancel_left]; exact hj) e
  omega
/-- the callee's keys A, all others B -/
def SPL (ad : Ad) (K A B : List Ky) : Prop := (∀ k ∈ A, k ∈ K) ∧ (∀ k ∈ B, k ∈ K) ∧ (∀ k ∈ K, k ∈ A ∨ k ∈ B) ∧ KD ad A ∧ ∀ a ∈ A, ∀ b ∈ B, adk ad a ≠ adk ad b
theorem spl_C (h : KD ad KLw) : SPL ad KLw KK (KM ++ [(2, 900, 0)]) := ⟨fun _ hk => List.mem_append_left _ hk, fun _ hk => List.mem_append_right _ hk, fun _ hk => List.mem_append.mp hk, KD_l h, fun _ ha _ hb => KD_x h ha hb⟩
theorem spl_M (h : KD ad KLw) : SPL ad KLw KM (KK ++ [(2, 900, 0)]) := by
  refine ⟨fun _ hk => KL_M hk, fun k hk => ?_, fun k hk => ?_, KD_l (KD_r h), fun a ha b hb => ?_⟩
  · rcases List.mem_append.mp hk with h1 | h1
    · exact KL_C h1
    · exact List.mem_append_right _ (List.mem_append_right _ h1)
  · rcases List.mem_append.mp hk with h1 | h1
    · exact Or.inr (List.mem_append_left _ h1)
    · rcases List.mem_append.mp h1 with h2 | h2
      · exact Or.inl h2
      · exact Or.inr (List.mem_append_right _ h2)
  · rcases List.mem_append.mp hb with h1 | h1
    · exact (KD_x h h1 (List.mem_append_left _ ha)).symm
    · exact KD_x (KD_r h) ha h1
end MX
section SP
variable {D : va_G} {ad : Ad} {t : Ty3} {K A B : List Ky} {S S1 SA SA' : St} {H H1 : Heap}
theorem wl_by (h : ∀ k ∈ K, ∃ (K' : List Ky) (S' : St), k ∈ K' ∧ ent ad t S k = ent ad t S' k ∧ va_P D vwCl (wl ad t K' S') H) : va_P D vwCl (wl ad t K S) H := by
  intro i q hi
  obtain ⟨k, hk, rfl⟩ := wl_get hi
  obtain ⟨K', S', h1, h2, h3⟩ := h k (List.mem_of_getElem? hk)
  obtain ⟨q0, hq⟩ := wl_at h1
  rw [h2]
  exact h3 q0 _ (wl_of hq)
theorem AW_sub {sz sz' : Nat} (h : ∀ k ∈ A, k ∈ K) (hz : sz ≤ sz') {q : Nat} (hq : AW ad A sz' q) : AW ad K sz q := by
  rcases hq with ⟨k, h1, h2⟩ | h1
  · exact Or.inl ⟨k, h k h1, h2⟩
  · exact Or.inr (Nat.le_trans hz h1)
theorem spl_post (hs : SPL ad K A B) (hP : va_P D vwCl (wl ad t K S) H) (hq : ∀ q : Nat, q < H.size → ¬ AW ad A H.size q → H1[q]? = H[q]?) (hP1 : va_P D vwCl (wl ad t A SA') H1) (e1 : ∀ k ∈ A, ent ad t S1 k = ent ad t SA' k) (e2 : ∀ k ∈ B, ent ad t S1 k = ent ad t S k) : va_P D vwCl (wl ad t K S1) H1 := by
  obtain ⟨h1, h2, h3, h4, h5⟩ := hs
  refine wl_by (fun k hk => ?_)
  rcases h3 k hk with ha | hb
  · exact ⟨A, SA', ha, e1 k ha, hP1⟩
  · refine ⟨B, S, hb, e2 k hb, ?_⟩
    have hPB : va_P D vwCl (wl ad t B S) H := wl_by (fun k hk => ⟨K, S, h2 k hk, rfl, hP⟩)
    refine hPB.kept (fun i q hi => ?_)
    have hlt := vx_lt hPB hi
    obtain ⟨k', hk', rfl⟩ := wl_get hi
    refine hq _ hlt (fun hA => ?_)
    rcases hA with ⟨a, ha, he⟩ | hge
    · exact h5 a ha k' (List.mem_of_getElem? hk') he
    · exact absurd hlt (Nat.not_lt.mpr hge)
end SP
abbrev x_yA (x : XC) (A : List Ky) : YC := (x_l x, x_D x, x_ad x, x_t x, A)
theorem PW.part {x : XC} {cc : ByteArray} {nL : Nat} {own : String} {A B : List Ky} {S SA : St} {H : Heap} {locs : List Loc} {U : State} (hx : CX x cc nL own) (hs : SPL (x_ad x) (x_K x) A B) (e : ∀ k ∈ A, ent (x_ad x) (x_t x) S k = ent (x_ad x) (x_t x) SA k) (hP : va_P (x_D x) vwCl (wl (x_ad x) (x_t x) (x_K x) S) H) (hS : va_S (x_A x) (x_s x).heap H locs) (hU : U.heap = H) (hW : (x_s x).WarmedH U.vm) : PW (x_yA x A) SA H.size U := by
  obtain ⟨-, -, -, -, -, hK, hD, hR⟩ := hx
  refine ⟨by rw [hU], by rw [hU]; exact wl_by (fun k hk => ⟨x_K x, S, hs.1 k hk, (e k hk).symm, hP⟩), va_K.moved hW.alike hK, hs.2.2.2.1, ?_⟩
  rw [hU]
  exact RO.warm hW ((hR.kept hS.1 hS.2.1).narrow (fun q h => AW_sub hs.1 hS.1 h))
section PC
variable {x : XC} {nL kc ks : Nat} {S S1 SA : St} {A B : List Ky} {pc : Nat} {lv : List (Nat × Value)} {st rest As : List Value} {cc cy : ByteArray} {own C : String} {ci j idx ml n : Nat} {y : MethodName} {ret : Option FieldType} {rm : Room} {T : u_T} {N : Nat}
/-- calls of a method that knows of the keys A alone -/
theorem p_Vi (hx : CX x cc nL own) (hs : SPL (x_ad x) (x_K x) A B) (e0 : ∀ k ∈ A, ent (x_ad x) (x_t x) S k = ent (x_ad x) (x_t x) SA k) {out : St × Int32} (hM : MI (x_yA x A) y cy ml ret rm SA (.ref (x_ad x 0 ci j) :: As) out) (e1 : ∀ k ∈ A, ent (x_ad x) (x_t x) S1 k = ent (x_ad x) (x_t x) out.1 k) (e2 : ∀ k ∈ B, ent (x_ad x) (x_t x) S1 k = ent (x_ad x) (x_t x) S k) (hk : (0, ci, j) ∈ x_K x) (hc : vwCl[ci]? = some (C, T, N)) (w1 : Cond.methodLink own idx y ∈ TB) (w2 : Cond.instanceMethod y ∈ TB) (w3 : Cond.selects C y y ∈ TB) (w4 : Cond.initialized y.cls ∈ TB) (w5 : Cond.code y cy ml ret ∈ TB) (hdy : DY y n) (hn : As.length = n) (hR : RY (x_R x) rm ml kc ks) (hst : st = As.reverse ++ .ref (x_ad x 0 ci j) :: rest) (hW : (rest.map fun v => v.category).sum ≤ 8) (hd : decode cc pc = .ok (.invokevirtual idx, 3)) (kk : WX x nL kc ks S1 (pc + 3) lv (.int out.2 :: rest)) : WX x nL kc ks S pc lv st := by
  intro H locs ls hl hP hS
  subst hst
  have ht := hx.2.2.2.2.1
  obtain ⟨q0, hq⟩ := wl_at hk
  refine va_calli (va_runV (C := C) (As := As) (rest := rest) ⟨hx.1, hx.2.1, hx.2.2.1, hx.2.2.2.1, ht⟩ (hM H.size) ⟨callB_of n ht (good_O w5) rfl hR.2.1 hR.2.2.1 (ht _ w4) (ht _ w1) hdy hR.1, ht _ w2, ht _ w3⟩ ⟨PW.blind, va_recv hx.2.2.2.2.2.1 hP hc (wl_of hq), fun U hU hW => ⟨rfl, PW.part hx hs e0 hP hS hU hW⟩⟩ rfl hn hl.1 rfl (lv_room hW) hd ⟨hR.2.2.2.1, hR.2.2.2.2⟩) hS (fun q _ h => AW_sub hs.1 hS.1 h) (fun q h => AW_sub hs.1 hS.1 h) (fun r u t9 H1 locs1 ht9 hvm hp hB hz hk1 hS1 => ?_)
  subst hp
  exact kk H1 locs1 ls hl (spl_post hs hP hk1 (by rw [← ht9]; exact hB) e1 e2) hS1
theorem p_Vv (hx : CX x cc nL own) (hs : SPL (x_ad x) (x_K x) A B) (e0 : ∀ k ∈ A, ent (x_ad x) (x_t x) S k = ent (x_ad x) (x_t x) SA k) {out : St} (hM : MV (x_yA x A) y cy ml ret rm SA (.ref (x_ad x 0 ci j) :: As) out) (e1 : ∀ k ∈ A, ent (x_ad x) (x_t x) S1 k = ent (x_ad x) (x_t x) out k) (e2 : ∀ k ∈ B, ent (x_ad x) (x_t x) S1 k = ent (x_ad x) (x_t x) S k) (hk : (0, ci, j) ∈ x_K x) (hc : vwCl[ci]? = some (C, T, N)) (w1 : Cond.methodLink own idx y ∈ TB) (w2 : Cond.instanceMethod y ∈ TB) (w3 : Cond.selects C y y ∈ TB) (w4 : Cond.initialized y.cls ∈ TB) (w5 : Cond.code y cy ml ret ∈ TB) (hdy : DY y n) (hn : As.length = n) (hR : RY (x_R x) rm ml kc ks) (hst : st = As.reverse ++ .ref (x_ad x 0 ci j) :: rest) (hW : (rest.map fun v => v.category).sum ≤ 8) (hd : decode cc pc = .ok (.invokevirtual idx, 3)) (kk : WX x nL kc ks S1 (pc + 3) lv rest) : WX x nL kc ks S pc lv st := by
  intro H locs ls hl hP hS
  subst hst
  have ht := hx.2.2.2.2.1
  obtain ⟨q0, hq⟩ := wl_at hk
  refine va_callv (va_runV (C := C) (As := As) (rest := rest) ⟨hx.1, hx.2.1, hx.2.2.1, hx.2.2.2.1, ht⟩ (hM H.size) ⟨callB_of n ht (good_O w5) rfl hR.2.1 hR.2.2.1 (ht _ w4) (ht _ w1) hdy hR.1, ht _ w2, ht _ w3⟩ ⟨PW.blind, va_recv hx.2.2.2.2.2.1 hP hc (wl_of hq), fun U hU hW => ⟨rfl, PW.part hx hs e0 hP hS hU hW⟩⟩ rfl hn hl.1 rfl (lv_room hW) hd ⟨hR.2.2.2.1, hR.2.2.2.2⟩) hS (fun q _ h => AW_sub hs.1 hS.1 h) (fun q h => AW_sub hs.1 hS.1 h) (fun u t9 H1 locs1 ht9 hvm hp hB hz hk1 hS1 => ?_)
  exact kk H1 locs1 ls hl (spl_post hs hP hk1 (by rw [← ht9]; exact hB) e1 e2) hS1
/-- the same where it may throw: what it throws is caught here, by the row of the table that takes it first -/
theorem p_XC (hx : CX x cc nL own) (hs : SPL (x_ad x) (x_K x) A B) (e0 : ∀ k ∈ A, ent (x_ad x) (x_t x) S k = ent (x_ad x) (x_t x) SA k) {SA' : St} {t9 v9 : Int32} {m9 s9 : Nat} (hM : MXI (x_yA x A) y cy ml ret rm m9 s9 SA (.ref (x_ad x 0 ci j) :: As) (SA', t9, v9)) (e1 : ∀ k ∈ A, ent (x_ad x) (x_t x) S1 k = ent (x_ad x) (x_t x) SA' k) (e2 : ∀ k ∈ B, ent (x_ad x) (x_t x) S1 k = ent (x_ad x) (x_t x) S k) (hk : (0, ci, j) ∈ x_K x) (hc : vwCl[ci]? = some (C, T, N)) (w1 : Cond.methodLink own idx y ∈ TB) (w2 : Cond.instanceMethod y ∈ TB) (w3 : Cond.selects C y y ∈ TB) (w4 : Cond.initialized y.cls ∈ TB) (w5 : Cond.code y cy ml ret ∈ TB) (hdy : DY y n) (hn : As.length = n) (hR : RX9 (x_R x) rm ml kc ks m9 s9) (hst : st = As.reverse ++ .ref (x_ad x 0 ci j) :: rest) (hW : (rest.map fun v => v.category).sum ≤ 8) (hd : decode cc pc = .ok (.invokevirtual idx, 3))
    (hcat : ¬ t9 = 0 → ∃ (pre : List ExceptionTableEntry) (z : ExceptionTableEntry) (suf : List ExceptionTableEntry) , (x_c x).exceptionTable.toList = pre ++ z :: suf ∧ (∀ z ∈ pre, covers z pc = false ∨ (z.catchType ≠ 0 ∧ ∃ nm : String, Cond.classLink own z.catchType nm ∈ TB ∧ (exn t9, nm) ∈ ncs)) ∧ covers z pc = true ∧ z.catchType ≠ 0 ∧ Cond.classLink own z.catchType (exn t9) ∈ TB ∧ exn t9 ∈ xcs ∧ ∀ q9 : Nat, WX x nL (kc + m9) (ks + s9) S1 z.handlerPc lv [.ref q9])
    (kk : t9 = 0 → WX x nL (kc + m9) (ks + s9) S1 (pc + 3) lv (.int v9 :: rest)) : WX x nL kc ks S pc lv st := by
  intro H locs ls hl hP hS
  subst hst
  have ht := hx.2.2.2.2.1
  obtain ⟨q0, hq⟩ := wl_at hk
  refine vx_calli (vx_runV (C := C) (As := As) (rest := rest) ⟨hx.1, hx.2.1, hx.2.2.1, hx.2.2.2.1, ht⟩ (hM H.size) ⟨callB_of n ht (good_O w5) rfl hR.2.1 hR.2.2.1 (ht _ w4) (ht _ w1) hdy hR.1, ht _ w2, ht _ w3⟩ ⟨PW.blind, va_recv hx.2.2.2.2.2.1 hP hc (wl_of hq), fun U hU hW => ⟨rfl, PW.part hx hs e0 hP hS hU hW⟩⟩ rfl hn hl.1 rfl (lv_room hW) hd ⟨hR.2.2.2.1, hR.2.2.2.2⟩) hS (fun q _ h => AW_sub hs.1 hS.1 h) (fun q h => AW_sub hs.1 hS.1 h) (fun q _ h => AW_sub hs.1 hS.1 h) (fun E ce q9 u t8 H1 locs1 ht9 hvm hp hB hz hk1 hS1 hc1 hc2 hc3 => ?_) (fun r u t8 H1 locs1 ht9 hvm hp hB hz hk1 hS1 => ?_)
  · obtain ⟨pre, z, suf, g1, g2, g3, g4, g5, g6, g7⟩ := hcat hp
    obtain ⟨rfl, hB2⟩ := hB
    have hRO := hx.2.2.2.2.2.2.2
    obtain ⟨-, -, -, -, h8, h9, -⟩ := hRO
    refine vx_catch hx.2.2.2.1 pre z suf g1 (fun z' hz' => ?_) g3 g4 (ht _ g5) (va_tabs (u := x_s x) (U := x_s x) rfl rfl (h8 _ g6)) hc1 hc2 hc3 ?_
    · rcases g2 z' hz' with h | ⟨h1, nm, h2, h3⟩
      · exact Or.inl h
      · exact Or.inr ⟨h1, nm, ht _ h2, h9 _ h3⟩
    · exact g7 q9 H1 locs1 ls hl (spl_post hs hP hk1 (by rw [← ht9]; exact hB2) e1 e2) hS1
  · obtain ⟨hp1, hp2⟩ := hp
    subst hp2
    exact kk hp1 H1 locs1 ls hl (spl_post hs hP hk1 (by rw [← ht9]; exact hB) e1 e2) hS1
end PC
