/-! making objects: a constructor's world is a list of cells; what it made is told by addresses (by field, by row and slot) -/
abbrev AA : Type := (Nat → Nat) × (Nat → Nat → Nat)
def NA (h sz : Nat) : Nat → Prop := fun q => q = h ∨ sz ≤ q
abbrev x_N (x : XC) (h : Nat) : Nat → Prop := NA h (x_s x).heap.size
def CN (x : XC) (h : Nat) (cc : ByteArray) (nL : Nat) (own : String) : Prop :=
  (x_p x).tables.exec = Jvm.exec ∧ (x_c x).code = cc ∧ (x_c x).maxLocals = nL ∧ (x_s x).vm.findClass own = some (x_m x).cls ∧ (∀ w ∈ TB, w.before (x_a x) (x_s x) = true) ∧ va_K (x_D x) vwCl (tyl (x_t x)) (x_s x) ∧ RO (x_N x h) (x_s x) (x_s x).heap ∧ va_AO RX4 (x_s x)
def WN (x : XC) (h nL kc ks : Nat) (ws : va_W) (pc : Nat) (lv : List (Nat × Value)) (st : List Value) : Prop :=
  ∀ (H : Heap) (locs : List Loc) (ls : Array Slot), lv_has ls nL lv → va_P (x_D x) vwCl ws H → va_D (x_N x h) ws → va_S (x_N x h) (x_s x).heap H locs →
    W (x_p x) (x_l x) (x_e x) (x_R x) (x_s x) (x_m x) (x_a x) (x_b x) (x_me x) (x_c x) H locs kc ks (x_Q x) (F0 (x_m x) pc ls st)
theorem wi_objInit : Cond.instanceMethod objectInit ∈ TB := tb1 (List.mem_of_getElem? (i := 24) rfl) rfl
theorem wy_long : Cond.arrayClass .long ∈ TB := tb1 (List.mem_of_getElem? (i := 51) rfl) rfl
theorem wy_int : Cond.arrayClass .int ∈ TB := tb1 (List.mem_of_getElem? (i := 52) rfl) rfl
abbrev eI (t : Ty3) (n : Nat) (f : Nat → Int32) : va_E := .inl (t.1, n, .inl f)
abbrev eL (t : Ty3) (n : Nat) (f : Nat → Int64) : va_E := .inl (t.2.1, n, .inr (.inl f))
abbrev eQ (t : Ty3) (n : Nat) (f : Nat → Option Nat) : va_E := .inl (t.2.2, n, .inr (.inr (.inr (.inr f))))
section NR
variable {x : XC} {h nL kc ks : Nat} {ws wr : va_W} {pc : Nat} {lv lv' : List (Nat × Value)} {st : List Value} {cc : ByteArray} {own : String}
theorem NA_le {h sz q : Nat} (hq : sz ≤ q) : NA h sz q := Or.inr hq
theorem n_iconst (hx : CN x h cc nL own) {n : Int} {v : Int32} (hd : decode cc pc = .ok (.iconst n, 1)) (hv : Int32.ofInt n = v) (k : WN x h nL kc ks ws (pc + 1) lv (.int v :: st)) : WN x h nL kc ks ws pc lv st :=
  fun H locs ls hl hP hD hS => lv_iconst hx.1 hx.2.1 hd hv (k H locs ls hl hP hD hS)
theorem n_lconst (hx : CN x h cc nL own) {n : Fin 2} {v : Int64} (hd : decode cc pc = .ok (.lconst n, 1)) (hv : Int64.ofNat (n : Nat) = v) (k : WN x h nL kc ks ws (pc + 1) lv (.long v :: st)) : WN x h nL kc ks ws pc lv st :=
  fun H locs ls hl hP hD hS => lv_lconst hx.1 hx.2.1 hd hv (k H locs ls hl hP hD hS)
theorem n_bipush (hx : CN x h cc nL own) {n : Int} {v : Int32} (hd : decode cc pc = .ok (.bipush n, 2)) (hv : (Int8.ofInt n).toInt32 = v) (k : WN x h nL kc ks ws (pc + 2) lv (.int v :: st)) : WN x h nL kc ks ws pc lv st :=
  fun H locs ls hl hP hD hS => lv_bipush hx.1 hx.2.1 hd hv (k H locs ls hl hP hD hS)
theorem n_sipush (hx : CN x h cc nL own) {n : Int} {v : Int32} (hd : decode cc pc = .ok (.sipush n, 3)) (hv : (Int16.ofInt n).toInt32 = v) (k : WN x h nL kc ks ws (pc + 3) lv (.int v :: st)) : WN x h nL kc ks ws pc lv st :=
  fun H locs ls hl hP hD hS => lv_sipush hx.1 hx.2.1 hd hv (k H locs ls hl hP hD hS)
theorem n_ldc (hx : CN x h cc nL own) {n : Nat} {v : Int32} (hd : decode cc pc = .ok (.ldc n, 2)) (hw : Cond.constant own n v ∈ TB) (k : WN x h nL kc ks ws (pc + 2) lv (.int v :: st)) : WN x h nL kc ks ws pc lv st :=
  fun H locs ls hl hP hD hS => lv_ldc hx.1 hx.2.1 hx.2.2.2.1 (hx.2.2.2.2.1 _ hw) hd (k H locs ls hl hP hD hS)
theorem n_aload_n (hx : CN x h cc nL own) {n : Fin 4} {i k0 : Nat} {v : Nat} (hd : decode cc pc = .ok (.aload_n n, 1)) (hi : (n : Nat) = i) (hk : lv[k0]? = some (i, .ref v)) (k : WN x h nL kc ks ws (pc + 1) lv (.ref v :: st)) : WN x h nL kc ks ws pc lv st :=
  fun H locs ls hl hP hD hS => lv_aload_n hx.1 hx.2.1 hd hi (lv_at hl k0 hk) (k H locs ls hl hP hD hS)
theorem n_aload (hx : CN x h cc nL own) {i k0 : Nat} {v : Nat} (hd : decode cc pc = .ok (.aload i, 2)) (hk : lv[k0]? = some (i, .ref v)) (k : WN x h nL kc ks ws (pc + 2) lv (.ref v :: st)) : WN x h nL kc ks ws pc lv st :=
  fun H locs ls hl hP hD hS => lv_aload hx.1 hx.2.1 hd (lv_at hl k0 hk) (k H locs ls hl hP hD hS)
theorem n_astore_n (hx : CN x h cc nL own) {n : Fin 4} {i : Nat} {v : Nat} (hd : decode cc pc = .ok (.astore_n n, 1)) (hi : (n : Nat) = i) (hn : i < nL) (hl9 : (i, Value.ref v) :: lv.filter (fun q => !(q.1 == i) && !(q.1 + 1 == i && q.2.category == 2)) = lv') (k : WN x h nL kc ks ws (pc + 1) lv' st) : WN x h nL kc ks ws pc lv (.ref v :: st) :=
  fun H locs ls hl hP hD hS => lv_astore_n hx.1 hx.2.1 hd hi hl hn hl9 (fun ls hl => k H locs ls hl hP hD hS)
theorem n_iload (hx : CN x h cc nL own) {i k0 : Nat} {v : Int32} (hd : decode cc pc = .ok (.iload i, 2)) (hk : lv[k0]? = some (i, .int v)) (k : WN x h nL kc ks ws (pc + 2) lv (.int v :: st)) : WN x h nL kc ks ws pc lv st :=
  fun H locs ls hl hP hD hS => lv_iload hx.1 hx.2.1 hd (lv_at hl k0 hk) (k H locs ls hl hP hD hS)
theorem n_istore (hx : CN x h cc nL own) {i : Nat} {v : Int32} (hd : decode cc pc = .ok (.istore i, 2)) (hn : i < nL) (hl9 : (i, Value.int v) :: lv.filter (fun q => !(q.1 == i) && !(q.1 + 1 == i && q.2.category == 2)) = lv') (k : WN x h nL kc ks ws (pc + 2) lv' st) : WN x h nL kc ks ws pc lv (.int v :: st) :=
  fun H locs ls hl hP hD hS => lv_istore hx.1 hx.2.1 hd hl hn hl9 (fun ls hl => k H locs ls hl hP hD hS)
theorem n_iinc (hx : CN x h cc nL own) {i k : Nat} {n : Int} {y v : Int32} (hd : decode cc pc = .ok (.iinc i n, 3)) (hk : lv[k]? = some (i, .int y)) (hv : y + Int32.ofInt n = v) (hn : i < nL) (hl9 : (i, Value.int v) :: lv.filter (fun q => !(q.1 == i) && !(q.1 + 1 == i && q.2.category == 2)) = lv') (k9 : WN x h nL kc ks ws (pc + 3) lv' st) : WN x h nL kc ks ws pc lv st :=
  fun H locs ls hl hP hD hS => lv_iinc hx.1 hx.2.1 hd hl hk hv hn hl9 (fun ls hl => k9 H locs ls hl hP hD hS)
theorem n_dup (hx : CN x h cc nL own) {v : Nat} (hd : decode cc pc = .ok (.dup, 1)) (k : WN x h nL kc ks ws (pc + 1) lv (.ref v :: .ref v :: st)) : WN x h nL kc ks ws pc lv (.ref v :: st) :=
  fun H locs ls hl hP hD hS => lv_dup hx.1 hx.2.1 hd rfl (k H locs ls hl hP hD hS)
theorem n_goto (hx : CN x h cc nL own) {off : Int} {tgt : Nat} (hd : decode cc pc = .ok (.goto off, 3)) (ht : (pc : Int) + off = (tgt : Int)) (k : WN x h nL kc ks ws tgt lv st) : WN x h nL kc ks ws pc lv st :=
  fun H locs ls hl hP hD hS => lv_goto hx.1 hx.2.1 hd ht (k H locs ls hl hP hD hS)
theorem n_icmp_ge (hx : CN x h cc nL own) {a b : Int32} {off : Int} {tgt : Nat} (hd : decode cc pc = .ok (.if_icmp .ge off, 3)) (ht : (pc : Int) + off = (tgt : Int)) (kt : b ≤ a → WN x h nL kc ks ws tgt lv st) (kf : ¬ b ≤ a → WN x h nL kc ks ws (pc + 3) lv st) : WN x h nL kc ks ws pc lv (.int b :: .int a :: st) :=
  fun H locs ls hl hP hD hS => lv_icmp_ge hx.1 hx.2.1 hd ht (fun c => kt c H locs ls hl hP hD hS) (fun c => kf c H locs ls hl hP hD hS)
theorem n_obj (hx : CN x h cc nL own) {idx : Nat} {a : Nat} (hlink : Cond.methodLink own idx objectInit ∈ TB) (hd : decode cc pc = .ok (.invokespecial idx, 3)) (h1 : 1 ≤ (x_R x).frames) (h2 : (st.map fun v => v.category).sum + 12 ≤ (x_R x).locals) (k : WN x h nL kc ks ws (pc + 3) lv st) : WN x h nL kc ks ws pc lv (.ref a :: st) :=
  fun H locs ls hl hP hD hS => W.objInit hx.1 hx.2.1 hx.2.2.2.1 (hx.2.2.2.2.1 _ hlink) (hx.2.2.2.2.1 _ wi_objInit) (hx.2.2.2.2.1 _ wc_objectInit) rfl (hl.1.trans hx.2.2.1.symm) rfl hd h1 (by show 2 * 0 + _ + 12 ≤ _; omega) (k H locs ls hl hP hD hS)
theorem n_new (hx : CN x h cc nL own) {C : String} {T : u_T} {N ci idx : Nat} {fs : List Value} {ty : Nat → FieldType} (hc : vwCl[ci]? = some (C, T, N)) (hin : ∀ w ∈ u_ws C T N, w ∈ TB) (hty : ∀ k, k < N → parseFieldDescriptor (T k).2.2.1 = some (ty k)) (w1 : Cond.classLink own idx C ∈ TB) (w2 : Cond.instantiable C N ∈ TB) (w3 : Cond.initialized C ∈ TB) (hfs : ∀ j, j < N → defaultValue (ty j) = vp_V fs j) (h1 : kc + 1 ≤ (x_R x).cells) (h2 : ks + N ≤ (x_R x).slots) (hd : decode cc pc = .ok (.new idx, 3)) (k : ∀ q : Nat, WN x h nL (kc + 1) (ks + N) (ws ++ [(q, .inr (ci, fs))]) (pc + 3) lv (.ref q :: st)) : WN x h nL kc ks ws pc lv st := by
  intro H locs ls hl hP hD hS
  have ht := hx.2.2.2.2.1
  exact va_new hx.1 hx.2.1 ht hin ty hty hx.2.2.2.1 (ht _ w1) (ht _ w2) (ht _ w3) hx.2.2.2.2.2.1 hP hD hS (fun _ h => NA_le h) hc hfs h1 h2 hd (fun q H1 hP1 hD1 hS1 => k q H1 locs ls hl hP1 hD1 hS1)
theorem n_newi (hx : CN x h cc nL own) {n : Int32} {N : Nat} (hn : ¬ n < 0) (hN : n.toNatClampNeg = N) (hb : N * componentBytes .int ≤ 536870912) (h1 : kc + 1 ≤ (x_R x).cells) (h2 : ks + N ≤ (x_R x).slots) (hd : decode cc pc = .ok (.newarray .int, 2)) (k : ∀ q : Nat, WN x h nL (kc + 1) (ks + N) (ws ++ [(q, eI (x_t x) N (fun _ => 0))]) (pc + 2) lv (.ref q :: st)) : WN x h nL kc ks ws pc lv (.int n :: st) := by
  intro H locs ls hl hP hD hS
  refine va_newa (atype := .int) (ty := .int) (a0 := (N, .inl (fun _ => 0))) hx.1 hx.2.1 (hx.2.2.2.2.1 _ wy_int) rfl hx.2.2.2.2.2.1 hP hD hS (fun _ h => NA_le h) (fun cA => rfl) hn hN hb h1 h2 hd (fun q cA H1 hK1 hP1 hD1 hS1 => ?_)
  have e1 : (x_s x).vm.findClass ("[" ++ FieldType.int.toString) = some cA := (hK1.2 3 (cA, .int) rfl).2
  have e2 : (x_s x).vm.findClass ("[" ++ FieldType.int.toString) = some (x_t x).1 := (hx.2.2.2.2.2.1.2 0 ((x_t x).1, .int) rfl).2
  cases Option.some.inj (e1.symm.trans e2)
  exact k q H1 locs ls hl hP1 hD1 hS1
theorem n_newl (hx : CN x h cc nL own) {n : Int32} {N : Nat} (hn : ¬ n < 0) (hN : n.toNatClampNeg = N) (hb : N * componentBytes .long ≤ 536870912) (h1 : kc + 1 ≤ (x_R x).cells) (h2 : ks + N ≤ (x_R x).slots) (hd : decode cc pc = .ok (.newarray .long, 2)) (k : ∀ q : Nat, WN x h nL (kc + 1) (ks + N) (ws ++ [(q, eL (x_t x) N (fun _ => 0))]) (pc + 2) lv (.ref q :: st)) : WN x h nL kc ks ws pc lv (.int n :: st) := by
  intro H locs ls hl hP hD hS
  refine va_newa (atype := .long) (ty := .long) (a0 := (N, .inr (.inl (fun _ => 0)))) hx.1 hx.2.1 (hx.2.2.2.2.1 _ wy_long) rfl hx.2.2.2.2.2.1 hP hD hS (fun _ h => NA_le h) (fun cA => rfl) hn hN hb h1 h2 hd (fun q cA H1 hK1 hP1 hD1 hS1 => ?_)
  have e1 : (x_s x).vm.findClass ("[" ++ FieldType.long.toString) = some cA := (hK1.2 3 (cA, .long) rfl).2
  have e2 : (x_s x).vm.findClass ("[" ++ FieldType.long.toString) = some (x_t x).2.1 := (hx.2.2.2.2.2.1.2 1 ((x_t x).2.1, .long) rfl).2
  cases Option.some.inj (e1.symm.trans e2)
  exact k q H1 locs ls hl hP1 hD1 hS1
theorem n_newq (hx : CN x h cc nL own) {n : Int32} {N idx : Nat} (hn : ¬ n < 0) (hN : n.toNatClampNeg = N) (hb : N * 4 ≤ 536870912) (w1 : Cond.classLink own idx RX4 ∈ TB) (h1 : kc + 1 ≤ (x_R x).cells) (h2 : ks + N ≤ (x_R x).slots) (hd : decode cc pc = .ok (.anewarray idx, 3)) (k : ∀ q : Nat, WN x h nL (kc + 1) (ks + N) (ws ++ [(q, eQ (x_t x) N (fun _ => none))]) (pc + 3) lv (.ref q :: st)) : WN x h nL kc ks ws pc lv (.int n :: st) := by
  intro H locs ls hl hP hD hS
  have ht := hx.2.2.2.2.1
  refine va_newq hx.1 hx.2.1 hx.2.2.2.1 (ht _ w1) hx.2.2.2.2.2.2.2 hx.2.2.2.2.2.1 hP hD hS (fun _ h => NA_le h) hn hN hb h1 h2 hd (fun q cA H1 hK1 hP1 hD1 hS1 => ?_)
  obtain ⟨-, -, -, -, -, e1⟩ := (hK1.2 3 (cA, .object RX4) rfl).2
  obtain ⟨-, -, -, -, -, e2⟩ := (hx.2.2.2.2.2.1.2 2 ((x_t x).2.2, .object "TypeKernel$Row") rfl).2
  cases Option.some.inj (e1.symm.trans e2)
  exact k q H1 locs ls hl hP1 hD1 hS1
/-- fields of the object at the world's place 0 -/
theorem n_get (hx : CN x h cc nL own) {C : String} {T : u_T} {N ci k idx a : Nat} {fs : List Value} {v : Value} (hc : vwCl[ci]? = some (C, T, N)) (hkN : k < N) (hv : fs[k]? = some v) (hin : ∀ w ∈ u_ws C T N, w ∈ TB) (hlink : Cond.fieldLink own idx (T k).1 (T k).2.1 (T k).2.2.1 ∈ TB) (hd : decode cc pc = .ok (.getfield idx, 3)) (kk : WN x h nL kc ks ((a, .inr (ci, fs)) :: wr) (pc + 3) lv (v :: st)) : WN x h nL kc ks ((a, .inr (ci, fs)) :: wr) pc lv (.ref a :: st) :=
  fun H locs ls hl hP hD hS => va_get (tys := tyl (x_t x)) hx.1 hx.2.1 hx.2.2.2.2.1 hin hx.2.2.2.1 hx.2.2.2.2.2.1 hP 0 (fs := fs) rfl hc k hkN (hx.2.2.2.2.1 _ hlink) (fun _ h => h) hv hd (kk H locs ls hl hP hD hS)
theorem n_put (hx : CN x h cc nL own) {C : String} {T : u_T} {N ci k idx a : Nat} {fs fs' : List Value} {ty0 : Nat → FieldType} {ty : FieldType} {v : Value} (hc : vwCl[ci]? = some (C, T, N)) (hkN : k < N) (hin : ∀ w ∈ u_ws C T N, w ∈ TB) (hty : ∀ k, k < N → parseFieldDescriptor (T k).2.2.1 = some (ty0 k)) (hnm : ∀ a, a < N → ∀ b, b < N → a ≠ b → (T a).2.1 ≠ (T b).2.1) (hfin : (T k).2.2.2 = false) (hde : parseFieldDescriptor (T k).2.2.1 = some ty) (hn : narrow ty v = v) (hfit : fits ty v = true) (hlen : k < fs.length) (hfs : fs.set k v = fs') (hlink : Cond.fieldLink own idx (T k).1 (T k).2.1 (T k).2.2.1 ∈ TB) (hd : decode cc pc = .ok (.putfield idx, 3)) (kk : WN x h nL kc ks ((a, .inr (ci, fs')) :: wr) (pc + 3) lv st) : WN x h nL kc ks ((a, .inr (ci, fs)) :: wr) pc lv (v :: .ref a :: st) := by
  subst hfs
  exact fun H locs ls hl hP hD hS => va_put (tys := tyl (x_t x)) hx.1 hx.2.1 hx.2.2.2.2.1 hin ty0 hty hnm hx.2.2.2.1 hx.2.2.2.2.2.1 hP hD hS 0 (fs := fs) rfl hc k hkN (hx.2.2.2.2.1 _ hlink) (fun _ h => h) hfin hde hn hfit hlen hd (fun H1 locs1 hP1 hD1 hS1 => kk H1 locs1 ls hl hP1 hD1 hS1)
theorem n_putF (hx : CN x h cc nL own) {C : String} {T : u_T} {N ci k idx a : Nat} {fs fs' : List Value} {ty0 : Nat → FieldType} {ty : FieldType} {v : Value} (hi : (x_me x).name = "<init>") (hc : vwCl[ci]? = some (C, T, N)) (hkN : k < N) (hin : ∀ w ∈ u_ws C T N, w ∈ TB) (hty : ∀ k, k < N → parseFieldDescriptor (T k).2.2.1 = some (ty0 k)) (hnm : ∀ a, a < N → ∀ b, b < N → a ≠ b → (T a).2.1 ≠ (T b).2.1) (hfin : (T k).2.2.2 = true) (hdecl : (T k).1 = own) (hde : parseFieldDescriptor (T k).2.2.1 = some ty) (hn : narrow ty v = v) (hfit : fits ty v = true) (hlen : k < fs.length) (hfs : fs.set k v = fs') (hlink : Cond.fieldLink own idx (T k).1 (T k).2.1 (T k).2.2.1 ∈ TB) (hd : decode cc pc = .ok (.putfield idx, 3)) (kk : WN x h nL kc ks ((a, .inr (ci, fs')) :: wr) (pc + 3) lv st) : WN x h nL kc ks ((a, .inr (ci, fs)) :: wr) pc lv (v :: .ref a :: st) := by
  subst hfs
  exact fun H locs ls hl hP hD hS => va_putF (tys := tyl (x_t x)) hx.1 hx.2.1 hx.2.2.2.2.1 hin ty0 hty hnm hx.2.2.2.1 hx.2.2.2.2.2.1 hP hD hS 0 (fs := fs) rfl hc k hkN (hx.2.2.2.2.1 _ hlink) (fun _ h => h) hfin hi hdecl hde hn hfit hlen hd (fun H1 locs1 hP1 hD1 hS1 => kk H1 locs1 ls hl hP1 hD1 hS1)
theorem n_iast (hx : CN x h cc nL own) (q0 : Nat) {ws' : va_W} {n a : Nat} {f : Nat → Int32} {i v : Int32} (ha : ws[q0]? = some (a, eI (x_t x) n f)) (hin : vp_in i n) (hw : ws.set q0 (a, eI (x_t x) n (upd f i.toNatClampNeg v)) = ws') (hd : decode cc pc = .ok (.iastore, 1)) (kk : WN x h nL kc ks ws' (pc + 1) lv st) : WN x h nL kc ks ws pc lv (.int v :: .int i :: .ref a :: st) := by
  subst hw
  exact fun H locs ls hl hP hD hS => va_iast (tys := tyl (x_t x)) hx.1 hx.2.1 hx.2.2.2.2.2.1 hP hD hS q0 0 ha rfl hin hd (fun H1 locs1 hP1 hD1 hS1 => kk H1 locs1 ls hl hP1 hD1 hS1)
theorem n_last (hx : CN x h cc nL own) (q0 : Nat) {ws' : va_W} {n a : Nat} {f : Nat → Int64} {i : Int32} {v : Int64} (ha : ws[q0]? = some (a, eL (x_t x) n f)) (hin : vp_in i n) (hw : ws.set q0 (a, eL (x_t x) n (vp_updL f i.toNatClampNeg v)) = ws') (hd : decode cc pc = .ok (.lastore, 1)) (kk : WN x h nL kc ks ws' (pc + 1) lv st) : WN x h nL kc ks ws pc lv (.long v :: .int i :: .ref a :: st) := by
  subst hw
  exact fun H locs ls hl hP hD hS => va_last (tys := tyl (x_t x)) hx.1 hx.2.1 hx.2.2.2.2.2.1 hP hD hS q0 1 ha rfl hin hd (fun H1 locs1 hP1 hD1 hS1 => kk H1 locs1 ls hl hP1 hD1 hS1)
theorem n_alenQ (hx : CN x h cc nL own) (q0 : Nat) {n a : Nat} {f : Nat → Option Nat} {v : Int32} (ha : ws[q0]? = some (a, eQ (x_t x) n f)) (hv : Int32.ofNat n = v) (hd : decode cc pc = .ok (.arraylength, 1)) (kk : WN x h nL kc ks ws (pc + 1) lv (.int v :: st)) : WN x h nL kc ks ws pc lv (.ref a :: st) :=
  fun H locs ls hl hP hD hS => va_alen (tys := tyl (x_t x)) hx.1 hx.2.1 hx.2.2.2.2.2.1 hP q0 2 ha rfl hv hd (kk H locs ls hl hP hD hS)
theorem n_aald (hx : CN x h cc nL own) (q0 : Nat) {n a : Nat} {f : Nat → Option Nat} {i : Int32} (ha : ws[q0]? = some (a, eQ (x_t x) n f)) (hin : vp_in i n) (hd : decode cc pc = .ok (.aaload, 1)) (kk : WN x h nL kc ks ws (pc + 1) lv (va_rf (f i.toNatClampNeg) :: st)) : WN x h nL kc ks ws pc lv (.int i :: .ref a :: st) :=
  fun H locs ls hl hP hD hS => va_aldq (tys := tyl (x_t x)) hx.1 hx.2.1 hx.2.2.2.2.2.1 hP q0 2 ha rfl hin hd (kk H locs ls hl hP hD hS)
theorem n_aast (hx : CN x h cc nL own) (q0 qk : Nat) {ws' : va_W} {n a v : Nat} {f : Nat → Option Nat} {i : Int32} {vs : List Value} (ha : ws[q0]? = some (a, eQ (x_t x) n f)) (hv : ws[qk]? = some (v, .inr (3, vs))) (hin : vp_in i n) (hw : ws.set q0 (a, eQ (x_t x) n (va_up f i.toNatClampNeg (some v))) = ws') (hd : decode cc pc = .ok (.aastore, 1)) (kk : WN x h nL kc ks ws' (pc + 1) lv st) : WN x h nL kc ks ws pc lv (.ref v :: .int i :: .ref a :: st) := by
  subst hw
  exact fun H locs ls hl hP hD hS => va_astq (tys := tyl (x_t x)) (r := (RX4, TX4, 6)) hx.1 hx.2.1 hx.2.2.2.2.2.1 hP hD hS q0 2 qk 3 ha rfl hv rfl hin hd (fun H1 locs1 hP1 hD1 hS1 => kk H1 locs1 ls hl hP1 hD1 hS1)
theorem WN.widen {k9 n9 : Nat} (h1 : kc ≤ k9) (h2 : ks ≤ n9) (k : WN x h nL k9 n9 ws pc lv st) : WN x h nL kc ks ws pc lv st := fun H locs ls hl hP hD hS => W.widen h1 h2 (k H locs ls hl hP hD hS)
theorem WN.sub (k : WN x h nL kc ks ws pc lv' st) (is : List Nat) (hp : lv_pick lv is = lv') : WN x h nL kc ks ws pc lv st := fun H locs ls hl hP hD hS => k H locs ls (lv_sub hl is hp) hP hD hS
theorem WN.conv {ws' : va_W} (h1 : ∀ H, va_P (x_D x) vwCl ws H → va_P (x_D x) vwCl ws' H) (h2 : ∀ A, va_D A ws → va_D A ws') (k : WN x h nL kc ks ws' pc lv st) : WN x h nL kc ks ws pc lv st := fun H locs ls hl hP hD hS => k H locs ls hl (h1 H hP) (h2 _ hD) hS
end NR
