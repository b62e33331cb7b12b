/-- what stays while a method is walked: the machine, the launch, the room, the start, the method, what is to be shown; the classes, addresses, array classes, keys -/
abbrev XC : Type := Program × Launch × Env × Room × State × MethodId × Array Value × List Frame × Method × Code × (State → Prop) × va_G × Ad × Ty3 × List Ky
abbrev x_p (x : XC) : Program := x.1
abbrev x_l (x : XC) : Launch := x.2.1
abbrev x_e (x : XC) : Env := x.2.2.1
abbrev x_R (x : XC) : Room := x.2.2.2.1
abbrev x_s (x : XC) : State := x.2.2.2.2.1
abbrev x_m (x : XC) : MethodId := x.2.2.2.2.2.1
abbrev x_a (x : XC) : Array Value := x.2.2.2.2.2.2.1
abbrev x_b (x : XC) : List Frame := x.2.2.2.2.2.2.2.1
abbrev x_me (x : XC) : Method := x.2.2.2.2.2.2.2.2.1
abbrev x_c (x : XC) : Code := x.2.2.2.2.2.2.2.2.2.1
abbrev x_Q (x : XC) : State → Prop := x.2.2.2.2.2.2.2.2.2.2.1
abbrev x_D (x : XC) : va_G := x.2.2.2.2.2.2.2.2.2.2.2.1
abbrev x_ad (x : XC) : Ad := x.2.2.2.2.2.2.2.2.2.2.2.2.1
abbrev x_t (x : XC) : Ty3 := x.2.2.2.2.2.2.2.2.2.2.2.2.2.1
abbrev x_K (x : XC) : List Ky := x.2.2.2.2.2.2.2.2.2.2.2.2.2.2
abbrev x_A (x : XC) : Nat → Prop := AW (x_ad x) (x_K x) (x_s x).heap.size
def CX (x : XC) (cc : ByteArray) (nL : Nat) (own : String) : Prop :=
  (x_p x).tables.exec = Jvm.exec ∧ (x_c x).code = cc ∧ (x_c x).maxLocals = nL ∧ (x_s x).vm.findClass own = some (x_m x).cls ∧ (∀ w ∈ TB, w.before (x_a x) (x_s x) = true) ∧ va_K (x_D x) vwCl (tyl (x_t x)) (x_s x) ∧ KD (x_ad x) (x_K x) ∧ RO (x_A x) (x_s x) (x_s x).heap
/-- from here on the machine comes to its end: world S, locals lv, operand stack st; kc cells of ks slots were made -/
def WX (x : XC) (nL kc ks : Nat) (S : St) (pc : Nat) (lv : List (Nat × Value)) (st : List Value) : Prop :=
  ∀ (H : Heap) (locs : List Loc) (ls : Array Slot), lv_has ls nL lv → va_P (x_D x) vwCl (wl (x_ad x) (x_t x) (x_K x) S) H → va_S (x_A x) (x_s x).heap H locs →
    W (x_p x) (x_l x) (x_e x) (x_R x) (x_s x) (x_m x) (x_a x) (x_b x) (x_me x) (x_c x) H locs kc ks (x_Q x) (F0 (x_m x) pc ls st)
section RX
variable {x : XC} {nL kc ks : Nat} {S S1 : St} {pc : Nat} {lv lv' : List (Nat × Value)} {st : List Value} {cc : ByteArray} {own : String}
theorem WX.eq {st' : List Value} (h : st = st') (k : WX x nL kc ks S pc lv st') : WX x nL kc ks S pc lv st := h ▸ k
theorem WX.sub (k : WX x nL kc ks S pc lv' st) (is : List Nat) (h : lv_pick lv is = lv') : WX x nL kc ks S pc lv st := fun H locs ls hl hP hS => k H locs ls (lv_sub hl is h) hP hS
theorem r_iconst (hx : CX x cc nL own) {n : Int} {v : Int32} (hd : decode cc pc = .ok (.iconst n, 1)) (hv : Int32.ofInt n = v) (k : WX x nL kc ks S (pc + 1) lv (.int v :: st)) : WX x nL kc ks S pc lv (st) :=
  fun H locs ls hl hP hS => lv_iconst hx.1 hx.2.1 hd hv (k H locs ls hl hP hS)
theorem r_bipush (hx : CX x cc nL own) {n : Int} {v : Int32} (hd : decode cc pc = .ok (.bipush n, 2)) (hv : (Int8.ofInt n).toInt32 = v) (k : WX x nL kc ks S (pc + 2) lv (.int v :: st)) : WX x nL kc ks S pc lv (st) :=
  fun H locs ls hl hP hS => lv_bipush hx.1 hx.2.1 hd hv (k H locs ls hl hP hS)
theorem r_sipush (hx : CX x cc nL own) {n : Int} {v : Int32} (hd : decode cc pc = .ok (.sipush n, 3)) (hv : (Int16.ofInt n).toInt32 = v) (k : WX x nL kc ks S (pc + 3) lv (.int v :: st)) : WX x nL kc ks S pc lv (st) :=
  fun H locs ls hl hP hS => lv_sipush hx.1 hx.2.1 hd hv (k H locs ls hl hP hS)
theorem r_lconst (hx : CX x cc nL own) {n : Fin 2} {v : Int64} (hd : decode cc pc = .ok (.lconst n, 1)) (hv : Int64.ofNat (n : Nat) = v) (k : WX x nL kc ks S (pc + 1) lv (.long v :: st)) : WX x nL kc ks S pc lv (st) :=
  fun H locs ls hl hP hS => lv_lconst hx.1 hx.2.1 hd hv (k H locs ls hl hP hS)
theorem r_ldc2 (hx : CX x cc nL own) {n : Nat} {v : Int64} (hd : decode cc pc = .ok (.ldc2_w n, 3)) (hw : Cond.constantLong own n v ∈ TB) (k : WX x nL kc ks S (pc + 3) lv (.long v :: st)) : WX x nL kc ks S pc lv (st) :=
  fun H locs ls hl hP hS => lv_ldc2 hx.1 hx.2.1 hx.2.2.2.1 (hx.2.2.2.2.1 _ hw) hd (k H locs ls hl hP hS)
theorem r_iload (hx : CX x cc nL own) {i k0 : Nat} {v : Int32} (hd : decode cc pc = .ok (.iload i, 2)) (hk : lv[k0]? = some (i, .int v)) (k : WX x nL kc ks S (pc + 2) lv (.int v :: st)) : WX x nL kc ks S pc lv (st) :=
  fun H locs ls hl hP hS => lv_iload hx.1 hx.2.1 hd (lv_at hl k0 hk) (k H locs ls hl hP hS)
theorem r_iload_n (hx : CX x cc nL own) {n : Fin 4} {i k0 : Nat} {v : Int32} (hd : decode cc pc = .ok (.iload_n n, 1)) (hi : (n : Nat) = i) (hk : lv[k0]? = some (i, .int v)) (k : WX x nL kc ks S (pc + 1) lv (.int v :: st)) : WX x nL kc ks S pc lv (st) :=
  fun H locs ls hl hP hS => lv_iload_n hx.1 hx.2.1 hd hi (lv_at hl k0 hk) (k H locs ls hl hP hS)
theorem r_istore (hx : CX x cc nL own)  {i : Nat} {v : Int32} (hd : decode cc pc = .ok (.istore i, 2)) (hn : i < nL) (hl9 : (i, Value.int v) :: lv.filter (fun q => !(q.1 == i) && !(q.1 + 1 == i && q.2.category == 2)) = lv') (k : WX x nL kc ks S (pc + 2) lv' st) : WX x nL kc ks S pc lv (.int v :: st) :=
  fun H locs ls hl hP hS => lv_istore hx.1 hx.2.1 hd hl hn hl9 (fun ls hl => k H locs ls hl hP hS)
theorem r_istore_n (hx : CX x cc nL own) {n : Fin 4} {i : Nat} {v : Int32} (hd : decode cc pc = .ok (.istore_n n, 1)) (hi : (n : Nat) = i) (hn : i < nL) (hl9 : (i, Value.int v) :: lv.filter (fun q => !(q.1 == i) && !(q.1 + 1 == i && q.2.category == 2)) = lv') (k : WX x nL kc ks S (pc + 1) lv' st) : WX x nL kc ks S pc lv (.int v :: st) :=
  fun H locs ls hl hP hS => lv_istore_n hx.1 hx.2.1 hd hi hl hn hl9 (fun ls hl => k H locs ls hl hP hS)
theorem r_lload (hx : CX x cc nL own) {i k0 : Nat} {v : Int64} (hd : decode cc pc = .ok (.lload i, 2)) (hk : lv[k0]? = some (i, .long v)) (k : WX x nL kc ks S (pc + 2) lv (.long v :: st)) : WX x nL kc ks S pc lv (st) :=
  fun H locs ls hl hP hS => lv_lload hx.1 hx.2.1 hd (lv_at hl k0 hk) (k H locs ls hl hP hS)
theorem r_lload_n (hx : CX x cc nL own) {n : Fin 4} {i k0 : Nat} {v : Int64} (hd : decode cc pc = .ok (.lload_n n, 1)) (hi : (n : Nat) = i) (hk : lv[k0]? = some (i, .long v)) (k : WX x nL kc ks S (pc + 1) lv (.long v :: st)) : WX x nL kc ks S pc lv (st) :=
  fun H locs ls hl hP hS => lv_lload_n hx.1 hx.2.1 hd hi (lv_at hl k0 hk) (k H locs ls hl hP hS)
theorem r_lstore (hx : CX x cc nL own)  {i : Nat} {v : Int64} (hd : decode cc pc = .ok (.lstore i, 2)) (hn : i + 1 < nL) (hl9 : (i, Value.long v) :: lv.filter (fun q => !(q.1 == i) && (!(q.1 == i + 1) && !(q.1 + 1 == i && q.2.category == 2))) = lv') (k : WX x nL kc ks S (pc + 2) lv' st) : WX x nL kc ks S pc lv (.long v :: st) :=
  fun H locs ls hl hP hS => lv_lstore hx.1 hx.2.1 hd hl hn hl9 (fun ls hl => k H locs ls hl hP hS)
theorem r_lstore_n (hx : CX x cc nL own) {n : Fin 4} {i : Nat} {v : Int64} (hd : decode cc pc = .ok (.lstore_n n, 1)) (hi : (n : Nat) = i) (hn : i + 1 < nL) (hl9 : (i, Value.long v) :: lv.filter (fun q => !(q.1 == i) && (!(q.1 == i + 1) && !(q.1 + 1 == i && q.2.category == 2))) = lv') (k : WX x nL kc ks S (pc + 1) lv' st) : WX x nL kc ks S pc lv (.long v :: st) :=
  fun H locs ls hl hP hS => lv_lstore_n hx.1 hx.2.1 hd hi hl hn hl9 (fun ls hl => k H locs ls hl hP hS)
theorem r_aload (hx : CX x cc nL own) {i k0 : Nat} {v : Nat} (hd : decode cc pc = .ok (.aload i, 2)) (hk : lv[k0]? = some (i, .ref v)) (k : WX x nL kc ks S (pc + 2) lv (.ref v :: st)) : WX x nL kc ks S pc lv (st) :=
  fun H locs ls hl hP hS => lv_aload hx.1 hx.2.1 hd (lv_at hl k0 hk) (k H locs ls hl hP hS)
theorem r_aload_n (hx : CX x cc nL own) {n : Fin 4} {i k0 : Nat} {v : Nat} (hd : decode cc pc = .ok (.aload_n n, 1)) (hi : (n : Nat) = i) (hk : lv[k0]? = some (i, .ref v)) (k : WX x nL kc ks S (pc + 1) lv (.ref v :: st)) : WX x nL kc ks S pc lv (st) :=
  fun H locs ls hl hP hS => lv_aload_n hx.1 hx.2.1 hd hi (lv_at hl k0 hk) (k H locs ls hl hP hS)
theorem r_astore (hx : CX x cc nL own)  {i : Nat} {v : Nat} (hd : decode cc pc = .ok (.astore i, 2)) (hn : i < nL) (hl9 : (i, Value.ref v) :: lv.filter (fun q => !(q.1 == i) && !(q.1 + 1 == i && q.2.category == 2)) = lv') (k : WX x nL kc ks S (pc + 2) lv' st) : WX x nL kc ks S pc lv (.ref v :: st) :=
  fun H locs ls hl hP hS => lv_astore hx.1 hx.2.1 hd hl hn hl9 (fun ls hl => k H locs ls hl hP hS)
theorem r_astore_n (hx : CX x cc nL own) {n : Fin 4} {i : Nat} {v : Nat} (hd : decode cc pc = .ok (.astore_n n, 1)) (hi : (n : Nat) = i) (hn : i < nL) (hl9 : (i, Value.ref v) :: lv.filter (fun q => !(q.1 == i) && !(q.1 + 1 == i && q.2.category == 2)) = lv') (k : WX x nL kc ks S (pc + 1) lv' st) : WX x nL kc ks S pc lv (.ref v :: st) :=
  fun H locs ls hl hP hS => lv_astore_n hx.1 hx.2.1 hd hi hl hn hl9 (fun ls hl => k H locs ls hl hP hS)
theorem r_iinc (hx : CX x cc nL own) {i k : Nat} {n : Int} {y v : Int32} (hd : decode cc pc = .ok (.iinc i n, 3)) (hk : lv[k]? = some (i, .int y)) (hv : y + Int32.ofInt n = v) (hn : i < nL) (hl9 : (i, Value.int v) :: lv.filter (fun q => !(q.1 == i) && !(q.1 + 1 == i && q.2.category == 2)) = lv') (k9 : WX x nL kc ks S (pc + 3) lv' st) : WX x nL kc ks S pc lv st :=
  fun H locs ls hl hP hS => lv_iinc hx.1 hx.2.1 hd hl hk hv hn hl9 (fun ls hl => k9 H locs ls hl hP hS)
theorem r_iadd (hx : CX x cc nL own) {a b : Int32} (hd : decode cc pc = .ok (.iadd, 1)) (k : WX x nL kc ks S (pc + 1) lv (.int (a + b) :: st)) : WX x nL kc ks S pc lv (.int b :: .int a :: st) :=
  fun H locs ls hl hP hS => lv_iadd hx.1 hx.2.1 hd (k H locs ls hl hP hS)
theorem r_isub (hx : CX x cc nL own) {a b : Int32} (hd : decode cc pc = .ok (.isub, 1)) (k : WX x nL kc ks S (pc + 1) lv (.int (a - b) :: st)) : WX x nL kc ks S pc lv (.int b :: .int a :: st) :=
  fun H locs ls hl hP hS => lv_isub hx.1 hx.2.1 hd (k H locs ls hl hP hS)
theorem r_imul (hx : CX x cc nL own) {a b : Int32} (hd : decode cc pc = .ok (.imul, 1)) (k : WX x nL kc ks S (pc + 1) lv (.int (a * b) :: st)) : WX x nL kc ks S pc lv (.int b :: .int a :: st) :=
  fun H locs ls hl hP hS => lv_imul hx.1 hx.2.1 hd (k H locs ls hl hP hS)
theorem r_iand (hx : CX x cc nL own) {a b : Int32} (hd : decode cc pc = .ok (.iand, 1)) (k : WX x nL kc ks S (pc + 1) lv (.int (a &&& b) :: st)) : WX x nL kc ks S pc lv (.int b :: .int a :: st) :=
  fun H locs ls hl hP hS => lv_iand hx.1 hx.2.1 hd (k H locs ls hl hP hS)
theorem r_ior (hx : CX x cc nL own) {a b : Int32} (hd : decode cc pc = .ok (.ior, 1)) (k : WX x nL kc ks S (pc + 1) lv (.int (a ||| b) :: st)) : WX x nL kc ks S pc lv (.int b :: .int a :: st) :=
  fun H locs ls hl hP hS => lv_ior hx.1 hx.2.1 hd (k H locs ls hl hP hS)
theorem r_ixor (hx : CX x cc nL own) {a b : Int32} (hd : decode cc pc = .ok (.ixor, 1)) (k : WX x nL kc ks S (pc + 1) lv (.int (a ^^^ b) :: st)) : WX x nL kc ks S pc lv (.int b :: .int a :: st) :=
  fun H locs ls hl hP hS => lv_ixor hx.1 hx.2.1 hd (k H locs ls hl hP hS)
theorem r_ineg (hx : CX x cc nL own) {a : Int32} (hd : decode cc pc = .ok (.ineg, 1)) (k : WX x nL kc ks S (pc + 1) lv (.int (-a) :: st)) : WX x nL kc ks S pc lv (.int a :: st) :=
  fun H locs ls hl hP hS => lv_ineg hx.1 hx.2.1 hd (k H locs ls hl hP hS)
theorem r_idiv (hx : CX x cc nL own) {a b : Int32} (hd : decode cc pc = .ok (.idiv, 1)) (hne : ¬ b = 0) (k : WX x nL kc ks S (pc + 1) lv (.int (a / b) :: st)) : WX x nL kc ks S pc lv (.int b :: .int a :: st) :=
  fun H locs ls hl hP hS => lv_idiv hx.1 hx.2.1 hd hne (k H locs ls hl hP hS)
theorem r_irem (hx : CX x cc nL own) {a b : Int32} (hd : decode cc pc = .ok (.irem, 1)) (hne : ¬ b = 0) (k : WX x nL kc ks S (pc + 1) lv (.int (a - a / b * b) :: st)) : WX x nL kc ks S pc lv (.int b :: .int a :: st) :=
  fun H locs ls hl hP hS => lv_irem hx.1 hx.2.1 hd hne (k H locs ls hl hP hS)
theorem r_ladd (hx : CX x cc nL own) {a b : Int64} (hd : decode cc pc = .ok (.ladd, 1)) (k : WX x nL kc ks S (pc + 1) lv (.long (a + b) :: st)) : WX x nL kc ks S pc lv (.long b :: .long a :: st) :=
  fun H locs ls hl hP hS => lv_ladd hx.1 hx.2.1 hd (k H locs ls hl hP hS)
theorem r_lsub (hx : CX x cc nL own) {a b : Int64} (hd : decode cc pc = .ok (.lsub, 1)) (k : WX x nL kc ks S (pc + 1) lv (.long (a - b) :: st)) : WX x nL kc ks S pc lv (.long b :: .long a :: st) :=
  fun H locs ls hl hP hS => lv_lsub hx.1 hx.2.1 hd (k H locs ls hl hP hS)
theorem r_land (hx : CX x cc nL own) {a b : Int64} (hd : decode cc pc = .ok (.land, 1)) (k : WX x nL kc ks S (pc + 1) lv (.long (a &&& b) :: st)) : WX x nL kc ks S pc lv (.long b :: .long a :: st) :=
  fun H locs ls hl hP hS => lv_land hx.1 hx.2.1 hd (k H locs ls hl hP hS)
theorem r_lor (hx : CX x cc nL own) {a b : Int64} (hd : decode cc pc = .ok (.lor, 1)) (k : WX x nL kc ks S (pc + 1) lv (.long (a ||| b) :: st)) : WX x nL kc ks S pc lv (.long b :: .long a :: st) :=
  fun H locs ls hl hP hS => lv_lor hx.1 hx.2.1 hd (k H locs ls hl hP hS)
theorem r_lxor (hx : CX x cc nL own) {a b : Int64} (hd : decode cc pc = .ok (.lxor, 1)) (k : WX x nL kc ks S (pc + 1) lv (.long (a ^^^ b) :: st)) : WX x nL kc ks S pc lv (.long b :: .long a :: st) :=
  fun H locs ls hl hP hS => lv_lxor hx.1 hx.2.1 hd (k H locs ls hl hP hS)
theorem r_i2l (hx : CX x cc nL own) {a : Int32} (hd : decode cc pc = .ok (.i2l, 1)) (k : WX x nL kc ks S (pc + 1) lv (.long a.toInt64 :: st)) : WX x nL kc ks S pc lv (.int a :: st) :=
  fun H locs ls hl hP hS => lv_i2l hx.1 hx.2.1 hd rfl (k H locs ls hl hP hS)
theorem r_l2i (hx : CX x cc nL own) {a : Int64} (hd : decode cc pc = .ok (.l2i, 1)) (k : WX x nL kc ks S (pc + 1) lv (.int a.toInt32 :: st)) : WX x nL kc ks S pc lv (.long a :: st) :=
  fun H locs ls hl hP hS => lv_l2i hx.1 hx.2.1 hd rfl (k H locs ls hl hP hS)
def l_ushr (a : Int64) (b : Int32) : Int64 := (a.toUInt64 >>> (b.toInt64.toUInt64 &&& Int64.toUInt64 63)).toInt64
def l_shl (a : Int64) (b : Int32) : Int64 := a <<< (b.toInt64 &&& 63)
theorem r_lushr (hx : CX x cc nL own) {a : Int64} {b : Int32} (hd : decode cc pc = .ok (.lushr, 1)) (k : WX x nL kc ks S (pc + 1) lv (.long (l_ushr a b) :: st)) : WX x nL kc ks S pc lv (.int b :: .long a :: st) :=
  fun H locs ls hl hP hS => lv_lushr hx.1 hx.2.1 hd rfl (k H locs ls hl hP hS)
theorem r_lshl (hx : CX x cc nL own) {a : Int64} {b : Int32} (hd : decode cc pc = .ok (.lshl, 1)) (k : WX x nL kc ks S (pc + 1) lv (.long (l_shl a b) :: st)) : WX x nL kc ks S pc lv (.int b :: .long a :: st) :=
  fun H locs ls hl hP hS => lv_lshl hx.1 hx.2.1 hd rfl (k H locs ls hl hP hS)
theorem r_lcmp (hx : CX x cc nL own) {a b : Int64} (hd : decode cc pc = .ok (.lcmp, 1)) (k : WX x nL kc ks S (pc + 1) lv (.int (lg_cmp a b) :: st)) : WX x nL kc ks S pc lv (.long b :: .long a :: st) :=
  fun H locs ls hl hP hS => W.lcmp hx.1 hx.2.1 hd (k H locs ls hl hP hS)
theorem r_dup (hx : CX x cc nL own) {a : Value} (hd : decode cc pc = .ok (.dup, 1)) (ha : a.category = 1) (k : WX x nL kc ks S (pc + 1) lv (a :: a :: st)) : WX x nL kc ks S pc lv (a :: st) :=
  fun H locs ls hl hP hS => lv_dup hx.1 hx.2.1 hd ha (k H locs ls hl hP hS)
theorem r_pop (hx : CX x cc nL own) {a : Value} (hd : decode cc pc = .ok (.pop, 1)) (ha : a.category = 1) (k : WX x nL kc ks S (pc + 1) lv (st)) : WX x nL kc ks S pc lv (a :: st) :=
  fun H locs ls hl hP hS => lv_pop hx.1 hx.2.1 hd ha (k H locs ls hl hP hS)
theorem r_dup2 (hx : CX x cc nL own) {a b : Value} (hd : decode cc pc = .ok (.dup2, 1)) (ha : a.category = 1) (hb : b.category = 1) (k : WX x nL kc ks S (pc + 1) lv (a :: b :: a :: b :: st)) : WX x nL kc ks S pc lv (a :: b :: st) :=
  fun H locs ls hl hP hS => lv_dup2_11 hx.1 hx.2.1 hd ha hb (k H locs ls hl hP hS)
theorem r_if_eq (hx : CX x cc nL own) {a : Int32} {off : Int} {tgt : Nat} (hd : decode cc pc = .ok (.ifCond .eq off, 3)) (ht : (pc : Int) + off = (tgt : Int)) (kt : a = 0 → WX x nL kc ks S tgt lv st) (kf : ¬ a = 0 → WX x nL kc ks S (pc + 3) lv st) : WX x nL kc ks S pc lv (.int a :: st) :=
  fun H locs ls hl hP hS => lv_if_eq hx.1 hx.2.1 hd ht (fun h => kt h H locs ls hl hP hS) (fun h => kf h H locs ls hl hP hS)
theorem r_icmp_eq (hx : CX x cc nL own) {a b : Int32} {off : Int} {tgt : Nat} (hd : decode cc pc = .ok (.if_icmp .eq off, 3)) (ht : (pc : Int) + off = (tgt : Int)) (kt : a = b → WX x nL kc ks S tgt lv st) (kf : ¬ a = b → WX x nL kc ks S (pc + 3) lv st) : WX x nL kc ks S pc lv (.int b :: .int a :: st) :=
  fun H locs ls hl hP hS => lv_icmp_eq hx.1 hx.2.1 hd ht (fun h => kt h H locs ls hl hP hS) (fun h => kf h H locs ls hl hP hS)
theorem r_if_ne (hx : CX x cc nL own) {a : Int32} {off : Int} {tgt : Nat} (hd : decode cc pc = .ok (.ifCond .ne off, 3)) (ht : (pc : Int) + off = (tgt : Int)) (kt : ¬ a = 0 → WX x nL kc ks S tgt lv st) (kf : a = 0 → WX x nL kc ks S (pc + 3) lv st) : WX x nL kc ks S pc lv (.int a :: st) :=
  fun H locs ls hl hP hS => lv_if_ne hx.1 hx.2.1 hd ht (fun h => kt h H locs ls hl hP hS) (fun h => kf h H locs ls hl hP hS)
theorem r_icmp_ne (hx : CX x cc nL own) {a b : Int32} {off : Int} {tgt : Nat} (hd : decode cc pc = .ok (.if_icmp .ne off, 3)) (ht : (pc : Int) + off = (tgt : Int)) (kt : ¬ a = b → WX x nL kc ks S tgt lv st) (kf : a = b → WX x nL kc ks S (pc + 3) lv st) : WX x nL kc ks S pc lv (.int b :: .int a :: st) :=
  fun H locs ls hl hP hS => lv_icmp_ne hx.1 hx.2.1 hd ht (fun h => kt h H locs ls hl hP hS) (fun h => kf h H locs ls hl hP hS)
theorem r_if_lt (hx : CX x cc nL own) {a : Int32} {off : Int} {tgt : Nat} (hd : decode cc pc = .ok (.ifCond .lt off, 3)) (ht : (pc : Int) + off = (tgt : Int)) (kt : a < 0 → WX x nL kc ks S tgt lv st) (kf : ¬ a < 0 → WX x nL kc ks S (pc + 3) lv st) : WX x nL kc ks S pc lv (.int a :: st) :=
  fun H locs ls hl hP hS => lv_if_lt hx.1 hx.2.1 hd ht (fun h => kt h H locs ls hl hP hS) (fun h => kf h H locs ls hl hP hS)
theorem r_icmp_lt (hx : CX x cc nL own) {a b : Int32} {off : Int} {tgt : Nat} (hd : decode cc pc = .ok (.if_icmp .lt off, 3)) (ht : (pc : Int) + off = (tgt : Int)) (kt : a < b → WX x nL kc ks S tgt lv st) (kf : ¬ a < b → WX x nL kc ks S (pc + 3) lv st) : WX x nL kc ks S pc lv (.int b :: .int a :: st) :=
  fun H locs ls hl hP hS => lv_icmp_lt hx.1 hx.2.1 hd ht (fun h => kt h H locs ls hl hP hS) (fun h => kf h H locs ls hl hP hS)
theorem r_if_ge (hx : CX x cc nL own) {a : Int32} {off : Int} {tgt : Nat} (hd : decode cc pc = .ok (.ifCond .ge off, 3)) (ht : (pc : Int) + off = (tgt : Int)) (kt : 0 ≤ a → WX x nL kc ks S tgt lv st) (kf : ¬ 0 ≤ a → WX x nL kc ks S (pc + 3) lv st) : WX x nL kc ks S pc lv (.int a :: st) :=
  fun H locs ls hl hP hS => lv_if_ge hx.1 hx.2.1 hd ht (fun h => kt h H locs ls hl hP hS) (fun h => kf h H locs ls hl hP hS)
theorem r_icmp_ge (hx : CX x cc nL own) {a b : Int32} {off : Int} {tgt : Nat} (hd : decode cc pc = .ok (.if_icmp .ge off, 3)) (ht : (pc : Int) + off = (tgt : Int)) (kt : b ≤ a → WX x nL kc ks S tgt lv st) (kf : ¬ b ≤ a → WX x nL kc ks S (pc + 3) lv st) : WX x nL kc ks S pc lv (.int b :: .int a :: st) :=
  fun H locs ls hl hP hS => lv_icmp_ge hx.1 hx.2.1 hd ht (fun h => kt h H locs ls hl hP hS) (fun h => kf h H locs ls hl hP hS)
theorem r_if_gt (hx : CX x cc nL own) {a : Int32} {off : Int} {tgt : Nat} (hd : decode cc pc = .ok (.ifCond .gt off, 3)) (ht : (pc : Int) + off = (tgt : Int)) (kt : 0 < a → WX x nL kc ks S tgt lv st) (kf : ¬ 0 < a → WX x nL kc ks S (pc + 3) lv st) : WX x nL kc ks S pc lv (.int a :: st) :=
  fun H locs ls hl hP hS => lv_if_gt hx.1 hx.2.1 hd ht (fun h => kt h H locs ls hl hP hS) (fun h => kf h H locs ls hl hP hS)
theorem r_icmp_gt (hx : CX x cc nL own) {a b : Int32} {off : Int} {tgt : Nat} (hd : decode cc pc = .ok (.if_icmp .gt off, 3)) (ht : (pc : Int) + off = (tgt : Int)) (kt : b < a → WX x nL kc ks S tgt lv st) (kf : ¬ b < a → WX x nL kc ks S (pc + 3) lv st) : WX x nL kc ks S pc lv (.int b :: .int a :: st) :=
  fun H locs ls hl hP hS => lv_icmp_gt hx.1 hx.2.1 hd ht (fun h => kt h H locs ls hl hP hS) (fun h => kf h H locs ls hl hP hS)
theorem r_if_le (hx : CX x cc nL own) {a : Int32} {off : Int} {tgt : Nat} (hd : decode cc pc = .ok (.ifCond .le off, 3)) (ht : (pc : Int) + off = (tgt : Int)) (kt : a ≤ 0 → WX x nL kc ks S tgt lv st) (kf : ¬ a ≤ 0 → WX x nL kc ks S (pc + 3) lv st) : WX x nL kc ks S pc lv (.int a :: st) :=
  fun H locs ls hl hP hS => lv_if_le hx.1 hx.2.1 hd ht (fun h => kt h H locs ls hl hP hS) (fun h => kf h H locs ls hl hP hS)
theorem r_icmp_le (hx : CX x cc nL own) {a b : Int32} {off : Int} {tgt : Nat} (hd : decode cc pc = .ok (.if_icmp .le off, 3)) (ht : (pc : Int) + off = (tgt : Int)) (kt : a ≤ b → WX x nL kc ks S tgt lv st) (kf : ¬ a ≤ b → WX x nL kc ks S (pc + 3) lv st) : WX x nL kc ks S pc lv (.int b :: .int a :: st) :=
  fun H locs ls hl hP hS => lv_icmp_le hx.1 hx.2.1 hd ht (fun h => kt h H locs ls hl hP hS) (fun h => kf h H locs ls hl hP hS)
theorem r_goto (hx : CX x cc nL own) {off : Int} {tgt : Nat} (hd : decode cc pc = .ok (.goto off, 3)) (ht : (pc : Int) + off = (tgt : Int)) (k : WX x nL kc ks S tgt lv st) : WX x nL kc ks S pc lv st :=
  fun H locs ls hl hP hS => lv_goto hx.1 hx.2.1 hd ht (k H locs ls hl hP hS)
theorem r_tabI (hx : CX x cc nL own) {a c9 : Int32} {dflt lo hi : Int} {offs : Array Int} {len : Nat} {tgt : Nat} (hd : decode cc pc = .ok (.tableswitch dflt lo hi offs, len)) (hv : a = c9) (hc : (decide (¬ c9.toInt < lo) && decide (¬ hi < c9.toInt) && decide ((offs[(c9.toInt - lo).toNat]?).map (fun o => (pc : Int) + o) = some (tgt : Int))) = true) (k : WX x nL kc ks S tgt lv st) : WX x nL kc ks S pc lv (.int a :: st) := by
  subst hv
  rw [Bool.and_eq_true, Bool.and_eq_true] at hc
  have h1 := of_decide_eq_true hc.1.1
  have h2 := of_decide_eq_true hc.1.2
  have h3 := of_decide_eq_true hc.2
  cases ho : offs[(a.toInt - lo).toNat]? with
  | none => rw [ho] at h3; cases h3
  | some off =>
    rw [ho] at h3
    exact fun H locs ls hl hP hS => lv_tableIn hx.1 hx.2.1 hd h1 h2 ho (Option.some.inj h3) (k H locs ls hl hP hS)
theorem r_tabO (hx : CX x cc nL own) {a : Int32} {dflt lo hi : Int} {offs : Array Int} {len : Nat} {tgt : Nat} (hd : decode cc pc = .ok (.tableswitch dflt lo hi offs, len)) (h : a.toInt < lo ∨ hi < a.toInt) (ht : (pc : Int) + dflt = (tgt : Int)) (k : WX x nL kc ks S tgt lv st) : WX x nL kc ks S pc lv (.int a :: st) :=
  fun H locs ls hl hP hS => lv_tableOut hx.1 hx.2.1 hd h ht (k H locs ls hl hP hS)
/-- getfield -/
theorem r_get (hx : CX x cc nL own) {ci j k idx : Nat} {C : String} {T : u_T} {N : Nat} {v : Value} (hk : (0, ci, j) ∈ x_K x) (hc : vwCl[ci]? = some (C, T, N)) (hkN : k < N) (hv : (fld (x_ad x) S ci j)[k]? = some v) (hin : ∀ w ∈ u_ws C T N, w ∈ TB) (hlink : Cond.fieldLink own idx (T k).1 (T k).2.1 (T k).2.2.1 ∈ TB) (hd : decode cc pc = .ok (.getfield idx, 3)) (kk : WX x nL kc ks S (pc + 3) lv (v :: st)) : WX x nL kc ks S pc lv (.ref (x_ad x 0 ci j) :: st) := by
  intro H locs ls hl hP hS
  obtain ⟨q0, hq⟩ := wl_at hk
  exact va_get (D := x_D x) (cl := vwCl) (tys := tyl (x_t x)) hx.1 hx.2.1 hx.2.2.2.2.1 hin hx.2.2.2.1 hx.2.2.2.2.2.1 hP q0 (fs := fld (x_ad x) S ci j) (wl_of hq) hc k hkN (hx.2.2.2.2.1 _ hlink) (fun _ h => h) hv hd (kk H locs ls hl hP hS)
/-- putfield of a number -/
theorem r_put (hx : CX x cc nL own) {ci j k f idx : Nat} {C : String} {T : u_T} {N : Nat} {ty0 : Nat → FieldType} {ty : FieldType} {v : Int32} (hk : (0, ci, j) ∈ x_K x) (hc : vwCl[ci]? = some (C, T, N)) (hkN : k < N) (hu : tbU f ci k = true) (htb : (tb ci)[k]? = some (0, f, 0)) (hin : ∀ w ∈ u_ws C T N, w ∈ TB) (hty : ∀ k, k < N → parseFieldDescriptor (T k).2.2.1 = some (ty0 k)) (hnm : ∀ a, a < N → ∀ b, b < N → a ≠ b → (T a).2.1 ≠ (T b).2.1)
    (hfin : (T k).2.2.2 = false) (hde : parseFieldDescriptor (T k).2.2.1 = some ty) (hn : narrow ty (.int v) = .int v) (hfit : fits ty (.int v) = true) (hlink : Cond.fieldLink own idx (T k).1 (T k).2.1 (T k).2.2.1 ∈ TB) (hd : decode cc pc = .ok (.putfield idx, 3)) (e : S1 = sS S f j v) (kk : WX x nL kc ks S1 (pc + 3) lv st) : WX x nL kc ks S pc lv (.int v :: .ref (x_ad x 0 ci j) :: st) := by
  intro H locs ls hl hP hS
  subst e
  obtain ⟨q0, hq⟩ := wl_at hk
  refine va_put (D := x_D x) (cl := vwCl) (tys := tyl (x_t x)) hx.1 hx.2.1 hx.2.2.2.2.1 hin ty0 hty hnm hx.2.2.2.1 hx.2.2.2.2.2.1 hP (wl_D hx.2.2.2.2.2.2.1) hS q0 (fs := fld (x_ad x) S ci j) (wl_of hq) hc k hkN (hx.2.2.2.2.1 _ hlink) (fun _ h => h) hfin hde hn hfit (by rw [fld, List.length_map]; exact (List.getElem?_eq_some_iff.mp htb).1) hd (fun H1 locs1 hP1 _ hS1 => ?_)
  exact kk H1 locs1 ls hl (wl_set hx.2.2.2.2.2.2.1 hq hP1 (ent_sS_self hu htb) (fun k' h => ent_sS_ne hu h)) hS1
theorem r_iald (hx : CX x cc nL own) {f j L : Nat} {i v : Int32} (hk : (1, f, j) ∈ x_K x) (hL : ln f = L) (hi : vp_in i L) (hv : v = S.2.1 f j i.toNatClampNeg) (hd : decode cc pc = .ok (.iaload, 1)) (kk : WX x nL kc ks S (pc + 1) lv (.int v :: st)) : WX x nL kc ks S pc lv (.int i :: .ref (x_ad x 1 f j) :: st) := by
  intro H locs ls hl hP hS
  subst hv; subst hL
  obtain ⟨q0, hq⟩ := wl_at hk
  exact va_iald (D := x_D x) (cl := vwCl) (tys := tyl (x_t x)) hx.1 hx.2.1 hx.2.2.2.2.2.1 hP q0 0 (wl_of hq) rfl hi hd (kk H locs ls hl hP hS)
theorem r_lald (hx : CX x cc nL own) {f j L : Nat} {i : Int32} {v : Int64} (hk : (2, f, j) ∈ x_K x) (hL : ln f = L) (hi : vp_in i L) (hv : v = S.2.2 f j i.toNatClampNeg) (hd : decode cc pc = .ok (.laload, 1)) (kk : WX x nL kc ks S (pc + 1) lv (.long v :: st)) : WX x nL kc ks S pc lv (.int i :: .ref (x_ad x 2 f j) :: st) := by
  intro H locs ls hl hP hS
  subst hv; subst hL
  obtain ⟨q0, hq⟩ := wl_at hk
  exact va_lald (D := x_D x) (cl := vwCl) (tys := tyl (x_t x)) hx.1 hx.2.1 hx.2.2.2.2.2.1 hP q0 1 (wl_of hq) rfl hi hd (kk H locs ls hl hP hS)
theorem r_aald (hx : CX x cc nL own) {f j L r : Nat} {i : Int32} (hk : (3, f, j) ∈ x_K x) (hL : ln f = L) (hi : vp_in i L) (hr : r = 6 + i.toNatClampNeg) (hd : decode cc pc = .ok (.aaload, 1)) (kk : WX x nL kc ks S (pc + 1) lv (.ref (x_ad x 0 3 r) :: st)) : WX x nL kc ks S pc lv (.int i :: .ref (x_ad x 3 f j) :: st) := by
  intro H locs ls hl hP hS
  subst hL; subst hr
  obtain ⟨q0, hq⟩ := wl_at hk
  exact va_aldq (D := x_D x) (cl := vwCl) (tys := tyl (x_t x)) hx.1 hx.2.1 hx.2.2.2.2.2.1 hP q0 2 (wl_of hq) rfl hi hd (kk H locs ls hl hP hS)
theorem r_iast (hx : CX x cc nL own) {f j L : Nat} {i v : Int32} (hk : (1, f, j) ∈ x_K x) (hL : ln f = L) (hi : vp_in i L) (e : S1 = sI S f j i.toNatClampNeg v) (hd : decode cc pc = .ok (.iastore, 1)) (kk : WX x nL kc ks S1 (pc + 1) lv st) : WX x nL kc ks S pc lv (.int v :: .int i :: .ref (x_ad x 1 f j) :: st) := by
  intro H locs ls hl hP hS
  subst e; subst hL
  obtain ⟨q0, hq⟩ := wl_at hk
  refine va_iast (D := x_D x) (cl := vwCl) (tys := tyl (x_t x)) hx.1 hx.2.1 hx.2.2.2.2.2.1 hP (wl_D hx.2.2.2.2.2.2.1) hS q0 0 (wl_of hq) rfl hi hd (fun H1 locs1 hP1 _ hS1 => ?_)
  exact kk H1 locs1 ls hl (wl_set hx.2.2.2.2.2.2.1 hq hP1 ent_sI_self (fun k' h => ent_I_ne h)) hS1
theorem r_last (hx : CX x cc nL own) {f j L : Nat} {i : Int32} {v : Int64} (hk : (2, f, j) ∈ x_K x) (hL : ln f = L) (hi : vp_in i L) (e : S1 = sL S f j i.toNatClampNeg v) (hd : decode cc pc = .ok (.lastore, 1)) (kk : WX x nL kc ks S1 (pc + 1) lv st) : WX x nL kc ks S pc lv (.long v :: .int i :: .ref (x_ad x 2 f j) :: st) := by
  intro H locs ls hl hP hS
  subst e; subst hL
  obtain ⟨q0, hq⟩ := wl_at hk
  refine va_last (D := x_D x) (cl := vwCl) (tys := tyl (x_t x)) hx.1 hx.2.1 hx.2.2.2.2.2.1 hP (wl_D hx.2.2.2.2.2.2.1) hS q0 1 (wl_of hq) rfl hi hd (fun H1 locs1 hP1 _ hS1 => ?_)
  exact kk H1 locs1 ls hl (wl_set hx.2.2.2.2.2.2.1 hq hP1 ent_sL_self (fun k' h => ent_L_ne h)) hS1
theorem r_alenI (hx : CX x cc nL own) {f j : Nat} {v : Int32} (hk : (1, f, j) ∈ x_K x) (hv : Int32.ofNat (ln f) = v) (hd : decode cc pc = .ok (.arraylength, 1)) (kk : WX x nL kc ks S (pc + 1) lv (.int v :: st)) : WX x nL kc ks S pc lv (.ref (x_ad x 1 f j) :: st) := by
  intro H locs ls hl hP hS
  obtain ⟨q0, hq⟩ := wl_at hk
  exact va_alen (D := x_D x) (cl := vwCl) (tys := tyl (x_t x)) hx.1 hx.2.1 hx.2.2.2.2.2.1 hP q0 0 (wl_of hq) rfl hv hd (kk H locs ls hl hP hS)
theorem r_max (hx : CX x cc nL own) {idx : Nat} {a b : Int32} (hlink : Cond.methodLink own idx Lib.Math.max.name ∈ TB) (hR : 1 ≤ (x_R x).frames) (hR2 : (st.map fun v => v.category).sum + 13 ≤ (x_R x).locals) (hc : kc ≤ (x_R x).cells) (hs : ks ≤ (x_R x).slots) (hd : decode cc pc = .ok (.invokestatic idx, 3)) (kk : WX x nL kc ks S (pc + 3) lv (.int (if a < b then b else a) :: st)) : WX x nL kc ks S pc lv (.int b :: .int a :: st) :=
  fun H locs ls hl hP hS => va_mmax hx.1 hx.2.1 (hx.2.2.1.trans hl.1.symm) hx.2.2.2.1 (hx.2.2.2.2.1 _ hlink) (hx.2.2.2.2.1 _ wt_max) (hx.2.2.2.2.1 _ wn_Math) (hx.2.2.2.2.1 _ wc_max) hR hR2 hc hs hd (kk H locs ls hl hP hS)
theorem r_min (hx : CX x cc nL own) {idx : Nat} {a b : Int32} (hlink : Cond.methodLink own idx Lib.Math.min.name ∈ TB) (hR : 1 ≤ (x_R x).frames) (hR2 : (st.map fun v => v.category).sum + 13 ≤ (x_R x).locals) (hc : kc ≤ (x_R x).cells) (hs : ks ≤ (x_R x).slots) (hd : decode cc pc = .ok (.invokestatic idx, 3)) (kk : WX x nL kc ks S (pc + 3) lv (.int (if b < a then b else a) :: st)) : WX x nL kc ks S pc lv (.int b :: .int a :: st) :=
  fun H locs ls hl hP hS => va_mmin hx.1 hx.2.1 (hx.2.2.1.trans hl.1.symm) hx.2.2.2.1 (hx.2.2.2.2.1 _ hlink) (hx.2.2.2.2.1 _ wt_min) (hx.2.2.2.2.1 _ wn_Math) (hx.2.2.2.2.1 _ wc_min) hR hR2 hc hs hd (kk H locs ls hl hP hS)
end RX
