abbrev Ad : Type := Nat → Nat → Nat → Nat
abbrev Ky : Type := Nat × Nat × Nat
/-- numbers by field and owner; int arrays, long arrays by field, owner and place -/
abbrev St : Type := (Nat → Nat → Int32) × (Nat → Nat → Nat → Int32) × (Nat → Nat → Nat → Int64)
abbrev Ty3 : Type := ClassId × ClassId × ClassId
def adk (ad : Ad) (k : Ky) : Nat := ad k.1 k.2.1 k.2.2
/-- a class's fields in the order of its slots: (0, f, _) a number; (4, c, i) object i of class c; (t, f, _) the owner's array f of tag t -/
def tb (ci : Nat) : List Ky := match ci with
  | 0 => [(0, 0, 0), (2, 1, 0), (1, 2, 0), (1, 3, 0), (1, 4, 0)]
  | 1 => [(0, 50, 0), (1, 51, 0), (1, 52, 0), (1, 53, 0)]
  | 2 => [(4, 4, 0), (4, 1, 0), (4, 3, 2), (4, 3, 3), (4, 3, 4)]
  | 3 => [(0, 150, 0), (1, 151, 0), (1, 152, 0), (1, 153, 0), (2, 154, 0), (2, 155, 0)]
  | 4 => [(0, 200, 0), (1, 201, 0), (1, 202, 0), (1, 203, 0), (1, 204, 0), (1, 205, 0), (1, 206, 0), (4, 0, 0), (1, 208, 0), (1, 209, 0), (0, 210, 0), (0, 211, 0)]
  | 5 => [(4, 0, 0), (4, 4, 0), (4, 1, 0), (4, 2, 0), (4, 3, 6), (3, 255, 0), (1, 256, 0), (4, 3, 5)]
  | 6 => [(4, 0, 0), (4, 4, 0), (4, 1, 0), (4, 2, 0), (4, 5, 0), (4, 3, 0), (4, 3, 1)]
  | 7 => [(0, 350, 0), (1, 351, 0), (1, 352, 0), (1, 353, 0), (1, 354, 0), (0, 355, 0), (1, 356, 0), (1, 357, 0), (1, 358, 0), (1, 359, 0), (1, 360, 0), (1, 361, 0), (0, 362, 0), (1, 363, 0), (1, 364, 0), (1, 365, 0), (0, 366, 0), (1, 367, 0), (1, 368, 0), (1, 369, 0), (1, 370, 0), (1, 371, 0), (0, 372, 0), (0, 373, 0), (0, 374, 0), (0, 375, 0), (1, 376, 0), (1, 377, 0), (1, 378, 0), (0, 379, 0), (0, 380, 0), (1, 381, 0), (1, 382, 0), (0, 383, 0), (1, 384, 0), (1, 385, 0), (1, 386, 0), (0, 387, 0), (1, 388, 0), (1, 389, 0)]
  | _ => []
def ln (f : Nat) : Nat := match f with
  | 1 => 300
  | 2 => 300
  | 3 => 300
  | 4 => 16
  | 51 => 40
  | 52 => 40
  | 53 => 40
  | 151 => 200
  | 152 => 200
  | 153 => 200
  | 154 => 200
  | 155 => 200
  | 201 => 1500
  | 202 => 1500
  | 203 => 1500
  | 204 => 1500
  | 205 => 1500
  | 206 => 1500
  | 208 => 201
  | 209 => 201
  | 255 => 101
  | 256 => 101
  | 351 => 300
  | 352 => 300
  | 353 => 300
  | 354 => 300
  | 356 => 1500
  | 357 => 1500
  | 358 => 1500
  | 359 => 1500
  | 360 => 1500
  | 361 => 1500
  | 363 => 40
  | 364 => 40
  | 365 => 40
  | 367 => 8000
  | 368 => 8000
  | 369 => 8000
  | 370 => 8000
  | 371 => 1500000
  | 376 => 1000
  | 377 => 1000
  | 378 => 100
  | 381 => 8000
  | 382 => 300
  | 384 => 300
  | 385 => 300
  | 386 => 900
  | 388 => 100
  | 389 => 100
  | 900 => 1
  | _ => 0
def fv (ad : Ad) (S : St) (j : Nat) (e : Ky) : Value := match e with
  | (0, f, _) => .int (S.1 f j)
  | (4, c, i) => .ref (ad 0 c i)
  | (t, f, _) => .ref (ad t f j)
def fld (ad : Ad) (S : St) (ci j : Nat) : List Value := (tb ci).map (fv ad S j)
def ent (ad : Ad) (t : Ty3) (S : St) (k : Ky) : va_E := match k with
  | (0, ci, j) => .inr (ci, fld ad S ci j)
  | (1, f, j) => .inl (t.1, ln f, .inl (S.2.1 f j))
  | (2, f, j) => .inl (t.2.1, ln f, .inr (.inl (S.2.2 f j)))
  | (_, f, _) => .inl (t.2.2, ln f, .inr (.inr (.inr (.inr (fun i => some (ad 0 3 (6 + i)))))))
def wl (ad : Ad) (t : Ty3) (KS : List Ky) (S : St) : va_W := KS.map (fun k => (adk ad k, ent ad t S k))
def tyl (t : Ty3) : List (ClassId × FieldType) := [(t.1, .int), (t.2.1, .long), (t.2.2, .object "TypeKernel$Row")]
/-- which cells a method may change: its keys', and new ones -/
def AW (ad : Ad) (KS : List Ky) (sz : Nat) : Nat → Prop := fun q => (∃ k ∈ KS, adk ad k = q) ∨ sz ≤ q
def KD (ad : Ad) (KS : List Ky) : Prop := ∀ (i j : Nat) (a b : Ky), KS[i]? = some a → KS[j]? = some b → adk ad a = adk ad b → i = j
def KK : List Ky := [(0, 6, 0), (0, 0, 0), (0, 1, 0), (0, 2, 0), (0, 4, 0), (0, 5, 0), (2, 1, 0), (1, 2, 0), (1, 3, 0), (1, 4, 0), (1, 51, 0), (1, 52, 0), (1, 53, 0), (1, 201, 0), (1, 202, 0), (1, 203, 0), (1, 204, 0), (1, 205, 0), (1, 206, 0), (1, 208, 0), (1, 209, 0), (3, 255, 0), (1, 256, 0)] ++ (List.range 107).flatMap (fun j => [(0, 3, j), (1, 151, j), (1, 152, j), (1, 153, j), (2, 154, j), (2, 155, j)])
def KM : List Ky := [(0, 7, 0), (1, 351, 0), (1, 352, 0), (1, 353, 0), (1, 354, 0), (1, 356, 0), (1, 357, 0), (1, 358, 0), (1, 359, 0), (1, 360, 0), (1, 361, 0), (1, 363, 0), (1, 364, 0), (1, 365, 0), (1, 367, 0), (1, 368, 0), (1, 369, 0), (1, 370, 0), (1, 371, 0), (1, 376, 0), (1, 377, 0), (1, 378, 0), (1, 381, 0), (1, 382, 0), (1, 384, 0), (1, 385, 0), (1, 386, 0), (1, 388, 0), (1, 389, 0)]
def tell (i : Nat) : Int32 := match i with
  | 0 => 0
  | 1 => 1
  | _ => 100
def strs : List (String × Nat × String) := [("TypeKernel", 62, "no such kind of level"), ("TypeKernel", 67, "no such parameter"), ("TypeKernel", 217, "too large a level"), ("TypeKernel", 222, "too many levels"), ("TypeKernel", 206, "no such level"), ("TypeKernel", 213, "no such value of a parameter"), ("TypeKernel", 227, "too large a term"), ("TypeKernel", 231, "too many terms"), ("TypeKernel", 109, "no such variable"), ("TypeKernel", 211, "no such name"), ("TypeKernel", 114, "no such kind of term"), ("TypeKernel", 209, "no such term"), ("TypeKernel", 240, "no room for the answer"), ("TypeKernel", 145, "no such number of parameters"), ("TypeKernel", 152, "too many names"), ("TypeKernel", 179, "no such part of a term"), ("TypeKernel", 189, "no such part of a level"), ("TypeKernel", 200, "no such part of a name")]
def xcs : List String := ["java/lang/IllegalArgumentException", "java/lang/IndexOutOfBoundsException", "java/lang/UnsupportedOperationException"]
def ncs : List (String × String) := [("java/lang/IllegalArgumentException", "java/lang/IndexOutOfBoundsException"), ("java/lang/IllegalArgumentException", "java/lang/UnsupportedOperationException"), ("java/lang/IndexOutOfBoundsException", "java/lang/IllegalArgumentException"), ("java/lang/IndexOutOfBoundsException", "java/lang/UnsupportedOperationException"), ("java/lang/UnsupportedOperationException", "java/lang/IllegalArgumentException"), ("java/lang/UnsupportedOperationException", "java/lang/IndexOutOfBoundsException")]
def dcs : List MethodName := [Bundle.initS "java/lang/RuntimeException", Bundle.initS "java/lang/Exception", Bundle.initS Bundle.tN]
theorem cs_moved {a b : String} {u U : State} (hvm : u.vm.Alike U.vm) (h : (Cond.castable a b).before #[] u = true) : (Cond.castable a b).before #[] U = true :=
  va_tabs (u := u.setVm U.vm) (U := U) rfl rfl (by rw [Cond.castable_setVm hvm]; exact h)
/-- what is read and never written: a static row, two statics of Throwable, the texts -/
def RO (A : Nat → Prop) (U : State) (H : Heap) : Prop :=
  (∃ tv : Nat, va_Z RX1 "TELLING_VALUES" "[I" (.ref tv) A U H ∧ ¬ A tv ∧ tv < H.size ∧ va_X tv 3 tell U H) ∧ vx_Zq Bundle.tN "UNASSIGNED_STACK" Bundle.steD A U H ∧ vx_Zq Bundle.tN "SUPPRESSED_SENTINEL" Bundle.listD A U H ∧ (∀ q ∈ strs, ∃ a : Nat, vk_R q.1 q.2.1 q.2.2 a U) ∧ (∀ q ∈ xcs, (Cond.castable q q).before #[] U = true) ∧ (∀ q ∈ ncs, va_Nc q.1 q.2 U) ∧ ∀ q ∈ dcs, va_Nw (.declares q) U
theorem RO.kept {A : Nat → Prop} {U : State} {H H1 : Heap} (h : RO A U H) (hz : H.size ≤ H1.size) (hq : ∀ a : Nat, a < H.size → ¬ A a → H1[a]? = H[a]?) : RO A U H1 := by
  obtain ⟨⟨tv, h1, h2, h3, h4⟩, h5, h6, h7, h8, h9, h10⟩ := h
  exact ⟨⟨tv, h1.kept hq, h2, by omega, h4.kept (hq tv h3 h2)⟩, h5.kept hq, h6.kept hq, h7, h8, h9, h10⟩
theorem RO.warm {A : Nat → Prop} {s U : State} {H : Heap} (hW : s.WarmedH U.vm) (h : RO A s H) : RO A U H := by
  obtain ⟨⟨tv, h1, h2, h3, h4⟩, h5, h6, h7, h8, h9, h10⟩ := h
  exact ⟨⟨tv, h1.moved hW.alike, h2, h3, h4.moved hW.alike⟩, h5.moved hW.alike, h6.moved hW.alike, fun q hq => by obtain ⟨a, ha⟩ := h7 q hq; exact ⟨a, ha.warm hW⟩, fun q hq => cs_moved hW.alike (h8 q hq), fun q hq => (h9 q hq).moved hW.alike, fun q hq => (h10 q hq).warmD hW⟩
theorem RO.same {A : Nat → Prop} {u U : State} {H : Heap} (hv : U.vm = u.vm) (h : RO A u H) : RO A U H := by
  obtain ⟨⟨tv, h1, h2, h3, h4⟩, h5, h6, h7, h8, h9, h10⟩ := h
  have ha : u.vm.Alike U.vm := by rw [hv]; exact Vm.Alike.refl _
  exact ⟨⟨tv, h1.moved ha, h2, h3, h4.moved ha⟩, h5.moved ha, h6.moved ha, fun q hq => by obtain ⟨a, h⟩ := h7 q hq; exact ⟨a, h.same hv⟩, fun q hq => cs_moved ha (h8 q hq), fun q hq => (h9 q hq).moved ha, fun q hq => va_Nw.same rfl hv.symm (h10 q hq)⟩
theorem RO.narrow {A B : Nat → Prop} {U : State} {H : Heap} (h : RO A U H) (hAB : ∀ q, B q → A q) : RO B U H := by
  obtain ⟨⟨tv, h1, h2, h3, h4⟩, h5, h6, h7, h8, h9, h10⟩ := h
  exact ⟨⟨tv, h1.narrow hAB, fun z => h2 (hAB _ z), h3, h4⟩, h5.narrow hAB, h6.narrow hAB, h7, h8, h9, h10⟩
theorem wl_get {ad : Ad} {t : Ty3} {KS : List Ky} {S : St} {i : Nat} {q : Nat × va_E} (h : (wl ad t KS S)[i]? = some q) : ∃ k, KS[i]? = some k ∧ (adk ad k, ent ad t S k) = q := by
  rw [wl, List.getElem?_map] at h
  cases hk : KS[i]? with
  | none => rw [hk] at h; cases h
  | some k => rw [hk] at h; exact ⟨k, rfl, Option.some.inj h⟩
theorem wl_of {ad : Ad} {t : Ty3} {KS : List Ky} {S : St} {i : Nat} {k : Ky} (h : KS[i]? = some k) : (wl ad t KS S)[i]? = some (adk ad k, ent ad t S k) := by
  rw [wl, List.getElem?_map, h]; rfl
theorem wl_at {KS : List Ky} {k : Ky} (h : k ∈ KS) : ∃ q0 : Nat, KS[q0]? = some k := List.getElem?_of_mem h
theorem wl_D {ad : Ad} {t : Ty3} {KS : List Ky} {S : St} {sz : Nat} (h : KD ad KS) : va_D (AW ad KS sz) (wl ad t KS S) := by
  refine ⟨fun i j p q hp hq e => ?_, fun k q hk => ?_⟩
  · obtain ⟨a, ha, rfl⟩ := wl_get hp
    obtain ⟨b, hb, rfl⟩ := wl_get hq
    exact h i j a b ha hb e
  · obtain ⟨a, ha, rfl⟩ := wl_get hk
    exact Or.inl ⟨a, List.mem_of_getElem? ha, rfl⟩
theorem wl_set {D : va_G} {ad : Ad} {t : Ty3} {KS : List Ky} {S S' : St} {q0 : Nat} {k : Ky} {e : va_E} {H : Heap} (hD : KD ad KS) (hq : KS[q0]? = some k) (hP : va_P D vwCl ((wl ad t KS S).set q0 (adk ad k, e)) H)
    (he : ent ad t S' k = e) (ho : ∀ k', k' ≠ k → ent ad t S' k' = ent ad t S k') : va_P D vwCl (wl ad t KS S') H := by
  intro i q hi
  obtain ⟨k', hk', rfl⟩ := wl_get hi
  have hlen : q0 < (wl ad t KS S).length := by
    have := (List.getElem?_eq_some_iff.mp hq).1
    rw [wl, List.length_map]; exact this
  by_cases hiq : i = q0
  · subst hiq
    cases Option.some.inj (hk'.symm.trans hq)
    rw [he]
    exact hP i _ (by rw [List.getElem?_set_self hlen])
  · have hne : k' ≠ k := fun h => hiq (hD i q0 k' k hk' hq (by rw [h]))
    rw [ho k' hne]
    exact hP i _ (by rw [List.getElem?_set_ne (Ne.symm hiq)]; exact wl_of hk')
/-! what a state becomes -/
def sS (S : St) (f j : Nat) (v : Int32) : St := (fun a b => if a = f ∧ b = j then v else S.1 a b, S.2.1, S.2.2)
def sI (S : St) (f j i : Nat) (v : Int32) : St := (S.1, fun a b => if a = f ∧ b = j then upd (S.2.1 f j) i v else S.2.1 a b, S.2.2)
def sL (S : St) (f j i : Nat) (v : Int64) : St := (S.1, S.2.1, fun a b => if a = f ∧ b = j then vp_updL (S.2.2 f j) i v else S.2.2 a b)
def cI (S : St) (f j sp dp n : Nat) : St := (S.1, fun a b => if a = f ∧ b = j then va_cpy (S.2.1 f j) (S.2.1 f j) sp dp n else S.2.1 a b, S.2.2)
def cL (S : St) (f j sp dp n : Nat) : St := (S.1, S.2.1, fun a b => if a = f ∧ b = j then va_cpy (S.2.2 f j) (S.2.2 f j) sp dp n else S.2.2 a b)
theorem ent_sI_self {ad : Ad} {t : Ty3} {S : St} {f j i : Nat} {v : Int32} : ent ad t (sI S f j i v) (1, f, j) = .inl (t.1, ln f, .inl (upd (S.2.1 f j) i v)) := by simp [ent, sI]
theorem ent_sL_self {ad : Ad} {t : Ty3} {S : St} {f j i : Nat} {v : Int64} : ent ad t (sL S f j i v) (2, f, j) = .inl (t.2.1, ln f, .inr (.inl (vp_updL (S.2.2 f j) i v))) := by simp [ent, sL]
theorem ent_cI_self {ad : Ad} {t : Ty3} {S : St} {f j sp dp n : Nat} : ent ad t (cI S f j sp dp n) (1, f, j) = .inl (t.1, ln f, .inl (va_cpy (S.2.1 f j) (S.2.1 f j) sp dp n)) := by simp [ent, cI]
theorem ent_cL_self {ad : Ad} {t : Ty3} {S : St} {f j sp dp n : Nat} : ent ad t (cL S f j sp dp n) (2, f, j) = .inl (t.2.1, ln f, .inr (.inl (va_cpy (S.2.2 f j) (S.2.2 f j) sp dp n))) := by simp [ent, cL]
theorem fld_1 {ad : Ad} {S : St} {g : Nat → Nat → Nat → Int32} {h : Nat → Nat → Nat → Int64} {ci j : Nat} : fld ad (S.1, g, h) ci j = fld ad S ci j := rfl
theorem ent_I_ne {ad : Ad} {t : Ty3} {S : St} {f j : Nat} {w : Nat → Int32} {k' : Ky} (h : k' ≠ (1, f, j)) : ent ad t (S.1, (fun a b => if a = f ∧ b = j then w else S.2.1 a b), S.2.2) k' = ent ad t S k' := by
  match k', h with
  | (0, ci, j'), _ => rfl
  | (1, f', j'), h =>
    have : ¬ (f' = f ∧ j' = j) := fun q => h (by rw [q.1, q.2])
    simp [ent, this]
  | (2, f', j'), _ => rfl
  | (n + 3, f', j'), _ => rfl
theorem ent_L_ne {ad : Ad} {t : Ty3} {S : St} {f j : Nat} {w : Nat → Int64} {k' : Ky} (h : k' ≠ (2, f, j)) : ent ad t (S.1, S.2.1, (fun a b => if a = f ∧ b = j then w else S.2.2 a b)) k' = ent ad t S k' := by
  match k', h with
  | (0, ci, j'), _ => rfl
  | (1, f', j'), _ => rfl
  | (2, f', j'), h =>
    have : ¬ (f' = f ∧ j' = j) := fun q => h (by rw [q.1, q.2])
    simp [ent, this]
  | (n + 3, f', j'), _ => rfl
/-- the field f stands in class ci at slot k, and nowhere else -/
def tbU (f ci k : Nat) : Bool := (List.range 8).all (fun c => (List.range 40).all (fun i => decide ((tb c)[i]? = some (0, f, 0) → c = ci ∧ i = k))) && (List.range 8).all (fun c => (tb c).all (fun e => decide (e.1 = 0 → e.2.2 = 0)) && decide ((tb c).length ≤ 40))
theorem tb_out {c : Nat} (h : 8 ≤ c) : tb c = [] := by
  match c, h with
  | n + 8, _ => rfl
theorem tbU_ok {f ci k : Nat} (h : tbU f ci k = true) {c i : Nat} {z : Nat} (hc : (tb c)[i]? = some (0, f, z)) : c = ci ∧ i = k := by
  unfold tbU at h
  rw [Bool.and_eq_true, List.all_eq_true, List.all_eq_true] at h
  by_cases h8 : c < 8
  · have h2 := h.2 c (List.mem_range.mpr h8)
    rw [Bool.and_eq_true, List.all_eq_true] at h2
    have hz := of_decide_eq_true (h2.1 _ (List.mem_of_getElem? hc)) rfl
    have hl := of_decide_eq_true h2.2
    have hi : i < 40 := Nat.lt_of_lt_of_le (List.getElem?_eq_some_iff.mp hc).1 hl
    have h1 := List.all_eq_true.mp (h.1 c (List.mem_range.mpr h8)) i (List.mem_range.mpr hi)
    have hz : z = 0 := hz
    subst hz
    exact of_decide_eq_true h1 hc
  · rw [tb_out (by omega)] at hc
    cases hc
theorem fv_ne {ad : Ad} {S : St} {f j j' : Nat} {v : Int32} {e : Ky} (h : ∀ z, e = (0, f, z) → j' ≠ j) : fv ad (sS S f j v) j' e = fv ad S j' e := by
  match e, h with
  | (0, f', z), h =>
    show Value.int ((sS S f j v).1 f' j') = Value.int (S.1 f' j')
    have : ¬ (f' = f ∧ j' = j) := fun q => h z (by rw [q.1]) q.2
    simp [sS, this]
  | (1, _, _), _ => rfl
  | (2, _, _), _ => rfl
  | (3, _, _), _ => rfl
  | (4, _, _), _ => rfl
  | (n + 5, _, _), _ => rfl
theorem ent_sS_self {ad : Ad} {t : Ty3} {S : St} {f j ci k : Nat} {v : Int32} (hu : tbU f ci k = true) (hk : (tb ci)[k]? = some (0, f, 0)) : ent ad t (sS S f j v) (0, ci, j) = .inr (ci, (fld ad S ci j).set k (.int v)) := by
  show (Sum.inr (ci, fld ad (sS S f j v) ci j) : va_E) = _
  congr 2
  apply List.ext_getElem?
  intro i
  rw [fld, fld, List.getElem?_map]
  by_cases hi : i = k
  · subst hi
    rw [hk, List.getElem?_set_self (by rw [List.length_map]; exact (List.getElem?_eq_some_iff.mp hk).1)]
    show some (Value.int ((sS S f j v).1 f j)) = _
    simp [sS]
  · rw [List.getElem?_set_ne (Ne.symm hi), List.getElem?_map]
    cases he : (tb ci)[i]? with
    | none => rfl
    | some e =>
      show some _ = some _
      rw [fv_ne (fun z hz => absurd (tbU_ok hu (hz ▸ he)).2 hi)]
theorem ent_sS_ne {ad : Ad} {t : Ty3} {S : St} {f j ci k : Nat} {v : Int32} (hu : tbU f ci k = true) {k' : Ky} (h : k' ≠ (0, ci, j)) : ent ad t (sS S f j v) k' = ent ad t S k' := by
  match k', h with
  | (0, c, j'), h =>
    show (Sum.inr (c, fld ad (sS S f j v) c j') : va_E) = Sum.inr (c, fld ad S c j')
    congr 2
    apply List.map_congr_left
    intro e he
    obtain ⟨i, hi⟩ := List.getElem?_of_mem he
    refine fv_ne (fun z hz hj => ?_)
    have := (tbU_ok hu (hz ▸ hi)).1
    exact h (by rw [this, hj])
  | (1, f', j'), _ => rfl
  | (2, f', j'), _ => rfl
  | (n + 3, f', j'), _ => rfl
