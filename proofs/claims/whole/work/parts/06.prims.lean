theorem ite_t {c : Prop} [Decidable c] {α : Type} {a b o : α} (h : (if c then a else b) = o) (hc : c) : a = o := by rw [if_pos hc] at h; exact h
theorem ite_f {c : Prop} [Decidable c] {α : Type} {a b o : α} (h : (if c then a else b) = o) (hc : ¬ c) : b = o := by rw [if_neg hc] at h; exact h
section PR
variable {β : Type}
def bV {α : Type} (e : α) (k : α → Option β) : Option β := k e
theorem bV_some {α : Type} {e : α} {k : α → Option β} {o : β} (h : bV e k = some o) : ∃ v : α, v = e ∧ k v = some o := ⟨e, rfl, h⟩
def bI (p : Option (St × Int32)) (k : St → Int32 → Option β) : Option β := match p with
  | none => none
  | some q => k q.1 q.2
theorem bI_some {p : Option (St × Int32)} {k : St → Int32 → Option β} {o : β} (h : bI p k = some o) : ∃ (S : St) (v : Int32), p = some (S, v) ∧ k S v = some o := by
  cases p with
  | none => cases h
  | some q => exact ⟨q.1, q.2, rfl, h⟩
def bL (p : Option (St × Int64)) (k : St → Int64 → Option β) : Option β := match p with
  | none => none
  | some q => k q.1 q.2
theorem bL_some {p : Option (St × Int64)} {k : St → Int64 → Option β} {o : β} (h : bL p k = some o) : ∃ (S : St) (v : Int64), p = some (S, v) ∧ k S v = some o := by
  cases p with
  | none => cases h
  | some q => exact ⟨q.1, q.2, rfl, h⟩
def bU (p : Option St) (k : St → Option β) : Option β := match p with
  | none => none
  | some q => k q
theorem bU_some {p : Option St} {k : St → Option β} {o : β} (h : bU p k = some o) : ∃ (S : St), p = some S ∧ k S = some o := by
  cases p with
  | none => cases h
  | some q => exact ⟨q, rfl, h⟩
def gI (S : St) (f j : Nat) (i : Int32) (L : Nat) (k : Int32 → Option β) : Option β := if i < 0 ∨ L ≤ i.toNatClampNeg then none else k (S.2.1 f j i.toNatClampNeg)
theorem gI_some {S : St} {f j : Nat} {i : Int32} {L : Nat} {k : Int32 → Option β} {o : β} (h : gI S f j i L k = some o) : ∃ v : Int32, v = S.2.1 f j i.toNatClampNeg ∧ vp_in i L ∧ k v = some o := by
  unfold gI at h
  split at h
  · cases h
  · exact ⟨_, rfl, by assumption, h⟩
def gL (S : St) (f j : Nat) (i : Int32) (L : Nat) (k : Int64 → Option β) : Option β := if i < 0 ∨ L ≤ i.toNatClampNeg then none else k (S.2.2 f j i.toNatClampNeg)
theorem gL_some {S : St} {f j : Nat} {i : Int32} {L : Nat} {k : Int64 → Option β} {o : β} (h : gL S f j i L k = some o) : ∃ v : Int64, v = S.2.2 f j i.toNatClampNeg ∧ vp_in i L ∧ k v = some o := by
  unfold gL at h
  split at h
  · cases h
  · exact ⟨_, rfl, by assumption, h⟩
def pI (S : St) (f j : Nat) (i : Int32) (L : Nat) (v : Int32) (k : St → Option β) : Option β := if i < 0 ∨ L ≤ i.toNatClampNeg then none else k (sI S f j i.toNatClampNeg v)
theorem pI_some {S : St} {f j : Nat} {i : Int32} {L : Nat} {v : Int32} {k : St → Option β} {o : β} (h : pI S f j i L v k = some o) : ∃ S1 : St, S1 = sI S f j i.toNatClampNeg v ∧ vp_in i L ∧ k S1 = some o := by
  unfold pI at h
  split at h
  · cases h
  · exact ⟨_, rfl, by assumption, h⟩
def pL (S : St) (f j : Nat) (i : Int32) (L : Nat) (v : Int64) (k : St → Option β) : Option β := if i < 0 ∨ L ≤ i.toNatClampNeg then none else k (sL S f j i.toNatClampNeg v)
theorem pL_some {S : St} {f j : Nat} {i : Int32} {L : Nat} {v : Int64} {k : St → Option β} {o : β} (h : pL S f j i L v k = some o) : ∃ S1 : St, S1 = sL S f j i.toNatClampNeg v ∧ vp_in i L ∧ k S1 = some o := by
  unfold pL at h
  split at h
  · cases h
  · exact ⟨_, rfl, by assumption, h⟩
def pS (S : St) (f j : Nat) (v : Int32) (k : St → Option β) : Option β := k (sS S f j v)
theorem pS_some {S : St} {f j : Nat} {v : Int32} {k : St → Option β} {o : β} (h : pS S f j v k = some o) : ∃ S1 : St, S1 = sS S f j v ∧ k S1 = some o := ⟨_, rfl, h⟩
def gR (i : Int32) (k : Nat → Option β) : Option β := if i < 0 ∨ 101 ≤ i.toNatClampNeg then none else k (6 + i.toNatClampNeg)
theorem gR_some {i : Int32} {k : Nat → Option β} {o : β} (h : gR i k = some o) : ∃ r : Nat, r = 6 + i.toNatClampNeg ∧ vp_in i 101 ∧ r < 107 ∧ k r = some o := by
  unfold gR at h
  split at h
  · cases h
  · rename_i hc
    exact ⟨_, rfl, hc, by have : ¬ 101 ≤ i.toNatClampNeg := fun z => hc (Or.inr z); omega, h⟩
def gT (i : Int32) (k : Int32 → Option β) : Option β := if i < 0 ∨ 3 ≤ i.toNatClampNeg then none else k (tell i.toNatClampNeg)
theorem gT_some {i : Int32} {k : Int32 → Option β} {o : β} (h : gT i k = some o) : ∃ v : Int32, v = tell i.toNatClampNeg ∧ vp_in i 3 ∧ k v = some o := by
  unfold gT at h
  split at h
  · cases h
  · exact ⟨_, rfl, by assumption, h⟩
/-- System.arraycopy within one row -/
def cpOk (sp dp n : Int32) (L : Nat) : Prop := ¬ (sp < 0 ∨ dp < 0 ∨ n < 0 ∨ L < sp.toNatClampNeg + n.toNatClampNeg ∨ L < dp.toNatClampNeg + n.toNatClampNeg)
def cpI (S : St) (f j : Nat) (sp dp n : Int32) (L : Nat) (k : St → Option β) : Option β := if sp < 0 ∨ dp < 0 ∨ n < 0 ∨ L < sp.toNatClampNeg + n.toNatClampNeg ∨ L < dp.toNatClampNeg + n.toNatClampNeg then none else k (cI S f j sp.toNatClampNeg dp.toNatClampNeg n.toNatClampNeg)
theorem cpI_some {S : St} {f j : Nat} {sp dp n : Int32} {L : Nat} {k : St → Option β} {o : β} (h : cpI S f j sp dp n L k = some o) : ∃ S1 : St, S1 = cI S f j sp.toNatClampNeg dp.toNatClampNeg n.toNatClampNeg ∧ cpOk sp dp n L ∧ k S1 = some o := by
  unfold cpI at h
  split at h
  · cases h
  · exact ⟨_, rfl, by assumption, h⟩
def cpL (S : St) (f j : Nat) (sp dp n : Int32) (L : Nat) (k : St → Option β) : Option β := if sp < 0 ∨ dp < 0 ∨ n < 0 ∨ L < sp.toNatClampNeg + n.toNatClampNeg ∨ L < dp.toNatClampNeg + n.toNatClampNeg then none else k (cL S f j sp.toNatClampNeg dp.toNatClampNeg n.toNatClampNeg)
theorem cpL_some {S : St} {f j : Nat} {sp dp n : Int32} {L : Nat} {k : St → Option β} {o : β} (h : cpL S f j sp dp n L k = some o) : ∃ S1 : St, S1 = cL S f j sp.toNatClampNeg dp.toNatClampNeg n.toNatClampNeg ∧ cpOk sp dp n L ∧ k S1 = some o := by
  unfold cpL at h
  split at h
  · cases h
  · exact ⟨_, rfl, by assumption, h⟩
end PR
section CP
variable {x : XC} {nL kc ks : Nat} {S S1 : St} {pc : Nat} {lv : List (Nat × Value)} {st : List Value} {cc : ByteArray} {own : String} {f j L idx : Nat}
theorem fits_int (v : Int32) : fits .int (.int v) = true := rfl
theorem fits_long (v : Int64) : fits .long (.long v) = true := rfl
theorem r_copyI (hx : CX x cc nL own) {sp dp n : Int32} (hk : (1, f, j) ∈ x_K x) (hL : ln f = L) (hc : cpOk sp dp n L) (e : S1 = cI S f j sp.toNatClampNeg dp.toNatClampNeg n.toNatClampNeg) (hlink : Cond.methodLink own idx arraycopyName ∈ TB) (hR : 1 ≤ (x_R x).frames) (hR2 : (st.map fun v => v.category).sum + (nativeFrameWords "java/lang/System" "arraycopy" 5 + 11) ≤ (x_R x).locals) (hd : decode cc pc = .ok (.invokestatic idx, 3)) (kk : WX x nL kc ks S1 (pc + 3) lv st) : WX x nL kc ks S pc lv (.int n :: .int dp :: .ref (x_ad x 1 f j) :: .int sp :: .ref (x_ad x 1 f j) :: st) := by
  intro H locs ls hl hP hS
  subst e; subst hL
  obtain ⟨q0, hq⟩ := wl_at hk
  have h1 : ¬ sp < 0 := fun z => hc (Or.inl z)
  have h2 : ¬ dp < 0 := fun z => hc (Or.inr (Or.inl z))
  have h3 : ¬ n < 0 := fun z => hc (Or.inr (Or.inr (Or.inl z)))
  have h4 : sp.toNatClampNeg + n.toNatClampNeg ≤ ln f := Nat.le_of_not_lt fun z => hc (Or.inr (Or.inr (Or.inr (Or.inl z))))
  have h5 : dp.toNatClampNeg + n.toNatClampNeg ≤ ln f := Nat.le_of_not_lt fun z => hc (Or.inr (Or.inr (Or.inr (Or.inr z))))
  have ht := hx.2.2.2.2.1
  refine va_copyi (D := x_D x) (cl := vwCl) (tys := tyl (x_t x)) hx.1 hx.2.1 (hx.2.2.1.trans hl.1.symm) hx.2.2.2.1 (ht _ hlink) (ht _ wv_arraycopy) (ht _ wt_arraycopy) (ht _ wn_System) hx.2.2.2.2.2.1 hP (wl_D hx.2.2.2.2.2.2.1) hS q0 q0 0 0 (ty := .int) (wl_of hq) (wl_of hq) rfl rfl rfl h1 h2 h3 h4 h5 (fun i _ => rfl) hR hR2 hd (fun H1 locs1 hP1 _ hS1 => ?_)
  exact kk H1 locs1 ls hl (wl_set hx.2.2.2.2.2.2.1 hq hP1 ent_cI_self (fun k' h => ent_I_ne h)) hS1
theorem r_copyL (hx : CX x cc nL own) {sp dp n : Int32} (hk : (2, f, j) ∈ x_K x) (hL : ln f = L) (hc : cpOk sp dp n L) (e : S1 = cL S f j sp.toNatClampNeg dp.toNatClampNeg n.toNatClampNeg) (hlink : Cond.methodLink own idx arraycopyName ∈ TB) (hR : 1 ≤ (x_R x).frames) (hR2 : (st.map fun v => v.category).sum + (nativeFrameWords "java/lang/System" "arraycopy" 5 + 11) ≤ (x_R x).locals) (hd : decode cc pc = .ok (.invokestatic idx, 3)) (kk : WX x nL kc ks S1 (pc + 3) lv st) : WX x nL kc ks S pc lv (.int n :: .int dp :: .ref (x_ad x 2 f j) :: .int sp :: .ref (x_ad x 2 f j) :: st) := by
  intro H locs ls hl hP hS
  subst e; subst hL
  obtain ⟨q0, hq⟩ := wl_at hk
  have h1 : ¬ sp < 0 := fun z => hc (Or.inl z)
  have h2 : ¬ dp < 0 := fun z => hc (Or.inr (Or.inl z))
  have h3 : ¬ n < 0 := fun z => hc (Or.inr (Or.inr (Or.inl z)))
  have h4 : sp.toNatClampNeg + n.toNatClampNeg ≤ ln f := Nat.le_of_not_lt fun z => hc (Or.inr (Or.inr (Or.inr (Or.inl z))))
  have h5 : dp.toNatClampNeg + n.toNatClampNeg ≤ ln f := Nat.le_of_not_lt fun z => hc (Or.inr (Or.inr (Or.inr (Or.inr z))))
  have ht := hx.2.2.2.2.1
  refine va_copyl (D := x_D x) (cl := vwCl) (tys := tyl (x_t x)) hx.1 hx.2.1 (hx.2.2.1.trans hl.1.symm) hx.2.2.2.1 (ht _ hlink) (ht _ wv_arraycopy) (ht _ wt_arraycopy) (ht _ wn_System) hx.2.2.2.2.2.1 hP (wl_D hx.2.2.2.2.2.2.1) hS q0 q0 1 1 (ty := .long) (wl_of hq) (wl_of hq) rfl rfl rfl h1 h2 h3 h4 h5 (fun i _ => rfl) hR hR2 hd (fun H1 locs1 hP1 _ hS1 => ?_)
  exact kk H1 locs1 ls hl (wl_set hx.2.2.2.2.2.2.1 hq hP1 ent_cL_self (fun k' h => ent_L_ne h)) hS1
/-- the static row -/
def TVx (x : XC) (tv : Nat) : Prop := va_Z RX1 "TELLING_VALUES" "[I" (.ref tv) (x_A x) (x_s x) (x_s x).heap ∧ ¬ x_A x tv ∧ tv < (x_s x).heap.size ∧ va_X tv 3 tell (x_s x) (x_s x).heap
theorem TVx_of (hx : CX x cc nL own) : ∃ tv, TVx x tv := hx.2.2.2.2.2.2.2.1
theorem r_tell (hx : CX x cc nL own) {tv : Nat} (hT : TVx x tv) (hlink : Cond.fieldLink own idx "TypeKernel$Levels" "TELLING_VALUES" "[I" ∈ TB) (hd : decode cc pc = .ok (.getstatic idx, 3)) (kk : WX x nL kc ks S (pc + 3) lv (.ref tv :: st)) : WX x nL kc ks S pc lv st :=
  fun H locs ls hl hP hS => va_gets hx.1 hx.2.1 hT.1 hS hx.2.2.2.1 (hx.2.2.2.2.1 _ hlink) (fun _ h => h) hd (kk H locs ls hl hP hS)
theorem r_tellLen (hx : CX x cc nL own) {tv : Nat} (hT : TVx x tv) (hd : decode cc pc = .ok (.arraylength, 1)) (kk : WX x nL kc ks S (pc + 1) lv (.int 3 :: st)) : WX x nL kc ks S pc lv (.ref tv :: st) :=
  fun H locs ls hl hP hS => va_slen hx.1 hx.2.1 hT.2.2.2 hT.2.2.1 hT.2.1 hS hd (kk H locs ls hl hP hS)
theorem r_tellAt (hx : CX x cc nL own) {tv : Nat} {i v : Int32} (hT : TVx x tv) (hi : vp_in i 3) (hv : v = tell i.toNatClampNeg) (hd : decode cc pc = .ok (.iaload, 1)) (kk : WX x nL kc ks S (pc + 1) lv (.int v :: st)) : WX x nL kc ks S pc lv (.int i :: .ref tv :: st) := by
  subst hv
  exact fun H locs ls hl hP hS => va_sld hx.1 hx.2.1 hT.2.2.2 hT.2.2.1 hT.2.1 hS hi hd (kk H locs ls hl hP hS)
theorem r_lookI (hx : CX x cc nL own) {a c9 : Int32} {dflt : Int} {ps : Array (Int × Int)} {len tgt : Nat} (hd : decode cc pc = .ok (.lookupswitch dflt ps, len)) (hv : a = c9) (hc : ((ps.toList.zip (ps.toList.drop 1)).all (fun (a, next) => a.1 < next.1) && decide ((pc : Int) + Op.lookupswitch.offset ps.toList dflt c9.toInt = (tgt : Int))) = true) (k : WX x nL kc ks S tgt lv st) : WX x nL kc ks S pc lv (.int a :: st) := by
  subst hv
  rw [Bool.and_eq_true] at hc
  exact fun H locs ls hl hP hS => lv_lookup hx.1 hx.2.1 hd hc.1 rfl (of_decide_eq_true hc.2) (k H locs ls hl hP hS)
theorem r_lookO_2_3 (hx : CX x cc nL own) {a : Int32} {dflt o2 o3 : Int} {len tgt : Nat} (hd : decode cc pc = .ok (.lookupswitch dflt #[(2, o2), (3, o3)], len)) (h2 : ¬ a = 2) (h3 : ¬ a = 3) (ht : (pc : Int) + dflt = (tgt : Int)) (_ : True) (k : WX x nL kc ks S tgt lv st) : WX x nL kc ks S pc lv (.int a :: st) := by
  have e2 : a.toInt ≠ 2 := fun z => h2 (Int32.toInt_inj.mp (by rw [z]; rfl))
  have e3 : a.toInt ≠ 3 := fun z => h3 (Int32.toInt_inj.mp (by rw [z]; rfl))
  exact fun H locs ls hl hP hS => lv_lookup hx.1 hx.2.1 hd (by simp) (off := dflt) (by simp [Op.lookupswitch.offset, e2, e3, Ne.symm e2, Ne.symm e3]) ht (k H locs ls hl hP hS)
end CP
theorem tabo_0_3 {a : Int32} (h0 : ¬ a = 0) (h1 : ¬ a = 1) (h2 : ¬ a = 2) : a.toInt < 0 ∨ 2 < a.toInt := by
  rcases Int.lt_or_le a.toInt 0 with h | h
  · exact Or.inl h
  rcases Int.lt_or_le 2 a.toInt with g | g
  · exact Or.inr g
  exfalso
  have e : a.toInt = 0 ∨ a.toInt = 1 ∨ a.toInt = 2 := by omega
  rcases e with e | e | e
  · exact h0 (Int32.toInt_inj.mp (by rw [e]; rfl))
  · exact h1 (Int32.toInt_inj.mp (by rw [e]; rfl))
  · exact h2 (Int32.toInt_inj.mp (by rw [e]; rfl))
theorem tabo_0_4 {a : Int32} (h0 : ¬ a = 0) (h1 : ¬ a = 1) (h2 : ¬ a = 2) (h3 : ¬ a = 3) : a.toInt < 0 ∨ 3 < a.toInt := by
  rcases Int.lt_or_le a.toInt 0 with h | h
  · exact Or.inl h
  rcases Int.lt_or_le 3 a.toInt with g | g
  · exact Or.inr g
  exfalso
  have e : a.toInt = 0 ∨ a.toInt = 1 ∨ a.toInt = 2 ∨ a.toInt = 3 := by omega
  rcases e with e | e | e | e
  · exact h0 (Int32.toInt_inj.mp (by rw [e]; rfl))
  · exact h1 (Int32.toInt_inj.mp (by rw [e]; rfl))
  · exact h2 (Int32.toInt_inj.mp (by rw [e]; rfl))
  · exact h3 (Int32.toInt_inj.mp (by rw [e]; rfl))
theorem tabo_0_6 {a : Int32} (h0 : ¬ a = 0) (h1 : ¬ a = 1) (h2 : ¬ a = 2) (h3 : ¬ a = 3) (h4 : ¬ a = 4) (h5 : ¬ a = 5) : a.toInt < 0 ∨ 5 < a.toInt := by
  rcases Int.lt_or_le a.toInt 0 with h | h
  · exact Or.inl h
  rcases Int.lt_or_le 5 a.toInt with g | g
  · exact Or.inr g
  exfalso
  have e : a.toInt = 0 ∨ a.toInt = 1 ∨ a.toInt = 2 ∨ a.toInt = 3 ∨ a.toInt = 4 ∨ a.toInt = 5 := by omega
  rcases e with e | e | e | e | e | e
  · exact h0 (Int32.toInt_inj.mp (by rw [e]; rfl))
  · exact h1 (Int32.toInt_inj.mp (by rw [e]; rfl))
  · exact h2 (Int32.toInt_inj.mp (by rw [e]; rfl))
  · exact h3 (Int32.toInt_inj.mp (by rw [e]; rfl))
  · exact h4 (Int32.toInt_inj.mp (by rw [e]; rfl))
  · exact h5 (Int32.toInt_inj.mp (by rw [e]; rfl))
theorem tabo_0_7 {a : Int32} (h0 : ¬ a = 0) (h1 : ¬ a = 1) (h2 : ¬ a = 2) (h3 : ¬ a = 3) (h4 : ¬ a = 4) (h5 : ¬ a = 5) (h6 : ¬ a = 6) : a.toInt < 0 ∨ 6 < a.toInt := by
  rcases Int.lt_or_le a.toInt 0 with h | h
  · exact Or.inl h
  rcases Int.lt_or_le 6 a.toInt with g | g
  · exact Or.inr g
  exfalso
  have e : a.toInt = 0 ∨ a.toInt = 1 ∨ a.toInt = 2 ∨ a.toInt = 3 ∨ a.toInt = 4 ∨ a.toInt = 5 ∨ a.toInt = 6 := by omega
  rcases e with e | e | e | e | e | e | e
  · exact h0 (Int32.toInt_inj.mp (by rw [e]; rfl))
  · exact h1 (Int32.toInt_inj.mp (by rw [e]; rfl))
  · exact h2 (Int32.toInt_inj.mp (by rw [e]; rfl))
  · exact h3 (Int32.toInt_inj.mp (by rw [e]; rfl))
  · exact h4 (Int32.toInt_inj.mp (by rw [e]; rfl))
  · exact h5 (Int32.toInt_inj.mp (by rw [e]; rfl))
  · exact h6 (Int32.toInt_inj.mp (by rw [e]; rfl))
theorem tabo_1_6 {a : Int32} (h0 : ¬ a = 1) (h1 : ¬ a = 2) (h2 : ¬ a = 3) (h3 : ¬ a = 4) (h4 : ¬ a = 5) (h5 : ¬ a = 6) : a.toInt < 1 ∨ 6 < a.toInt := by
  rcases Int.lt_or_le a.toInt 1 with h | h
  · exact Or.inl h
  rcases Int.lt_or_le 6 a.toInt with g | g
  · exact Or.inr g
  exfalso
  have e : a.toInt = 1 ∨ a.toInt = 2 ∨ a.toInt = 3 ∨ a.toInt = 4 ∨ a.toInt = 5 ∨ a.toInt = 6 := by omega
  rcases e with e | e | e | e | e | e
  · exact h0 (Int32.toInt_inj.mp (by rw [e]; rfl))
  · exact h1 (Int32.toInt_inj.mp (by rw [e]; rfl))
  · exact h2 (Int32.toInt_inj.mp (by rw [e]; rfl))
  · exact h3 (Int32.toInt_inj.mp (by rw [e]; rfl))
  · exact h4 (Int32.toInt_inj.mp (by rw [e]; rfl))
  · exact h5 (Int32.toInt_inj.mp (by rw [e]; rfl))
theorem tabo_0_18 {a : Int32} (h0 : ¬ a = 0) (h1 : ¬ a = 1) (h2 : ¬ a = 2) (h3 : ¬ a = 3) (h4 : ¬ a = 4) (h5 : ¬ a = 5) (h6 : ¬ a = 6) (h7 : ¬ a = 7) (h8 : ¬ a = 8) (h9 : ¬ a = 9) (h10 : ¬ a = 10) (h11 : ¬ a = 11) (h12 : ¬ a = 12) (h13 : ¬ a = 13) (h14 : ¬ a = 14) (h15 : ¬ a = 15) (h16 : ¬ a = 16) (h17 : ¬ a = 17) : a.toInt < 0 ∨ 17 < a.toInt := by
  rcases Int.lt_or_le a.toInt 0 with h | h
  · exact Or.inl h
  rcases Int.lt_or_le 17 a.toInt with g | g
  · exact Or.inr g
  exfalso
  have e : a.toInt = 0 ∨ a.toInt = 1 ∨ a.toInt = 2 ∨ a.toInt = 3 ∨ a.toInt = 4 ∨ a.toInt = 5 ∨ a.toInt = 6 ∨ a.toInt = 7 ∨ a.toInt = 8 ∨ a.toInt = 9 ∨ a.toInt = 10 ∨ a.toInt = 11 ∨ a.toInt = 12 ∨ a.toInt = 13 ∨ a.toInt = 14 ∨ a.toInt = 15 ∨ a.toInt = 16 ∨ a.toInt = 17 := by omega
  rcases e with e | e | e | e | e | e | e | e | e | e | e | e | e | e | e | e | e | e
  · exact h0 (Int32.toInt_inj.mp (by rw [e]; rfl))
  · exact h1 (Int32.toInt_inj.mp (by rw [e]; rfl))
  · exact h2 (Int32.toInt_inj.mp (by rw [e]; rfl))
  · exact h3 (Int32.toInt_inj.mp (by rw [e]; rfl))
  · exact h4 (Int32.toInt_inj.mp (by rw [e]; rfl))
  · exact h5 (Int32.toInt_inj.mp (by rw [e]; rfl))
  · exact h6 (Int32.toInt_inj.mp (by rw [e]; rfl))
  · exact h7 (Int32.toInt_inj.mp (by rw [e]; rfl))
  · exact h8 (Int32.toInt_inj.mp (by rw [e]; rfl))
  · exact h9 (Int32.toInt_inj.mp (by rw [e]; rfl))
  · exact h10 (Int32.toInt_inj.mp (by rw [e]; rfl))
  · exact h11 (Int32.toInt_inj.mp (by rw [e]; rfl))
  · exact h12 (Int32.toInt_inj.mp (by rw [e]; rfl))
  · exact h13 (Int32.toInt_inj.mp (by rw [e]; rfl))
  · exact h14 (Int32.toInt_inj.mp (by rw [e]; rfl))
  · exact h15 (Int32.toInt_inj.mp (by rw [e]; rfl))
  · exact h16 (Int32.toInt_inj.mp (by rw [e]; rfl))
  · exact h17 (Int32.toInt_inj.mp (by rw [e]; rfl))
theorem k_0_6 {KS : List Ky} (h : ∀ k ∈ KK, k ∈ KS) : (0, 6, 0) ∈ KS := h _ (List.mem_append_left _ (by decide))
theorem k_0_0 {KS : List Ky} (h : ∀ k ∈ KK, k ∈ KS) : (0, 0, 0) ∈ KS := h _ (List.mem_append_left _ (by decide))
theorem k_0_1 {KS : List Ky} (h : ∀ k ∈ KK, k ∈ KS) : (0, 1, 0) ∈ KS := h _ (List.mem_append_left _ (by decide))
theorem k_0_2 {KS : List Ky} (h : ∀ k ∈ KK, k ∈ KS) : (0, 2, 0) ∈ KS := h _ (List.mem_append_left _ (by decide))
theorem k_0_4 {KS : List Ky} (h : ∀ k ∈ KK, k ∈ KS) : (0, 4, 0) ∈ KS := h _ (List.mem_append_left _ (by decide))
theorem k_0_5 {KS : List Ky} (h : ∀ k ∈ KK, k ∈ KS) : (0, 5, 0) ∈ KS := h _ (List.mem_append_left _ (by decide))
theorem k_2_1 {KS : List Ky} (h : ∀ k ∈ KK, k ∈ KS) : (2, 1, 0) ∈ KS := h _ (List.mem_append_left _ (by decide))
theorem k_1_2 {KS : List Ky} (h : ∀ k ∈ KK, k ∈ KS) : (1, 2, 0) ∈ KS := h _ (List.mem_append_left _ (by decide))
theorem k_1_3 {KS : List Ky} (h : ∀ k ∈ KK, k ∈ KS) : (1, 3, 0) ∈ KS := h _ (List.mem_append_left _ (by decide))
theorem k_1_4 {KS : List Ky} (h : ∀ k ∈ KK, k ∈ KS) : (1, 4, 0) ∈ KS := h _ (List.mem_append_left _ (by decide))
theorem k_1_51 {KS : List Ky} (h : ∀ k ∈ KK, k ∈ KS) : (1, 51, 0) ∈ KS := h _ (List.mem_append_left _ (by decide))
theorem k_1_52 {KS : List Ky} (h : ∀ k ∈ KK, k ∈ KS) : (1, 52, 0) ∈ KS := h _ (List.mem_append_left _ (by decide))
theorem k_1_53 {KS : List Ky} (h : ∀ k ∈ KK, k ∈ KS) : (1, 53, 0) ∈ KS := h _ (List.mem_append_left _ (by decide))
theorem k_1_201 {KS : List Ky} (h : ∀ k ∈ KK, k ∈ KS) : (1, 201, 0) ∈ KS := h _ (List.mem_append_left _ (by decide))
theorem k_1_202 {KS : List Ky} (h : ∀ k ∈ KK, k ∈ KS) : (1, 202, 0) ∈ KS := h _ (List.mem_append_left _ (by decide))
theorem k_1_203 {KS : List Ky} (h : ∀ k ∈ KK, k ∈ KS) : (1, 203, 0) ∈ KS := h _ (List.mem_append_left _ (by decide))
theorem k_1_204 {KS : List Ky} (h : ∀ k ∈ KK, k ∈ KS) : (1, 204, 0) ∈ KS := h _ (List.mem_append_left _ (by decide))
theorem k_1_205 {KS : List Ky} (h : ∀ k ∈ KK, k ∈ KS) : (1, 205, 0) ∈ KS := h _ (List.mem_append_left _ (by decide))
theorem k_1_206 {KS : List Ky} (h : ∀ k ∈ KK, k ∈ KS) : (1, 206, 0) ∈ KS := h _ (List.mem_append_left _ (by decide))
theorem k_1_208 {KS : List Ky} (h : ∀ k ∈ KK, k ∈ KS) : (1, 208, 0) ∈ KS := h _ (List.mem_append_left _ (by decide))
theorem k_1_209 {KS : List Ky} (h : ∀ k ∈ KK, k ∈ KS) : (1, 209, 0) ∈ KS := h _ (List.mem_append_left _ (by decide))
theorem k_3_255 {KS : List Ky} (h : ∀ k ∈ KK, k ∈ KS) : (3, 255, 0) ∈ KS := h _ (List.mem_append_left _ (by decide))
theorem k_1_256 {KS : List Ky} (h : ∀ k ∈ KK, k ∈ KS) : (1, 256, 0) ∈ KS := h _ (List.mem_append_left _ (by decide))
theorem kr_0 {KS : List Ky} (h : ∀ k ∈ KK, k ∈ KS) {j : Nat} (hj : j < 107) : (0, 3, j) ∈ KS := h _ (kk_row hj (by simp))
theorem kr_151 {KS : List Ky} (h : ∀ k ∈ KK, k ∈ KS) {j : Nat} (hj : j < 107) : (1, 151, j) ∈ KS := h _ (kk_row hj (by simp))
theorem kr_152 {KS : List Ky} (h : ∀ k ∈ KK, k ∈ KS) {j : Nat} (hj : j < 107) : (1, 152, j) ∈ KS := h _ (kk_row hj (by simp))
theorem kr_153 {KS : List Ky} (h : ∀ k ∈ KK, k ∈ KS) {j : Nat} (hj : j < 107) : (1, 153, j) ∈ KS := h _ (kk_row hj (by simp))
theorem kr_154 {KS : List Ky} (h : ∀ k ∈ KK, k ∈ KS) {j : Nat} (hj : j < 107) : (2, 154, j) ∈ KS := h _ (kk_row hj (by simp))
theorem kr_155 {KS : List Ky} (h : ∀ k ∈ KK, k ∈ KS) {j : Nat} (hj : j < 107) : (2, 155, j) ∈ KS := h _ (kk_row hj (by simp))
theorem k_0_7 {KS : List Ky} (h : ∀ k ∈ KM, k ∈ KS) : (0, 7, 0) ∈ KS := h _ (by decide)
theorem k_1_351 {KS : List Ky} (h : ∀ k ∈ KM, k ∈ KS) : (1, 351, 0) ∈ KS := h _ (by decide)
theorem km_351 : (1, 351, 0) ∈ KM := by decide
theorem k_1_352 {KS : List Ky} (h : ∀ k ∈ KM, k ∈ KS) : (1, 352, 0) ∈ KS := h _ (by decide)
theorem km_352 : (1, 352, 0) ∈ KM := by decide
theorem k_1_353 {KS : List Ky} (h : ∀ k ∈ KM, k ∈ KS) : (1, 353, 0) ∈ KS := h _ (by decide)
theorem km_353 : (1, 353, 0) ∈ KM := by decide
theorem k_1_354 {KS : List Ky} (h : ∀ k ∈ KM, k ∈ KS) : (1, 354, 0) ∈ KS := h _ (by decide)
theorem km_354 : (1, 354, 0) ∈ KM := by decide
theorem k_1_356 {KS : List Ky} (h : ∀ k ∈ KM, k ∈ KS) : (1, 356, 0) ∈ KS := h _ (by decide)
theorem km_356 : (1, 356, 0) ∈ KM := by decide
theorem k_1_357 {KS : List Ky} (h : ∀ k ∈ KM, k ∈ KS) : (1, 357, 0) ∈ KS := h _ (by decide)
theorem km_357 : (1, 357, 0) ∈ KM := by decide
theorem k_1_358 {KS : List Ky} (h : ∀ k ∈ KM, k ∈ KS) : (1, 358, 0) ∈ KS := h _ (by decide)
theorem km_358 : (1, 358, 0) ∈ KM := by decide
theorem k_1_359 {KS : List Ky} (h : ∀ k ∈ KM, k ∈ KS) : (1, 359, 0) ∈ KS := h _ (by decide)
theorem km_359 : (1, 359, 0) ∈ KM := by decide
theorem k_1_360 {KS : List Ky} (h : ∀ k ∈ KM, k ∈ KS) : (1, 360, 0) ∈ KS := h _ (by decide)
theorem km_360 : (1, 360, 0) ∈ KM := by decide
theorem k_1_361 {KS : List Ky} (h : ∀ k ∈ KM, k ∈ KS) : (1, 361, 0) ∈ KS := h _ (by decide)
theorem km_361 : (1, 361, 0) ∈ KM := by decide
theorem k_1_363 {KS : List Ky} (h : ∀ k ∈ KM, k ∈ KS) : (1, 363, 0) ∈ KS := h _ (by decide)
theorem km_363 : (1, 363, 0) ∈ KM := by decide
theorem k_1_364 {KS : List Ky} (h : ∀ k ∈ KM, k ∈ KS) : (1, 364, 0) ∈ KS := h _ (by decide)
theorem km_364 : (1, 364, 0) ∈ KM := by decide
theorem k_1_365 {KS : List Ky} (h : ∀ k ∈ KM, k ∈ KS) : (1, 365, 0) ∈ KS := h _ (by decide)
theorem km_365 : (1, 365, 0) ∈ KM := by decide
theorem k_1_367 {KS : List Ky} (h : ∀ k ∈ KM, k ∈ KS) : (1, 367, 0) ∈ KS := h _ (by decide)
theorem km_367 : (1, 367, 0) ∈ KM := by decide
theorem k_1_368 {KS : List Ky} (h : ∀ k ∈ KM, k ∈ KS) : (1, 368, 0) ∈ KS := h _ (by decide)
theorem km_368 : (1, 368, 0) ∈ KM := by decide
theorem k_1_369 {KS : List Ky} (h : ∀ k ∈ KM, k ∈ KS) : (1, 369, 0) ∈ KS := h _ (by decide)
theorem km_369 : (1, 369, 0) ∈ KM := by decide
theorem k_1_370 {KS : List Ky} (h : ∀ k ∈ KM, k ∈ KS) : (1, 370, 0) ∈ KS := h _ (by decide)
theorem km_370 : (1, 370, 0) ∈ KM := by decide
theorem k_1_371 {KS : List Ky} (h : ∀ k ∈ KM, k ∈ KS) : (1, 371, 0) ∈ KS := h _ (by decide)
theorem km_371 : (1, 371, 0) ∈ KM := by decide
theorem k_1_376 {KS : List Ky} (h : ∀ k ∈ KM, k ∈ KS) : (1, 376, 0) ∈ KS := h _ (by decide)
theorem km_376 : (1, 376, 0) ∈ KM := by decide
theorem k_1_377 {KS : List Ky} (h : ∀ k ∈ KM, k ∈ KS) : (1, 377, 0) ∈ KS := h _ (by decide)
theorem km_377 : (1, 377, 0) ∈ KM := by decide
theorem k_1_378 {KS : List Ky} (h : ∀ k ∈ KM, k ∈ KS) : (1, 378, 0) ∈ KS := h _ (by decide)
theorem km_378 : (1, 378, 0) ∈ KM := by decide
theorem k_1_381 {KS : List Ky} (h : ∀ k ∈ KM, k ∈ KS) : (1, 381, 0) ∈ KS := h _ (by decide)
theorem km_381 : (1, 381, 0) ∈ KM := by decide
theorem k_1_382 {KS : List Ky} (h : ∀ k ∈ KM, k ∈ KS) : (1, 382, 0) ∈ KS := h _ (by decide)
theorem km_382 : (1, 382, 0) ∈ KM := by decide
theorem k_1_384 {KS : List Ky} (h : ∀ k ∈ KM, k ∈ KS) : (1, 384, 0) ∈ KS := h _ (by decide)
theorem km_384 : (1, 384, 0) ∈ KM := by decide
theorem k_1_385 {KS : List Ky} (h : ∀ k ∈ KM, k ∈ KS) : (1, 385, 0) ∈ KS := h _ (by decide)
theorem km_385 : (1, 385, 0) ∈ KM := by decide
theorem k_1_386 {KS : List Ky} (h : ∀ k ∈ KM, k ∈ KS) : (1, 386, 0) ∈ KS := h _ (by decide)
theorem km_386 : (1, 386, 0) ∈ KM := by decide
theorem k_1_388 {KS : List Ky} (h : ∀ k ∈ KM, k ∈ KS) : (1, 388, 0) ∈ KS := h _ (by decide)
theorem km_388 : (1, 388, 0) ∈ KM := by decide
theorem k_1_389 {KS : List Ky} (h : ∀ k ∈ KM, k ∈ KS) : (1, 389, 0) ∈ KS := h _ (by decide)
theorem km_389 : (1, 389, 0) ∈ KM := by decide
