/-! declarations: parameters, reasons -/
def anyP (p : Nat) (l : List Nat) : Bool := l.any (fun t => decide (4 + p ≤ t))
abbrev K5t : Type := St → Nat → Int32 → Int32 → Int32 → Int32 → Option (St × Int32)
theorem s_hb_in {n f p : Nat} {K : K5t} {S : St} {l1 l4 : Int32} (hf : 367 ≤ f ∧ f ≤ 371) (hp : p ≤ 2) : ∀ (l : List Nat) (mm q e : Nat) (fl : Bool), (∀ t ∈ l, t < 100) → sg (S.2.1 f 0) q l → e = q + l.length → e ≤ ln f → l.length < mm → l_X8_hasBelow_64 n K mm S f l1 (nI p) (zb fl) l4 (nI e) (nI q) = bI (f_X8_behindToken n S f l4) fun S2 v4 => K S2 f l1 (nI p) (zb (fl && !(anyP p l))) v4 := by
  obtain ⟨hf1, hf2⟩ := ln8 hf
  intro l
  induction l with
  | nil =>
    intro mm q e fl ht hs he hl hm
    obtain ⟨mm, rfl⟩ : ∃ y, mm = y + 1 := ⟨mm - 1, by omega⟩
    rw [List.length_nil] at he
    unfold l_X8_hasBelow_64
    rw [if_pos (show nI e ≤ nI q by rw [nIle (by omega) (by omega)]; omega), show (fl && !(anyP p [])) = fl by cases fl <;> rfl]
  | cons t l ih =>
    intro mm q e fl ht hs he hl hm
    obtain ⟨mm, rfl⟩ : ∃ y, mm = y + 1 := ⟨mm - 1, by omega⟩
    rw [List.length_cons] at he hm
    obtain ⟨h1, h2⟩ := hs
    have t1 := ht t List.mem_cons_self
    have hih := fun fl' => ih mm (q + 1) e fl' (fun x hx => ht x (List.mem_cons_of_mem _ hx)) h2 (by omega) hl (by omega)
    have an : anyP p (t :: l) = (decide (4 + p ≤ t) || anyP p l) := rfl
    conv => lhs; unfold l_X8_hasBelow_64
    rw [if_neg (show ¬ nI e ≤ nI q by rw [nIle (by omega) (by omega)]; omega)]
    unfold j_X8_hasBelow_89 j_X8_hasBelow_90
    cases fl with
    | false =>
      rw [if_pos (show zb false = 0 from rfl), bV_e, nI_1]
      have := hih false
      rw [Bool.false_and] at this ⊢
      exact this
    | true =>
      rw [if_neg (show ¬ zb true = 0 by decide), gI_n (by omega) (by omega), h1, an]
      rw [show (4 : Int32) + nI p = nI (4 + p) from nIa 4 p]
      by_cases z : 4 + p ≤ t
      · rw [if_pos (show nI (4 + p) ≤ nI t by rw [nIle (by omega) (by omega)]; exact z), bV_e, nI_1, decide_eq_true z]
        exact hih false
      · rw [if_neg (show ¬ nI (4 + p) ≤ nI t by rw [nIle (by omega) (by omega)]; exact z), bV_e, nI_1, decide_eq_false z, Bool.false_or]
        exact hih true
theorem hasP_c {p : Nat} {m : Mk} {r : List Mk} : hasP p (m :: r) = ((anyP p m.2.2.2.1 || anyP p m.2.2.2.2) || hasP p r) := rfl
theorem s_hb_l {n f p : Nat} {S : St} (hn : 10000 ≤ n) (hf : 367 ≤ f ∧ f ≤ 371) (hp : p ≤ 2) : ∀ (x : List Mk) (mm o e : Nat) (fl : Bool), (∀ m ∈ x, mW m) → sg (S.2.1 f 0) o (flt x) → e = o + (flt x).length → e ≤ ln f → (flt x).length ≤ 8000 → x.length < mm → l_X8_hasBelow_5 n mm S f (nI e) (nI p) (zb fl) (nI o) = some (S, zb (fl && !(hasP p x))) := by
  obtain ⟨hf1, hf2⟩ := ln8 hf
  intro x
  induction x with
  | nil =>
    intro mm o e fl hm hs he hl h8 hmm
    obtain ⟨mm, rfl⟩ : ∃ y, mm = y + 1 := ⟨mm - 1, by omega⟩
    rw [flt_n, List.length_nil] at he
    unfold l_X8_hasBelow_5
    rw [if_pos (show nI e ≤ nI o by rw [nIle (by omega) (by omega)]; omega), show (fl && !(hasP p [])) = fl by cases fl <;> rfl]
  | cons m r ih =>
    intro mm o e fl hm hs he hl h8 hmm
    obtain ⟨mm, rfl⟩ : ∃ y, mm = y + 1 := ⟨mm - 1, by omega⟩
    rw [List.length_cons] at hmm
    rw [flt_c] at hs he h8
    rw [List.length_append] at he h8
    have kk := sg_h hs
    obtain ⟨h1, h2⟩ := sg_app.mp hs
    have hmw := hm m List.mem_cons_self
    have tp := tks_pos m
    have m6 := hmw.1
    have bT := s_behindToken (n := n) (S := S) hf hmw h1 (by omega) (by omega)
    have hih := fun fl' => ih mm (o + (tks m).length) e fl' (fun y hy => hm y (List.mem_cons_of_mem _ hy)) h2 (by omega) hl (by omega) (by omega)
    have fin : ∀ l : List Nat, anyP p l = (anyP p m.2.2.2.1 || anyP p m.2.2.2.2) → (bI (f_X8_behindToken n S f (nI o)) fun S2 v4 => l_X8_hasBelow_5 n mm S2 f (nI e) (nI p) (zb (fl && !(anyP p l))) v4) = some (S, zb (fl && !(hasP p (m :: r)))) := by
      intro l hl'
      rw [bT, bI_s, hih, hl', hasP_c]
      congr 3
      cases fl <;> cases (anyP p m.2.2.2.1 || anyP p m.2.2.2.2) <;> rfl
    conv => lhs; unfold l_X8_hasBelow_5
    rw [if_neg (show ¬ nI e ≤ nI o by rw [nIle (by omega) (by omega)]; omega), gI_n (by omega) (by omega), kk]
    obtain ⟨_, _, w0, w2, w3, w4⟩ := hmw
    by_cases q0 : m.1 = 0
    · rw [if_pos (show nI m.1 = 0 by rw [q0]; rfl)]
      unfold j_X8_hasBelow_41 j_X8_hasBelow_58
      have tl : (tks m).length = m.2.2.2.1.length + 1 := by rw [tks_0 q0]; rfl
      rw [nI_1, if_neg (nI_nle (by omega) (by omega)), bT, bI_s]
      rw [tks_0 q0] at h1
      rw [s_hb_in hf hp m.2.2.2.1 n (o + 1) (o + (tks m).length) fl (lv100 (w0 q0).1) h1.2 (by omega) (by omega) (by omega)]
      exact fin _ (by rw [w4 (by omega)]; show _ = (_ || false); rw [Bool.or_false])
    · rw [if_neg (show ¬ nI m.1 = 0 by rw [k0, nIeq (by omega) (by omega)]; exact q0), gI_n (by omega) (by omega), kk]
      by_cases q2 : m.1 = 2
      · rw [if_pos (show nI m.1 = 2 by rw [q2]; rfl)]
        unfold j_X8_hasBelow_41 j_X8_hasBelow_58
        have tl : (tks m).length = (m.2.2.2.1 ++ m.2.2.2.2).length + 2 := by rw [tks_2 q2]; rfl
        rw [show nI o + 2 = nI (o + 2) from nIa o 2, if_neg (nI_nle (by omega) (by omega)), bT, bI_s]
        rw [tks_2 q2] at h1
        have ok12 : okL (m.2.2.2.1 ++ m.2.2.2.2) := fun t ht => by
          rcases List.mem_append.mp ht with z | z
          · exact (w2 q2).1.1 t z
          · exact (w2 q2).2.1 t z
        rw [s_hb_in hf hp (m.2.2.2.1 ++ m.2.2.2.2) n (o + 2) (o + (tks m).length) fl (lv100 ok12) h1.2.2 (by omega) (by omega) (by omega)]
        exact fin _ (by unfold anyP; rw [List.any_append])
      · rw [if_neg (show ¬ nI m.1 = 2 by rw [k2, nIeq (by omega) (by omega)]; exact q2)]
        unfold j_X8_hasBelow_41 j_X8_hasBelow_58
        rw [if_pos le0]
        have := s_hb_in (n := n) (K := fun S a1 l1 l2 l3 l4 => l_X8_hasBelow_5 n mm S a1 l1 l2 l3 l4) (S := S) (l1 := nI e) (l4 := nI o) hf hp [] n 0 0 fl (fun t ht => by cases ht) trivial rfl (by omega) (by simp; omega)
        rw [show (0 : Int32) = nI 0 from rfl, this]
        exact fin _ (by rw [w3 q0 q2, w4 q2]; rfl)
theorem s_hasBelow {n f p : Nat} {S : St} {x : List Mk} (hn : 10000 ≤ n) (hf : 367 ≤ f ∧ f ≤ 371) (hp : p ≤ 2) (hm : ∀ m ∈ x, mW m) (hs : sg (S.2.1 f 0) 0 (flt x)) (h8 : (flt x).length ≤ 8000) : f_X8_hasBelow n S f (nI (flt x).length) (nI p) = some (S, zb (!(hasP p x))) := by
  obtain ⟨hf1, hf2⟩ := ln8 hf
  have h := s_hb_l (n := n) hn hf hp x n 0 (flt x).length true hm hs (by omega) (by omega) h8 (by have := flt_ge x; omega)
  unfold f_X8_hasBelow g_X8_hasBelow
  have h' : l_X8_hasBelow_5 n n S f (nI (flt x).length) (nI p) 1 0 = some (S, zb (!(hasP p x))) := by
    rw [Bool.true_and] at h; exact h
  rw [h']
  cases hasP p x <;> rfl
/-- the first reason against a declaration, 0 if there is none -/
def hpv (p : Nat) (v : Option (List Mk)) : Bool := match v with
  | some y => hasP p y
  | none => false
def rs2 (Ns : List Nme) (x : List Mk) (v : Option (List Mk)) : Nat := match v with
  | none => 0
  | some y => (thn (tyS Ns 101 [] y) fun t => thn (nr Ns t) fun u => thn (nr Ns x) fun w => if mtc w u then (0, ([] : List Mk)) else (7, [])).1
def rsn (Ns : List Nme) (p : Nat) (x : List Mk) (v : Option (List Mk)) : Nat := if hasP p x || hpv p v then 8 else if (srt Ns (tyS Ns 101 [] x)).1 = 0 then rs2 Ns x v else (srt Ns (tyS Ns 101 [] x)).1
theorem rsn_8 {Ns : List Nme} {p : Nat} {x : List Mk} {v : Option (List Mk)} (h : (hasP p x || hpv p v) = true) : rsn Ns p x v = 8 := by unfold rsn; rw [if_pos h]
theorem rsn_n {Ns : List Nme} {p : Nat} {x : List Mk} {v : Option (List Mk)} (h : (hasP p x || hpv p v) = false) : rsn Ns p x v = if (srt Ns (tyS Ns 101 [] x)).1 = 0 then rs2 Ns x v else (srt Ns (tyS Ns 101 [] x)).1 := by unfold rsn; rw [if_neg (by rw [h]; simp)]
theorem rs2_s {Ns : List Nme} {x y : List Mk} : rs2 Ns x (some y) = (thn (tyS Ns 101 [] y) fun t => thn (nr Ns t) fun u => thn (nr Ns x) fun w => if mtc w u then (0, ([] : List Mk)) else (7, [])).1 := rfl
