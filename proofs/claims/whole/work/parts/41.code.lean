/-! the binds of the pure functions, where their first part is known -/
section BD
variable {β : Type}
theorem bI_s {S : St} {v : Int32} {k : St → Int32 → Option β} : bI (some (S, v)) k = k S v := rfl
theorem bL_s {S : St} {v : Int64} {k : St → Int64 → Option β} : bL (some (S, v)) k = k S v := rfl
theorem bU_s {S : St} {k : St → Option β} : bU (some S) k = k S := rfl
theorem bV_e {α : Type} {e : α} {k : α → Option β} : bV e k = k e := rfl
theorem pS_e {S : St} {f j : Nat} {v : Int32} {k : St → Option β} : pS S f j v k = k (sS S f j v) := rfl
theorem gI_n {S : St} {f j i L : Nat} {k : Int32 → Option β} (h : i < L) (hL : L < 2 ^ 31) : gI S f j (nI i) L k = k (S.2.1 f j i) := by
  unfold gI
  rw [if_neg (nI_in h hL), nI_clamp (by omega)]
theorem gL_n {S : St} {f j i L : Nat} {k : Int64 → Option β} (h : i < L) (hL : L < 2 ^ 31) : gL S f j (nI i) L k = k (S.2.2 f j i) := by
  unfold gL
  rw [if_neg (nI_in h hL), nI_clamp (by omega)]
theorem pI_n {S : St} {f j i L : Nat} {v : Int32} {k : St → Option β} (h : i < L) (hL : L < 2 ^ 31) : pI S f j (nI i) L v k = k (sI S f j i v) := by
  unfold pI
  rw [if_neg (nI_in h hL), nI_clamp (by omega)]
theorem pL_n {S : St} {f j i L : Nat} {v : Int64} {k : St → Option β} (h : i < L) (hL : L < 2 ^ 31) : pL S f j (nI i) L v k = k (sL S f j i v) := by
  unfold pL
  rw [if_neg (nI_in h hL), nI_clamp (by omega)]
end BD
theorem zW_01 {S : St} {v : Int32} (h : v = 0 ∨ v = 1) : zW (some (S, v)) = some (S, v) := by
  unfold zW
  dsimp only
  rw [if_pos h]
/-! levels: their tokens in prefix order (0 ZERO, 1 UP, 2 MAX, 3 IMAX, 4 .. 6 parameters), and these as one number -/
def eN : List Nat → Nat
  | [] => 0
  | t :: r => (t + 1) + 8 * eN r
def okL (l : List Nat) : Prop := ∀ t ∈ l, t ≤ 6
def en (l : List Nat) : Int64 := lN (eN l)
theorem okL_c {t : Nat} {l : List Nat} (h : okL (t :: l)) : t ≤ 6 ∧ okL l := ⟨h t List.mem_cons_self, fun x hx => h x (List.mem_cons_of_mem _ hx)⟩
theorem okL_cons {t : Nat} {l : List Nat} (h : t ≤ 6) (hl : okL l) : okL (t :: l) := fun x hx => by
  rcases List.mem_cons.mp hx with rfl | h9
  · exact h
  · exact hl x h9
theorem okL_app {a b : List Nat} (ha : okL a) (hb : okL b) : okL (a ++ b) := fun x hx => (List.mem_append.mp hx).elim (ha x) (hb x)
theorem okL_l {a b : List Nat} (h : okL (a ++ b)) : okL a := fun x hx => h x (List.mem_append_left _ hx)
theorem okL_r {a b : List Nat} (h : okL (a ++ b)) : okL b := fun x hx => h x (List.mem_append_right _ hx)
theorem okL_drop {l : List Nat} (h : okL l) (i : Nat) : okL (l.drop i) := fun x hx => h x (List.mem_of_mem_drop hx)
theorem okL_take {l : List Nat} (h : okL l) (i : Nat) : okL (l.take i) := fun x hx => h x (List.mem_of_mem_take hx)
theorem eN_lt {l : List Nat} (h : okL l) : eN l < 8 ^ l.length := by
  induction l with
  | nil => simp [eN]
  | cons t r ih =>
    obtain ⟨h1, h2⟩ := okL_c h
    have := ih h2
    simp only [eN, List.length_cons, Nat.pow_succ]
    omega
theorem p8_le {a b : Nat} (h : a ≤ b) : 8 ^ a ≤ 8 ^ b := Nat.pow_le_pow_right (by decide) h
theorem p8_2 (i : Nat) : 2 ^ (3 * i) = 8 ^ i := by rw [Nat.pow_mul]
theorem eN_64 {l : List Nat} (h : okL l) (hl : l.length ≤ 21) : eN l < 2 ^ 63 := by
  have h1 := eN_lt h
  have h2 := p8_le hl
  have h3 : (8 : Nat) ^ 21 = 2 ^ 63 := by decide +kernel
  omega
theorem eN_1 {l : List Nat} (h : okL l) : eN l / 8 = eN (l.drop 1) := by
  cases l with
  | nil => rfl
  | cons t r =>
    have := (okL_c h).1
    simp only [eN, List.drop_succ_cons, List.drop_zero]
    omega
theorem eN_div {l : List Nat} (h : okL l) (i : Nat) : eN l / 8 ^ i = eN (l.drop i) := by
  induction i with
  | zero => simp
  | succ i ih =>
    rw [Nat.pow_succ, ← Nat.div_div_eq_div_mul, ih, eN_1 (okL_drop h i), List.drop_drop]
/-- the mark at a place: a token and one, or 0 behind the end -/
def mk_ (l : List Nat) (i : Nat) : Nat := match l[i]? with
  | none => 0
  | some t => t + 1
theorem eN_mod {l : List Nat} (h : okL l) : eN l % 8 = mk_ l 0 := by
  cases l with
  | nil => rfl
  | cons t r =>
    have := (okL_c h).1
    simp only [eN, mk_, List.getElem?_cons_zero]
    omega
theorem mk_drop (l : List Nat) (i : Nat) : mk_ (l.drop i) 0 = mk_ l i := by
  unfold mk_
  rw [List.getElem?_drop]; simp
theorem mk_le {l : List Nat} (h : okL l) (i : Nat) : mk_ l i ≤ 7 := by
  unfold mk_
  cases hi : l[i]? with
  | none => simp
  | some t => have := h t (List.mem_of_getElem? hi); simp; omega
theorem mk_pos {l : List Nat} {i : Nat} : mk_ l i = 0 ↔ l.length ≤ i := by
  unfold mk_
  cases hi : l[i]? with
  | none => simp; exact List.getElem?_eq_none_iff.mp hi
  | some t =>
    have := (List.getElem?_eq_some_iff.mp hi).1
    simp; omega
theorem ush_en {l : List Nat} (h : okL l) (hl : l.length ≤ 21) {i : Nat} (hi : i < 21) : l_ushr (en l) (nI (3 * i)) = en (l.drop i) := by
  have hb := eN_64 h hl
  unfold l_ushr en
  rw [wb_shr (by omega) (by omega), p8_2, eN_div h]
theorem nI_and7 (n : Nat) : nI n &&& 7 = nI (n % 8) := by
  rw [pk_and (nI n) (m := 7) 3 (by decide)]
  show nI ((BitVec.ofNat 32 n).toNat % 8) = _
  rw [BitVec.toNat_ofNat]
  congr 1
  omega
theorem i3_mul (i : Nat) : (3 : Int32) * nI i = nI (3 * i) := pk_mul 3 i
theorem s_markAt {n : Nat} {S : St} {l : List Nat} (h : okL l) (hl : l.length ≤ 21) {i : Nat} (hi : i < 21) : f_X0_markAt n S (en l) (nI i) = some (S, nI (mk_ l i)) := by
  unfold f_X0_markAt
  rw [i3_mul, ush_en h hl hi]
  unfold en
  rw [lN_i, nI_and7, eN_mod (okL_drop h i), mk_drop]
theorem s_sizeOf_l {n : Nat} {l : List Nat} (h : okL l) (hl : l.length ≤ 16) : ∀ (m i : Nat) (S : St), i ≤ l.length → l.length - i < m → l_X0_sizeOf_2 n m S (en l) (nI i) = some (S, nI l.length) := by
  intro m
  induction m with
  | zero => intro i S _ h; omega
  | succ m ih =>
    intro i S hi hm
    unfold l_X0_sizeOf_2
    by_cases h16 : 16 ≤ i
    · have : i = l.length := by omega
      rw [if_pos (show (16 : Int32) ≤ nI i from nI_le (a := 16) h16 (by omega)), this]
    · rw [if_neg (show ¬ (16 : Int32) ≤ nI i from nI_ge (b := 16) (by omega) (by omega)), s_markAt h (by omega) (by omega), bI_s]
      by_cases hz : mk_ l i = 0
      · have : i = l.length := by have := mk_pos.mp hz; omega
        rw [if_pos (by rw [hz]; rfl), this]
      · have h7 := mk_le h i
        have hlt : i < l.length := by
          rcases Nat.lt_or_ge i l.length with q | q
          · exact q
          · exact absurd (mk_pos.mpr q) hz
        rw [if_neg (nI_ne0 (by omega) (by omega)), bV_e, nI_1]
        exact ih (i + 1) S hlt (by omega)
theorem s_sizeOf {n : Nat} {S : St} {l : List Nat} (h : okL l) (hl : l.length ≤ 16) (hn : 17 ≤ n) : f_X0_sizeOf n S (en l) = some (S, nI l.length) := by
  unfold f_X0_sizeOf
  exact s_sizeOf_l h hl n 0 S (by omega) (by omega)
theorem s_ofParameter {n : Nat} {S : St} {p : Nat} (hp : p < 3) : f_X0_ofParameter n S (nI p) = some (S, en [4 + p]) := by
  rcases (show p = 0 ∨ p = 1 ∨ p = 2 by omega) with rfl | rfl | rfl <;> rfl
theorem shl_en {l : List Nat} {i : Nat} (hi : i < 21) : l_shl (en l) (nI (3 * i)) = lN (eN l * 8 ^ i) := by
  unfold l_shl en
  rw [wb_shl _ (by omega), p8_2]
theorem eN_app (a b : List Nat) : eN (a ++ b) = eN a + 8 ^ a.length * eN b := by
  induction a with
  | nil => simp [eN]
  | cons t r ih =>
    simp only [List.cons_append, eN, List.length_cons, ih, Nat.pow_succ]
    rw [Nat.mul_add, Nat.mul_comm (8 ^ r.length) 8, Nat.mul_assoc]; omega
theorem or_en {a b : List Nat} (ha : okL a) (hb : okL b) (hl : a.length + b.length ≤ 21) : en a ||| lN (eN b * 8 ^ a.length) = en (a ++ b) := by
  have h := eN_64 (okL_app ha hb) (by rw [List.length_append]; omega)
  rw [eN_app] at h
  unfold en
  rw [g_or' (k := 3 * a.length) (p8_2 _) (eN_lt ha) (by rw [Nat.mul_comm]; omega), eN_app, Nat.mul_comm]
theorem s_ofUp {n : Nat} {S : St} {l : List Nat} (h : okL l) (hl : l.length ≤ 16) (hn : 17 ≤ n) : f_X0_ofUp n S (en l) = some (S, if l.length < 16 then en (1 :: l) else -1) := by
  unfold f_X0_ofUp
  rw [s_sizeOf h hl hn, bI_s]
  by_cases h16 : l.length < 16
  · rw [if_neg (show ¬ (16 : Int32) ≤ nI l.length from nI_ge (b := 16) h16 (by omega)), if_pos h16]
    have e : l_shl (en l) 3 = lN (eN l * 8 ^ 1) := shl_en (i := 1) (by omega)
    rw [e]
    exact congrArg (fun z => some (S, z)) (or_en (a := [1]) (fun x hx => by rw [List.mem_singleton.mp hx]; decide) h (by simp; omega))
  · rw [if_pos (show (16 : Int32) ≤ nI l.length from nI_le (a := 16) (by omega) (by omega)), if_neg h16]
theorem s_ofTwo {n : Nat} {S : St} {k : Nat} {a b : List Nat} (hk : k = 2 ∨ k = 3) (ha : okL a) (hb : okL b) (hla : a.length ≤ 16) (hlb : b.length ≤ 16) (hn : 17 ≤ n) : f_X0_ofTwo n S (nI k) (en a) (en b) = some (S, if 1 + a.length + b.length ≤ 16 then en (k :: (a ++ b)) else -1) := by
  unfold f_X0_ofTwo
  rw [s_sizeOf ha hla hn, bI_s, s_sizeOf hb hlb hn, bI_s]
  have e0 : (1 : Int32) + nI a.length = nI (1 + a.length) := nI_add 1 a.length
  rw [e0, nI_add]
  by_cases h16 : 1 + a.length + b.length ≤ 16
  · rw [if_pos (show nI (1 + a.length + b.length) ≤ (16 : Int32) from nI_le (b := 16) h16 (by omega)), if_pos h16]
    have e1 : l_shl (en a) 3 = lN (eN a * 8 ^ 1) := shl_en (i := 1) (by omega)
    rw [e1, i3_mul, shl_en (by omega)]
    have e2 : (nI k + 1).toInt64 = en [k] := by rcases hk with rfl | rfl <;> rfl
    rw [e2]
    have ok1 : okL [k] := fun x hx => by rw [List.mem_singleton.mp hx]; omega
    have e3 : en [k] ||| lN (eN a * 8 ^ 1) = en ([k] ++ a) := or_en (a := [k]) ok1 ha (by simp; omega)
    rw [e3]
    have e4 : en ([k] ++ a) ||| lN (eN b * 8 ^ (1 + a.length)) = en (([k] ++ a) ++ b) := by
      have := or_en (a := [k] ++ a) (okL_app ok1 ha) hb (by simp; omega)
      rw [List.length_append] at this
      exact this
    rw [e4]
    rfl
  · rw [if_neg (show ¬ nI (1 + a.length + b.length) ≤ (16 : Int32) from nI_ge (a := 16) (by omega) (by omega)), if_neg h16]
