/-! the law's own body: what stands while it goes -/
def LX (x : XC) (b L : Nat) (xs : Nat → Int32) : Prop := CX x code 7 RL ∧ x_R x = room_1 ∧ x_K x = KLw ∧ (x_l x).stackTraces = false ∧ va_X b L xs (x_s x) (x_s x).heap ∧ b < (x_s x).heap.size ∧ ¬ x_A x b ∧ L ≤ 2560
abbrev LV (x : XC) (b t : Nat) : List (Nat × Value) := [(0, .ref b), (1, .ref (x_ad x 0 6 0)), (2, .ref (x_ad x 0 7 0)), (3, .ref (x_ad x 2 900 0)), (4, .int (nI (5 * t)))]
/-- the law goes on from the end of its switch -/
def LK (x : XC) (b t kc ks : Nat) : Prop := ∀ (SC SM : St) (w : Nat → Int64) (P : PT) (Ns : List Nme), INV SC SM P Ns → WX x 7 kc ks (mx SC SM w) 1279 (LV x b t) []
theorem mx_out {SC SM : St} {w : Nat → Int64} {i : Nat} : (mx SC SM w).2.2 900 0 i = w i := by
  show (if (900 : Nat) = 900 ∧ (0 : Nat) = 0 then w else SC.2.2 900 0) i = w i
  rw [if_pos ⟨rfl, rfl⟩]
theorem vp_u0 {w : Nat → Int64} {v : Int64} : vp_updL w 0 v 0 = v := if_pos rfl
section LR
variable {x : XC} {b L : Nat} {xs : Nat → Int32} {kc ks : Nat} {S : St} {pc : Nat} {lv : List (Nat × Value)} {st : List Value}
theorem r_sld (h : LX x b L xs) {i : Int32} (hi : vp_in i L) (hd : decode code pc = .ok (.iaload, 1)) (kk : WX x 7 kc ks S (pc + 1) lv (.int (xs i.toNatClampNeg) :: st)) : WX x 7 kc ks S pc lv (.int i :: .ref b :: st) := by
  obtain ⟨hx, -, -, -, hX, hbl, hbA, -⟩ := h
  exact fun H locs ls hl hP hS => va_sld hx.1 hx.2.1 hX hbl hbA hS hi hd (kk H locs ls hl hP hS)
theorem r_slen (h : LX x b L xs) (hd : decode code pc = .ok (.arraylength, 1)) (kk : WX x 7 kc ks S (pc + 1) lv (.int (nI L) :: st)) : WX x 7 kc ks S pc lv (.ref b :: st) := by
  obtain ⟨hx, -, -, -, hX, hbl, hbA, -⟩ := h
  exact fun H locs ls hl hP hS => va_slen hx.1 hx.2.1 hX hbl hbA hS hd (kk H locs ls hl hP hS)
theorem r_cell (h : LX x b L xs) {t j k0 k4 : Nat} {jv : Int} (hj : 5 * t + j < L) (hjv : Int32.ofInt jv = nI j) (h0 : lv[k0]? = some (0, .ref b)) (h4 : lv[k4]? = some (4, .int (nI (5 * t)))) (d0 : decode code pc = .ok (.aload_n 0, 1)) (d1 : decode code (pc + 1) = .ok (.iload 4, 2)) (d2 : decode code (pc + 1 + 2) = .ok (.iconst jv, 1)) (d3 : decode code (pc + 1 + 2 + 1) = .ok (.iadd, 1)) (d4 : decode code (pc + 1 + 2 + 1 + 1) = .ok (.iaload, 1))
    (kk : WX x 7 kc ks S (pc + 1 + 2 + 1 + 1 + 1) lv (.int (xs (5 * t + j)) :: st)) : WX x 7 kc ks S pc lv st := by
  have hx := h.1
  have hL : L ≤ 2560 := h.2.2.2.2.2.2.2
  refine r_aload_n hx d0 rfl h0 ?_
  refine r_iload hx d1 h4 ?_
  refine r_iconst hx d2 hjv ?_
  refine r_iadd hx d3 ?_
  rw [nIa]
  refine r_sld h (vp_in_nI hj (by omega)) d4 ?_
  rw [nI_clamp (by omega)]
  exact kk
end LR
