/-! steps of the pure functions, one at a time -/
def i_m6 : -(nI 6) = m6 := rfl
theorem c_ml : mI < nI 0 := by decide
theorem c_10 : ¬ nI 1 = nI 0 := by decide
theorem c_0m : ¬ nI 0 ≤ mI := by decide
theorem c_m0 : mI ≤ nI 0 := by decide
theorem c_06 : ¬ nI 0 ≤ m6 := by decide
theorem c_60 : m6 < 0 := by decide
variable {α : Type} {x y : α} {a b : Nat}
theorem zt_le {inst : Decidable (nI a ≤ nI b)} (h : a ≤ b) (hb : b < 2 ^ 31) : (@ite α (nI a ≤ nI b) inst x y) = x := if_pos (by rw [nIle (by omega) hb]; exact h)
theorem zt_nle {inst : Decidable (nI a ≤ nI b)} (h : b < a) (ha : a < 2 ^ 31) : (@ite α (nI a ≤ nI b) inst x y) = y := if_neg (by rw [nIle ha (by omega)]; omega)
theorem zt_lt {inst : Decidable (nI a < nI b)} (h : a < b) (hb : b < 2 ^ 31) : (@ite α (nI a < nI b) inst x y) = x := if_pos (by rw [nIlt (by omega) hb]; exact h)
theorem zt_nlt {inst : Decidable (nI a < nI b)} (h : b ≤ a) (ha : a < 2 ^ 31) : (@ite α (nI a < nI b) inst x y) = y := if_neg (by rw [nIlt ha (by omega)]; omega)
theorem zt_eq {inst : Decidable (nI a = nI b)} (h : a = b) : (@ite α (nI a = nI b) inst x y) = x := if_pos (by rw [h])
theorem zt_ne {inst : Decidable (nI a = nI b)} (h : a ≠ b) (ha : a < 2 ^ 31) (hb : b < 2 ^ 31) : (@ite α (nI a = nI b) inst x y) = y := if_neg (by rw [nIeq ha hb]; exact h)
theorem zt_nm {inst : Decidable (nI a = mI)} (h : a < 2 ^ 31) : (@ite α (nI a = mI) inst x y) = y := if_neg (nI_ne_m h)
theorem zt_mm {inst : Decidable (mI = mI)} : (@ite α (mI = mI) inst x y) = x := if_pos rfl
theorem zt_ml {inst : Decidable (mI < nI 0)} : (@ite α (mI < nI 0) inst x y) = x := if_pos c_ml
theorem zt_0m {inst : Decidable (nI 0 ≤ mI)} : (@ite α (nI 0 ≤ mI) inst x y) = y := if_neg c_0m
theorem zt_m0 {inst : Decidable (mI ≤ nI 0)} : (@ite α (mI ≤ nI 0) inst x y) = x := if_pos c_m0
theorem zt_n6 {inst : Decidable (nI a = m6)} (h : a < 2 ^ 31) : (@ite α (nI a = m6) inst x y) = y := if_neg (fun z => nI_pos h (by rw [z]; exact c_60))
theorem zt_66 {inst : Decidable (m6 = m6)} : (@ite α (m6 = m6) inst x y) = x := if_pos rfl
theorem zt_06 {inst : Decidable (nI 0 ≤ m6)} : (@ite α (nI 0 ≤ m6) inst x y) = y := if_neg c_06
