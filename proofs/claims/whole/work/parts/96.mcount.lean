/-! the reference: a whole term gets its number -/
def KT (n mm : Nat) : K11t := fun S a1 l3 l4 l5 l6 => l_X8_countTerm_11 n mm S a1 l3 l4 l5 l6
theorem ct_end {n mm k f s : Nat} {S : St} {p : Int32} (hm : 1 ≤ mm) (hk : 1 ≤ k) (hs : s < 2 ^ 31) : l_X8_countTerm_70 n (KT n mm) k S f p (nI s) mI (nI 1) = some (S, mI) := by
  obtain ⟨k, rfl⟩ : ∃ y, k = y + 1 := ⟨k - 1, by omega⟩
  obtain ⟨mm, rfl⟩ : ∃ y, mm = y + 1 := ⟨mm - 1, by omega⟩
  unfold l_X8_countTerm_70
  have e : j_X8_countTerm_219 n (KT n (mm + 1)) S f p (nI s) mI (nI 1) = some (S, mI) := by
    unfold j_X8_countTerm_219
    rw [if_pos (show mI < 0 from c_ml)]
    unfold j_X8_countTerm_233 j_X8_countTerm_234 KT
    show l_X8_countTerm_11 n (mm + 1) S f p (nI s) mI 0 = _
    unfold l_X8_countTerm_11
    rw [if_pos rfl]
  rw [if_neg (show ¬ nI 1 = 0 by decide)]
  by_cases z : nI s ≤ 0
  · rw [if_pos z]; exact e
  · rw [if_neg z, if_pos (show mI < 0 from c_ml)]; exact e
def frm (S : St) (a c i : Nat) : St := sI (sI S 386 0 (3 * a + c) (nI i)) 385 0 a (nI (c + 1))
theorem m3 (a : Nat) : (3 : Int32) * nI a = nI (3 * a) := by rw [k3]; unfold nI; rw [← Int32.ofNat_mul]
theorem ct_a {n k f a c i kd : Nat} {K : K11t} {S : St} {p : Int32} (ha : a < 150) (hc : c < 3) (hi : i < 2 ^ 30) (hkd : kd ≤ 6) (h4 : S.2.1 384 0 a = nI kd) (h5 : S.2.1 385 0 a = nI c) (hne : c + 1 ≠ ar kd) (hk : 2 ≤ k) : l_X8_countTerm_70 n K k S f p (nI (a + 1)) (nI i) (nI 1) = K (frm S a c i) f p (nI (a + 1)) (nI i) 1 := by
  obtain ⟨k, rfl⟩ : ∃ y, k = y + 2 := ⟨k - 2, by omega⟩
  have har := ar_le kd
  have h5' : (frm S a c i).2.1 385 0 a = nI (c + 1) := by unfold frm; rw [sI_eq]
  have h4' : (frm S a c i).2.1 384 0 a = nI kd := by unfold frm; rw [sI_ne (by omega), sI_ne (by omega)]; exact h4
  have h5a : (sI S 386 0 (3 * a + c) (nI i)).2.1 385 0 a = nI c := by rw [sI_ne (by omega)]; exact h5
  unfold l_X8_countTerm_70
  rw [if_neg (show ¬ nI 1 = 0 by decide), if_neg (nI_nle (by omega) (by omega)), if_neg (nI_pos (by omega)), bV_e, show nI (a + 1) - 1 = nI a from nI_pred _, gI_n (by omega) (by omega), h5, m3, nIa, pI_n (by omega) (by omega), gI_n (by omega) (by omega), h5a, nI_1, pI_n (by omega) (by omega)]
  rw [show sI (sI S 386 0 (3 * a + c) (nI i)) 385 0 a (nI (c + 1)) = frm S a c i from rfl]
  rw [gI_n (by omega) (by omega), h5', gI_n (by omega) (by omega), h4', s_partsOf8 hkd, bI_s, if_neg (show ¬ nI (c + 1) = nI (ar kd) by rw [nIeq (by omega) (by omega)]; exact hne)]
  unfold j_X8_countTerm_146
  rw [if_pos rfl]
  show l_X8_countTerm_70 n K (k + 1) (frm S a c i) f p (nI (a + 1)) (nI i) 0 = _
  unfold l_X8_countTerm_70
  rw [if_pos rfl]
  unfold j_X8_countTerm_219
  rw [if_neg (nI_pos (by omega)), if_pos rfl]
  rfl
theorem ct_b {n k f a c i kd : Nat} {K : K11t} {S : St} {p x0 x1 x2 : Int32} (ha : a < 150) (hc : c < 3) (hi : i < 2 ^ 30) (hkd : kd ≤ 6) (h4 : S.2.1 384 0 a = nI kd) (h5 : S.2.1 385 0 a = nI c) (hne : c + 1 = ar kd) (hk : 1 ≤ k) (e0 : (frm S a c i).2.1 386 0 (3 * a) = x0) (e1 : (frm S a c i).2.1 386 0 (3 * a + 1) = x1) (e2 : x2 = if kd = 6 then (frm S a c i).2.1 386 0 (3 * a + 2) else mI) : l_X8_countTerm_70 n K k S f p (nI (a + 1)) (nI i) (nI 1) = bI (f_X8_numberOfTerm n (frm S a c i) (nI kd) x0 x1 x2) fun S1 v => l_X8_countTerm_70 n K (k - 1) S1 f p (nI a) v (nI 1) := by
  obtain ⟨k, rfl⟩ : ∃ y, k = y + 1 := ⟨k - 1, by omega⟩
  have har := ar_le kd
  have h5' : (frm S a c i).2.1 385 0 a = nI (c + 1) := by unfold frm; rw [sI_eq]
  have h4' : (frm S a c i).2.1 384 0 a = nI kd := by unfold frm; rw [sI_ne (by omega), sI_ne (by omega)]; exact h4
  have h5a : (sI S 386 0 (3 * a + c) (nI i)).2.1 385 0 a = nI c := by rw [sI_ne (by omega)]; exact h5
  conv => lhs; unfold l_X8_countTerm_70
  rw [if_neg (show ¬ nI 1 = 0 by decide), if_neg (nI_nle (by omega) (by omega)), if_neg (nI_pos (by omega)), bV_e, show nI (a + 1) - 1 = nI a from nI_pred _, gI_n (by omega) (by omega), h5, m3, nIa, pI_n (by omega) (by omega), gI_n (by omega) (by omega), h5a, nI_1, pI_n (by omega) (by omega)]
  rw [show sI (sI S 386 0 (3 * a + c) (nI i)) 385 0 a (nI (c + 1)) = frm S a c i from rfl]
  rw [gI_n (by omega) (by omega), h5', gI_n (by omega) (by omega), h4', s_partsOf8 hkd, bI_s, if_pos (show nI (c + 1) = nI (ar kd) by rw [hne])]
  unfold j_X8_countTerm_146
  rw [if_neg (by decide), gI_n (by omega) (by omega), h4', m3, gI_n (by omega) (by omega), e0, nI_1, gI_n (by omega) (by omega), e1, gI_n (by omega) (by omega), h4']
  have d : nI (a + 1) + -1 = nI a := by rw [add_m1]; exact nI_pred _
  by_cases z : kd = 6
  · rw [if_pos (show nI kd = 6 by rw [z]; rfl), show nI (3 * a) + 2 = nI (3 * a + 2) from nIa _ 2, gI_n (by omega) (by omega)]
    rw [if_pos z] at e2
    rw [← e2]
    unfold j_X8_countTerm_208
    rw [d]
    rfl
  · rw [if_neg (show ¬ nI kd = 6 by rw [k6, nIeq (by omega) (by omega)]; exact z)]
    rw [if_neg z] at e2
    rw [e2]
    unfold j_X8_countTerm_208
    rw [d]
    rfl
