/-! the reference's isAtMost -/
theorem pk_rem3 {k : Nat} (hk : k < 2 ^ 31) : nI k - nI k / 3 * 3 = nI (k % 3) := pk_rem (d := 3) hk (by omega) (by omega)
theorem pk_div3 {k : Nat} (hk : k < 2 ^ 31) : nI k / 3 = nI (k / 3) := pk_div (d := 3) hk (by omega) (by omega)
theorem pk_div9 {k : Nat} (hk : k < 2 ^ 31) : nI k / 9 = nI (k / 9) := pk_div (d := 9) hk (by omega) (by omega)
abbrev leK (a b : List Nat) (k : Nat) : Bool := leB a b (cv 1000 (k % 3)) (cv 1000 (k / 3 % 3)) (cv 1000 (k / 9))
theorem cvn {K k : Nat} (h : k < 3) : (k = 2 → cv K k = K) ∧ (k ≠ 2 → cv K k = k) := by
  rcases (show k = 0 ∨ k = 1 ∨ k = 2 by omega) with rfl | rfl | rfl <;> simp [cv]
theorem nI_27d {d : Nat} (hd : d + 1 ≤ 27) : nI (27 - (d + 1)) + 1 = nI (27 - d) := by
  rw [nI_1]; congr 1; omega
section A2
theorem am2 {n f g o u : Nat} {a b : List Nat} (ha : okL a) (hb : okL b) (hla : a.length ≤ 16) (hlb : b.length ≤ 16) (hca : lc 1 a) (hcb : lc 1 b) (hn : 17 ≤ n) (S : St) (hf : ln f < 2 ^ 31) (hg : ln g < 2 ^ 31) (hfn : f ≠ 378) (hgn : g ≠ 378) (hsa : sg (S.2.1 f 0) o a) (hsb : sg (S.2.1 g 0) u b) (hoa : o + a.length ≤ ln f) (hob : u + b.length ≤ ln g) : ∀ (d m : Nat) (x : Nat → Int32), d ≤ 27 → d < m →
    ∃ x', l_X8_isAtMost_6 n m (rA S 378 x) f (nI o) g (nI u) 1 (nI (27 - d)) = some (rA S 378 x', if aD 27 (leK a b) d then 1 else 0) := by
  intro d
  induction d with
  | zero =>
    intro m x _ hm
    cases m with
    | zero => omega
    | succ m =>
      unfold l_X8_isAtMost_6
      rw [if_pos (show (27 : Int32) ≤ nI 27 from by decide +kernel)]
      exact ⟨x, rfl⟩
  | succ d ih =>
    intro m x hd hm
    cases m with
    | zero => omega
    | succ m =>
      unfold l_X8_isAtMost_6
      generalize hk : 27 - (d + 1) = k at *
      have hk27 : k < 27 := by omega
      rw [if_neg (show ¬ (27 : Int32) ≤ nI k from nI_ge (b := 27) hk27 (by omega)), if_neg (by decide)]
      have h1 : cv 1000 (k % 3) ≤ 1000 := cv_le (by omega)
      have h2 : cv 1000 (k / 3 % 3) ≤ 1000 := cv_le (by omega)
      have h3 : cv 1000 (k / 9) ≤ 1000 := cv_le (by omega)
      have hexp : aD 27 (leK a b) (d + 1) = (leK a b k && aD 27 (leK a b) d) := by
        show (leK a b (27 - (d + 1)) && aD 27 (leK a b) d) = _
        rw [hk]
      rw [hexp]
      have hnk : nI k + 1 = nI (27 - d) := by rw [← hk]; exact nI_27d hd
      -- the comparison
      have step : ∃ x', j_X8_isAtMost_82 n (fun S a1 l2 a3 l4 l5 l6 => l_X8_isAtMost_6 n m S a1 l2 a3 l4 l5 l6) (rA S 378 x) f (nI o) g (nI u) (nI k) (nI (cv 1000 (k % 3))) (nI (cv 1000 (k / 3 % 3))) (nI (cv 1000 (k / 9))) = some (rA S 378 x', if (leK a b k && aD 27 (leK a b) d) then 1 else 0) := by
        unfold j_X8_isAtMost_82
        obtain ⟨x1, e1⟩ := s_valueOf h1 h2 h3 ha hla hca (rA S 378 x) hf hfn (by rw [rA_ne hfn]; exact hsa) hoa hn
        rw [e1, bI_s, rA_rA]
        obtain ⟨x2, e2⟩ := s_valueOf h1 h2 h3 hb hlb hcb (rA S 378 x1) hg hgn (by rw [rA_ne hgn]; exact hsb) hob hn
        rw [e2, bI_s, rA_rA]
        have bd : ∀ l : List Nat, l.length ≤ 16 → (vs (cv 1000 (k % 3)) (cv 1000 (k / 3 % 3)) (cv 1000 (k / 9)) l).headD 0 < 2 ^ 31 := by
          intro l hl
          have h1 := vs_le h1 h2 h3 (l := l)
          cases hv : vs (cv 1000 (k % 3)) (cv 1000 (k / 3 % 3)) (cv 1000 (k / 9)) l with
          | nil => simp
          | cons v s => rw [hv] at h1; have := h1 v List.mem_cons_self; simp; omega
        by_cases hle : v1 (cv 1000 (k % 3)) (cv 1000 (k / 3 % 3)) (cv 1000 (k / 9)) a ≤ v1 (cv 1000 (k % 3)) (cv 1000 (k / 3 % 3)) (cv 1000 (k / 9)) b
        · have hB : leK a b k = true := decide_eq_true hle
          rw [if_neg (fun z => absurd ((nI_ltI (bd b hlb) (bd a hla)).mp z) (by unfold v1 at hle; omega)), hB, Bool.true_and]
          unfold j_X8_isAtMost_117
          rw [bV_e, hnk]
          exact ih m x2 (by omega) (by omega)
        · have hB : leK a b k = false := decide_eq_false hle
          rw [if_pos ((nI_ltI (bd b hlb) (bd a hla)).mpr (by unfold v1 at hle; omega)), hB, Bool.false_and]
          unfold j_X8_isAtMost_117
          rw [bV_e, hnk]
          cases m with
          | zero => omega
          | succ m =>
            refine ⟨x2, ?_⟩
            show l_X8_isAtMost_6 n (m + 1) (rA S 378 x2) f (nI o) g (nI u) 0 (nI (27 - d)) = _
            unfold l_X8_isAtMost_6
            by_cases h27 : (27 : Int32) ≤ nI (27 - d)
            · rw [if_pos h27]; rfl
            · rw [if_neg h27, if_pos rfl]; rfl
      have c1 := cvn (K := 1000) (k := k % 3) (by omega)
      have c2 := cvn (K := 1000) (k := k / 3 % 3) (by omega)
      have c3 := cvn (K := 1000) (k := k / 9) (by omega)
      have s3 : ∃ x', j_X8_isAtMost_60 n (fun S a1 l2 a3 l4 l5 l6 => l_X8_isAtMost_6 n m S a1 l2 a3 l4 l5 l6) (rA S 378 x) f (nI o) g (nI u) (nI k) (nI (cv 1000 (k % 3))) (nI (cv 1000 (k / 3 % 3))) = some (rA S 378 x', if (leK a b k && aD 27 (leK a b) d) then 1 else 0) := by
        unfold j_X8_isAtMost_60
        rw [pk_div9 (by omega)]
        by_cases h9 : k / 9 = 2
        · rw [if_pos ((nq2 (by omega)).mpr h9)]
          rw [c3.1 h9] at step
          exact step
        · rw [if_neg (fun z => h9 ((nq2 (by omega)).mp z))]
          rw [c3.2 h9] at step
          exact step
      have s2 : ∃ x', j_X8_isAtMost_36 n (fun S a1 l2 a3 l4 l5 l6 => l_X8_isAtMost_6 n m S a1 l2 a3 l4 l5 l6) (rA S 378 x) f (nI o) g (nI u) (nI k) (nI (cv 1000 (k % 3))) = some (rA S 378 x', if (leK a b k && aD 27 (leK a b) d) then 1 else 0) := by
        unfold j_X8_isAtMost_36
        rw [pk_div3 (by omega), pk_rem3 (by omega)]
        by_cases h9 : k / 3 % 3 = 2
        · rw [if_pos ((nq2 (by omega)).mpr h9)]
          rw [c2.1 h9] at s3
          exact s3
        · rw [if_neg (fun z => h9 ((nq2 (by omega)).mp z))]
          rw [c2.2 h9] at s3
          exact s3
      rw [pk_rem3 (by omega)]
      by_cases h9 : k % 3 = 2
      · rw [if_pos ((nq2 (by omega)).mpr h9)]
        rw [c1.1 h9] at s2
        exact s2
      · rw [if_neg (fun z => h9 ((nq2 (by omega)).mp z))]
        rw [c1.2 h9] at s2
        exact s2
end A2
theorem aD27 {a b : List Nat} (hla : a.length ≤ 16) (hlb : b.length ≤ 16) : aD 27 (leK a b) 27 = atB2 a b := by
  have h : aD 27 (leK a b) 27 = true ↔ atB2 a b = true := by
    rw [aD_iff (Nat.le_refl 27), atB2_iff, atM_any (K := 100) (L := 1000) (by omega) (by omega) hla hlb]
    constructor
    · intro h i j k hi hj hk
      have := h (i + 3 * j + 9 * k) (by omega) (by omega)
      have e1 : (i + 3 * j + 9 * k) % 3 = i := by omega
      have e2 : (i + 3 * j + 9 * k) / 3 % 3 = j := by omega
      have e3 : (i + 3 * j + 9 * k) / 9 = k := by omega
      have h2 : leB a b (cv 1000 ((i + 3 * j + 9 * k) % 3)) (cv 1000 ((i + 3 * j + 9 * k) / 3 % 3)) (cv 1000 ((i + 3 * j + 9 * k) / 9)) = true := this
      rw [e1, e2, e3] at h2
      exact of_decide_eq_true h2
    · intro h k _ hk
      exact decide_eq_true (h (k % 3) (k / 3 % 3) (k / 9) (by omega) (by omega) (by omega))
  cases h1 : aD 27 (leK a b) 27 <;> cases h2 : atB2 a b
  · rfl
  · exact absurd (h.mpr h2) (by rw [h1]; decide)
  · exact absurd (h.mp h1) (by rw [h2]; decide)
  · rfl
theorem s_isAtMost8 {n f g o u : Nat} {a b : List Nat} (ha : okL a) (hb : okL b) (hla : a.length ≤ 16) (hlb : b.length ≤ 16) (hca : lc 1 a) (hcb : lc 1 b) (hn : 28 ≤ n) (S : St) (hf : ln f < 2 ^ 31) (hg : ln g < 2 ^ 31) (hfn : f ≠ 378) (hgn : g ≠ 378) (hsa : sg (S.2.1 f 0) o a) (hsb : sg (S.2.1 g 0) u b) (hoa : o + a.length ≤ ln f) (hob : u + b.length ≤ ln g) : ∃ x, f_X8_isAtMost n S f (nI o) g (nI u) = some (rA S 378 x, if atB2 a b then 1 else 0) := by
  unfold f_X8_isAtMost g_X8_isAtMost
  obtain ⟨x, e⟩ := am2 (n := n) ha hb hla hlb hca hcb (by omega) S hf hg hfn hgn hsa hsb hoa hob 27 n (S.2.1 378 0) (by omega) (by omega)
  rw [rA_self, aD27 hla hlb] at e
  have e' : l_X8_isAtMost_6 n n S f (nI o) g (nI u) 1 0 = _ := e
  exact ⟨x, by rw [e']; exact zW_01 (z01 _)⟩
theorem s_isSameLevel {n f g o u : Nat} {a b : List Nat} (ha : okL a) (hb : okL b) (hla : a.length ≤ 16) (hlb : b.length ≤ 16) (hca : lc 1 a) (hcb : lc 1 b) (hn : 28 ≤ n) (S : St) (hf : ln f < 2 ^ 31) (hg : ln g < 2 ^ 31) (hfn : f ≠ 378) (hgn : g ≠ 378) (hsa : sg (S.2.1 f 0) o a) (hsb : sg (S.2.1 g 0) u b) (hoa : o + a.length ≤ ln f) (hob : u + b.length ≤ ln g) : ∃ x, f_X8_isSameLevel n S f (nI o) g (nI u) = some (rA S 378 x, if atB2 a b && atB2 b a then 1 else 0) := by
  unfold f_X8_isSameLevel g_X8_isSameLevel
  obtain ⟨x1, e1⟩ := s_isAtMost8 ha hb hla hlb hca hcb hn S hf hg hfn hgn hsa hsb hoa hob
  rw [e1, bI_s]
  cases h1 : atB2 a b with
  | false => exact ⟨x1, by rw [if_pos (by decide)]; exact zW_01 (Or.inl rfl)⟩
  | true =>
    rw [if_neg (by decide)]
    obtain ⟨x2, e2⟩ := s_isAtMost8 hb ha hlb hla hcb hca hn (rA S 378 x1) hg hf hgn hfn (by rw [rA_ne hgn]; exact hsb) (by rw [rA_ne hfn]; exact hsa) hob hoa
    rw [e2, bI_s, rA_rA]
    cases h2 : atB2 b a with
    | false => exact ⟨x2, by rw [if_pos (by decide)]; exact zW_01 (Or.inl rfl)⟩
    | true => exact ⟨x2, by rw [if_neg (by decide)]; exact zW_01 (Or.inr rfl)⟩
