/-! at most: 100 of the class against 1000 of the reference -/
def v1 (p q r : Nat) (l : List Nat) : Nat := (vs p q r l).headD 0
def cv (K i : Nat) : Nat := if i = 0 then 0 else if i = 1 then 1 else K
def atM (K : Nat) (a b : List Nat) : Prop := ∀ i j k, i < 3 → j < 3 → k < 3 → v1 (cv K i) (cv K j) (cv K k) a ≤ v1 (cv K i) (cv K j) (cv K k) b
/-- a value is small, or large with a number added -/
def sK (K : Nat) (x : Bool × Nat) : Nat := if x.1 then K + x.2 else x.2
def sM (x y : Bool × Nat) : Bool × Nat := if x.1 = y.1 then (if x.2 < y.2 then y else x) else if y.1 then y else x
def sC (i : Nat) : Bool × Nat := if i = 0 then (false, 0) else if i = 1 then (false, 1) else (true, 0)
def vz (i j k : Nat) : List Nat → List (Bool × Nat)
  | [] => []
  | t :: l => if t = 1 then (match vz i j k l with
      | a :: s => (a.1, a.2 + 1) :: s
      | [] => [])
    else if t = 2 then (match vz i j k l with
      | a :: b :: s => sM a b :: s
      | s => s)
    else if t = 3 then (match vz i j k l with
      | a :: b :: s => (if b = (false, 0) then (false, 0) else sM a b) :: s
      | s => s)
    else (if t = 0 then (false, 0) else if t = 4 then sC i else if t = 5 then sC j else sC k) :: vz i j k l
theorem sM_in (x y : Bool × Nat) : sM x y = x ∨ sM x y = y := by
  unfold sM
  split
  · split
    · exact Or.inr rfl
    · exact Or.inl rfl
  · split
    · exact Or.inr rfl
    · exact Or.inl rfl
theorem vz_le {i j k : Nat} : ∀ {l : List Nat}, ∀ x ∈ vz i j k l, x.2 ≤ l.length := by
  intro l
  induction l with
  | nil => intro x hx; cases hx
  | cons t l ih =>
    intro x hx
    unfold vz at hx
    rw [List.length_cons]
    have hC : ∀ u, (sC u).2 ≤ 1 := by intro u; unfold sC; split; · simp
                                      · split <;> simp
    by_cases t1 : t = 1
    · rw [if_pos t1] at hx
      match hs : vz i j k l, ih, hx with
      | [], _, hx => cases hx
      | a :: s, ih, hx =>
        dsimp only at hx
        rcases List.mem_cons.mp hx with rfl | h
        · have := ih a List.mem_cons_self; dsimp only; omega
        · have := ih x (List.mem_cons_of_mem _ h); omega
    · rw [if_neg t1] at hx
      by_cases t2 : t = 2
      · rw [if_pos t2] at hx
        match hs : vz i j k l, ih, hx with
        | [], _, hx => cases hx
        | [a], ih, hx => have := ih x hx; omega
        | a :: b :: s, ih, hx =>
          dsimp only at hx
          have h1 := ih a List.mem_cons_self
          have h2 := ih b (List.mem_cons_of_mem _ List.mem_cons_self)
          rcases List.mem_cons.mp hx with rfl | h
          · rcases sM_in a b with e | e <;> rw [e] <;> omega
          · have := ih x (List.mem_cons_of_mem _ (List.mem_cons_of_mem _ h)); omega
      · rw [if_neg t2] at hx
        by_cases t3 : t = 3
        · rw [if_pos t3] at hx
          match hs : vz i j k l, ih, hx with
          | [], _, hx => cases hx
          | [a], ih, hx => have := ih x hx; omega
          | a :: b :: s, ih, hx =>
            dsimp only at hx
            have h1 := ih a List.mem_cons_self
            have h2 := ih b (List.mem_cons_of_mem _ List.mem_cons_self)
            rcases List.mem_cons.mp hx with rfl | h
            · split
              · simp
              · rcases sM_in a b with e | e <;> rw [e] <;> omega
            · have := ih x (List.mem_cons_of_mem _ (List.mem_cons_of_mem _ h)); omega
        · rw [if_neg t3] at hx
          rcases List.mem_cons.mp hx with rfl | h
          · have := hC i; have := hC j; have := hC k
            split
            · simp
            · split
              · omega
              · split <;> omega
          · have := ih x h; omega
theorem sK_M {K : Nat} {x y : Bool × Nat} (hx : x.2 ≤ 16) (hy : y.2 ≤ 16) (hK : 17 ≤ K) : sK K (sM x y) = if sK K x < sK K y then sK K y else sK K x := by
  obtain ⟨bx, cx⟩ := x
  obtain ⟨by', cy⟩ := y
  dsimp only at hx hy
  by_cases h : cx < cy
  · cases bx <;> cases by' <;> simp [sM, sK, h] <;> (try split) <;> omega
  · cases bx <;> cases by' <;> simp [sM, sK, h] <;> (try split) <;> omega
theorem sK_0 {K : Nat} {x : Bool × Nat} (hK : 17 ≤ K) : sK K x = 0 ↔ x = (false, 0) := by
  obtain ⟨b, c⟩ := x
  cases b <;> simp [sK]
  omega
theorem sK_C {K i : Nat} (hi : i < 3) : sK K (sC i) = cv K i := by
  rcases (show i = 0 ∨ i = 1 ∨ i = 2 by omega) with rfl | rfl | rfl <;> simp [sK, sC, cv]
theorem vs_vz {K i j k : Nat} (hK : 17 ≤ K) (hi : i < 3) (hj : j < 3) (hk : k < 3) : ∀ {l : List Nat}, l.length ≤ 16 → vs (cv K i) (cv K j) (cv K k) l = (vz i j k l).map (sK K) := by
  intro l
  induction l with
  | nil => intro _; rfl
  | cons t l ih =>
    intro hl
    rw [List.length_cons] at hl
    have e := ih (by omega)
    have hb := vz_le (i := i) (j := j) (k := k) (l := l)
    unfold vs vz
    by_cases t1 : t = 1
    · rw [if_pos t1, if_pos t1, e]
      match vz i j k l with
      | [] => rfl
      | a :: s =>
        simp only [List.map_cons]
        congr 1
        unfold sK
        split <;> simp <;> omega
    · rw [if_neg t1, if_neg t1]
      by_cases t2 : t = 2
      · rw [if_pos t2, if_pos t2, e]
        match vz i j k l, hb with
        | [], _ => rfl
        | [a], _ => rfl
        | a :: b :: s, hb =>
          have h1 := hb a List.mem_cons_self
          have h2 := hb b (List.mem_cons_of_mem _ List.mem_cons_self)
          simp only [List.map_cons]
          rw [sK_M (by omega) (by omega) hK]
      · rw [if_neg t2, if_neg t2]
        by_cases t3 : t = 3
        · rw [if_pos t3, if_pos t3, e]
          match vz i j k l, hb with
          | [], _ => rfl
          | [a], _ => rfl
          | a :: b :: s, hb =>
            have h1 := hb a List.mem_cons_self
            have h2 := hb b (List.mem_cons_of_mem _ List.mem_cons_self)
            simp only [List.map_cons]
            congr 1
            by_cases hb0 : b = (false, 0)
            · rw [if_pos ((sK_0 hK).mpr hb0), if_pos hb0]; rfl
            · rw [if_neg (fun z => hb0 ((sK_0 hK).mp z)), if_neg hb0, sK_M (by omega) (by omega) hK]
        · rw [if_neg t3, if_neg t3, List.map_cons, e]
          congr 1
          by_cases t0 : t = 0
          · rw [if_pos t0, if_pos t0]; rfl
          · rw [if_neg t0, if_neg t0]
            by_cases t4 : t = 4
            · rw [if_pos t4, if_pos t4, sK_C hi]
            · rw [if_neg t4, if_neg t4]
              by_cases t5 : t = 5
              · rw [if_pos t5, if_pos t5, sK_C hj]
              · rw [if_neg t5, if_neg t5, sK_C hk]
theorem sK_le {K L : Nat} {x y : Bool × Nat} (hx : x.2 ≤ 16) (hy : y.2 ≤ 16) (hK : 17 ≤ K) (hL : 17 ≤ L) : sK K x ≤ sK K y ↔ sK L x ≤ sK L y := by
  obtain ⟨bx, cx⟩ := x
  obtain ⟨by', cy⟩ := y
  dsimp only at hx hy
  cases bx <;> cases by' <;> simp [sK] <;> omega
theorem v1_vz {K i j k : Nat} {l : List Nat} (hK : 17 ≤ K) (hi : i < 3) (hj : j < 3) (hk : k < 3) (hl : l.length ≤ 16) : v1 (cv K i) (cv K j) (cv K k) l = sK K ((vz i j k l).headD (false, 0)) := by
  unfold v1
  rw [vs_vz hK hi hj hk hl]
  cases vz i j k l with
  | nil => rfl
  | cons a s => rfl
theorem hd_le {i j k : Nat} {l : List Nat} (hl : l.length ≤ 16) : ((vz i j k l).headD (false, 0)).2 ≤ 16 := by
  have := vz_le (i := i) (j := j) (k := k) (l := l)
  cases h : vz i j k l with
  | nil => simp
  | cons a s => rw [h] at this; have := this a List.mem_cons_self; simp; omega
theorem atM_any {K L : Nat} {a b : List Nat} (hK : 17 ≤ K) (hL : 17 ≤ L) (ha : a.length ≤ 16) (hb : b.length ≤ 16) : atM K a b ↔ atM L a b := by
  unfold atM
  constructor
  · intro h i j k hi hj hk
    have := h i j k hi hj hk
    rw [v1_vz hK hi hj hk ha, v1_vz hK hi hj hk hb] at this
    rw [v1_vz hL hi hj hk ha, v1_vz hL hi hj hk hb]
    exact (sK_le (hd_le ha) (hd_le hb) hK hL).mp this
  · intro h i j k hi hj hk
    have := h i j k hi hj hk
    rw [v1_vz hL hi hj hk ha, v1_vz hL hi hj hk hb] at this
    rw [v1_vz hK hi hj hk ha, v1_vz hK hi hj hk hb]
    exact (sK_le (hd_le ha) (hd_le hb) hK hL).mpr this
/-! the class's loops -/
def aD (N : Nat) (f : Nat → Bool) : Nat → Bool
  | 0 => true
  | d + 1 => f (N - (d + 1)) && aD N f d
theorem aD_iff {N : Nat} {f : Nat → Bool} : ∀ {d : Nat}, d ≤ N → (aD N f d = true ↔ ∀ k, N - d ≤ k → k < N → f k = true) := by
  intro d
  induction d with
  | zero => intro _; simp only [aD, true_iff]; intro k h1 h2; omega
  | succ d ih =>
    intro hd
    unfold aD
    rw [Bool.and_eq_true, ih (by omega)]
    constructor
    · intro ⟨h1, h2⟩ k h3 h4
      by_cases e : k = N - (d + 1)
      · rw [e]; exact h1
      · exact h2 k (by omega) h4
    · intro h
      exact ⟨h _ (Nat.le_refl _) (by omega), fun k h1 h2 => h k (by omega) h2⟩
theorem gT_n {β : Type} {i : Nat} {k : Int32 → Option β} (h : i < 3) : gT (nI i) k = k (nI (cv 100 i)) := by
  unfold gT
  rw [if_neg (nI_in h (by omega)), nI_clamp (by omega)]
  rcases (show i = 0 ∨ i = 1 ∨ i = 2 by omega) with rfl | rfl | rfl <;> rfl
theorem cv_le {K i : Nat} (hK : 1 ≤ K) : cv K i ≤ K := by
  unfold cv
  split
  · omega
  · split <;> omega
section AM
abbrev leB (a b : List Nat) (p q r : Nat) : Bool := decide (v1 p q r a ≤ v1 p q r b)
theorem nI_3d {d : Nat} (hd : d + 1 ≤ 3) : nI (3 - (d + 1)) + 1 = nI (3 - d) := by
  rw [nI_1]; congr 1; omega
theorem am_in {n : Nat} {a b : List Nat} (ha : okL a) (hb : okL b) (hla : a.length ≤ 16) (hlb : b.length ≤ 16) (hca : lc 1 a) (hcb : lc 1 b) (hn : 17 ≤ n) (S : St) {K13 : St → Int64 → Int64 → Int32 → Int32 → Option (St × Int32)} {K40 : St → Int64 → Int64 → Int32 → Int32 → Int32 → Int32 → Int32 → Option (St × Int32)} {P Q : Nat} (hP : P ≤ 1000) (hQ : Q ≤ 1000) {l6 l7 l10 l11 : Int32} : ∀ (d m : Nat) (x : Nat → Int32), d ≤ 3 → d < m →
    ∃ x', l_X1_isAtMost_67 n K13 K40 m (rA S 4 x) (en a) (en b) l6 l7 (nI P) l10 l11 (nI Q) 3 (nI (3 - d)) = if aD 3 (fun k => leB a b P Q (cv 100 k)) d then K40 (rA S 4 x') (en a) (en b) l6 l7 (nI P) l10 (l11 + 1) else some (rA S 4 x', 0) := by
  intro d
  induction d with
  | zero =>
    intro m x _ hm
    cases m with
    | zero => omega
    | succ m =>
      unfold l_X1_isAtMost_67
      rw [if_pos (show (3 : Int32) ≤ nI 3 from by decide +kernel)]
      exact ⟨x, rfl⟩
  | succ d ih =>
    intro m x hd hm
    cases m with
    | zero => omega
    | succ m =>
      unfold l_X1_isAtMost_67
      rw [if_neg (show ¬ (3 : Int32) ≤ nI (3 - (d + 1)) from nI_ge (b := 3) (by omega) (by omega)), gT_n (by omega)]
      have hc : cv 100 (3 - (d + 1)) ≤ 1000 := Nat.le_trans (cv_le (by omega)) (by omega)
      obtain ⟨x1, e1⟩ := s_worth hP hQ hc ha hla hca hn (rA S 4 x)
      rw [e1, bI_s, rA_rA]
      obtain ⟨x2, e2⟩ := s_worth hP hQ hc hb hlb hcb hn (rA S 4 x1)
      rw [e2, bI_s, rA_rA]
      show ∃ x', _ = if (leB a b P Q (cv 100 (3 - (d + 1))) && aD 3 (fun k => leB a b P Q (cv 100 k)) d) then _ else _
      have bd : ∀ l : List Nat, l.length ≤ 16 → (vs P Q (cv 100 (3 - (d + 1))) l).headD 0 < 2 ^ 31 := by
        intro l hl
        have h1 := vs_le hP hQ hc (l := l)
        cases hv : vs P Q (cv 100 (3 - (d + 1))) l with
        | nil => simp
        | cons v s => rw [hv] at h1; have := h1 v List.mem_cons_self; simp; omega
      by_cases hle : v1 P Q (cv 100 (3 - (d + 1))) a ≤ v1 P Q (cv 100 (3 - (d + 1))) b
      · rw [if_pos ((nI_leI (bd a hla) (bd b hlb)).mpr hle), bV_e, nI_3d hd]
        have : leB a b P Q (cv 100 (3 - (d + 1))) = true := decide_eq_true hle
        rw [this, Bool.true_and]
        exact ih m x2 (by omega) (by omega)
      · rw [if_neg (fun z => hle ((nI_leI (bd a hla) (bd b hlb)).mp z))]
        have : leB a b P Q (cv 100 (3 - (d + 1))) = false := decide_eq_false hle
        rw [this, Bool.false_and]
        exact ⟨x2, rfl⟩
theorem am_mid {n : Nat} {a b : List Nat} (ha : okL a) (hb : okL b) (hla : a.length ≤ 16) (hlb : b.length ≤ 16) (hca : lc 1 a) (hcb : lc 1 b) (hn : 17 ≤ n) (S : St) {K13 : St → Int64 → Int64 → Int32 → Int32 → Option (St × Int32)} {P : Nat} (hP : P ≤ 1000) {l6 l7 : Int32} : ∀ (d m : Nat) (x : Nat → Int32), d ≤ 3 → d < m →
    ∃ x', l_X1_isAtMost_40 n K13 m (rA S 4 x) (en a) (en b) l6 l7 (nI P) 3 (nI (3 - d)) = if aD 3 (fun j => aD 3 (fun k => leB a b P (cv 100 j) (cv 100 k)) 3) d then K13 (rA S 4 x') (en a) (en b) l6 (l7 + 1) else some (rA S 4 x', 0) := by
  intro d
  induction d with
  | zero =>
    intro m x _ hm
    cases m with
    | zero => omega
    | succ m =>
      unfold l_X1_isAtMost_40
      rw [if_pos (show (3 : Int32) ≤ nI 3 from by decide +kernel)]
      exact ⟨x, rfl⟩
  | succ d ih =>
    intro m x hd hm
    cases m with
    | zero => omega
    | succ m =>
      unfold l_X1_isAtMost_40
      rw [if_neg (show ¬ (3 : Int32) ≤ nI (3 - (d + 1)) from nI_ge (b := 3) (by omega) (by omega)), gT_n (by omega)]
      have hc : cv 100 (3 - (d + 1)) ≤ 1000 := Nat.le_trans (cv_le (by omega)) (by omega)
      obtain ⟨x1, e1⟩ := am_in ha hb hla hlb hca hcb hn S (K13 := K13) (K40 := fun S l1 l3 l6 l7 l8 l10 l11 => l_X1_isAtMost_40 n K13 m S l1 l3 l6 l7 l8 l10 l11) hP hc (l6 := l6) (l7 := l7) (l10 := 3) (l11 := nI (3 - (d + 1))) 3 n x (by omega) (by omega)
      have e1' : l_X1_isAtMost_67 n K13 (fun S l1 l3 l6 l7 l8 l10 l11 => l_X1_isAtMost_40 n K13 m S l1 l3 l6 l7 l8 l10 l11) n (rA S 4 x) (en a) (en b) l6 l7 (nI P) 3 (nI (3 - (d + 1))) (nI (cv 100 (3 - (d + 1)))) 3 0 = _ := e1
      rw [e1']
      show ∃ x', _ = if (aD 3 (fun k => leB a b P (cv 100 (3 - (d + 1))) (cv 100 k)) 3 && aD 3 (fun j => aD 3 (fun k => leB a b P (cv 100 j) (cv 100 k)) 3) d) then _ else _
      cases hA : aD 3 (fun k => leB a b P (cv 100 (3 - (d + 1))) (cv 100 k)) 3 with
      | true =>
        rw [if_pos rfl, Bool.true_and, nI_3d hd]
        exact ih m x1 (by omega) (by omega)
      | false =>
        rw [if_neg (by simp), Bool.false_and]
        exact ⟨x1, rfl⟩
theorem am_out {n : Nat} {a b : List Nat} (ha : okL a) (hb : okL b) (hla : a.length ≤ 16) (hlb : b.length ≤ 16) (hca : lc 1 a) (hcb : lc 1 b) (hn : 17 ≤ n) (S : St) : ∀ (d m : Nat) (x : Nat → Int32), d ≤ 3 → d < m →
    ∃ x', l_X1_isAtMost_13 n m (rA S 4 x) (en a) (en b) 3 (nI (3 - d)) = some (rA S 4 x', if aD 3 (fun i => aD 3 (fun j => aD 3 (fun k => leB a b (cv 100 i) (cv 100 j) (cv 100 k)) 3) 3) d then 1 else 0) := by
  intro d
  induction d with
  | zero =>
    intro m x _ hm
    cases m with
    | zero => omega
    | succ m =>
      unfold l_X1_isAtMost_13
      rw [if_pos (show (3 : Int32) ≤ nI 3 from by decide +kernel)]
      exact ⟨x, rfl⟩
  | succ d ih =>
    intro m x hd hm
    cases m with
    | zero => omega
    | succ m =>
      unfold l_X1_isAtMost_13
      rw [if_neg (show ¬ (3 : Int32) ≤ nI (3 - (d + 1)) from nI_ge (b := 3) (by omega) (by omega)), gT_n (by omega)]
      have hc : cv 100 (3 - (d + 1)) ≤ 1000 := Nat.le_trans (cv_le (by omega)) (by omega)
      obtain ⟨x1, e1⟩ := am_mid ha hb hla hlb hca hcb hn S (K13 := fun S l1 l3 l6 l7 => l_X1_isAtMost_13 n m S l1 l3 l6 l7) hc (l6 := 3) (l7 := nI (3 - (d + 1))) 3 n x (by omega) (by omega)
      have e1' : l_X1_isAtMost_40 n (fun S l1 l3 l6 l7 => l_X1_isAtMost_13 n m S l1 l3 l6 l7) n (rA S 4 x) (en a) (en b) 3 (nI (3 - (d + 1))) (nI (cv 100 (3 - (d + 1)))) 3 0 = _ := e1
      rw [e1']
      show ∃ x', _ = some (rA S 4 x', if (aD 3 (fun j => aD 3 (fun k => leB a b (cv 100 (3 - (d + 1))) (cv 100 j) (cv 100 k)) 3) 3 && aD 3 (fun i => aD 3 (fun j => aD 3 (fun k => leB a b (cv 100 i) (cv 100 j) (cv 100 k)) 3) 3) d) then 1 else 0)
      cases hA : aD 3 (fun j => aD 3 (fun k => leB a b (cv 100 (3 - (d + 1))) (cv 100 j) (cv 100 k)) 3) 3 with
      | true =>
        rw [if_pos rfl, Bool.true_and, nI_3d hd]
        exact ih m x1 (by omega) (by omega)
      | false =>
        rw [if_neg (by simp), Bool.false_and]
        exact ⟨x1, rfl⟩
end AM
/-- level a is at most level b -/
def atB2 (a b : List Nat) : Bool := aD 3 (fun i => aD 3 (fun j => aD 3 (fun k => leB a b (cv 100 i) (cv 100 j) (cv 100 k)) 3) 3) 3
theorem atB2_iff (a b : List Nat) : atB2 a b = true ↔ atM 100 a b := by
  unfold atB2 atM
  rw [aD_iff (Nat.le_refl 3)]
  constructor
  · intro h i j k hi hj hk
    exact of_decide_eq_true ((aD_iff (Nat.le_refl 3)).mp ((aD_iff (Nat.le_refl 3)).mp (h i (by omega) hi) j (by omega) hj) k (by omega) hk)
  · intro h i _ hi
    rw [aD_iff (Nat.le_refl 3)]
    intro j _ hj
    rw [aD_iff (Nat.le_refl 3)]
    intro k _ hk
    exact decide_eq_true (h i j k hi hj hk)
theorem z01 (c : Bool) : (if c then (1 : Int32) else 0) = 0 ∨ (if c then (1 : Int32) else 0) = 1 := by cases c <;> simp
theorem s_isAtMost {n : Nat} {a b : List Nat} (ha : okL a) (hb : okL b) (hla : a.length ≤ 16) (hlb : b.length ≤ 16) (hca : lc 1 a) (hcb : lc 1 b) (hn : 17 ≤ n) (S : St) : ∃ x, f_X1_isAtMost n S (en a) (en b) = some (rA S 4 x, if atB2 a b then 1 else 0) := by
  unfold f_X1_isAtMost g_X1_isAtMost
  obtain ⟨x, e⟩ := am_out ha hb hla hlb hca hcb hn S 3 n (S.2.1 4 0) (by omega) (by omega)
  rw [rA_self] at e
  have e' : l_X1_isAtMost_13 n n S (en a) (en b) 3 0 = _ := e
  exact ⟨x, by rw [e']; exact zW_01 (z01 _)⟩
theorem s_areSame {n : Nat} {a b : List Nat} (ha : okL a) (hb : okL b) (hla : a.length ≤ 16) (hlb : b.length ≤ 16) (hca : lc 1 a) (hcb : lc 1 b) (hn : 17 ≤ n) (S : St) : ∃ x, f_X1_areSame n S (en a) (en b) = some (rA S 4 x, if atB2 a b && atB2 b a then 1 else 0) := by
  unfold f_X1_areSame g_X1_areSame
  by_cases hab : a = b
  · subst hab
    rw [if_pos ((cmp_eq _ _).mpr rfl)]
    have : atB2 a a = true := (atB2_iff a a).mpr (fun i j k _ _ _ => Nat.le_refl _)
    rw [this]
    exact ⟨S.2.1 4 0, by rw [rA_self]; exact zW_01 (Or.inr rfl)⟩
  · rw [if_neg (fun z => hab ((en_inj ha hb (by omega) (by omega)).mp ((cmp_eq _ _).mp z)))]
    obtain ⟨x1, e1⟩ := s_isAtMost ha hb hla hlb hca hcb hn S
    rw [e1, bI_s]
    cases h1 : atB2 a b with
    | false => exact ⟨x1, by rw [if_pos (by decide)]; exact zW_01 (Or.inl rfl)⟩
    | true =>
      rw [if_neg (by decide)]
      obtain ⟨x2, e2⟩ := s_isAtMost hb ha hlb hla hcb hca hn (rA S 4 x1)
      rw [e2, bI_s, rA_rA]
      cases h2 : atB2 b a with
      | false => exact ⟨x2, by rw [if_pos (by decide)]; exact zW_01 (Or.inl rfl)⟩
      | true => exact ⟨x2, by rw [if_neg (by decide)]; exact zW_01 (Or.inr rfl)⟩
