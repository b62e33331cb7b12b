/-! which exceptions the class's calls throw -/
def oc (L : List Int32) (o : Option XO3) : Prop := ∀ q, o = some q → q.2.1 ∈ L
theorem oc_s {L : List Int32} {S : St} {c v : Int32} (h : c ∈ L) : oc L (some (S, c, v)) := fun q hq => by cases hq; exact h
theorem oc_i {L : List Int32} {p : Prop} [Decidable p] {a b : Option XO3} (ha : oc L a) (hb : oc L b) : oc L (if p then a else b) := by split <;> assumption
theorem oc_X {L : List Int32} {p : Option XO3} {k : St → Int32 → Option XO3} (hp : oc L p) (hq : ∀ S v, oc L (k S v)) : oc L (bX p k) := fun q h => by
  obtain ⟨S, t, v, h1, h2, h3⟩ := bX_some h
  by_cases ht : t = 0
  · exact hq S v q (h3 ht)
  · rw [← h2 ht]; exact (show t ∈ L from hp (S, t, v) h1)
theorem oc_I {L : List Int32} {p : Option (St × Int32)} {k : St → Int32 → Option XO3} (hq : ∀ S v, oc L (k S v)) : oc L (bI p k) := fun q h => by obtain ⟨S, v, -, h2⟩ := bI_some h; exact hq S v q h2
theorem oc_L {L : List Int32} {p : Option (St × Int64)} {k : St → Int64 → Option XO3} (hq : ∀ S v, oc L (k S v)) : oc L (bL p k) := fun q h => by obtain ⟨S, v, -, h2⟩ := bL_some h; exact hq S v q h2
theorem oc_U {L : List Int32} {p : Option St} {k : St → Option XO3} (hq : ∀ S, oc L (k S)) : oc L (bU p k) := fun q h => by obtain ⟨S, -, h2⟩ := bU_some h; exact hq S q h2
theorem oc_V {α : Type} {L : List Int32} {e : α} {k : α → Option XO3} (hq : ∀ v, oc L (k v)) : oc L (bV e k) := fun q h => by obtain ⟨v, -, h2⟩ := bV_some h; exact hq v q h2
theorem oc_S {L : List Int32} {S : St} {f j : Nat} {v : Int32} {k : St → Option XO3} (hq : ∀ S, oc L (k S)) : oc L (pS S f j v k) := fun q h => by obtain ⟨S1, -, h2⟩ := pS_some h; exact hq S1 q h2
theorem oc_g {L : List Int32} {S : St} {f j N : Nat} {i : Int32} {k : Int32 → Option XO3} (hq : ∀ v, oc L (k v)) : oc L (gI S f j i N k) := fun q h => by obtain ⟨v, -, -, h2⟩ := gI_some h; exact hq v q h2
theorem oc_z {L : List Int32} {S : St} {v : Int32} (h0 : 0 ∈ L) : oc L (zX S v) := fun q h => by
  obtain ⟨-, h2⟩ := zX_some h
  cases h2; exact h0
theorem oc_nl {L : List Int32} {n : Nat} {S : St} {a : Int32} (h0 : 0 ∈ L) (h2 : 2 ∈ L) : oc L (f_X7_needLevel n S a) := by
  unfold f_X7_needLevel j_X7_needLevel_15
  exact oc_i (oc_s h2) (oc_i (oc_s h0) (oc_s h2))
theorem oc_nt {L : List Int32} {n : Nat} {S : St} {a : Int32} (h0 : 0 ∈ L) (h2 : 2 ∈ L) : oc L (f_X7_needTerm n S a) := by
  unfold f_X7_needTerm j_X7_needTerm_15
  exact oc_i (oc_s h2) (oc_i (oc_s h0) (oc_s h2))
theorem oc_nn {L : List Int32} {n : Nat} {S : St} {a : Int32} (h0 : 0 ∈ L) (h2 : 2 ∈ L) : oc L (f_X7_needName n S a) := by
  unfold f_X7_needName j_X7_needName_15
  exact oc_i (oc_s h2) (oc_i (oc_s h0) (oc_s h2))
theorem oc_np {L : List Int32} {n : Nat} {S : St} {a : Int32} (h0 : 0 ∈ L) (h1 : 1 ∈ L) : oc L (f_X7_needParameterValue n S a) := by
  unfold f_X7_needParameterValue j_X7_needParameterValue_11
  exact oc_i (oc_s h1) (oc_i (oc_s h0) (oc_s h1))
theorem oc_at {L : List Int32} {n : Nat} {S : St} {a b c d : Int32} (h0 : 0 ∈ L) (h3 : 3 ∈ L) : oc L (f_X7_askedTerm n S a b c d) := by
  unfold f_X7_askedTerm
  exact oc_I (fun S v => oc_i (oc_I (fun S v => oc_i (oc_s h3) (oc_s h0))) (oc_s h3))
theorem oc_nu {L : List Int32} {n : Nat} {S : St} {a : Nat} (h0 : 0 ∈ L) (h3 : 3 ∈ L) : oc L (f_X7_numbered n S a) := by
  unfold f_X7_numbered
  exact oc_V (fun _ => oc_V (fun _ => oc_S (fun _ => oc_I (fun S v => oc_i (oc_S (fun _ => oc_S (fun _ => oc_s h3))) (oc_s h0)))))
theorem oc_atMost {n : Nat} {S : St} {a b : Int32} : oc [0, 2] (f_X7_atMost n S a b) := by
  unfold f_X7_atMost
  exact oc_X (oc_nl (by decide) (by decide)) (fun _ _ => oc_X (oc_nl (by decide) (by decide)) (fun _ _ => oc_L (fun _ _ => oc_L (fun _ _ => oc_I (fun _ _ => oc_z (by decide))))))
theorem oc_value {n : Nat} {S : St} {a b c d : Int32} : oc [0, 2, 1] (f_X7_value n S a b c d) := by
  unfold f_X7_value
  exact oc_X (oc_nl (by decide) (by decide)) (fun _ _ => oc_X (oc_np (by decide) (by decide)) (fun _ _ => oc_X (oc_np (by decide) (by decide)) (fun _ _ => oc_X (oc_np (by decide) (by decide)) (fun _ _ => oc_L (fun _ _ => oc_I (fun _ _ => oc_s (by decide)))))))
theorem oc_sort {n : Nat} {S : St} {a : Int32} : oc [0, 2, 3] (f_X7_sort n S a) := by
  unfold f_X7_sort
  exact oc_X (oc_nl (by decide) (by decide)) (fun _ _ => oc_X (oc_at (by decide) (by decide)) (fun _ _ => oc_s (by decide)))
theorem oc_variable {n : Nat} {S : St} {a : Int32} : oc [0, 1, 3] (f_X7_variable n S a) := by
  unfold f_X7_variable j_X7_variable_10
  exact oc_i (oc_s (by decide)) (oc_i (oc_X (oc_at (by decide) (by decide)) (fun _ _ => oc_s (by decide))) (oc_s (by decide)))
theorem oc_name {n : Nat} {S : St} {a b c : Int32} : oc [0, 2, 3] (f_X7_name n S a b c) := by
  unfold f_X7_name
  exact oc_X (oc_nn (by decide) (by decide)) (fun _ _ => oc_X (oc_nl (by decide) (by decide)) (fun _ _ => oc_X (oc_nl (by decide) (by decide)) (fun _ _ => oc_X (oc_at (by decide) (by decide)) (fun _ _ => oc_s (by decide)))))
theorem oc_let {n : Nat} {S : St} {a b c : Int32} : oc [0, 2, 3] (f_X7_let n S a b c) := by
  unfold f_X7_let
  exact oc_X (oc_nt (by decide) (by decide)) (fun _ _ => oc_X (oc_nt (by decide) (by decide)) (fun _ _ => oc_X (oc_nt (by decide) (by decide)) (fun _ _ => oc_X (oc_at (by decide) (by decide)) (fun _ _ => oc_s (by decide)))))
theorem oc_type {n : Nat} {S : St} {a : Int32} : oc [0, 2, 3] (f_X7_type n S a) := by
  unfold f_X7_type
  exact oc_X (oc_nt (by decide) (by decide)) (fun _ _ => oc_I (fun _ _ => oc_i (oc_X (oc_nu (by decide) (by decide)) (fun _ _ => oc_s (by decide))) (oc_s (by decide))))
theorem oc_normal {n : Nat} {S : St} {a : Int32} : oc [0, 2, 3] (f_X7_normal n S a) := by
  unfold f_X7_normal
  exact oc_X (oc_nt (by decide) (by decide)) (fun _ _ => oc_U (fun _ => oc_I (fun _ _ => oc_i (oc_s (by decide)) (oc_X (oc_nu (by decide) (by decide)) (fun _ _ => oc_s (by decide))))))
theorem oc_steps {n : Nat} {S : St} {a : Int32} : oc [0, 2] (f_X7_steps n S a) := by
  unfold f_X7_steps
  exact oc_X (oc_nt (by decide) (by decide)) (fun _ _ => oc_U (fun _ => oc_I (fun _ _ => oc_s (by decide))))
theorem oc_same {n : Nat} {S : St} {a b : Int32} : oc [0, 2] (f_X7_same n S a b) := by
  unfold f_X7_same
  exact oc_X (oc_nt (by decide) (by decide)) (fun _ _ => oc_X (oc_nt (by decide) (by decide)) (fun _ _ => oc_U (fun _ => oc_U (fun _ => oc_I (fun _ _ => oc_i (oc_s (by decide)) (oc_I (fun _ _ => oc_i (oc_s (by decide)) (oc_I (fun _ _ => oc_i (oc_s (by decide)) (oc_s (by decide)))))))))))
theorem oc_part {n : Nat} {S : St} {a b : Int32} : oc [0, 2, 1] (f_X7_part n S a b) := by
  unfold f_X7_part
  exact oc_X (oc_nt (by decide) (by decide)) (fun _ _ => oc_i (oc_g (fun _ => oc_s (by decide))) (oc_i (oc_g (fun _ => oc_s (by decide))) (oc_i (oc_g (fun _ => oc_s (by decide))) (oc_i (oc_g (fun _ => oc_s (by decide))) (oc_i (oc_g (fun _ => oc_s (by decide))) (oc_i (oc_g (fun _ => oc_s (by decide))) (oc_s (by decide))))))))
theorem oc_levelPart {n : Nat} {S : St} {a b : Int32} : oc [0, 2, 1] (f_X7_levelPart n S a b) := by
  unfold f_X7_levelPart
  exact oc_X (oc_nl (by decide) (by decide)) (fun _ _ => oc_i (oc_L (fun _ _ => oc_I (fun _ _ => oc_s (by decide)))) (oc_i (oc_g (fun _ => oc_s (by decide))) (oc_i (oc_g (fun _ => oc_s (by decide))) (oc_i (oc_L (fun _ _ => oc_I (fun _ _ => oc_s (by decide)))) (oc_s (by decide))))))
theorem oc_declared {n : Nat} {S : St} {a b : Int32} : oc [0, 2, 1] (f_X7_declared n S a b) := by
  unfold f_X7_declared
  exact oc_X (oc_nn (by decide) (by decide)) (fun _ _ => oc_i (oc_g (fun _ => oc_s (by decide))) (oc_i (oc_g (fun _ => oc_s (by decide))) (oc_i (oc_g (fun _ => oc_s (by decide))) (oc_s (by decide)))))
