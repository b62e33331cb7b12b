/-! calls: what holds between them -/
def INV (SC SM : St) (P : PT) (Ns : List Nme) : Prop := EOk P Ns.length ∧ NOk P.2 Ns ∧ CP SC P ∧ NC SC P.2 Ns ∧ MAq SM P ∧ NM SM P.2 Ns
theorem NOk_E {P Q : PT} {Ns : List Nme} (h : NOk P.2 Ns) (e : Ext P Q) : NOk Q.2 Ns := ⟨h.1, fun x hx => ⟨(h.2 x hx).1, Ext_T e (h.2 x hx).2.1, fun v hv => Ext_T e ((h.2 x hx).2.2 v hv)⟩⟩
theorem nvI_E {P Q : PT} {Ns : List Nme} (h : NOk P.2 Ns) (e : Ext P Q) {x : Nme} (hx : x ∈ Ns) : nvI Q.2 x.2.2 = nvI P.2 x.2.2 := by
  cases h9 : x.2.2 with
  | none => rfl
  | some v => rw [nvI_s, nvI_s, ixT_E e ((h.2 x hx).2.2 v h9)]
theorem NC_E {S : St} {P Q : PT} {Ns : List Nme} (hN : NC S P.2 Ns) (h : NOk P.2 Ns) (e : Ext P Q) : NC S Q.2 Ns := ⟨hN.1, fun i x hi => by
  obtain ⟨a, b, c⟩ := hN.2 i x hi
  rw [ixT_E e (h.2 x (gt_mem hi)).2.1, nvI_E h e (gt_mem hi)]
  exact ⟨a, b, c⟩⟩
theorem NM_E {S : St} {P Q : PT} {Ns : List Nme} (hN : NM S P.2 Ns) (h : NOk P.2 Ns) (e : Ext P Q) : NM S Q.2 Ns := ⟨hN.1, fun i x hi => by
  obtain ⟨a, b, c⟩ := hN.2 i x hi
  rw [ixT_E e (h.2 x (gt_mem hi)).2.1, nvI_E h e (gt_mem hi)]
  exact ⟨a, b, c⟩⟩
/-! numbers that callers give -/
theorem i_cases (a : Int32) {c : Nat} (hc : c < 2 ^ 31) : (∃ i, i < c ∧ a = nI i) ∨ (a < 0 ∨ nI c ≤ a) := by
  by_cases h0 : a < 0
  · exact Or.inr (Or.inl h0)
  · by_cases h1 : nI c ≤ a
    · exact Or.inr (Or.inr h1)
    · left
      have h0' : 0 ≤ a := Int32.not_lt.mp h0
      have h1' : a < nI c := Int32.not_le.mp h1
      refine ⟨a.toNatClampNeg, ?_, ?_⟩
      · have e1 : (a.toNatClampNeg : Int) = a.toInt := by
          rw [← Int32.toNat_toInt]
          exact Int.toNat_of_nonneg (by simpa [Int32.le_iff_toInt_le] using h0')
        have e2 : a.toInt < c := by
          have := Int32.lt_iff_toInt_lt.mp h1'
          rw [nI_toInt hc] at this
          exact this
        omega
      · apply Int32.toInt.inj
        have e1 : (a.toNatClampNeg : Int) = a.toInt := by
          rw [← Int32.toNat_toInt]
          exact Int.toNat_of_nonneg (by simpa [Int32.le_iff_toInt_le] using h0')
        have e2 : a.toInt < c := by
          have := Int32.lt_iff_toInt_lt.mp h1'
          rw [nI_toInt hc] at this
          exact this
        rw [nI_toInt (by omega), e1]
