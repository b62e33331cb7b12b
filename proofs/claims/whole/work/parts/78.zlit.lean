/-! literals, for steps -/
theorem k0 : (0 : Int32) = nI 0 := by decide
theorem k1 : (1 : Int32) = nI 1 := by decide
theorem k2 : (2 : Int32) = nI 2 := by decide
theorem k3 : (3 : Int32) = nI 3 := by decide
theorem k4 : (4 : Int32) = nI 4 := by decide
theorem k5 : (5 : Int32) = nI 5 := by decide
theorem k6 : (6 : Int32) = nI 6 := by decide
theorem k8 : (8 : Int32) = nI 8 := by decide
theorem k16 : (16 : Int32) = nI 16 := by decide
theorem k30 : (30 : Int32) = nI 30 := by decide
theorem k60 : (60 : Int32) = nI 60 := by decide
theorem k100 : (100 : Int32) = nI 100 := by decide
theorem k200 : (200 : Int32) = nI 200 := by decide
theorem k201 : (201 : Int32) = nI 201 := by decide
theorem k300 : (300 : Int32) = nI 300 := by decide
theorem k1500 : (1500 : Int32) = nI 1500 := by decide
theorem k8000 : (8000 : Int32) = nI 8000 := by decide
theorem kM : -(nI 1) = mI := by decide
theorem k_m6 : -(nI 6) = m6 := by decide
theorem gR_n {β : Type} {i : Nat} {k : Nat → Option β} (h : i < 101) : gR (nI i) k = k (6 + i) := by
  have e := gI_n (S := ((fun _ _ => 0), (fun _ _ j => nI j), (fun _ _ _ => 0))) (f := 0) (j := 0) (i := i) (L := 101) (k := fun v => some v) h (by omega)
  unfold gR
  unfold gI at e
  by_cases z : nI i < 0 ∨ 101 ≤ (nI i).toNatClampNeg
  · rw [if_pos z] at e; cases e
  · rw [if_neg z] at e ⊢
    have e2 : (nI i).toNatClampNeg = i := by
      have h2 : ¬ 101 ≤ (nI i).toNatClampNeg := fun w => z (Or.inr w)
      have e3 : nI (nI i).toNatClampNeg = nI i := Option.some.inj e
      rw [nIeq (by omega) (by omega)] at e3
      exact e3
    rw [e2]
