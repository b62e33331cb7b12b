/-! the reference: are two terms the same -/
theorem j69_e {n : Nat} {K : St → Nat → Nat → Int32 → Int32 → Int32 → Int32 → Option (St × Int32)} {S : St} {f g : Nat} {l5 l6 l7 : Int32} : j_X8_isSame_69 n K S f g l5 l6 l7 = j_X8_isSame_165 n K S f g l5 l6 l7 (nI 0) := by
  unfold j_X8_isSame_69 j_X8_isSame_70
  rw [if_pos rfl]
  unfold j_X8_isSame_103
  rw [if_pos rfl]; rfl
theorem j65_e {n : Nat} {K : St → Nat → Nat → Int32 → Int32 → Int32 → Int32 → Option (St × Int32)} {S : St} {f g : Nat} {l5 l6 l7 : Int32} : j_X8_isSame_65 n K S f g l5 l6 l7 = (gI S f 0 l5 (ln f) fun v2 => if v2 = nI 0 then bI (f_X8_isSameLevel n S f (l5 + nI 1) g (l6 + nI 1)) fun S6 v8 => j_X8_isSame_165 n K S6 f g l5 l6 l7 v8 else gI S f 0 l5 (ln f) fun v2 => if v2 = nI 2 then bI (f_X8_isSameLevel n S f (l5 + nI 2) g (l6 + nI 2)) fun S6 v8 => if v8 = nI 0 then j_X8_isSame_165 n K S6 f g l5 l6 l7 (nI 0) else bI (f_X8_behindLevel n S6 f (l5 + nI 2)) fun S10 v12 => bI (f_X8_behindLevel n S10 g (l6 + nI 2)) fun S13 v15 => bI (f_X8_isSameLevel n S13 f v12 g v15) fun S16 v18 => if v18 = nI 0 then j_X8_isSame_165 n K S16 f g l5 l6 l7 (nI 0) else j_X8_isSame_165 n K S16 f g l5 l6 l7 (nI 1) else j_X8_isSame_165 n K S f g l5 l6 l7 (nI 1)) := by
  unfold j_X8_isSame_65 j_X8_isSame_70
  rw [if_neg (by decide)]
  unfold j_X8_isSame_103
  simp only [if_neg (show ¬ (1 : Int32) = 0 by decide)]
  rfl
theorem mV_ld {m : Mk} (h : mV m) : (m.1 = 0 → m.2.2.2.2 = [] ∧ m.2.1 = 0) ∧ (m.1 = 1 → m.2.2.2.1 = [] ∧ m.2.2.2.2 = []) ∧ (3 ≤ m.1 → m.2.2.2.1 = [] ∧ m.2.2.2.2 = [] ∧ m.2.1 = 0) := ⟨fun z => ⟨h.2.2.2.2.1 (by omega), h.2.2.2.2.2 (by omega) (by omega)⟩, fun z => ⟨h.2.2.2.1 (by omega) (by omega), h.2.2.2.2.1 (by omega)⟩, fun z => ⟨h.2.2.2.1 (by omega) (by omega), h.2.2.2.2.1 (by omega), h.2.2.2.2.2 (by omega) (by omega)⟩⟩
theorem s_sl8 {n f g o u : Nat} {a b : List Nat} (ha : lvO a) (hb : lvO b) (hn : 28 ≤ n) (S : St) (hf : 367 ≤ f ∧ f ≤ 371) (hg : 367 ≤ g ∧ g ≤ 371) (hsa : sg (S.2.1 f 0) o a) (hsb : sg (S.2.1 g 0) u b) (hoa : o + a.length ≤ ln f) (hob : u + b.length ≤ ln g) : ∃ S', f_X8_isSameLevel n S f (nI o) g (nI u) = some (S', zb (smL a b)) ∧ FR [378] S S' := by
  obtain ⟨x, hx⟩ := s_isSameLevel (n := n) ha.1 hb.1 ha.2.1 hb.2.1 ha.2.2 hb.2.2 hn S (ln8 hf).2 (ln8 hg).2 (by omega) (by omega) hsa hsb hoa hob
  refine ⟨rA S 378 x, ?_, rA_fr (R := [378]) (a := x) (by rw [rg8 (by omega)]; simp)⟩
  rw [hx]
  unfold zb smL
  cases atB2 a b && atB2 b a <;> rfl
theorem s_isSame_l {n f g : Nat} (hn : 10000 ≤ n) (hf : 367 ≤ f ∧ f ≤ 371) (hg : 367 ≤ g ∧ g ≤ 371) : ∀ (x y : List Mk) (a b : List Nat) (mm o u : Nat) (S : St), run a x = some [] → run b y = some [] → a.length = b.length → (∀ m ∈ x, mV m) → (∀ m ∈ y, mV m) → sg (S.2.1 f 0) o (flt x) → sg (S.2.1 g 0) u (flt y) → o + (flt x).length ≤ ln f → u + (flt y).length ≤ ln g → x.length ≤ 1000 → x.length < mm → ∃ S', l_X8_isSame_13 n mm S f g (nI o) (nI u) (nI a.length) (nI 1) = some (S', zb (mtc x y)) ∧ FR [378] S S' := by
  obtain ⟨hf1, hf2⟩ := ln8 hf
  obtain ⟨hg1, hg2⟩ := ln8 hg
  intro x
  induction x with
  | nil =>
    intro y a b mm o u S ha hb hab hx hy hs hu ho hou h10 hmm
    obtain ⟨mm, rfl⟩ : ∃ z, mm = z + 1 := ⟨mm - 1, by omega⟩
    rw [run_nil] at ha
    cases ha
    have hb0 : b = [] := List.length_eq_zero_iff.mp hab.symm
    subst hb0
    cases y with
    | cons m r => cases hb
    | nil =>
      refine ⟨S, ?_, FR_rf⟩
      rfl
  | cons m r ih =>
    intro y a b mm o u S ha hb hab hx hy hs hu ho hou h10 hmm
    obtain ⟨mm, rfl⟩ : ∃ z, mm = z + 1 := ⟨mm - 1, by omega⟩
    have hle := run_le ha
    obtain ⟨s, rfl, ha2⟩ := run_cc ha
    cases y with
    | nil =>
      rw [run_nil] at hb
      cases hb
      cases hab
    | cons m2 y =>
      obtain ⟨s2, rfl, hb2⟩ := run_cc hb
      rw [List.length_cons, List.length_cons] at hab hle
      rw [List.length_cons] at h10 hmm
      have hv := hx m List.mem_cons_self
      have hv2 := hy m2 List.mem_cons_self
      have hmw := mV_mW hv
      have hmw2 := mV_mW hv2
      rw [flt_c] at hs ho
      rw [flt_c] at hu hou
      rw [List.length_append] at ho hou
      have k1 := sg_h hs
      have k2 := sg_h hu
      obtain ⟨t1, s1⟩ := sg_app.mp hs
      obtain ⟨t2, s2'⟩ := sg_app.mp hu
      have m6 := hmw.1
      have m26 := hmw2.1
      have mi := hmw.2.1
      have mi2 := hmw2.2.1
      have tp1 := tks_pos m
      have tp2 := tks_pos m2
      have tl1 := tks_len hv
      have tl2 := tks_len hv2
      have nf : rg f 0 ∉ [378] := by rw [rg8 (by omega)]; simp; omega
      have ng : rg g 0 ∉ [378] := by rw [rg8 (by omega)]; simp; omega
      have fin : ∀ (S1 : St) (v : Bool), FR [378] S S1 → v = smM m m2 → ∃ S', j_X8_isSame_165 n (fun S a1 a3 l5 l6 l7 l8 => l_X8_isSame_13 n mm S a1 a3 l5 l6 l7 l8) S1 f g (nI o) (nI u) (nI (s.length + 1)) (zb v) = some (S', zb (mtc (m :: r) (m2 :: y))) ∧ FR [378] S S' := by
        intro S1 v f1 hv9
        have e1 := s_behindToken (n := n) (S := S1) hf hmw (sg_fr f1 nf t1) (by omega) (by omega)
        have e2 := s_behindToken (n := n) (S := S1) hg hmw2 (sg_fr f1 ng t2) (by omega) (by omega)
        have e3 : nI (s.length + 1) + (nI (ar m.1) - 1) = nI (ar m.1 + s.length) := by rw [nI_succ, ad1, nI_add, Nat.add_comm]
        have hk1 : S1.2.1 f 0 o = nI m.1 := by rw [(f1 f 0 nf).2.1]; exact k1
        have emt : mtc (m :: r) (m2 :: y) = (smM m m2 && mtc r y) := rfl
        unfold j_X8_isSame_165
        rw [gI_n (by omega) (by omega), hk1, s_partsOf8 m6, bI_s, bV_e, e1, bI_s, e2, bI_s, e3, emt, ← hv9]
        cases v with
        | true =>
          have hkk : m.1 = m2.1 := by
            have := hv9.symm
            unfold smM at this
            simp at this
            exact this.1.1.1
          obtain ⟨S2, a2, f2⟩ := ih y (kids m.1 m.2.2.1 ++ s) (kids m2.1 m2.2.2.1 ++ s2) mm (o + (tks m).length) (u + (tks m2).length) S1 ha2 hb2 (by rw [List.length_append, List.length_append, kids_len, kids_len, hkk]; omega) (fun z hz => hx z (List.mem_cons_of_mem _ hz)) (fun z hz => hy z (List.mem_cons_of_mem _ hz)) (sg_fr f1 nf s1) (sg_fr f1 ng s2') (by omega) (by omega) (by omega) (by omega)
          refine ⟨S2, ?_, FR_tr f1 f2⟩
          rw [List.length_append, kids_len] at a2
          exact a2
        | false =>
          obtain ⟨mm, rfl⟩ : ∃ z, mm = z + 1 := ⟨mm - 1, by omega⟩
          refine ⟨S1, ?_, f1⟩
          show l_X8_isSame_13 n (mm + 1) S1 f g _ _ _ (nI 0) = some (S1, nI 0)
          unfold l_X8_isSame_13
          by_cases z : nI (ar m.1 + s.length) ≤ 0
          · rw [if_pos z]
          · rw [if_neg z, if_pos (show nI 0 = 0 from rfl)]
      unfold l_X8_isSame_13
      rw [List.length_cons]
      have c0 : ¬ nI (s.length + 1) ≤ 0 := nI_nle (by omega) (by omega)
      rw [if_neg c0, if_neg (show ¬ nI 1 = 0 by decide), gI_n (by omega) (by omega), gI_n (by omega) (by omega), k1, k2]
      by_cases hkk : m.1 = m2.1
      · rw [if_pos (by rw [hkk])]
        rw [gI_n (by omega) (by omega), k1]
        have sme : smM m m2 = (decide (m.2.1 = m2.2.1) && smL m.2.2.2.1 m2.2.2.2.1 && smL m.2.2.2.2 m2.2.2.2.2) := by unfold smM; simp [hkk]
        by_cases q1 : m.1 = 1
        · have q1' : m2.1 = 1 := by omega
          obtain ⟨la, lb⟩ := (mV_ld hv).2.1 q1
          obtain ⟨la', lb'⟩ := (mV_ld hv2).2.1 q1'
          rw [la, lb, la', lb', smL_0, Bool.and_true, Bool.and_true] at sme
          rw [tks_1 q1] at t1
          rw [tks_1 q1'] at t2
          have x1 : S.2.1 f 0 (o + 1) = nI m.2.1 := t1.2.1
          have x2 : S.2.1 g 0 (u + 1) = nI m2.2.1 := t2.2.1
          have l2 : (tks m).length = 2 := by rw [tks_1 q1]; rfl
          have l2' : (tks m2).length = 2 := by rw [tks_1 q1']; rfl
          rw [if_pos (by rw [q1]; rfl)]
          unfold j_X8_isSame_50
          rw [nI_1, gI_n (by omega) (by omega), nI_1, gI_n (by omega) (by omega), x1, x2]
          by_cases z : m.2.1 = m2.2.1
          · rw [if_pos (by rw [z]), j65_e]
            obtain ⟨S1, a1, f1⟩ := fin S true FR_rf (by rw [sme]; simp [z])
            refine ⟨S1, ?_, f1⟩
            rw [gI_n (by omega) (by omega), k1, q1, if_neg (by decide), gI_n (by omega) (by omega), k1, q1, if_neg (by decide)]
            exact a1
          · rw [if_neg (by rw [nIeq (by omega) (by omega)]; exact z), j69_e]
            exact fin S false FR_rf (by rw [sme]; simp [z])
        · rw [if_neg (by rw [i1, nIeq (by omega) (by omega)]; exact q1), gI_n (by omega) (by omega), k1]
          by_cases q2 : m.1 = 2
          · have q2' : m2.1 = 2 := by omega
            have lv := hv.2.2.1 q2
            have lv' := hv2.2.2.1 q2'
            rw [tks_2 q2] at t1
            rw [tks_2 q2'] at t2
            have x1 : S.2.1 f 0 (o + 1) = nI m.2.1 := t1.2.1
            have x2 : S.2.1 g 0 (u + 1) = nI m2.2.1 := t2.2.1
            have w1 := sg_app.mp t1.2.2
            have w2 := sg_app.mp t2.2.2
            have l2 : (tks m).length = m.2.2.2.1.length + m.2.2.2.2.length + 2 := by rw [tks_2 q2]; simp
            have l2' : (tks m2).length = m2.2.2.2.1.length + m2.2.2.2.2.length + 2 := by rw [tks_2 q2']; simp
            rw [if_pos (by rw [q2]; rfl)]
            unfold j_X8_isSame_50
            rw [nI_1, gI_n (by omega) (by omega), nI_1, gI_n (by omega) (by omega), x1, x2]
            by_cases z : m.2.1 = m2.2.1
            · have sme2 : smM m m2 = (smL m.2.2.2.1 m2.2.2.2.1 && smL m.2.2.2.2 m2.2.2.2.2) := by rw [sme]; simp [z]
              rw [if_pos (by rw [z]), j65_e]
              obtain ⟨S1, a1, f1⟩ := s_sl8 (n := n) (o := o + 2) (u := u + 2) lv.1 lv'.1 (by omega) S hf hg w1.1 w2.1 (by omega) (by omega)
              rw [gI_n (by omega) (by omega), k1, q2, if_neg (by decide), gI_n (by omega) (by omega), k1, q2, if_pos rfl, nIa, nIa, a1, bI_s]
              cases h9 : smL m.2.2.2.1 m2.2.2.2.1 with
              | false =>
                rw [zb_f, if_pos rfl]
                exact fin S1 false f1 (by rw [sme2, h9]; rfl)
              | true =>
                have v1 := sg_fr f1 nf w1.1
                have v2 := sg_fr f1 ng w2.1
                have v3 := sg_fr f1 nf w1.2
                have v4 := sg_fr f1 ng w2.2
                have b1 := s_behindLevel (n := n) (S := S1) (o := o + 2) hf2 lv.1.1 lv.1.2.2 v1 (by omega) (by omega)
                have b2 := s_behindLevel (n := n) (S := S1) (o := u + 2) hg2 lv'.1.1 lv'.1.2.2 v2 (by omega) (by omega)
                obtain ⟨S2, a2, f2⟩ := s_sl8 (n := n) (o := o + 2 + m.2.2.2.1.length) (u := u + 2 + m2.2.2.2.1.length) lv.2 lv'.2 (by omega) S1 hf hg v3 v4 (by omega) (by omega)
                rw [zb_t, if_neg (by decide), b1, bI_s, b2, bI_s, a2, bI_s]
                cases h8 : smL m.2.2.2.2 m2.2.2.2.2 with
                | false =>
                  rw [zb_f, if_pos rfl]
                  exact fin S2 false (FR_tr f1 f2) (by rw [sme2, h9, h8]; rfl)
                | true =>
                  rw [zb_t, if_neg (by decide)]
                  exact fin S2 true (FR_tr f1 f2) (by rw [sme2, h9, h8]; rfl)
            · rw [if_neg (by rw [nIeq (by omega) (by omega)]; exact z), j69_e]
              exact fin S false FR_rf (by rw [sme]; simp [z])
          · rw [if_neg (by rw [i2, nIeq (by omega) (by omega)]; exact q2), j65_e, gI_n (by omega) (by omega), k1]
            by_cases q0 : m.1 = 0
            · have q0' : m2.1 = 0 := by omega
              obtain ⟨lb, li⟩ := (mV_ld hv).1 q0
              obtain ⟨lb', li'⟩ := (mV_ld hv2).1 q0'
              have lv := hv.2.1 q0
              have lv' := hv2.2.1 q0'
              rw [tks_0 q0] at t1
              rw [tks_0 q0'] at t2
              have l2 : (tks m).length = m.2.2.2.1.length + 1 := by rw [tks_0 q0]; rfl
              have l2' : (tks m2).length = m2.2.2.2.1.length + 1 := by rw [tks_0 q0']; rfl
              rw [lb, lb', li, li', smL_0, Bool.and_true] at sme
              obtain ⟨S1, a1, f1⟩ := s_sl8 (n := n) (o := o + 1) (u := u + 1) lv lv' (by omega) S hf hg t1.2 t2.2 (by omega) (by omega)
              rw [if_pos (by rw [q0]), nIa, nIa, a1, bI_s]
              exact fin S1 _ f1 (by rw [sme]; simp)
            · obtain ⟨la, lb, li⟩ := (mV_ld hv).2.2 (by omega)
              obtain ⟨la', lb', li'⟩ := (mV_ld hv2).2.2 (by omega)
              rw [la, lb, la', lb', li, li', smL_0] at sme
              rw [if_neg (by rw [nIeq (by omega) (by omega)]; exact q0), gI_n (by omega) (by omega), k1, if_neg (by rw [nIeq (by omega) (by omega)]; exact q2)]
              exact fin S true FR_rf (by rw [sme]; simp)
      · rw [if_neg (by rw [nIeq (by omega) (by omega)]; exact hkk), j69_e]
        exact fin S false FR_rf (by unfold smM; simp [hkk])
theorem s_isSame {n f g o u : Nat} {S : St} {x y : List Mk} (hn : 10000 ≤ n) (hf : 367 ≤ f ∧ f ≤ 371) (hg : 367 ≤ g ∧ g ≤ 371) (hx : Tm x) (hy : Tm y) (vx : ∀ m ∈ x, mV m) (vy : ∀ m ∈ y, mV m) (hs : sg (S.2.1 f 0) o (flt x)) (hu : sg (S.2.1 g 0) u (flt y)) (ho : o + (flt x).length ≤ ln f) (hou : u + (flt y).length ≤ ln g) (h10 : x.length ≤ 1000) : ∃ S', f_X8_isSame n S f (nI o) g (nI u) = some (S', zb (mtc x y)) ∧ FR [378] S S' := by
  obtain ⟨S', a, b⟩ := s_isSame_l (n := n) hn hf hg x y [0] [0] n o u S hx hy rfl vx vy hs hu ho hou h10 (by omega)
  refine ⟨S', ?_, b⟩
  unfold f_X8_isSame g_X8_isSame
  have a' : l_X8_isSame_13 n n S f g (nI o) (nI u) 1 1 = some (S', zb (mtc x y)) := a
  rw [a']
  cases mtc x y <;> rfl
