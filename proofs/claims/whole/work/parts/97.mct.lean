/-! the reference: counting a term -/
theorem frm_fr {S S1 : St} {a c i : Nat} (g : FR TR S S1) : FR TR S (frm S1 a c i) := FR_sI (FR_sI g (by rw [rg8 (by omega)]; decide)) (by rw [rg8 (by omega)]; decide)
theorem frm_m {S : St} {a c i : Nat} : FR [385, 386] S (frm S a c i) := FR_sI (FR_sI FR_rf (by rw [rg8 (by omega)]; simp)) (by rw [rg8 (by omega)]; simp)
theorem frm_k {S : St} {a c i b : Nat} (hb : b ≤ a) : KP 384 b S (frm S a c i) ∧ KP 385 b S (frm S a c i) ∧ KP 386 (3 * b) S (frm S a c i) := ⟨KP_tr (KPi (Or.inl (by omega))) (KPi (Or.inl (by omega))), KP_tr (KPi (Or.inl (by omega))) (KPi (Or.inr (by omega))), KP_tr (KPi (Or.inr (by omega))) (KPi (Or.inl (by omega)))⟩
theorem m_ct {n f N : Nat} (hn : 10000 ≤ n) (hf : 367 ≤ f ∧ f ≤ 371) : ∀ (d a b : Nat) (mm : Nat) (S : St) (P : PT) (x : List Mk) (o : Nat) (l5 : Int32), d + a = 101 → x.length + 2 * a ≤ 200 → EOk P N → MP S P → gdT b N x → b + x.length ≤ zB P.2 + 200 → sg (S.2.1 f 0) o (flt x) → o + (flt x).length ≤ ln f → (flt x).length ≤ 7000 → 1 ≤ mm → ∃ S', MP S' (addT d P x).1 ∧ KP 384 a S S' ∧ KP 385 a S S' ∧ KP 386 (3 * a) S S' ∧ FR TR S S' ∧ ((addT d P x).2 = true → ∀ R, (∀ k, a + 2 ≤ k → l_X8_countTerm_70 n (KT n mm) k S' f (nI (o + (flt x).length)) (nI a) (nI (ixT (addT d P x).1.2 x)) (nI 1) = R) → l_X8_countTerm_11 n (mm + x.length) S f (nI o) (nI a) l5 (nI 1) = R) ∧ ((addT d P x).2 = false → l_X8_countTerm_11 n (mm + x.length) S f (nI o) (nI a) l5 (nI 1) = some (S', mI)) := by
  obtain ⟨hf1, hf2⟩ := ln8 hf
  have nT : rg f 0 ∉ TR := by rw [rg8 (by omega)]; simp [TR, VR]; omega
  intro d
  induction d with
  | zero =>
    intro a b mm S P x o l5 hd hl
    omega
  | succ d ih =>
    intro a b mm S P x o l5 hd hl h hM hg hb hs ho h7 hmm
    have h6 := hk_le hg
    have hx1 := Tm_ne hg.1
    have kk : S.2.1 f 0 o = nI (hk x) := by
      cases x with
      | nil => exact absurd hx1 (by simp)
      | cons m r => rw [flt_c] at hs; exact sg_h hs
    have hge := flt_ge x
    by_cases q2 : hk x ≤ 2
    · obtain ⟨S1, A1, M1, F1⟩ := m_leaf (n := n) (d := d) hn hf h hM q2 hg hb hs ho
      have F1' : FR TR S S1 := FR_mo F1 (by simp [TR]; intro z hz; exact Or.inr (Or.inr (Or.inr (Or.inr hz))))
      have nk : ∀ g, g = 384 ∨ g = 385 ∨ g = 386 → rg g 0 ∉ 356 :: VR := fun g hg => by rw [rg8 (by omega)]; simp [VR]; omega
      obtain ⟨m, ex, em, el1, el2, ei, d0⟩ := leaf1 hg q2
      have fx : flt x = tks m := by rw [ex]; exact List.append_nil _
      have lx : x.length = 1 := by rw [ex]; rfl
      have bT : f_X8_behindToken n S1 f (nI o) = some (S1, nI (o + (flt x).length)) := by
        rw [fx] at hs ho h7 ⊢
        exact s_behindToken hf (gd_mW hg (by have := zB_le h.2; omega) h.2.2.2.1 m (by rw [ex]; simp)) (sg_fr F1' nT hs) ho (by omega)
      obtain ⟨_, _, o3⟩ := addT_ok (d + 1) b P x h hg hb
      have unf : l_X8_countTerm_11 n (mm + x.length) S f (nI o) (nI a) l5 (nI 1) = l_X8_countTerm_70 n (KT n mm) n S1 f (nI (o + (flt x).length)) (nI a) (nmT (addT (d + 1) P x) x) (nI 1) := by
        rw [lx]
        conv => lhs; unfold l_X8_countTerm_11
        rw [if_neg (show ¬ nI 1 = 0 by decide), gI_n (by omega) (by omega), kk, if_pos (show nI (hk x) < 3 by rw [k3, nIlt (by omega) (by omega)]; omega), A1, bI_s, bT, bI_s]
        rfl
      refine ⟨S1, M1, KP_fr F1 (nk _ (by omega)), KP_fr F1 (nk _ (by omega)), KP_fr F1 (nk _ (by omega)), F1', fun z R hR => ?_, fun z => ?_⟩
      · rw [unf, nmT_t z]
        exact hR n (by omega)
      · rw [unf, nmT_f z]
        exact ct_end hmm (by omega) (by omega)
    · have q3 : 3 ≤ hk x := by omega
      obtain ⟨g1, g2⟩ := (gd_pt hg).1 q3
      have g2' : gdT (b + 1) N (p2 x) := gdT_mo g2 (by unfold dl; split <;> omega)
      have l1 := Tm_ne g1.1
      have l2 := Tm_ne g2.1
      have ar2 := ar_2 (k := hk x) q3 h6
      have har := ar_le (hk x)
      -- tokens
      have toks : ∃ w, flt x = hk x :: (flt (p1 x) ++ (flt (p2 x) ++ w)) ∧ (hk x = 6 → w = flt (p3 x)) ∧ (hk x ≠ 6 → w = []) := by
        by_cases q : hk x = 6
        · refine ⟨flt (p3 x), ?_, fun _ => rfl, fun z => absurd q z⟩
          rw [((flt_pt hg).2 q).1, q]
        · refine ⟨[], ?_, fun z => absurd z q, fun _ => rfl⟩
          rw [((flt_pt hg).1 q3 q).1, List.append_nil]
      have lens : (p1 x).length + (p2 x).length + 1 ≤ x.length ∧ (hk x = 6 → x.length = 1 + (p1 x).length + (p2 x).length + (p3 x).length) ∧ (hk x ≠ 6 → x.length = 1 + (p1 x).length + (p2 x).length) := by
        by_cases q : hk x = 6
        · have := ((flt_pt hg).2 q).2; exact ⟨by omega, fun _ => this, fun z => absurd q z⟩
        · have := ((flt_pt hg).1 q3 q).2; exact ⟨by omega, fun z => absurd z q, fun _ => this⟩
      obtain ⟨w, ew, ew6, ewn⟩ := toks
      have lfx := congrArg List.length ew
      simp only [List.length_cons, List.length_append] at lfx
      rw [ew] at hs
      have hs1 : sg (S.2.1 f 0) (o + 1) (flt (p1 x)) := (sg_app.mp hs.2).1
      have hs2 : sg (S.2.1 f 0) (o + 1 + (flt (p1 x)).length) (flt (p2 x)) := (sg_app.mp (sg_app.mp hs.2).2).1
      have hs3 : sg (S.2.1 f 0) (o + 1 + (flt (p1 x)).length + (flt (p2 x)).length) w := (sg_app.mp (sg_app.mp hs.2).2).2
      -- the frame
      have F0 : FR TR S (sI (sI S 384 0 a (nI (hk x))) 385 0 a (nI 0)) := FR_sI (FR_sI FR_rf (by rw [rg8 (by omega)]; decide)) (by rw [rg8 (by omega)]; decide)
      have f0 : FR [384, 385] S (sI (sI S 384 0 a (nI (hk x))) 385 0 a (nI 0)) := FR_sI (FR_sI FR_rf (by rw [rg8 (by omega)]; simp)) (by rw [rg8 (by omega)]; simp)
      have M0 := MP_fr hM f0 (by simp) (by simp) (by simp)
      have K0 : KP 384 a S (sI (sI S 384 0 a (nI (hk x))) 385 0 a (nI 0)) := KP_tr (KPi (Or.inr (Nat.le_refl _))) (KPi (Or.inl (by omega)))
      have K0' : KP 385 a S (sI (sI S 384 0 a (nI (hk x))) 385 0 a (nI 0)) := KP_tr (KPi (Or.inl (by omega))) (KPi (Or.inr (Nat.le_refl _)))
      have K0'' : KP 386 (3 * a) S (sI (sI S 384 0 a (nI (hk x))) 385 0 a (nI 0)) := KP_tr (KPi (Or.inl (by omega))) (KPi (Or.inl (by omega)))
      have e4 : (sI (sI S 384 0 a (nI (hk x))) 385 0 a (nI 0)).2.1 384 0 a = nI (hk x) := by rw [sI_ne (by omega), sI_eq]
      have e5 : (sI (sI S 384 0 a (nI (hk x))) 385 0 a (nI 0)).2.1 385 0 a = nI 0 := by rw [sI_eq]
      have unf : ∀ q, mm + x.length = q + 1 → l_X8_countTerm_11 n (mm + x.length) S f (nI o) (nI a) l5 (nI 1) = l_X8_countTerm_11 n q (sI (sI S 384 0 a (nI (hk x))) 385 0 a (nI 0)) f (nI (o + 1)) (nI (a + 1)) l5 (nI 1) := by
        intro q hq
        rw [hq]
        conv => lhs; unfold l_X8_countTerm_11
        rw [if_neg (show ¬ nI 1 = 0 by decide), gI_n (by omega) (by omega), kk, if_neg (show ¬ nI (hk x) < 3 by rw [k3, nIlt (by omega) (by omega)]; omega), pI_n (by omega) (by omega), pI_n (by omega) (by omega), bV_e, bV_e, nI_1, nI_1]
        rfl
      generalize hS0 : sI (sI S 384 0 a (nI (hk x))) 385 0 a (nI 0) = S0 at *
      -- the first part; what comes behind it: t more marks
      obtain ⟨t, ht⟩ : ∃ t, x.length = 1 + (p1 x).length + (p2 x).length + t := ⟨x.length - 1 - (p1 x).length - (p2 x).length, by omega⟩
      obtain ⟨S1, M1, k1, k1', k1'', F1, V1, V2⟩ := ih (a + 1) b (mm + t + (p2 x).length) S0 P (p1 x) (o + 1) l5 (by omega) (by omega) h M0 g1 (by omega) (sg_fr F0 nT hs1) (by omega) (by omega) (by omega)
      obtain ⟨o1, o2, o3⟩ := addT_ok d b P (p1 x) h g1 (by omega)
      have F1' := FR_tr F0 F1
      have Ka1 := KP_tr K0 (KP_mo k1 (by omega : a ≤ a + 1))
      have Kb1 := KP_tr K0' (KP_mo k1' (by omega : a ≤ a + 1))
      have Kc1 := KP_tr K0'' (KP_mo k1'' (by omega : 3 * a ≤ 3 * (a + 1)))
      rw [addT_s, if_neg (show ¬ hk x = 0 by omega), if_neg (show ¬ hk x = 1 by omega), if_neg (show ¬ hk x = 2 by omega)]
      have un := unf (mm + t + (p2 x).length + (p1 x).length) (by omega)
      rw [un]
      cases h9 : (addT d P (p1 x)).2 with
      | false =>
        rw [thP_f h9]
        exact ⟨S1, M1, Ka1, Kb1, Kc1, F1', (fun z => nomatch z), fun _ => V2 h9⟩
      | true =>
        rw [thP_t h9]
        have V1' := V1 h9
        have m1 := o3 h9
        have i1 := ix1500 o1 m1
        generalize (addT d P (p1 x)).1 = P1 at *
        have z1 := Ext_z o2
        have e4a : S1.2.1 384 0 a = nI (hk x) := (k1 a (by omega)).trans e4
        have e5a : S1.2.1 385 0 a = nI 0 := (k1' a (by omega)).trans e5
        have F2 := frm_fr (a := a) (c := 0) (i := ixT P1.2 (p1 x)) F1'
        have M2 := MP_fr M1 (frm_m (a := a) (c := 0) (i := ixT P1.2 (p1 x))) (by simp) (by simp) (by simp)
        obtain ⟨fk1, fk2, fk3⟩ := frm_k (S := S1) (a := a) (c := 0) (i := ixT P1.2 (p1 x)) (Nat.le_refl a)
        have st1 : ∀ k, a + 1 + 2 ≤ k → l_X8_countTerm_70 n (KT n (mm + t + (p2 x).length)) k S1 f (nI (o + 1 + (flt (p1 x)).length)) (nI (a + 1)) (nI (ixT P1.2 (p1 x))) (nI 1) = l_X8_countTerm_11 n (mm + t + (p2 x).length) (frm S1 a 0 (ixT P1.2 (p1 x))) f (nI (o + 1 + (flt (p1 x)).length)) (nI (a + 1)) (nI (ixT P1.2 (p1 x))) (nI 1) := fun k hk => ct_a (by omega) (by omega) (by omega) h6 e4a e5a (by omega) (by omega)
        have e4b : (frm S1 a 0 (ixT P1.2 (p1 x))).2.1 384 0 a = nI (hk x) := by unfold frm; rw [sI_ne (by omega), sI_ne (by omega)]; exact e4a
        have e5b : (frm S1 a 0 (ixT P1.2 (p1 x))).2.1 385 0 a = nI 1 := by unfold frm; rw [sI_eq]
        have e6b : (frm S1 a 0 (ixT P1.2 (p1 x))).2.1 386 0 (3 * a) = nI (ixT P1.2 (p1 x)) := by unfold frm; rw [sI_ne (by omega), Nat.add_zero, sI_eq]
        generalize hS2 : frm S1 a 0 (ixT P1.2 (p1 x)) = S2 at *
        obtain ⟨S3, M3, k3', k3'', k3''', F3, W1, W2⟩ := ih (a + 1) (b + 1) (mm + t) S2 P1 (p2 x) (o + 1 + (flt (p1 x)).length) (nI (ixT P1.2 (p1 x))) (by omega) (by omega) o1 M2 g2' (by omega) (sg_fr F2 nT hs2) (by omega) (by omega) (by omega)
        obtain ⟨u1, u2, u3⟩ := addT_ok d (b + 1) P1 (p2 x) o1 g2' (by omega)
        have F3' := FR_tr F2 F3
        have Ka3 := KP_tr Ka1 (KP_tr fk1 (KP_mo k3' (by omega : a ≤ a + 1)))
        have Kb3 := KP_tr Kb1 (KP_tr fk2 (KP_mo k3'' (by omega : a ≤ a + 1)))
        have Kc3 := KP_tr Kc1 (KP_tr fk3 (KP_mo k3''' (by omega : 3 * a ≤ 3 * (a + 1))))
        cases h8 : (addT d P1 (p2 x)).2 with
        | false =>
          rw [thP_f h8]
          refine ⟨S3, M3, Ka3, Kb3, Kc3, F3', (fun z => nomatch z), fun _ => ?_⟩
          refine V1' _ (fun k hk => ?_)
          rw [st1 k hk]
          exact W2 h8
        | true =>
          rw [thP_t h8]
          have W1' := W1 h8
          have m2 := u3 h8
          have i2 := ix1500 u1 m2
          have m1' := Ext_T u2 m1
          have iE := ixT_E u2 m1
          generalize (addT d P1 (p2 x)).1 = P2 at *
          have z2 := Ext_z u2
          have e12 := Ext_tr o2 u2
          have e4c : S3.2.1 384 0 a = nI (hk x) := (k3' a (by omega)).trans e4b
          have e5c : S3.2.1 385 0 a = nI 1 := (k3'' a (by omega)).trans e5b
          have e6c : S3.2.1 386 0 (3 * a) = nI (ixT P1.2 (p1 x)) := (k3''' _ (by omega)).trans e6b
          have F4 := frm_fr (a := a) (c := 1) (i := ixT P2.2 (p2 x)) F3'
          have M4 := MP_fr M3 (frm_m (a := a) (c := 1) (i := ixT P2.2 (p2 x))) (by simp) (by simp) (by simp)
          obtain ⟨gk1, gk2, gk3⟩ := frm_k (S := S3) (a := a) (c := 1) (i := ixT P2.2 (p2 x)) (Nat.le_refl a)
          have e6d : (frm S3 a 1 (ixT P2.2 (p2 x))).2.1 386 0 (3 * a) = nI (ixT P1.2 (p1 x)) := by unfold frm; rw [sI_ne (by omega), sI_at (by omega)]; exact e6c
          have e6e : (frm S3 a 1 (ixT P2.2 (p2 x))).2.1 386 0 (3 * a + 1) = nI (ixT P2.2 (p2 x)) := by unfold frm; rw [sI_ne (by omega), sI_eq]
          by_cases q6 : hk x = 6
          · rw [if_pos q6]
            have hl6 := lens.2.1 q6
            have g3 := (gd_pt hg).2 q6
            have l3 := Tm_ne g3.1
            have tl : t = (p3 x).length := by omega
            have w6 := ew6 q6
            rw [w6] at hs3 lfx
            have ar6 := ar2.2.1.mp q6
            have st2 : ∀ k, a + 1 + 2 ≤ k → l_X8_countTerm_70 n (KT n (mm + t)) k S3 f (nI (o + 1 + (flt (p1 x)).length + (flt (p2 x)).length)) (nI (a + 1)) (nI (ixT P2.2 (p2 x))) (nI 1) = l_X8_countTerm_11 n (mm + t) (frm S3 a 1 (ixT P2.2 (p2 x))) f (nI (o + 1 + (flt (p1 x)).length + (flt (p2 x)).length)) (nI (a + 1)) (nI (ixT P2.2 (p2 x))) (nI 1) := fun k hk => ct_a (by omega) (by omega) (by omega) h6 e4c e5c (by omega) (by omega)
            have e4d : (frm S3 a 1 (ixT P2.2 (p2 x))).2.1 384 0 a = nI (hk x) := by unfold frm; rw [sI_ne (by omega), sI_ne (by omega)]; exact e4c
            have e5d : (frm S3 a 1 (ixT P2.2 (p2 x))).2.1 385 0 a = nI 2 := by unfold frm; rw [sI_eq]
            generalize hS4 : frm S3 a 1 (ixT P2.2 (p2 x)) = S4 at *
            rw [tl] at W1' V1' st2
            obtain ⟨S5, M5, k5, k5', k5'', F5, X1, X2⟩ := ih (a + 1) (b + 1) mm S4 P2 (p3 x) (o + 1 + (flt (p1 x)).length + (flt (p2 x)).length) (nI (ixT P2.2 (p2 x))) (by omega) (by omega) u1 M4 g3 (by omega) (sg_fr F4 nT hs3) (by omega) (by omega) hmm
            obtain ⟨v1, v2, v3⟩ := addT_ok d (b + 1) P2 (p3 x) u1 g3 (by omega)
            have F5' := FR_tr F4 F5
            have Ka5 := KP_tr Ka3 (KP_tr gk1 (KP_mo k5 (by omega : a ≤ a + 1)))
            have Kb5 := KP_tr Kb3 (KP_tr gk2 (KP_mo k5' (by omega : a ≤ a + 1)))
            have Kc5 := KP_tr Kc3 (KP_tr gk3 (KP_mo k5'' (by omega : 3 * a ≤ 3 * (a + 1))))
            rw [tl]
            cases h7' : (addT d P2 (p3 x)).2 with
            | false =>
              rw [thP_f h7']
              refine ⟨S5, M5, Ka5, Kb5, Kc5, F5', (fun z => nomatch z), fun _ => ?_⟩
              refine V1' _ (fun k hk => ?_)
              have := st1 k hk
              rw [tl] at this
              rw [this]
              refine W1' _ (fun k hk => ?_)
              rw [st2 k hk]
              exact X2 h7'
            | true =>
              rw [thP_t h7']
              have X1' := X1 h7'
              have m3' := v3 h7'
              have i3 := ix1500 v1 m3'
              have iE1 := ixT_E v2 m1'
              have iE2 := ixT_E v2 m2
              have mm1 := Ext_T v2 m1'
              have mm2 := Ext_T v2 m2
              generalize (addT d P2 (p3 x)).1 = P3 at *
              have e4e : S5.2.1 384 0 a = nI (hk x) := (k5 a (by omega)).trans e4d
              have e5e : S5.2.1 385 0 a = nI 2 := (k5' a (by omega)).trans e5d
              have M6 := MP_fr M5 (frm_m (a := a) (c := 2) (i := ixT P3.2 (p3 x))) (by simp) (by simp) (by simp)
              have F6 := frm_fr (a := a) (c := 2) (i := ixT P3.2 (p3 x)) F5'
              obtain ⟨hk1, hk2, hk3⟩ := frm_k (S := S5) (a := a) (c := 2) (i := ixT P3.2 (p3 x)) (Nat.le_refl a)
              have x0 : (frm S5 a 2 (ixT P3.2 (p3 x))).2.1 386 0 (3 * a) = nI (ixT P1.2 (p1 x)) := by unfold frm; rw [sI_ne (by omega), sI_at (by omega), k5'' _ (by omega)]; exact e6d
              have x1 : (frm S5 a 2 (ixT P3.2 (p3 x))).2.1 386 0 (3 * a + 1) = nI (ixT P2.2 (p2 x)) := by unfold frm; rw [sI_ne (by omega), sI_at (by omega), k5'' _ (by omega)]; exact e6e
              have x2 : (frm S5 a 2 (ixT P3.2 (p3 x))).2.1 386 0 (3 * a + 2) = nI (ixT P3.2 (p3 x)) := by unfold frm; rw [sI_ne (by omega), sI_eq]
              have st3 : ∀ k, a + 1 + 2 ≤ k → _ := fun k hk => ct_b (n := n) (k := k) (f := f) (K := KT n mm) (p := nI (o + 1 + (flt (p1 x)).length + (flt (p2 x)).length + (flt (p3 x)).length)) (x2 := nI (ixT P3.2 (p3 x))) (by omega) (by omega) (by omega) h6 e4e e5e (by omega) (by omega) x0 x1 (by rw [if_pos q6, x2])
              generalize hS6 : frm S5 a 2 (ixT P3.2 (p3 x)) = S6 at *
              have e123 := Ext_tr e12 v2
              obtain ⟨S7, A7, M7, F7⟩ := m_trm (n := n) (x := x) hn v1 M6 (gdT_mo hg (by have := Ext_z v2; omega)) (pT_br (by omega) mm1 mm2 (fun _ => m3'))
              obtain ⟨w1, w2, w3⟩ := (a_lf (L := P3.1) (T := P3.2) (x := x)).2.2.2 q3
              rw [w1, w2, w3, if_pos q6, iE1, iE, iE2] at A7
              have nk : ∀ g, g = 384 ∨ g = 385 ∨ g = 386 → rg g 0 ∉ [356] := fun g hg => by rw [rg8 (by omega)]; simp; omega
              have Ka7 := KP_tr Ka5 (KP_tr hk1 (KP_fr F7 (nk 384 (by omega))))
              have Kb7 := KP_tr Kb5 (KP_tr hk2 (KP_fr F7 (nk 385 (by omega))))
              have Kc7 := KP_tr Kc5 (KP_tr hk3 (KP_fr F7 (nk 386 (by omega))))
              have F7' : FR TR S S7 := FR_tr F6 (FR_mo F7 (by simp [TR]))
              have leno : o + (flt x).length = o + 1 + (flt (p1 x)).length + (flt (p2 x)).length + (flt (p3 x)).length := by omega
              have go : ∀ R, (∀ k, a + 2 ≤ k → l_X8_countTerm_70 n (KT n mm) k S7 f (nI (o + (flt x).length)) (nI a) (nmT (adT P3 x) x) (nI 1) = R) → l_X8_countTerm_11 n (mm + (p3 x).length + (p2 x).length + (p1 x).length) S0 f (nI (o + 1)) (nI (a + 1)) l5 (nI 1) = R := by
                intro R hR
                refine V1' _ (fun k hk => ?_)
                have := st1 k hk
                rw [tl] at this
                rw [this]
                refine W1' _ (fun k hk => ?_)
                rw [st2 k hk]
                refine X1' _ (fun k hk => ?_)
                rw [st3 k hk, A7, bI_s, ← leno]
                exact hR (k - 1) (by omega)
              refine ⟨S7, M7, Ka7, Kb7, Kc7, F7', fun z R hR => go R (fun k hk => by rw [nmT_t z]; exact hR k hk), fun z => ?_⟩
              refine go _ (fun k hk => ?_)
              rw [nmT_f z]
              exact ct_end hmm (by omega) (by omega)
          · rw [if_neg q6]
            have hl5 := lens.2.2 q6
            have tl : t = 0 := by omega
            have w0 := ewn q6
            rw [w0] at lfx
            have ar5 := ar2.2.2.mp q6
            have st2 : ∀ k, a + 1 + 2 ≤ k → _ := fun k hk => ct_b (n := n) (k := k) (f := f) (K := KT n (mm + t)) (p := nI (o + 1 + (flt (p1 x)).length + (flt (p2 x)).length)) (x2 := mI) (by omega) (by omega) (by omega) h6 e4c e5c (by omega) (by omega) e6d e6e (by rw [if_neg q6])
            generalize hS4 : frm S3 a 1 (ixT P2.2 (p2 x)) = S4 at *
            obtain ⟨S7, A7, M7, F7⟩ := m_trm (n := n) (x := x) hn u1 M4 (gdT_mo hg (by omega)) (pT_br (by omega) m1' m2 (fun z => absurd z q6))
            obtain ⟨w1, w2, w3⟩ := (a_lf (L := P2.1) (T := P2.2) (x := x)).2.2.2 q3
            rw [w1, w2, w3, if_neg q6, iE] at A7
            have nk : ∀ g, g = 384 ∨ g = 385 ∨ g = 386 → rg g 0 ∉ [356] := fun g hg => by rw [rg8 (by omega)]; simp; omega
            have Ka7 := KP_tr Ka3 (KP_tr gk1 (KP_fr F7 (nk 384 (by omega))))
            have Kb7 := KP_tr Kb3 (KP_tr gk2 (KP_fr F7 (nk 385 (by omega))))
            have Kc7 := KP_tr Kc3 (KP_tr gk3 (KP_fr F7 (nk 386 (by omega))))
            have F7' : FR TR S S7 := FR_tr F4 (FR_mo F7 (by simp [TR]))
            have leno : o + (flt x).length = o + 1 + (flt (p1 x)).length + (flt (p2 x)).length := by simp at lfx; omega
            have go : ∀ R, (∀ k, a + 2 ≤ k → l_X8_countTerm_70 n (KT n (mm + t)) k S7 f (nI (o + (flt x).length)) (nI a) (nmT (adT P2 x) x) (nI 1) = R) → l_X8_countTerm_11 n (mm + t + (p2 x).length + (p1 x).length) S0 f (nI (o + 1)) (nI (a + 1)) l5 (nI 1) = R := by
              intro R hR
              refine V1' _ (fun k hk => ?_)
              rw [st1 k hk]
              refine W1' _ (fun k hk => ?_)
              rw [st2 k hk, A7, bI_s, ← leno]
              exact hR (k - 1) (by omega)
            have mt : mm + t = mm := by omega
            refine ⟨S7, M7, Ka7, Kb7, Kc7, F7', fun z R hR => go R (fun k hk => by rw [nmT_t z, mt]; exact hR k hk), fun z => ?_⟩
            refine go _ (fun k hk => ?_)
            rw [nmT_f z]
            exact ct_end (by omega) (by omega) (by omega)
