/-! calls: terms that are asked for -/
def mkB (k : Nat) (a b : List Mk) : List Mk := (k, 0, 0, [], []) :: (a ++ b.map (shM (dl k)))
def mkL (a b c : List Mk) : List Mk := (6, 0, 0, [], []) :: (a ++ (b ++ c.map (shM 1)))
theorem vV_hd {B N k : Nat} (h3 : 3 ≤ k) (h6 : k ≤ 6) : vV B N (k, 0, 0, [], []) := ⟨h6, fun z => (by have z' : k = 1 := z; omega), fun z => (by have z' : k = 2 := z; omega), fun z => (by have z' : k = 0 := z; omega), fun z => (by have z' : k = 2 := z; omega), fun _ _ => rfl, fun _ => rfl, fun _ _ => rfl⟩
theorem mkB_gd {B N k : Nat} {a b : List Mk} (hkk : k = 3 ∨ k = 4 ∨ k = 5) (ha : gdT B N a) (hb : gdT B N b) (hl : (mkB k a b).length ≤ 200) : gdT B N (mkB k a b) ∧ hk (mkB k a b) = k ∧ p1 (mkB k a b) = a ∧ p2 (mkB k a b) = b := by
  have l1 : fpT 1 (a ++ b.map (shM (dl k))) = a.length := run_len (a := [0]) ha.1
  have rb := Tm_sh hb.1 (dl k)
  have l2 : fpT 1 (b.map (shM (dl k)) ++ []) = (b.map (shM (dl k))).length := run_len (a := [dl k]) rb
  rw [List.append_nil] at l2
  refine ⟨⟨?_, hl, fun m hm => ?_⟩, rfl, ?_, ?_⟩
  · have r1 := run_fr [dl k] ha.1
    have kd : kids k 0 = [0] ++ [dl k] := by rcases hkk with z | z | z <;> rw [z] <;> rfl
    unfold mkB Tm
    rw [run_c, if_pos rfl]
    show run (kids k 0 ++ []) _ = _
    rw [List.append_nil, kd, run_app2 r1]
    exact rb
  · rcases List.mem_cons.mp hm with z | z
    · rw [z]; exact vV_hd (by omega) (by omega)
    · rcases List.mem_append.mp z with z | z
      · exact ha.2.2 m z
      · obtain ⟨w, hw, rfl⟩ := List.mem_map.mp z
        exact vV_sh.mpr ((gdT_mo hb (by omega)).2.2 w hw)
  · unfold p1 mkB
    simp only [List.drop_succ_cons, List.drop_zero]
    rw [l1, List.take_left]
  · unfold p2 r1
    have e : (mkB k a b).drop 1 = a ++ b.map (shM (dl k)) := rfl
    rw [e, l1, List.drop_left, l2, List.take_length, show hk (mkB k a b) = k from rfl, map_dn_sh]
theorem mkL_gd {B N : Nat} {a b c : List Mk} (ha : gdT B N a) (hb : gdT B N b) (hc : gdT B N c) (hl : (mkL a b c).length ≤ 200) : gdT B N (mkL a b c) ∧ hk (mkL a b c) = 6 ∧ p1 (mkL a b c) = a ∧ p2 (mkL a b c) = b ∧ p3 (mkL a b c) = c := by
  have l1 : fpT 1 (a ++ (b ++ c.map (shM 1))) = a.length := run_len (a := [0]) ha.1
  have l2 : fpT 1 (b ++ c.map (shM 1)) = b.length := run_len (a := [0]) hb.1
  have e : (mkL a b c).drop 1 = a ++ (b ++ c.map (shM 1)) := rfl
  have er : r1 (mkL a b c) = b ++ c.map (shM 1) := by unfold r1; rw [e, l1, List.drop_left]
  refine ⟨⟨?_, hl, fun m hm => ?_⟩, rfl, ?_, ?_, ?_⟩
  · have r1 := run_fr [0, 1] ha.1
    have r2 := run_fr [1] hb.1
    show run ([0] ++ [0, 1]) (a ++ (b ++ c.map (shM 1))) = some []
    rw [run_app2 r1]
    show run ([0] ++ [1]) (b ++ c.map (shM 1)) = some []
    rw [run_app2 r2]
    exact Tm_sh hc.1 1
  · rcases List.mem_cons.mp hm with z | z
    · rw [z]; exact vV_hd (by omega) (by omega)
    · rcases List.mem_append.mp z with z | z
      · exact ha.2.2 m z
      · rcases List.mem_append.mp z with z | z
        · exact hb.2.2 m z
        · obtain ⟨w, hw, rfl⟩ := List.mem_map.mp z
          exact vV_sh.mpr ((gdT_mo hc (by omega)).2.2 w hw)
  · unfold p1; rw [e, l1, List.take_left]
  · unfold p2
    rw [er, l2, List.take_left, show hk (mkL a b c) = 6 from rfl]
    show b.map (dnM 0) = b
    have := map_dn_sh 0 b
    rw [sh_0] at this
    exact this
  · unfold p3
    rw [er, l2, List.drop_left, map_dn_sh]
theorem ixT_nd {T : List (List Mk)} {i : Nat} (hn : T.Nodup) (hi : i < T.length) : ixT T (T[i]) = i := by
  have h1 := ixT_get (List.getElem_mem hi)
  have hl := ixT_lt (List.getElem_mem hi)
  rw [List.getElem?_eq_getElem hl] at h1
  have e := Option.some.inj h1
  have pw := List.pairwise_iff_getElem.mp hn
  rcases Nat.lt_trichotomy (ixT T T[i]) i with z | z | z
  · exact absurd e (pw _ _ hl hi z)
  · exact z
  · exact absurd e.symm (pw _ _ hi hl z)
/-- a term that is asked for, its size at most 60 -/
theorem k_tm {n : Nat} {SC SM : St} {P : PT} {Ns : List Nme} {x : List Mk} (hn : 10000 ≤ n) (hI : INV SC SM P Ns) (hg : gdT (zB P.2 + 200) Ns.length x) (hp : pT P.1 P.2 x) (h60 : x.length ≤ 60) : ∃ SC' SM', f_X7_askedTerm n SC (nI (hk x)) (a1 P.1 P.2 x) (a2 P.1 P.2 x) (a3 P.1 P.2 x) = some (SC', cd3 (adT P x).2, if (adT P x).2 then nI (ixT (adT P x).1.2 x) else 0) ∧ f_X8_numberOfTerm n SM (nI (hk x)) (a1 P.1 P.2 x) (a2 P.1 P.2 x) (a3 P.1 P.2 x) = some (SM', nmT (adT P x) x) ∧ INV SC' SM' (adT P x).1 Ns ∧ ((adT P x).2 = true → ixT (adT P x).1.2 x < 1500) := by
  obtain ⟨h1, h2, h3, h4, h5, h6⟩ := hI
  have hz := zB_le h1.2
  have hg' : gdT 1000000 Ns.length x := gdT_mo hg (by omega)
  obtain ⟨SC1, A1, C1, F1⟩ := c_trm (n := n) hn h1 h3 hg hp
  obtain ⟨o1, o2, o3⟩ := adT_ok h1 hg hp
  obtain ⟨SM1, B1, _, D1, E1⟩ := s_not (n := n) h5.2.1 h1.1.2.1 h1.2 hg' hp (by omega) (asked := true) (by rw [h5.2.2]; rfl)
  have asf : (true && decide (60 < x.length)) = false := by simp; omega
  rw [asf] at B1
  have sf := s_sizeFor (n := n) h3.2 h1.2 hg' hp
  have ib : (adT P x).2 = true → ixT (adT P x).1.2 x < 1500 := fun z => ix1500 o1 (o3 z)
  refine ⟨SC1, SM1, ?_, B1, ⟨o1, NOk_E h2 o2, C1, NC_E (NC_fr h4 F1 (by simp)) h2 o2, ⟨LM_fr h5.1 E1 (by simp), D1 asf, ?_⟩, NM_E (NM_fr h6 E1 (by simp)) h2 o2⟩, ib⟩
  · unfold f_X7_askedTerm
    rw [sf, bI_s, if_pos (show nI x.length ≤ 60 by rw [k60, nIle (by omega) (by omega)]; exact h60), A1, bI_s]
    cases h9 : (adT P x).2 with
    | true =>
      have := ib h9
      show (if nI (ixT (adT P x).1.2 x) = -1 then some (SC1, 3, 0) else some (SC1, 0, nI (ixT (adT P x).1.2 x))) = _
      rw [if_neg (show ¬ nI (ixT (adT P x).1.2 x) = -1 from nI_ne_m (by omega))]; rfl
    | false =>
      show (if mI = -1 then some (SC1, 3, 0) else some (SC1, 0, mI)) = _
      rw [if_pos (show mI = -1 from rfl)]; rfl
  · rw [(E1 379 0 (n8o (by omega) (by simp))).1]; exact h5.2.2
/-- what a refused number becomes: the method's second or third reason -/
def mIU (c : Int32) : Int32 := if c = 2 then 1 else if c = 3 then 2 else c
def mAU (c : Int32) : Int32 := if c = 1 then 1 else if c = 3 then 2 else c
theorem agr_tm {n : Nat} {mp : Int32 → Int32} {SC SM : St} {P : PT} {Ns : List Nme} {x : List Mk} {full : Int32} (hn : 10000 ≤ n) (hI : INV SC SM P Ns) (hg : gdT (zB P.2 + 200) Ns.length x) (hp : pT P.1 P.2 x) (h60 : x.length ≤ 60) (hm0 : mp 0 = 0) (hm3 : mp 3 = full) : AGR mp n (bX (f_X7_askedTerm n SC (nI (hk x)) (a1 P.1 P.2 x) (a2 P.1 P.2 x) (a3 P.1 P.2 x)) fun S v => some (S, 0, v)) (bI (f_X8_numberOfTerm n SM (nI (hk x)) (a1 P.1 P.2 x) (a2 P.1 P.2 x) (a3 P.1 P.2 x)) fun S4 v6 => bI (f_X8_orFull n S4 v6 full) fun S7 v9 => some (S7, v9)) := by
  obtain ⟨SC', SM', A1, A2, I1, m3⟩ := k_tm (n := n) hn hI hg hp h60
  rw [A1, A2, bI_s]
  unfold f_X8_orFull j_X8_orFull_10
  cases h9 : (adT P x).2 with
  | true =>
    have ib := m3 h9
    rw [nmT_t h9]
    have z : 0 ≤ nI (ixT (adT P x).1.2 x) := by rw [k0, nIle (by omega) (by omega)]; omega
    rw [if_pos z, pS_e, if_pos z, bI_s]
    show AGR mp n (bX (some (SC', 0, _)) _) _
    rw [bX_0]
    exact ⟨SC', _, 0, _, _, _, Ns, rfl, rfl, INV_350 I1, by rw [sS_eq, hm0], Or.inl rfl, fun _ => rfl⟩
  | false =>
    rw [nmT_f h9]
    rw [if_neg (show ¬ 0 ≤ mI from c_0m), pS_e, if_neg (show ¬ 0 ≤ mI from c_0m), bI_s]
    show AGR mp n (bX (some (SC', 3, _)) _) _
    rw [bX_n (by decide)]
    exact agr_f I1 (by simp) (by rw [hm3])
