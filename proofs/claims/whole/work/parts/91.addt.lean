/-! terms get their numbers, parts before them -/
abbrev PT : Type := List (List Nat) × List (List Mk)
def adL (P : PT) (l : List Nat) : PT × Bool := (((addL 17 P.1 l).1, P.2), (addL 17 P.1 l).2)
def adT (P : PT) (x : List Mk) : PT × Bool := ((P.1, (tk P.2 x).1), (tk P.2 x).2)
def thP (r : PT × Bool) (k : PT → PT × Bool) : PT × Bool := if r.2 then k r.1 else (r.1, false)
def addT : Nat → PT → List Mk → PT × Bool
  | 0, P, _ => (P, false)
  | d + 1, P, x => if hk x = 0 then thP (adL P (hl1 x)) fun P => adT P x else if hk x = 1 then adT P x else if hk x = 2 then thP (adL P (hl1 x)) fun P => thP (adL P (hl2 x)) fun P => adT P x else thP (addT d P (p1 x)) fun P => thP (addT d P (p2 x)) fun P => if hk x = 6 then thP (addT d P (p3 x)) fun P => adT P x else adT P x
theorem addT_s {d : Nat} {P : PT} {x : List Mk} : addT (d + 1) P x = if hk x = 0 then thP (adL P (hl1 x)) fun P => adT P x else if hk x = 1 then adT P x else if hk x = 2 then thP (adL P (hl1 x)) fun P => thP (adL P (hl2 x)) fun P => adT P x else thP (addT d P (p1 x)) fun P => thP (addT d P (p2 x)) fun P => if hk x = 6 then thP (addT d P (p3 x)) fun P => adT P x else adT P x := rfl
theorem thP_t {r : PT × Bool} {k : PT → PT × Bool} (h : r.2 = true) : thP r k = k r.1 := if_pos h
theorem thP_f {r : PT × Bool} {k : PT → PT × Bool} (h : r.2 = false) : thP r k = (r.1, false) := by unfold thP; rw [h]; rfl
def EOk (P : PT) (N : Nat) : Prop := LOk P.1 ∧ TOk P.1 P.2 N
def Ext (P Q : PT) : Prop := (∃ e, Q.1 = P.1 ++ e) ∧ ∃ e, Q.2 = P.2 ++ e
theorem Ext_rf {P : PT} : Ext P P := ⟨⟨[], (List.append_nil _).symm⟩, ⟨[], (List.append_nil _).symm⟩⟩
theorem Ext_tr {P Q R : PT} (h : Ext P Q) (g : Ext Q R) : Ext P R := by
  obtain ⟨⟨a, ha⟩, b, hb⟩ := h
  obtain ⟨⟨c, hc⟩, d, hd⟩ := g
  exact ⟨⟨a ++ c, by rw [hc, ha, List.append_assoc]⟩, b ++ d, by rw [hd, hb, List.append_assoc]⟩
theorem Ext_L {P Q : PT} (h : Ext P Q) {l : List Nat} (hl : l ∈ P.1) : l ∈ Q.1 := by obtain ⟨⟨a, ha⟩, _⟩ := h; rw [ha]; exact List.mem_append_left _ hl
theorem Ext_T {P Q : PT} (h : Ext P Q) {x : List Mk} (hl : x ∈ P.2) : x ∈ Q.2 := by obtain ⟨_, a, ha⟩ := h; rw [ha]; exact List.mem_append_left _ hl
theorem Ext_z {P Q : PT} (h : Ext P Q) : zB P.2 ≤ zB Q.2 := by obtain ⟨_, a, ha⟩ := h; unfold zB; rw [ha, List.length_append]; omega
theorem adL_ok {P : PT} {N : Nat} {l : List Nat} (h : EOk P N) (hl : lvO l) : EOk (adL P l).1 N ∧ Ext P (adL P l).1 ∧ ((adL P l).2 = true → l ∈ (adL P l).1.1) := by
  obtain ⟨a, ⟨e, he⟩, c⟩ := addL_ok 17 P.1 l h.1 hl (by have := hl.2.1; omega)
  refine ⟨⟨a, ?_⟩, ⟨⟨e, he⟩, ⟨[], (List.append_nil _).symm⟩⟩, c⟩
  show TOk (addL 17 P.1 l).1 P.2 N
  rw [he]
  exact TOk_L h.2
theorem adT_ok {P : PT} {N : Nat} {x : List Mk} (h : EOk P N) (hg : gdT (zB P.2 + 200) N x) (hp : pT P.1 P.2 x) : EOk (adT P x).1 N ∧ Ext P (adT P x).1 ∧ ((adT P x).2 = true → x ∈ (adT P x).1.2) := by
  obtain ⟨a, b, c⟩ := tk_ok h.2 hg hp
  exact ⟨⟨h.1, a⟩, ⟨⟨[], (List.append_nil _).symm⟩, b⟩, c⟩
theorem pT_lf {L : List (List Nat)} {T : List (List Mk)} {x : List Mk} (h : hk x ≤ 2) (h0 : hk x = 0 → hl1 x ∈ L) (h2 : hk x = 2 → hl1 x ∈ L ∧ hl2 x ∈ L) : pT L T x := ⟨h0, h2, fun z => by omega, fun z => by omega⟩
theorem pT_br {L : List (List Nat)} {T : List (List Mk)} {x : List Mk} (h : 3 ≤ hk x) (h1 : p1 x ∈ T) (h2 : p2 x ∈ T) (h3 : hk x = 6 → p3 x ∈ T) : pT L T x := ⟨fun z => by omega, fun z => by omega, fun _ => ⟨h1, h2⟩, h3⟩
theorem gd_lv {B N : Nat} {x : List Mk} (h : gdT B N x) : (hk x = 0 → lvO (hl1 x)) ∧ (hk x = 2 → lvO (hl1 x) ∧ lvO (hl2 x)) := ⟨fun z => hl1_lv h z, fun z => ((hd_f h).2 z).2⟩
theorem addT_ok {N : Nat} : ∀ (d b : Nat) (P : PT) (x : List Mk), EOk P N → gdT b N x → b + x.length ≤ zB P.2 + 200 → EOk (addT d P x).1 N ∧ Ext P (addT d P x).1 ∧ ((addT d P x).2 = true → x ∈ (addT d P x).1.2) := by
  intro d
  induction d with
  | zero => intro b P x h hg hb; exact ⟨h, Ext_rf, (fun z => nomatch z)⟩
  | succ d ih =>
    intro b P x h hg hb
    have h6 := hk_le hg
    obtain ⟨l0, l2⟩ := gd_lv hg
    have wk : ∀ Q : PT, Ext P Q → gdT (zB Q.2 + 200) N x := fun Q e => gdT_mo hg (by have := Ext_z e; omega)
    rw [addT_s]
    by_cases q0 : hk x = 0
    · rw [if_pos q0]
      obtain ⟨a1, b1, c1⟩ := adL_ok h (l0 q0)
      cases h9 : (adL P (hl1 x)).2 with
      | false => rw [thP_f h9]; exact ⟨a1, b1, (fun z => nomatch z)⟩
      | true =>
        rw [thP_t h9]
        obtain ⟨a2, b2, c2⟩ := adT_ok a1 (wk _ b1) (pT_lf (x := x) (by omega) (fun _ => c1 h9) (fun z => by omega))
        exact ⟨a2, Ext_tr b1 b2, c2⟩
    · rw [if_neg q0]
      by_cases q1 : hk x = 1
      · rw [if_pos q1]
        exact adT_ok h (wk _ Ext_rf) (pT_lf (by omega) (fun z => by omega) (fun z => by omega))
      · rw [if_neg q1]
        by_cases q2 : hk x = 2
        · rw [if_pos q2]
          obtain ⟨a1, b1, c1⟩ := adL_ok h (l2 q2).1
          cases h9 : (adL P (hl1 x)).2 with
          | false => rw [thP_f h9]; exact ⟨a1, b1, (fun z => nomatch z)⟩
          | true =>
            rw [thP_t h9]
            obtain ⟨a2, b2, c2⟩ := adL_ok a1 (l2 q2).2
            cases h8 : (adL (adL P (hl1 x)).1 (hl2 x)).2 with
            | false => rw [thP_f h8]; exact ⟨a2, Ext_tr b1 b2, (fun z => nomatch z)⟩
            | true =>
              rw [thP_t h8]
              obtain ⟨a3, b3, c3⟩ := adT_ok a2 (wk _ (Ext_tr b1 b2)) (pT_lf (x := x) (by omega) (fun z => by omega) (fun _ => ⟨Ext_L b2 (c1 h9), c2 h8⟩))
              exact ⟨a3, Ext_tr b1 (Ext_tr b2 b3), c3⟩
        · rw [if_neg q2]
          obtain ⟨g1, g2⟩ := (gd_pt hg).1 (by omega)
          have g2' : gdT (b + 1) N (p2 x) := gdT_mo g2 (by unfold dl; split <;> omega)
          have hl : (p1 x).length + (p2 x).length + 1 ≤ x.length ∧ 1 ≤ (p1 x).length ∧ 1 ≤ (p2 x).length ∧ (hk x = 6 → (p3 x).length + 3 ≤ x.length) := by
            obtain ⟨t1, t2, t3⟩ := tlen hg
            have := Tm_ne g1.1
            have := Tm_ne g2.1
            by_cases q : hk x = 6
            · have := t3 q; omega
            · have := t2 (by omega) q; omega
          obtain ⟨a1, b1, c1⟩ := ih b P (p1 x) h g1 (by omega)
          cases h9 : (addT d P (p1 x)).2 with
          | false => rw [thP_f h9]; exact ⟨a1, b1, (fun z => nomatch z)⟩
          | true =>
            rw [thP_t h9]
            have z1 := Ext_z b1
            obtain ⟨a2, b2, c2⟩ := ih (b + 1) (addT d P (p1 x)).1 (p2 x) a1 g2' (by omega)
            have m1 := c1 h9
            generalize (addT d P (p1 x)).1 = P1 at *
            cases h8 : (addT d P1 (p2 x)).2 with
            | false => rw [thP_f h8]; exact ⟨a2, Ext_tr b1 b2, (fun z => nomatch z)⟩
            | true =>
              rw [thP_t h8]
              have m2 := c2 h8
              have m1' := Ext_T b2 m1
              have z2 := Ext_z b2
              generalize (addT d P1 (p2 x)).1 = P2 at *
              by_cases q6 : hk x = 6
              · rw [if_pos q6]
                obtain ⟨a3, b3, c3⟩ := ih (b + 1) P2 (p3 x) a2 ((gd_pt hg).2 q6) (by have := hl.2.2.2 q6; omega)
                cases h7 : (addT d P2 (p3 x)).2 with
                | false => rw [thP_f h7]; exact ⟨a3, Ext_tr b1 (Ext_tr b2 b3), (fun z => nomatch z)⟩
                | true =>
                  rw [thP_t h7]
                  have m3 := c3 h7
                  have m1'' := Ext_T b3 m1'
                  have m2' := Ext_T b3 m2
                  generalize (addT d P2 (p3 x)).1 = P3 at *
                  have e3 := Ext_tr b1 (Ext_tr b2 b3)
                  obtain ⟨a4, b4, c4⟩ := adT_ok a3 (wk _ e3) (pT_br (x := x) (by omega) m1'' m2' (fun _ => m3))
                  exact ⟨a4, Ext_tr e3 b4, c4⟩
              · rw [if_neg q6]
                have e2 := Ext_tr b1 b2
                obtain ⟨a4, b4, c4⟩ := adT_ok a2 (wk _ e2) (pT_br (x := x) (by omega) m1' m2 (fun z => absurd z q6))
                exact ⟨a4, Ext_tr e2 b4, c4⟩
/-! the class -/
def CP (S : St) (P : PT) : Prop := LC S P.1 ∧ TC S P.1 P.2
theorem c_lev {n N : Nat} {S : St} {P : PT} {l : List Nat} (hn : 10000 ≤ n) (h : EOk P N) (hC : CP S P) (hl : lvO l) : ∃ S', k_X1_keep n 17 S (en l) = some (S', if (adL P l).2 then nI (ix (adL P l).1.1 l) else mI) ∧ CP S' (adL P l).1 ∧ FR [0] S S' := by
  obtain ⟨S', a, b, c⟩ := s_keep (n := n) (by omega) 17 P.1 S l hC.1 h.1 hl (by have := hl.2.1; omega)
  have f := frL_FR c
  obtain ⟨_, ⟨⟨e, he⟩, _⟩, _⟩ := adL_ok h hl
  refine ⟨S', a, ⟨b, ?_⟩, f⟩
  have he' : (addL 17 P.1 l).1 = P.1 ++ e := he
  show TC S' (addL 17 P.1 l).1 P.2
  rw [he']
  exact TC_L (TC_fr hC.2 f (by simp)) h.2
theorem c_trm {n N : Nat} {S : St} {P : PT} {x : List Mk} (hn : 10000 ≤ n) (h : EOk P N) (hC : CP S P) (hg : gdT (zB P.2 + 200) N x) (hp : pT P.1 P.2 x) : ∃ S', f_X5_keep n S (nI (hk x)) (a1 P.1 P.2 x) (a2 P.1 P.2 x) (a3 P.1 P.2 x) = some (S', if (adT P x).2 then nI (ixT (adT P x).1.2 x) else mI) ∧ CP S' (adT P x).1 ∧ FR [200] S S' := by
  have hz := zB_le h.2
  obtain ⟨S', a, b, c⟩ := s_keep5 (n := n) hC.2 h.1.2.1 h.2 (gdT_mo hg (by omega)) hp (by omega)
  exact ⟨S', a, ⟨LC_fr hC.1 c (by simp), b⟩, c⟩
theorem a_lf {L : List (List Nat)} {T : List (List Mk)} {x : List Mk} : (hk x = 0 → a1 L T x = nI (ix L (hl1 x)) ∧ a2 L T x = mI ∧ a3 L T x = mI) ∧ (hk x = 1 → a1 L T x = nI (hid x) ∧ a2 L T x = mI ∧ a3 L T x = mI) ∧ (hk x = 2 → a1 L T x = nI (hid x) ∧ a2 L T x = nI (ix L (hl1 x)) ∧ a3 L T x = nI (ix L (hl2 x))) ∧ (3 ≤ hk x → a1 L T x = nI (ixT T (p1 x)) ∧ a2 L T x = nI (ixT T (p2 x)) ∧ a3 L T x = if hk x = 6 then nI (ixT T (p3 x)) else mI) := by
  refine ⟨fun z => ⟨?_, ?_, ?_⟩, fun z => ⟨?_, ?_, ?_⟩, fun z => ⟨?_, ?_, ?_⟩, fun z => ⟨?_, ?_, ?_⟩⟩
  · unfold a1; rw [if_pos z]
  · unfold a2; rw [if_pos (by omega)]
  · unfold a3; rw [if_neg (by omega), if_neg (by omega)]
  · unfold a1; rw [if_neg (by omega), if_pos (by omega)]
  · unfold a2; rw [if_pos (by omega)]
  · unfold a3; rw [if_neg (by omega), if_neg (by omega)]
  · unfold a1; rw [if_neg (by omega), if_pos (by omega)]
  · unfold a2; rw [if_neg (by omega), if_pos (by omega)]
  · unfold a3; rw [if_pos (by omega)]
  · unfold a1; rw [if_neg (by omega), if_neg (by omega)]
  · unfold a2; rw [if_neg (by omega), if_neg (by omega)]
  · unfold a3; rw [if_neg (by omega)]
