/-! what the constructors made is the law's world -/
def SC0 : St := (fun f _ => if f = 0 then 1 else 0, fun f _ => if f = 2 then upd (fun _ => 0) 0 (-1) else if f = 3 then upd (fun _ => 0) 0 (-1) else fun _ => 0, fun f _ => if f = 1 then vp_updL (fun _ => 0) 0 1 else fun _ => 0)
theorem INV_0 : INV SC0 SM0 ([[0]], []) [] := by
  refine ⟨⟨LOk_0, TOk_0⟩, ⟨by simp, fun e he => by cases he⟩, ⟨LC_0 (by decide +kernel) (by decide +kernel) (by decide +kernel) (by decide +kernel), ⟨by decide +kernel, fun i ms hi => by cases hi⟩⟩, ⟨by decide +kernel, fun i e hi => by cases hi⟩, ⟨LM_0 (by decide +kernel) (by decide +kernel) (by decide +kernel) (by decide +kernel) (by decide +kernel), ⟨by decide +kernel, fun i ms hi => by cases hi⟩, by decide +kernel⟩, ⟨by decide +kernel, fun i e hi => by cases hi⟩⟩
def KR (j : Nat) : List Ky := [(0, 3, j), (1, 151, j), (1, 152, j), (1, 153, j), (2, 154, j), (2, 155, j)]
def K1 : List Ky := [(0, 0, 0), (2, 1, 0), (1, 2, 0), (1, 3, 0), (1, 4, 0)]
def K5 : List Ky := [(0, 4, 0), (1, 201, 0), (1, 202, 0), (1, 203, 0), (1, 204, 0), (1, 205, 0), (1, 206, 0), (1, 208, 0), (1, 209, 0)]
def K2 : List Ky := [(0, 1, 0), (1, 51, 0), (1, 52, 0), (1, 53, 0)]
def K3 : List Ky := (0, 2, 0) :: ([] ++ KR 2 ++ KR 3 ++ KR 4)
def K6 : List Ky := (0, 5, 0) :: ([] ++ [(3, 255, 0)] ++ (List.range 101).flatMap (fun k => KR (6 + k)) ++ [(1, 256, 0)] ++ KR 5)
def KF : List Ky := (0, 6, 0) :: ([] ++ K1 ++ K5 ++ K2 ++ K3 ++ K6 ++ KR 0 ++ KR 1)
def KG : List Ky := KF ++ KM ++ [(2, 900, 0)]
def rw9 (r : Nat → Nat) (ra : Nat → Nat → Nat) (j m : Nat) : Nat := if j < 6 then r (1000 + 10 * j + m) else ra (j - 6) m
def adF (h hM o : Nat) (r : Nat → Nat) (ra : Nat → Nat → Nat) (rM : Nat → Nat) : Ad := fun g f j => if g = 0 then (if f = 3 then rw9 r ra j 0 else if f = 6 then h else if f = 7 then hM else r (2000 + f)) else if f < 150 then r f else if f < 156 then rw9 r ra j (f - 150) else if f < 350 then r f else if f = 900 then o else rM f
theorem rw9_6 {r : Nat → Nat} {ra : Nat → Nat → Nat} {k m : Nat} : rw9 r ra (6 + k) m = ra k m := by
  unfold rw9
  rw [if_neg (by omega), Nat.add_sub_cancel_left]
theorem wl_app {ad : Ad} {t : Ty3} {A B : List Ky} {S : St} : wl ad t (A ++ B) S = wl ad t A S ++ wl ad t B S := List.map_append
theorem wl_cs {ad : Ad} {t : Ty3} {k : Ky} {B : List Ky} {S : St} : wl ad t (k :: B) S = (adk ad k, ent ad t S k) :: wl ad t B S := rfl
theorem wl_nl {ad : Ad} {t : Ty3} {S : St} : wl ad t [] S = [] := rfl
section WF
variable {h hM o : Nat} {r : Nat → Nat} {ra : Nat → Nat → Nat} {rM : Nat → Nat} {t : Ty3}
set_option maxRecDepth 100000 in
theorem wl_r6 {k : Nat} : wl (adF h hM o r ra rM) t (KR (6 + k)) SC0 = X4W t (ra k 0) (ra k) := by
  have e : ∀ m, rw9 r ra (6 + k) m = ra k m := fun m => rw9_6
  show [(rw9 r ra (6 + k) 0, .inr (3, [.int 0, .ref (rw9 r ra (6 + k) 1), .ref (rw9 r ra (6 + k) 2), .ref (rw9 r ra (6 + k) 3), .ref (rw9 r ra (6 + k) 4), .ref (rw9 r ra (6 + k) 5)])), (rw9 r ra (6 + k) 1, eI t 200 (fun _ => 0)), (rw9 r ra (6 + k) 2, eI t 200 (fun _ => 0)), (rw9 r ra (6 + k) 3, eI t 200 (fun _ => 0)), (rw9 r ra (6 + k) 4, eL t 200 (fun _ => 0)), (rw9 r ra (6 + k) 5, eL t 200 (fun _ => 0))] = X4W t (ra k 0) (ra k)
  rw [e, e, e, e, e, e]
  rfl
theorem wl_rs : ∀ n, wl (adF h hM o r ra rM) t ((List.range n).flatMap (fun k => KR (6 + k))) SC0 = RWs t ra n := by
  intro n
  induction n with
  | zero => rfl
  | succ n ih =>
    unfold RWs
    rw [List.range_succ, List.flatMap_append, List.flatMap_append, wl_app, ih]
    simp only [List.flatMap_cons, List.flatMap_nil, List.append_nil]
    rw [wl_r6]
    rfl
theorem wl_255 : ent (adF h hM o r ra rM) t SC0 (3, 255, 0) = eQ t 101 (fun i => some (ra i 0)) := by
  show eQ t 101 (fun i => some (rw9 r ra (6 + i) 0)) = _
  rw [show (fun i => some (rw9 r ra (6 + i) 0)) = (fun i => some (ra i 0)) from funext (fun i => by rw [rw9_6])]
theorem wl_6 : wl (adF h hM o r ra rM) t K6 SC0 = X6W t (r 2005) r ra (r 2000) (r 2004) (r 2001) (r 2002) := by
  unfold K6 X6W
  rw [wl_cs, wl_app, wl_app, wl_app, wl_app, wl_rs, wl_nl, wl_cs, wl_255]
  rfl
theorem wl_F : wl (adF h hM o r ra rM) t KF SC0 = X7W t h r ra := by
  unfold KF X7W
  rw [wl_cs, wl_app, wl_app, wl_app, wl_app, wl_app, wl_app, wl_app, wl_6]
  rfl
theorem wl_Mx : wl (adF h hM o r ra rM) t KM SM0 = X8W t hM rM := rfl
theorem KF_ok : ∀ k ∈ KF, okC k = true := by decide +kernel
def HD9 : List Ky := [(0, 6, 0), (0, 0, 0), (0, 1, 0), (0, 2, 0), (0, 4, 0), (0, 5, 0), (2, 1, 0), (1, 2, 0), (1, 3, 0), (1, 4, 0), (1, 51, 0), (1, 52, 0), (1, 53, 0), (1, 201, 0), (1, 202, 0), (1, 203, 0), (1, 204, 0), (1, 205, 0), (1, 206, 0), (1, 208, 0), (1, 209, 0), (3, 255, 0), (1, 256, 0)]
theorem KK_e : KK = HD9 ++ (List.range 107).flatMap KR := rfl
def pR (k : Ky) : Bool := (k.1 == 0 && k.2.1 == 3) || (decide (151 ≤ k.2.1) && decide (k.2.1 ≤ 155))
theorem KR_3 {k : Ky} {n : Nat} (h : k ∈ KR n) : k.2.2 = n := by
  simp only [KR, List.mem_cons, List.not_mem_nil, or_false] at h
  rcases h with rfl | rfl | rfl | rfl | rfl | rfl <;> rfl
theorem KR_p {k : Ky} {n : Nat} (h : k ∈ KR n) : pR k = true := by
  simp only [KR, List.mem_cons, List.not_mem_nil, or_false] at h
  rcases h with rfl | rfl | rfl | rfl | rfl | rfl <;> rfl
theorem KR_nd {n : Nat} : List.Pairwise (· ≠ ·) (KR n) := by simp [KR]
theorem rows9 : ∀ n, List.Pairwise (· ≠ ·) ((List.range n).flatMap KR) ∧ ∀ k ∈ (List.range n).flatMap KR, pR k = true ∧ k.2.2 < n := by
  intro n
  induction n with
  | zero => exact ⟨List.Pairwise.nil, fun k hk => by cases hk⟩
  | succ n ih =>
    have e : [n].flatMap KR = KR n := by simp
    rw [List.range_succ, List.flatMap_append, e]
    refine ⟨List.pairwise_append.mpr ⟨ih.1, KR_nd, fun a ha b hb hab => ?_⟩, fun k hk => ?_⟩
    · subst hab
      have h1 := (ih.2 a ha).2
      have h2 := KR_3 hb
      omega
    · rcases List.mem_append.mp hk with hk | hk
      · exact ⟨(ih.2 k hk).1, by have := (ih.2 k hk).2; omega⟩
      · exact ⟨KR_p hk, by have := KR_3 hk; omega⟩
theorem HD_p : ∀ a ∈ HD9, pR a = false := by decide +kernel
theorem HD_n : List.Pairwise (· ≠ ·) HD9 := by decide +kernel
theorem HD_M : ∀ a ∈ HD9, ∀ b ∈ KM ++ [(2, 900, 0)], a ≠ b := by decide +kernel
theorem HM_p : ∀ a ∈ KM ++ [(2, 900, 0)], pR a = false := by decide +kernel
theorem HM_n : List.Pairwise (· ≠ ·) (KM ++ [(2, 900, 0)]) := by decide +kernel
theorem KLw_nd : KLw.Nodup := by
  have r := rows9 107
  have e : KLw = (HD9 ++ (List.range 107).flatMap KR) ++ (KM ++ [(2, 900, 0)]) := rfl
  rw [e]
  refine List.pairwise_append.mpr ⟨List.pairwise_append.mpr ⟨HD_n, r.1, fun a ha b hb hab => ?_⟩, HM_n, fun a ha b hb hab => ?_⟩
  · subst hab
    have h1 := (r.2 a hb).1
    rw [HD_p a ha] at h1
    cases h1
  · rcases List.mem_append.mp ha with ha | ha
    · exact HD_M a ha b hb hab
    · subst hab
      have h1 := (r.2 a ha).1
      rw [HM_p a hb] at h1
      cases h1
theorem HD_G : ∀ k ∈ HD9, k ∈ KG := by decide +kernel
theorem KR_G : ∀ j, j < 6 → ∀ k ∈ KR j, k ∈ KG := by decide +kernel
theorem KLG : ∀ k ∈ KLw, k ∈ KG := by
  intro k hk
  have e : KLw = (HD9 ++ (List.range 107).flatMap KR) ++ (KM ++ [(2, 900, 0)]) := rfl
  rw [e] at hk
  rcases List.mem_append.mp hk with hk | hk
  · rcases List.mem_append.mp hk with hk | hk
    · exact HD_G k hk
    · obtain ⟨j, hj, hk⟩ := List.mem_flatMap.mp hk
      have hj := List.mem_range.mp hj
      rcases Nat.lt_or_ge j 6 with h6 | h6
      · exact KR_G j h6 k hk
      · have hm : k ∈ (List.range 101).flatMap (fun k => KR (6 + k)) := List.mem_flatMap.mpr ⟨j - 6, List.mem_range.mpr (by omega), by rw [show 6 + (j - 6) = j by omega]; exact hk⟩
        have h6k : k ∈ K6 := List.mem_cons_of_mem _ (List.mem_append_left _ (List.mem_append_left _ (List.mem_append_right _ hm)))
        exact List.mem_append_left _ (List.mem_append_left _ (List.mem_cons_of_mem _ (List.mem_append_left _ (List.mem_append_left _ (List.mem_append_right _ h6k)))))
  · rcases List.mem_append.mp hk with hk | hk
    · exact List.mem_append_left _ (List.mem_append_right _ hk)
    · exact List.mem_append_right _ hk
theorem wl_G : wl (adF h hM o r ra rM) t KG (mx SC0 SM0 (fun _ => 0)) = X7W t h r ra ++ X8W t hM rM ++ [(o, eL t 1 (fun _ => 0))] := by
  unfold KG
  rw [wl_app, wl_app]
  rw [show wl (adF h hM o r ra rM) t KF (mx SC0 SM0 (fun _ => 0)) = wl (adF h hM o r ra rM) t KF SC0 from List.map_congr_left (fun k hk => by rw [ent_mC (KF_ok k hk)])]
  rw [show wl (adF h hM o r ra rM) t KM (mx SC0 SM0 (fun _ => 0)) = wl (adF h hM o r ra rM) t KM SM0 from List.map_congr_left (fun k hk => by rw [ent_mM (KM_ok k hk)])]
  rw [wl_F, wl_Mx]
  rfl
theorem KD_G {ad : Ad} {t : Ty3} {S : St} {A : Nat → Prop} (hD : va_D A (wl ad t KG S)) : KD ad KLw := by
  intro i j a b hi hj e
  obtain ⟨i', hi'⟩ := wl_at (KLG a (List.mem_of_getElem? hi))
  obtain ⟨j', hj'⟩ := wl_at (KLG b (List.mem_of_getElem? hj))
  have e2 := wl_DK hD i' j' a b hi' hj' e
  subst e2
  have e3 : a = b := Option.some.inj (hi'.symm.trans hj')
  subst e3
  exact (List.getElem?_inj (List.getElem?_eq_some_iff.mp hi).1 KLw_nd).mp (hi.trans hj.symm)
theorem AW_G {ad : Ad} {t : Ty3} {S : St} {A : Nat → Prop} {sz q : Nat} (hA : ∀ q, sz ≤ q → A q) (hD : va_D A (wl ad t KG S)) (hq : AW ad KLw sz q) : A q := by
  rcases hq with ⟨k, hk, rfl⟩ | hq
  · obtain ⟨i, hi⟩ := wl_at (KLG k hk)
    exact hD.2 i (adk ad k, ent ad t S k) (wl_of hi)
  · exact hA q hq
theorem P_G {D : va_G} {ad : Ad} {t : Ty3} {S : St} {H : Heap} (hP : va_P D vwCl (wl ad t KG S) H) : va_P D vwCl (wl ad t KLw S) H := wl_by (fun k hk => ⟨KG, S, KLG k hk, rfl, hP⟩)
end WF
