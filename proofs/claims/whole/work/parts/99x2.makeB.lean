/-! the constructor of Typer -/
def RWs (t : Ty3) (ra : Nat → Nat → Nat) (n : Nat) : va_W := (List.range n).flatMap (fun k => X4W t (ra k 0) (ra k))
def X6W (t : Ty3) (h : Nat) (r : Nat → Nat) (ra : Nat → Nat → Nat) (v0 v4 v1 v2 : Nat) : va_W := (h, .inr (5, [.ref v0, .ref v4, .ref v1, .ref v2, .ref (ra 0 0), .ref (r 255), .ref (r 256), .ref (r 1050)])) :: ([] ++ [(r 255, eQ t 101 (fun i => some (ra i 0)))] ++ RWs t ra 101 ++ [(r 256, eI t 101 (fun _ => 0))] ++ X4W t (r 1050) (fun m => r (1050 + m)))
theorem dX6_init_0 : decode cX6_init 0 = .ok (.aload_n 0, 1) := by decide +kernel
theorem dX6_init_1 : decode cX6_init 1 = .ok (.invokespecial 3, 3) := by decide +kernel
theorem dX6_init_4 : decode cX6_init 4 = .ok (.aload_n 0, 1) := by decide +kernel
theorem dX6_init_5 : decode cX6_init 5 = .ok (.aload_n 1, 1) := by decide +kernel
theorem dX6_init_6 : decode cX6_init 6 = .ok (.putfield 9, 3) := by decide +kernel
theorem dX6_init_9 : decode cX6_init 9 = .ok (.aload_n 0, 1) := by decide +kernel
theorem dX6_init_10 : decode cX6_init 10 = .ok (.aload_n 2, 1) := by decide +kernel
theorem dX6_init_11 : decode cX6_init 11 = .ok (.putfield 15, 3) := by decide +kernel
theorem dX6_init_14 : decode cX6_init 14 = .ok (.aload_n 0, 1) := by decide +kernel
theorem dX6_init_15 : decode cX6_init 15 = .ok (.aload_n 3, 1) := by decide +kernel
theorem dX6_init_16 : decode cX6_init 16 = .ok (.putfield 19, 3) := by decide +kernel
theorem dX6_init_19 : decode cX6_init 19 = .ok (.aload_n 0, 1) := by decide +kernel
theorem dX6_init_20 : decode cX6_init 20 = .ok (.aload 4, 2) := by decide +kernel
theorem dX6_init_22 : decode cX6_init 22 = .ok (.putfield 23, 3) := by decide +kernel
theorem dX6_init_25 : decode cX6_init 25 = .ok (.aload_n 0, 1) := by decide +kernel
theorem dX6_init_26 : decode cX6_init 26 = .ok (.bipush 101, 2) := by decide +kernel
theorem dX6_init_28 : decode cX6_init 28 = .ok (.anewarray 27, 3) := by decide +kernel
theorem dX6_init_31 : decode cX6_init 31 = .ok (.putfield 29, 3) := by decide +kernel
theorem dX6_init_34 : decode cX6_init 34 = .ok (.iconst 0, 1) := by decide +kernel
theorem dX6_init_35 : decode cX6_init 35 = .ok (.istore 5, 2) := by decide +kernel
theorem dX6_init_37 : decode cX6_init 37 = .ok (.iload 5, 2) := by decide +kernel
theorem dX6_init_39 : decode cX6_init 39 = .ok (.aload_n 0, 1) := by decide +kernel
theorem dX6_init_40 : decode cX6_init 40 = .ok (.getfield 29, 3) := by decide +kernel
theorem dX6_init_43 : decode cX6_init 43 = .ok (.arraylength, 1) := by decide +kernel
theorem dX6_init_44 : decode cX6_init 44 = .ok (.if_icmp .ge 23, 3) := by decide +kernel
theorem dX6_init_47 : decode cX6_init 47 = .ok (.aload_n 0, 1) := by decide +kernel
theorem dX6_init_48 : decode cX6_init 48 = .ok (.getfield 29, 3) := by decide +kernel
theorem dX6_init_51 : decode cX6_init 51 = .ok (.iload 5, 2) := by decide +kernel
theorem dX6_init_53 : decode cX6_init 53 = .ok (.new 27, 3) := by decide +kernel
theorem dX6_init_56 : decode cX6_init 56 = .ok (.dup, 1) := by decide +kernel
theorem dX6_init_57 : decode cX6_init 57 = .ok (.invokespecial 33, 3) := by decide +kernel
theorem dX6_init_60 : decode cX6_init 60 = .ok (.aastore, 1) := by decide +kernel
theorem dX6_init_61 : decode cX6_init 61 = .ok (.iinc 5 1, 3) := by decide +kernel
theorem dX6_init_64 : decode cX6_init 64 = .ok (.goto (-27), 3) := by decide +kernel
theorem dX6_init_67 : decode cX6_init 67 = .ok (.aload_n 0, 1) := by decide +kernel
theorem dX6_init_68 : decode cX6_init 68 = .ok (.aload_n 0, 1) := by decide +kernel
theorem dX6_init_69 : decode cX6_init 69 = .ok (.getfield 29, 3) := by decide +kernel
theorem dX6_init_72 : decode cX6_init 72 = .ok (.iconst 0, 1) := by decide +kernel
theorem dX6_init_73 : decode cX6_init 73 = .ok (.aaload, 1) := by decide +kernel
theorem dX6_init_74 : decode cX6_init 74 = .ok (.putfield 34, 3) := by decide +kernel
theorem dX6_init_77 : decode cX6_init 77 = .ok (.aload_n 0, 1) := by decide +kernel
theorem dX6_init_78 : decode cX6_init 78 = .ok (.bipush 101, 2) := by decide +kernel
theorem dX6_init_80 : decode cX6_init 80 = .ok (.newarray .int, 2) := by decide +kernel
theorem dX6_init_82 : decode cX6_init 82 = .ok (.putfield 38, 3) := by decide +kernel
theorem dX6_init_85 : decode cX6_init 85 = .ok (.aload_n 0, 1) := by decide +kernel
theorem dX6_init_86 : decode cX6_init 86 = .ok (.new 27, 3) := by decide +kernel
theorem dX6_init_89 : decode cX6_init 89 = .ok (.dup, 1) := by decide +kernel
theorem dX6_init_90 : decode cX6_init 90 = .ok (.invokespecial 33, 3) := by decide +kernel
theorem dX6_init_93 : decode cX6_init 93 = .ok (.putfield 42, 3) := by decide +kernel
theorem dX6_init_96 : decode cX6_init 96 = .ok (.return_, 1) := by decide +kernel
theorem df_X6 : ∀ j, j < 8 → defaultValue (tyX6 j) = vp_V [.null, .null, .null, .null, .null, .null, .null, .null] j := by
  intro j hj
  match j, hj with
  | 0, _ => rfl
  | 1, _ => rfl
  | 2, _ => rfl
  | 3, _ => rfl
  | 4, _ => rfl
  | 5, _ => rfl
  | 6, _ => rfl
  | 7, _ => rfl
  | j + 8, hj => exact absurd hj (by omega)
abbrev rmN_X6 : Room := { frames := 2, cells := 614, slots := 102814, locals := 60 }
theorem fm_cg {α β : Type} {l : List α} {f g : α → List β} (h : ∀ a ∈ l, f a = g a) : l.flatMap f = l.flatMap g := by
  induction l with
  | nil => rfl
  | cons a l ih => rw [List.flatMap_cons, List.flatMap_cons, h a List.mem_cons_self, ih (fun b hb => h b (List.mem_cons_of_mem _ hb))]
theorem RWs_s {t : Ty3} {ra : Nat → Nat → Nat} {i q : Nat} {r : Nat → Nat} : RWs t ra i ++ X4W t q r = RWs t (fun k m => if k = i then (if m = 0 then q else r m) else ra k m) (i + 1) := by
  unfold RWs
  rw [List.range_succ, List.flatMap_append]
  congr 1
  · refine fm_cg (fun k hk => ?_)
    have hki : ¬ k = i := by have := List.mem_range.mp hk; omega
    simp only [hki, if_false]
  · simp [X4W]
theorem arrV_cg {c : ClassId} {n : Nat} {f g : Nat → Value} (h : ∀ j, j < n → f j = g j) : arrV c n f = arrV c n g := by
  unfold arrV
  rw [show (fun j : Fin n => f j.val) = (fun j : Fin n => g j.val) from funext (fun j => h j.val j.isLt)]
theorem va_Pq {D : va_G} {e : Nat × va_E} {q n : Nat} {t : Ty3} {f g : Nat → Option Nat} {ws : va_W} {H : Heap} (hfg : ∀ j, j < n → f j = g j) (hP : va_P D vwCl (e :: (q, eQ t n f) :: ws) H) : va_P D vwCl (e :: (q, eQ t n g) :: ws) H := by
  intro k z hk
  match k, hk with
  | 0, hk => exact hP 0 z hk
  | 1, hk =>
    cases hk
    have h1 : H[q]? = some (arrV t.2.2 n (fun j => va_rf (f j))) := hP 1 _ rfl
    show H[q]? = some (arrV t.2.2 n (fun j => va_rf (g j)))
    rw [h1, arrV_cg (fun j hj => by rw [hfg j hj])]
  | k + 2, hk => exact hP (k + 2) z hk
theorem va_Dq {A : Nat → Prop} {e : Nat × va_E} {q : Nat} {f g : va_E} {ws : va_W} (hD : va_D A (e :: (q, f) :: ws)) : va_D A (e :: (q, g) :: ws) := by
  have hh : ∀ (k : Nat) (z : Nat × va_E), (e :: (q, g) :: ws)[k]? = some z → ∃ z', (e :: (q, f) :: ws)[k]? = some z' ∧ z'.1 = z.1 := fun k z hk => by
    match k, hk with
    | 0, hk => exact ⟨z, hk, rfl⟩
    | 1, hk => cases hk; exact ⟨_, rfl, rfl⟩
    | k + 2, hk => exact ⟨z, hk, rfl⟩
  refine ⟨fun i j a b hi hj hab => ?_, fun k z hk => ?_⟩
  · obtain ⟨a', ha, e1⟩ := hh i a hi
    obtain ⟨b', hb, e2⟩ := hh j b hj
    exact hD.1 i j a' b' ha hb (e1.trans (hab.trans e2.symm))
  · obtain ⟨z', hz, e1⟩ := hh k z hk
    exact e1 ▸ hD.2 k z' hz
def fQ (ra : Nat → Nat → Nat) (i : Nat) : Nat → Option Nat := fun k => if k < i then some (ra k 0) else none
theorem fQ_s {ra : Nat → Nat → Nat} {i q : Nat} {r : Nat → Nat} : va_up (fQ ra i) i (some q) = fQ (fun k m => if k = i then (if m = 0 then q else r m) else ra k m) (i + 1) := by
  funext k
  unfold va_up fQ
  by_cases h1 : k = i
  · subst h1; simp
  · by_cases h2 : k < i
    · simp [h1, h2, show k < i + 1 by omega]
    · simp [h1, h2, show ¬ k < i + 1 by omega]
set_option maxRecDepth 100000 in
set_option maxHeartbeats 4000000 in
theorem N6_loop {x : XC} {h v0 v4 v1 v2 q : Nat} (hx : CN x h cX6_init 6 RX6) (hR : x_R x = rmN_X6)
    (hend : ∀ ra, WN x h 6 607 101707 ((h, .inr (5, [.ref v0, .ref v4, .ref v1, .ref v2, .null, .ref q, .null, .null])) :: (q, eQ (x_t x) 101 (fun i => some (ra i 0))) :: RWs (x_t x) ra 101) 67 [(5, .int 101), (0, .ref h), (1, .ref v0), (2, .ref v4), (3, .ref v1), (4, .ref v2)] []) :
    ∀ d i ra, i + d = 101 → WN x h 6 (1 + 6 * i) (101 + 1006 * i) ((h, .inr (5, [.ref v0, .ref v4, .ref v1, .ref v2, .null, .ref q, .null, .null])) :: (q, eQ (x_t x) 101 (fQ ra i)) :: RWs (x_t x) ra i) 37 [(5, .int (nI i)), (0, .ref h), (1, .ref v0), (2, .ref v4), (3, .ref v1), (4, .ref v2)] [] := by
  intro d
  induction d with
  | zero =>
    intro i ra hi
    have hi : i = 101 := by omega
    subst hi
    refine n_iload (k0 := 0) hx dX6_init_37 rfl ?_
    refine n_aload_n (k0 := 1) hx dX6_init_39 rfl rfl ?_
    refine n_get (C := RX6) (T := TX6) (N := 8) (ci := 5) (k := 5) hx rfl (by decide) rfl in_X6 wf_X6_29 dX6_init_40 ?_
    refine n_alenQ hx 1 (v := 101) rfl (by decide) dX6_init_43 ?_
    refine n_icmp_ge hx dX6_init_44 (tgt := 67) (by decide) (fun _ => ?_) (fun hc => absurd (show (101 : Int32) ≤ nI 101 by decide) hc)
    refine WN.conv (fun H hP => va_Pq (g := fun i => some (ra i 0)) (fun j hj => if_pos hj) hP) (fun A hD => va_Dq hD) ?_
    exact hend ra
  | succ d ih =>
    intro i ra hi
    refine n_iload (k0 := 0) hx dX6_init_37 rfl ?_
    refine n_aload_n (k0 := 1) hx dX6_init_39 rfl rfl ?_
    refine n_get (C := RX6) (T := TX6) (N := 8) (ci := 5) (k := 5) hx rfl (by decide) rfl in_X6 wf_X6_29 dX6_init_40 ?_
    refine n_alenQ hx 1 (v := nI 101) rfl rfl dX6_init_43 ?_
    refine n_icmp_ge hx dX6_init_44 (tgt := 67) (by decide) (fun hc => absurd hc (by rw [nIle (by omega) (by omega)]; omega)) (fun _ => ?_)
    refine n_aload_n (k0 := 1) hx dX6_init_47 rfl rfl ?_
    refine n_get (C := RX6) (T := TX6) (N := 8) (ci := 5) (k := 5) hx rfl (by decide) rfl in_X6 wf_X6_29 dX6_init_48 ?_
    refine n_iload (k0 := 0) hx dX6_init_51 rfl ?_
    refine n_new (C := RX4) (T := TX4) (N := 6) (ci := 3) (fs := [.int 0, .null, .null, .null, .null, .null]) (ty := tyX4) hx rfl in_X4 tyX4_ok wa_X6_27 wb_X4 wn_X4 df_X4 (by rw [hR]; show 1 + 6 * i + 1 ≤ 614; omega) (by rw [hR]; show 101 + 1006 * i + 6 ≤ 102814; omega) dX6_init_53 (fun z => ?_)
    refine n_dup hx dX6_init_56 ?_
    refine n_call (q := z) (As := []) (rest := [.ref z, .int (nI i), .ref q]) (n := 0) hx N_X4 wl_X6_33 wi_X4_init wn_X4 wc_X4_init rfl (by decide +kernel) rfl (by rw [hR]; exact ⟨by decide +kernel, rfl, rfl, by show 1 + 6 * i + 1 + 5 ≤ 614; omega, by show 101 + 1006 * i + 6 + 1000 ≤ 102814; omega⟩) rfl (Nat.le_of_ble_eq_true rfl) dX6_init_57 (fun b => ?_)
    have hT : (nI i).toNatClampNeg = i := nI_clamp (by omega)
    refine n_aast hx 1 (2 + (RWs (x_t x) ra i).length) (vs := [.int 0, .ref (b.1 1), .ref (b.1 2), .ref (b.1 3), .ref (b.1 4), .ref (b.1 5)]) rfl ?_ ?_ rfl dX6_init_60 ?_
    · show (((h, _) :: (q, _) :: RWs (x_t x) ra i) ++ X4W (x_t x) z b.1)[2 + (RWs (x_t x) ra i).length]? = _
      rw [List.getElem?_append_right (by simp only [List.length_cons]; omega)]
      simp only [List.length_cons]
      rw [show 2 + (RWs (x_t x) ra i).length - ((RWs (x_t x) ra i).length + 1 + 1) = 0 by omega]
      rfl
    · exact nI_in (by omega) (by omega)
    rw [hT]
    refine n_iinc (k := 0) (v := nI (i + 1)) hx dX6_init_61 rfl (nIa i 1) (by decide) rfl ?_
    refine n_goto (tgt := 37) hx dX6_init_64 (by decide) ?_
    have e := ih (i + 1) (fun k m => if k = i then (if m = 0 then z else b.1 m) else ra k m) (by omega)
    rw [← RWs_s, ← fQ_s (r := b.1)] at e
    exact WN.widen (by omega) (by omega) e
set_option maxRecDepth 100000 in
set_option maxHeartbeats 4000000 in
theorem N_X6 {l : Launch} {D : va_G} {t : Ty3} {h v0 v4 v1 v2 : Nat} : MN l D t yX6_init cX6_init 6 rmN_X6 614 102814 h (.inr (5, [.null, .null, .null, .null, .null, .null, .null, .null])) [.ref h, .ref v0, .ref v4, .ref v1, .ref v2] (fun a => X6W t h a.1 a.2 v0 v4 v1 v2) := by
  refine mk_N (own := RX6) (by decide +kernel) rfl (Nat.le_of_ble_eq_true rfl) rfl (fun x hx hR hl hDD htt hi hE => ?_)
  subst hl
  subst hDD
  subst htt
  show WN x h 6 0 0 ((h, .inr (5, [.null, .null, .null, .null, .null, .null, .null, .null])) :: ([] : va_W)) 0 [(0, .ref h), (1, .ref v0), (2, .ref v4), (3, .ref v1), (4, .ref v2)] []
  refine n_aload_n (k0 := 0) hx dX6_init_0 rfl rfl ?_
  refine n_obj hx wl_X6_3 dX6_init_1 (by rw [hR]; decide) (by rw [hR]; decide) ?_
  refine n_aload_n (k0 := 0) hx dX6_init_4 rfl rfl ?_
  refine n_aload_n (k0 := 1) hx dX6_init_5 rfl rfl ?_
  refine n_putF (C := RX6) (T := TX6) (N := 8) (ci := 5) (k := 0) (ty := .object "TypeKernel$Levels") hx hi rfl (by decide) in_X6 tyX6_ok nmX6 rfl rfl (by decide +kernel) rfl rfl (Nat.le_of_ble_eq_true rfl) rfl wf_X6_9 dX6_init_6 ?_
  show WN x h 6 0 0 ((h, .inr (5, [.ref v0, .null, .null, .null, .null, .null, .null, .null])) :: ([] : va_W)) 9 [(0, .ref h), (1, .ref v0), (2, .ref v4), (3, .ref v1), (4, .ref v2)] []
  refine n_aload_n (k0 := 0) hx dX6_init_9 rfl rfl ?_
  refine n_aload_n (k0 := 2) hx dX6_init_10 rfl rfl ?_
  refine n_putF (C := RX6) (T := TX6) (N := 8) (ci := 5) (k := 1) (ty := .object "TypeKernel$Terms") hx hi rfl (by decide) in_X6 tyX6_ok nmX6 rfl rfl (by decide +kernel) rfl rfl (Nat.le_of_ble_eq_true rfl) rfl wf_X6_15 dX6_init_11 ?_
  show WN x h 6 0 0 ((h, .inr (5, [.ref v0, .ref v4, .null, .null, .null, .null, .null, .null])) :: ([] : va_W)) 14 [(0, .ref h), (1, .ref v0), (2, .ref v4), (3, .ref v1), (4, .ref v2)] []
  refine n_aload_n (k0 := 0) hx dX6_init_14 rfl rfl ?_
  refine n_aload_n (k0 := 3) hx dX6_init_15 rfl rfl ?_
  refine n_putF (C := RX6) (T := TX6) (N := 8) (ci := 5) (k := 2) (ty := .object "TypeKernel$Names") hx hi rfl (by decide) in_X6 tyX6_ok nmX6 rfl rfl (by decide +kernel) rfl rfl (Nat.le_of_ble_eq_true rfl) rfl wf_X6_19 dX6_init_16 ?_
  show WN x h 6 0 0 ((h, .inr (5, [.ref v0, .ref v4, .ref v1, .null, .null, .null, .null, .null])) :: ([] : va_W)) 19 [(0, .ref h), (1, .ref v0), (2, .ref v4), (3, .ref v1), (4, .ref v2)] []
  refine n_aload_n (k0 := 0) hx dX6_init_19 rfl rfl ?_
  refine n_aload (k0 := 4) hx dX6_init_20 rfl ?_
  refine n_putF (C := RX6) (T := TX6) (N := 8) (ci := 5) (k := 3) (ty := .object "TypeKernel$Reducer") hx hi rfl (by decide) in_X6 tyX6_ok nmX6 rfl rfl (by decide +kernel) rfl rfl (Nat.le_of_ble_eq_true rfl) rfl wf_X6_23 dX6_init_22 ?_
  show WN x h 6 0 0 ((h, .inr (5, [.ref v0, .ref v4, .ref v1, .ref v2, .null, .null, .null, .null])) :: ([] : va_W)) 25 [(0, .ref h), (1, .ref v0), (2, .ref v4), (3, .ref v1), (4, .ref v2)] []
  refine n_aload_n (k0 := 0) hx dX6_init_25 rfl rfl ?_
  refine n_bipush (v := 101) hx dX6_init_26 (by decide) ?_
  refine n_newq (N := 101) hx (by decide) (by decide +kernel) (by decide +kernel) wa_X6_27 (by rw [hR]; decide) (by rw [hR]; decide) dX6_init_28 (fun q1 => ?_)
  show WN x h 6 1 101 ((h, .inr (5, [.ref v0, .ref v4, .ref v1, .ref v2, .null, .null, .null, .null])) :: ([] ++ [(q1, eQ (x_t x) 101 (fun _ => none))] : va_W)) 31 [(0, .ref h), (1, .ref v0), (2, .ref v4), (3, .ref v1), (4, .ref v2)] [.ref q1, .ref h]
  refine n_putF (C := RX6) (T := TX6) (N := 8) (ci := 5) (k := 5) (ty := .array (.object "TypeKernel$Row")) hx hi rfl (by decide) in_X6 tyX6_ok nmX6 rfl rfl (by decide +kernel) rfl rfl (Nat.le_of_ble_eq_true rfl) rfl wf_X6_29 dX6_init_31 ?_
  show WN x h 6 1 101 ((h, .inr (5, [.ref v0, .ref v4, .ref v1, .ref v2, .null, .ref q1, .null, .null])) :: ([] ++ [(q1, eQ (x_t x) 101 (fun _ => none))] : va_W)) 34 [(0, .ref h), (1, .ref v0), (2, .ref v4), (3, .ref v1), (4, .ref v2)] []
  refine n_iconst (v := 0) hx dX6_init_34 (by decide) ?_
  refine n_istore hx dX6_init_35 (by decide) rfl ?_
  refine N6_loop hx hR (fun ra => ?_) 101 0 (fun _ _ => 0) (by decide)
  show WN x h 6 607 101707 ((h, .inr (5, [.ref v0, .ref v4, .ref v1, .ref v2, .null, .ref q1, .null, .null])) :: ([] ++ [(q1, eQ (x_t x) 101 (fun i => some (ra i 0)))] ++ RWs (x_t x) ra 101 : va_W)) 67 [(5, .int 101), (0, .ref h), (1, .ref v0), (2, .ref v4), (3, .ref v1), (4, .ref v2)] []
  refine n_aload_n (k0 := 1) hx dX6_init_67 rfl rfl ?_
  refine n_aload_n (k0 := 1) hx dX6_init_68 rfl rfl ?_
  refine n_get (C := RX6) (T := TX6) (N := 8) (ci := 5) (k := 5) hx rfl (by decide) rfl in_X6 wf_X6_29 dX6_init_69 ?_
  refine n_iconst (v := 0) hx dX6_init_72 (by decide) ?_
  refine n_aald hx 1 rfl (by unfold vp_in; decide) dX6_init_73 ?_
  show WN x h 6 607 101707 ((h, .inr (5, [.ref v0, .ref v4, .ref v1, .ref v2, .null, .ref q1, .null, .null])) :: ([] ++ [(q1, eQ (x_t x) 101 (fun i => some (ra i 0)))] ++ RWs (x_t x) ra 101 : va_W)) 74 [(5, .int 101), (0, .ref h), (1, .ref v0), (2, .ref v4), (3, .ref v1), (4, .ref v2)] [.ref (ra 0 0), .ref h]
  refine n_putF (C := RX6) (T := TX6) (N := 8) (ci := 5) (k := 4) (ty := .object "TypeKernel$Row") hx hi rfl (by decide) in_X6 tyX6_ok nmX6 rfl rfl (by decide +kernel) rfl rfl (Nat.le_of_ble_eq_true rfl) rfl wf_X6_34 dX6_init_74 ?_
  show WN x h 6 607 101707 ((h, .inr (5, [.ref v0, .ref v4, .ref v1, .ref v2, .ref (ra 0 0), .ref q1, .null, .null])) :: ([] ++ [(q1, eQ (x_t x) 101 (fun i => some (ra i 0)))] ++ RWs (x_t x) ra 101 : va_W)) 77 [(5, .int 101), (0, .ref h), (1, .ref v0), (2, .ref v4), (3, .ref v1), (4, .ref v2)] []
  refine n_aload_n (k0 := 1) hx dX6_init_77 rfl rfl ?_
  refine n_bipush (v := 101) hx dX6_init_78 (by decide) ?_
  refine n_newi (N := 101) hx (by decide) (by decide +kernel) (by decide +kernel) (by rw [hR]; decide) (by rw [hR]; decide) dX6_init_80 (fun q2 => ?_)
  show WN x h 6 608 101808 ((h, .inr (5, [.ref v0, .ref v4, .ref v1, .ref v2, .ref (ra 0 0), .ref q1, .null, .null])) :: ([] ++ [(q1, eQ (x_t x) 101 (fun i => some (ra i 0)))] ++ RWs (x_t x) ra 101 ++ [(q2, eI (x_t x) 101 (fun _ => 0))] : va_W)) 82 [(5, .int 101), (0, .ref h), (1, .ref v0), (2, .ref v4), (3, .ref v1), (4, .ref v2)] [.ref q2, .ref h]
  refine n_putF (C := RX6) (T := TX6) (N := 8) (ci := 5) (k := 6) (ty := .array .int) hx hi rfl (by decide) in_X6 tyX6_ok nmX6 rfl rfl (by decide +kernel) rfl rfl (Nat.le_of_ble_eq_true rfl) rfl wf_X6_38 dX6_init_82 ?_
  show WN x h 6 608 101808 ((h, .inr (5, [.ref v0, .ref v4, .ref v1, .ref v2, .ref (ra 0 0), .ref q1, .ref q2, .null])) :: ([] ++ [(q1, eQ (x_t x) 101 (fun i => some (ra i 0)))] ++ RWs (x_t x) ra 101 ++ [(q2, eI (x_t x) 101 (fun _ => 0))] : va_W)) 85 [(5, .int 101), (0, .ref h), (1, .ref v0), (2, .ref v4), (3, .ref v1), (4, .ref v2)] []
  refine n_aload_n (k0 := 1) hx dX6_init_85 rfl rfl ?_
  refine n_new (C := RX4) (T := TX4) (N := 6) (ci := 3) (fs := [.int 0, .null, .null, .null, .null, .null]) (ty := tyX4) hx rfl in_X4 tyX4_ok wa_X6_27 wb_X4 wn_X4 df_X4 (by rw [hR]; decide) (by rw [hR]; decide) dX6_init_86 (fun q3 => ?_)
  show WN x h 6 609 101814 ((h, .inr (5, [.ref v0, .ref v4, .ref v1, .ref v2, .ref (ra 0 0), .ref q1, .ref q2, .null])) :: ([] ++ [(q1, eQ (x_t x) 101 (fun i => some (ra i 0)))] ++ RWs (x_t x) ra 101 ++ [(q2, eI (x_t x) 101 (fun _ => 0))] ++ [(q3, .inr (3, [.int 0, .null, .null, .null, .null, .null]))] : va_W)) 89 [(5, .int 101), (0, .ref h), (1, .ref v0), (2, .ref v4), (3, .ref v1), (4, .ref v2)] [.ref q3, .ref h]
  refine n_dup hx dX6_init_89 ?_
  show WN x h 6 609 101814 (((h, .inr (5, [.ref v0, .ref v4, .ref v1, .ref v2, .ref (ra 0 0), .ref q1, .ref q2, .null])) :: ([] ++ [(q1, eQ (x_t x) 101 (fun i => some (ra i 0)))] ++ RWs (x_t x) ra 101 ++ [(q2, eI (x_t x) 101 (fun _ => 0))] : va_W)) ++ [(q3, .inr (3, [.int 0, .null, .null, .null, .null, .null]))]) 90 [(5, .int 101), (0, .ref h), (1, .ref v0), (2, .ref v4), (3, .ref v1), (4, .ref v2)] [.ref q3, .ref q3, .ref h]
  refine n_call (q := q3) (As := []) (rest := [.ref q3, .ref h]) (n := 0) hx (N_X4) wl_X6_33 wi_X4_init wn_X4 wc_X4_init rfl (by decide +kernel) rfl (by rw [hR]; exact ⟨by decide +kernel, rfl, rfl, by decide +kernel, by decide +kernel⟩) rfl (Nat.le_of_ble_eq_true rfl) dX6_init_90 (fun b3 => ?_)
  show WN x h 6 614 102814 ((h, .inr (5, [.ref v0, .ref v4, .ref v1, .ref v2, .ref (ra 0 0), .ref q1, .ref q2, .null])) :: ([] ++ [(q1, eQ (x_t x) 101 (fun i => some (ra i 0)))] ++ RWs (x_t x) ra 101 ++ [(q2, eI (x_t x) 101 (fun _ => 0))] ++ X4W (x_t x) q3 b3.1 : va_W)) 93 [(5, .int 101), (0, .ref h), (1, .ref v0), (2, .ref v4), (3, .ref v1), (4, .ref v2)] [.ref q3, .ref h]
  refine n_putF (C := RX6) (T := TX6) (N := 8) (ci := 5) (k := 7) (ty := .object "TypeKernel$Row") hx hi rfl (by decide) in_X6 tyX6_ok nmX6 rfl rfl (by decide +kernel) rfl rfl (Nat.le_of_ble_eq_true rfl) rfl wf_X6_42 dX6_init_93 ?_
  show WN x h 6 614 102814 ((h, .inr (5, [.ref v0, .ref v4, .ref v1, .ref v2, .ref (ra 0 0), .ref q1, .ref q2, .ref q3])) :: ([] ++ [(q1, eQ (x_t x) 101 (fun i => some (ra i 0)))] ++ RWs (x_t x) ra 101 ++ [(q2, eI (x_t x) 101 (fun _ => 0))] ++ X4W (x_t x) q3 b3.1 : va_W)) 96 [(5, .int 101), (0, .ref h), (1, .ref v0), (2, .ref v4), (3, .ref v1), (4, .ref v2)] []
  exact n_ret hE (fun f => if f = 255 then q1 else if f = 256 then q2 else if f = 1050 then q3 else b3.1 (f - 1050), ra) (by decide) (by decide) rfl dX6_init_96
