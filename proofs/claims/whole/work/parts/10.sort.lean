/-! The class: mergePairsOfRuns, sort, the constructor (rows laid by wip/whole/p10.py). -/
theorem rs_inc2 (i : Nat) : nI i + Int32.ofInt 2 = nI (i + 2) := by rw [lit2]; exact (inc2_ofNat i).symm
set_option maxHeartbeats 4000000 in
set_option maxRecDepth 100000 in
/-- mergePairsOfRuns -/
theorem c_pairs (l : Launch) (D : va_G) (q : Nat → Nat) (cI : ClassId) (tyr : List (ClassId × FieldType)) (wr : va_W) (sz n : Nat) (f g sf sg r : Nat → Int32) (o : Int32) (k a b : Nat) (hb : b ≤ 2000) (hk : k ≤ 2000) (hR : rs_Rn o a b f g r k) : xr_Met l yX0_mergePairsOfRuns (wU yX0_mergePairsOfRuns cX0_mergePairsOfRuns 5 none) ({ frames := 2, cells := 0, slots := 0, locals := 68 }) [.ref (q 0), .int o, .int (nI k)] D (rs_ty cI tyr) (rs_X q cI (n) (f) (g) (sf) (sg) (r) ++ wr) sz (fun v w => ∃ f' g' sf' sg' r' : Nat → Int32, v = none ∧ w = rs_X q cI n f' g' sf' sg' r' ++ wr ∧ rs_Mv o a b f g f' g' ∧ rs_Rn o a b f' g' r' ((k + 1) / 2)) 0 0 := by
  refine xr_startQ (by decide) (Nat.le_of_ble_eq_true rfl) ?_
  intro p e s m args below meth c A ls Q hQ C0 hlk hr hP hK hD hA hl
  have hx := C0.1
  have hb0 := C0.2.1
  have hS : va_S A s.heap s.heap [] := va_S.rf
  have hl : lv_has ls 5 [(0, .ref (q 0)), (1, .int o), (2, .int (nI k))] := hl
  obtain ⟨ρ, hρ, hρ0, hρk, hup, hso⟩ := hR
  have fin : ∀ (p' : Nat) (F G SF SG : Nat → Int32), rs_PI o a b f g ρ k p' F G → ¬ p' + 1 < k → ∀ (j t : Nat) (r' : Nat → Int32) (H : Heap) (locs : List Loc) (ls : Array Slot), t + j = (k + 1) / 2 + 1 → (∀ i, i < t → r' i = nI (ρ (min (2 * i) k))) → (∀ i, t ≤ i → i ≤ k → r' i = nI (ρ i)) → va_P D vwCl (rs_X q cI (n) (F) (G) (SF) (SG) (r') ++ wr) H → va_D A (rs_X q cI (n) (F) (G) (SF) (SG) (r') ++ wr) → va_S A s.heap H locs → lv_has ls 5 [(4, .int (nI t)), (3, .int (nI ((k + 1) / 2))), (0, .ref (q 0)), (1, .int o), (2, .int (nI k))] → W p l e ({ frames := 2, cells := 0, slots := 0, locals := 68 }) s m args below meth c H locs 0 0 Q (F0 m 51 ls []) := by
    intro p' F G SF SG hI hp j
    induction j with
    | zero =>
      intro t r' H locs ls ht hlo hhi hP hD hS hl
      refine lv_iload hx hb0 dX0_mergePairsOfRuns_51 (lv_at hl 0 rfl) ?_
      refine lv_iload_n hx hb0 dX0_mergePairsOfRuns_53 rfl (lv_at hl 1 rfl) ?_
      refine lv_icmp_gt hx hb0 dX0_mergePairsOfRuns_54 rfl (fun h => ?_) (fun h => absurd (nI_lt (by omega) (by omega)) h)
      rw [hQ]
      exact xr_vret C0 hlk hr (⟨_, _, _, _, _, rfl, rfl, hI.2.2.1, hI.done hp (fun i hi => hlo i (by omega))⟩) hP hD hS dX0_mergePairsOfRuns_83
    | succ j ih =>
      intro t r' H locs ls ht hlo hhi hP hD hS hl
      refine lv_iload hx hb0 dX0_mergePairsOfRuns_51 (lv_at hl 0 rfl) ?_
      refine lv_iload_n hx hb0 dX0_mergePairsOfRuns_53 rfl (lv_at hl 1 rfl) ?_
      refine lv_icmp_gt hx hb0 dX0_mergePairsOfRuns_54 rfl (fun h => absurd h (nI_nlt (by omega) (by omega))) (fun h => ?_)
      refine lv_aload_n hx hb0 dX0_mergePairsOfRuns_57 rfl (lv_at hl 2 rfl) ?_
      refine x0_get_runStarts C0 hK hP 0 rfl rfl dX0_mergePairsOfRuns_58 ?_
      refine lv_iload hx hb0 dX0_mergePairsOfRuns_61 (lv_at hl 0 rfl) ?_
      refine lv_aload_n hx hb0 dX0_mergePairsOfRuns_63 rfl (lv_at hl 2 rfl) ?_
      refine x0_get_runStarts C0 hK hP 0 rfl rfl dX0_mergePairsOfRuns_64 ?_
      refine lv_iconst (v := 2) hx hb0 dX0_mergePairsOfRuns_67 (by decide) ?_
      refine lv_iload hx hb0 dX0_mergePairsOfRuns_68 (lv_at hl 0 rfl) ?_
      refine lv_imul hx hb0 dX0_mergePairsOfRuns_70 ?_
      refine xr_top (pk_mul 2 t) ?_
      refine lv_iload_n hx hb0 dX0_mergePairsOfRuns_71 rfl (lv_at hl 4 rfl) ?_
      refine xr_min (rest := [.ref (q 5), .int (nI t), .ref (q 5)]) (by omega) (by omega) C0 hl.1 (by decide) (Nat.le_of_ble_eq_true rfl) (Nat.le_refl _) (Nat.le_refl _) dX0_mergePairsOfRuns_72 ?_
      refine xr_ald C0 hK hP 5 rfl (j := min (2 * t) k) (by omega) (by decide) dX0_mergePairsOfRuns_75 ?_
      refine xr_top (hhi (min (2 * t) k) (by omega) (by omega)) ?_
      refine xr_ast C0 hK hP hD hS 5 rfl (j := t) (by omega) (by decide) dX0_mergePairsOfRuns_76 (fun H locs hP hD hS => ?_)
      have hP : va_P D vwCl (rs_X q cI (n) (F) (G) (SF) (SG) (upd r' t (nI (ρ (min (2 * t) k)))) ++ wr) H := hP
      have hD : va_D A (rs_X q cI (n) (F) (G) (SF) (SG) (upd r' t (nI (ρ (min (2 * t) k)))) ++ wr) := hD
      refine lv_iinc (k := 0) hx hb0 dX0_mergePairsOfRuns_77 hl rfl (rs_inc t) (by decide) rfl (fun ls hl => ?_)
      have hl : lv_has ls 5 [(4, .int (nI (t + 1))), (3, .int (nI ((k + 1) / 2))), (0, .ref (q 0)), (1, .int o), (2, .int (nI k))] := hl
      refine lv_goto hx hb0 dX0_mergePairsOfRuns_80 rfl ?_
      refine ih (t + 1) _ H locs ls (by omega) (fun i hi => ?_) (fun i hi hik => ?_) hP hD hS hl
      · by_cases hit : i = t
        · subst hit; exact pk_us
        · rw [pk_un hit]; exact hlo i (by omega)
      · rw [pk_un (show i ≠ t by omega)]; exact hhi i (by omega) hik
  have loop : ∀ (j : Nat) (i : Nat) (F G SF SG : Nat → Int32) (H : Heap) (locs : List Loc) (ls : Array Slot), k ≤ i + j → rs_PI o a b f g ρ k i F G → va_P D vwCl (rs_X q cI (n) (F) (G) (SF) (SG) (r) ++ wr) H → va_D A (rs_X q cI (n) (F) (G) (SF) (SG) (r) ++ wr) → va_S A s.heap H locs → lv_has ls 5 [(3, .int (nI i)), (0, .ref (q 0)), (1, .int o), (2, .int (nI k))] → W p l e ({ frames := 2, cells := 0, slots := 0, locals := 68 }) s m args below meth c H locs 0 0 Q (F0 m 2 ls []) := by
    intro j
    induction j with
    | zero =>
      intro i F G SF SG H locs ls hi hI hP hD hS hl
      have hik := hI.2.1
      refine lv_iload_n hx hb0 dX0_mergePairsOfRuns_2 rfl (lv_at hl 0 rfl) ?_
      refine lv_iconst (v := 1) hx hb0 dX0_mergePairsOfRuns_3 (by decide) ?_
      refine lv_iadd hx hb0 dX0_mergePairsOfRuns_4 ?_
      refine xr_top (nI_1 i) ?_
      refine lv_iload_n hx hb0 dX0_mergePairsOfRuns_5 rfl (lv_at hl 3 rfl) ?_
      refine lv_icmp_ge hx hb0 dX0_mergePairsOfRuns_6 rfl (fun h => ?_) (fun h => absurd (nI_le (by omega) (by omega)) h)
      refine lv_iload_n hx hb0 dX0_mergePairsOfRuns_42 rfl (lv_at hl 3 rfl) ?_
      refine lv_iconst (v := 1) hx hb0 dX0_mergePairsOfRuns_43 (by decide) ?_
      refine lv_iadd hx hb0 dX0_mergePairsOfRuns_44 ?_
      refine xr_top (nI_1 k) ?_
      refine lv_iconst (v := 2) hx hb0 dX0_mergePairsOfRuns_45 (by decide) ?_
      refine lv_idiv hx hb0 dX0_mergePairsOfRuns_46 (by decide) ?_
      refine xr_top (rs_half (by omega)) ?_
      refine lv_istore_n hx hb0 dX0_mergePairsOfRuns_47 rfl hl (by decide) rfl (fun ls hl => ?_)
      have hl : lv_has ls 5 [(3, .int (nI ((k + 1) / 2))), (0, .ref (q 0)), (1, .int o), (2, .int (nI k))] := hl
      refine lv_iconst (v := 0) hx hb0 dX0_mergePairsOfRuns_48 (by decide) ?_
      refine lv_istore hx hb0 dX0_mergePairsOfRuns_49 hl (by decide) rfl (fun ls hl => ?_)
      have hl : lv_has ls 5 [(4, .int (nI 0)), (3, .int (nI ((k + 1) / 2))), (0, .ref (q 0)), (1, .int o), (2, .int (nI k))] := hl
      exact fin i F G SF SG hI (by omega) ((k + 1) / 2 + 1) 0 r H locs ls (by omega) (fun i hi => absurd hi (by omega)) (fun i _ hik => hρ i hik) hP hD hS hl
    | succ j ih =>
      intro i F G SF SG H locs ls hi hI hP hD hS hl
      have hik := hI.2.1
      refine lv_iload_n hx hb0 dX0_mergePairsOfRuns_2 rfl (lv_at hl 0 rfl) ?_
      refine lv_iconst (v := 1) hx hb0 dX0_mergePairsOfRuns_3 (by decide) ?_
      refine lv_iadd hx hb0 dX0_mergePairsOfRuns_4 ?_
      refine xr_top (nI_1 i) ?_
      refine lv_iload_n hx hb0 dX0_mergePairsOfRuns_5 rfl (lv_at hl 3 rfl) ?_
      refine lv_icmp_ge hx hb0 dX0_mergePairsOfRuns_6 rfl (fun h => ?_) (fun h => ?_)
      · skip
        refine lv_iload_n hx hb0 dX0_mergePairsOfRuns_42 rfl (lv_at hl 3 rfl) ?_
        refine lv_iconst (v := 1) hx hb0 dX0_mergePairsOfRuns_43 (by decide) ?_
        refine lv_iadd hx hb0 dX0_mergePairsOfRuns_44 ?_
        refine xr_top (nI_1 k) ?_
        refine lv_iconst (v := 2) hx hb0 dX0_mergePairsOfRuns_45 (by decide) ?_
        refine lv_idiv hx hb0 dX0_mergePairsOfRuns_46 (by decide) ?_
        refine xr_top (rs_half (by omega)) ?_
        refine lv_istore_n hx hb0 dX0_mergePairsOfRuns_47 rfl hl (by decide) rfl (fun ls hl => ?_)
        have hl : lv_has ls 5 [(3, .int (nI ((k + 1) / 2))), (0, .ref (q 0)), (1, .int o), (2, .int (nI k))] := hl
        refine lv_iconst (v := 0) hx hb0 dX0_mergePairsOfRuns_48 (by decide) ?_
        refine lv_istore hx hb0 dX0_mergePairsOfRuns_49 hl (by decide) rfl (fun ls hl => ?_)
        have hl : lv_has ls 5 [(4, .int (nI 0)), (3, .int (nI ((k + 1) / 2))), (0, .ref (q 0)), (1, .int o), (2, .int (nI k))] := hl
        exact fin i F G SF SG hI (fun q => nI_ge q (by omega) h) ((k + 1) / 2 + 1) 0 r H locs ls (by omega) (fun i hi => absurd hi (by omega)) (fun i _ hik => hρ i hik) hP hD hS hl
      · skip
        have hlt : i + 1 < k := by
          rcases Nat.lt_or_ge (i + 1) k with q | q
          · exact q
          · exact absurd (nI_le q (by omega)) h
        have m0 : ρ i ≤ ρ (i + 1) := hup i (by omega)
        have m1 : ρ (i + 1) ≤ ρ (i + 2) := hup (i + 1) (by omega)
        have m2 : ρ (i + 2) ≤ b := by
          rw [← hρk]
          exact rs_mono hup (by omega) (Nat.le_refl _)
        refine lv_aload_n hx hb0 dX0_mergePairsOfRuns_9 rfl (lv_at hl 1 rfl) ?_
        refine lv_iload_n hx hb0 dX0_mergePairsOfRuns_10 rfl (lv_at hl 2 rfl) ?_
        refine lv_aload_n hx hb0 dX0_mergePairsOfRuns_11 rfl (lv_at hl 1 rfl) ?_
        refine x0_get_runStarts C0 hK hP 0 rfl rfl dX0_mergePairsOfRuns_12 ?_
        refine lv_iload_n hx hb0 dX0_mergePairsOfRuns_15 rfl (lv_at hl 0 rfl) ?_
        refine xr_ald C0 hK hP 5 rfl (j := i) (by omega) (by decide) dX0_mergePairsOfRuns_16 ?_
        refine xr_top (hρ i (by omega)) ?_
        refine lv_aload_n hx hb0 dX0_mergePairsOfRuns_17 rfl (lv_at hl 1 rfl) ?_
        refine x0_get_runStarts C0 hK hP 0 rfl rfl dX0_mergePairsOfRuns_18 ?_
        refine lv_iload_n hx hb0 dX0_mergePairsOfRuns_21 rfl (lv_at hl 0 rfl) ?_
        refine lv_iconst (v := 1) hx hb0 dX0_mergePairsOfRuns_22 (by decide) ?_
        refine lv_iadd hx hb0 dX0_mergePairsOfRuns_23 ?_
        refine xr_top (nI_1 i) ?_
        refine xr_ald C0 hK hP 5 rfl (j := i + 1) (by omega) (by decide) dX0_mergePairsOfRuns_24 ?_
        refine xr_top (hρ (i + 1) (by omega)) ?_
        refine lv_aload_n hx hb0 dX0_mergePairsOfRuns_25 rfl (lv_at hl 1 rfl) ?_
        refine x0_get_runStarts C0 hK hP 0 rfl rfl dX0_mergePairsOfRuns_26 ?_
        refine lv_iload_n hx hb0 dX0_mergePairsOfRuns_29 rfl (lv_at hl 0 rfl) ?_
        refine lv_iconst (v := 2) hx hb0 dX0_mergePairsOfRuns_30 (by decide) ?_
        refine lv_iadd hx hb0 dX0_mergePairsOfRuns_31 ?_
        refine xr_top (nI_add i 2) ?_
        refine xr_ald C0 hK hP 5 rfl (j := i + 2) (by omega) (by decide) dX0_mergePairsOfRuns_32 ?_
        refine xr_top (hρ (i + 2) (by omega)) ?_
        refine xr_vcall (As := [.int o, .int (nI (ρ i)), .int (nI (ρ (i + 1))), .int (nI (ρ (i + 2)))]) (rest := []) (nA := 4) C0 (c_merge l D q cI tyr wr _ n F G SF SG r o (ρ i) (ρ (i + 1)) (ρ (i + 2)) m0 m1 (by omega) (hI.2.2.2.2.2.2.1 i (by omega) (by omega)) (hI.2.2.2.2.2.2.1 (i + 1) (by omega) (by omega))) (gV wM_X0_X0_merge wI_X0_merge wV_X0_X0_merge wN_X0 wC_X0_merge) (by decide +kernel) rfl rfl rfl ⟨by decide, by decide⟩ hK hP hD hS hA 0 rfl rfl hl.1 rfl (Nat.le_of_ble_eq_true rfl) dX0_mergePairsOfRuns_33 ⟨Nat.le_of_ble_eq_true rfl, Nat.le_of_ble_eq_true rfl⟩ (fun v w H locs hv hP hD hz hS => ?_)
        obtain ⟨F', G', SF', SG', rfl, rfl, hSt⟩ := hv
        refine lv_iinc (k := 0) hx hb0 dX0_mergePairsOfRuns_36 hl rfl (rs_inc2 i) (by decide) rfl (fun ls hl => ?_)
        have hl : lv_has ls 5 [(3, .int (nI (i + 2))), (0, .ref (q 0)), (1, .int o), (2, .int (nI k))] := hl
        refine lv_goto hx hb0 dX0_mergePairsOfRuns_39 rfl ?_
        exact ih (i + 2) F' G' SF' SG' H locs ls (by omega) (hI.step hlt hSt) hP hD hS hl
  refine lv_iconst (v := 0) hx hb0 dX0_mergePairsOfRuns_0 (by decide) ?_
  refine lv_istore_n hx hb0 dX0_mergePairsOfRuns_1 rfl hl (by decide) rfl (fun ls hl => ?_)
  have hl : lv_has ls 5 [(3, .int (nI 0)), (0, .ref (q 0)), (1, .int o), (2, .int (nI k))] := hl
  exact loop k 0 f g sf sg _ _ ls (by omega) ⟨rfl, by omega, rs_Mv.rf, hρ0, hρk, hup, fun i _ hi => hso i hi, fun i _ hi => absurd hi (by omega)⟩ hP hD hS hl
set_option maxHeartbeats 4000000 in
set_option maxRecDepth 100000 in
/-- sort, in range -/
theorem c_sort (l : Launch) (D : va_G) (q : Nat → Nat) (cI : ClassId) (tyr : List (ClassId × FieldType)) (wr : va_W) (sz n : Nat) (f g sf sg r : Nat → Int32) (o : Int32) (a b : Nat) (h1 : ¬ o < 0) (h2 : o ≤ 3) (hab : a ≤ b) (hbn : b ≤ n) (hn : n ≤ 2000) : xr_Met l yX0_sort (wU yX0_sort cX0_sort 5 (some .int)) ({ frames := 3, cells := 0, slots := 0, locals := 92 }) [.ref (q 0), .int o, .int (nI a), .int (nI b)] D (rs_ty cI tyr) (rs_X q cI (n) (f) (g) (sf) (sg) (r) ++ wr) sz (fun v w => ∃ f' g' sf' sg' r' : Nat → Int32, v = some (.int (nI (b - a))) ∧ w = rs_X q cI n f' g' sf' sg' r' ++ wr ∧ rs_St o a b f g f' g') 0 0 := by
  refine xr_startQ (by decide) (Nat.le_of_ble_eq_true rfl) ?_
  intro p e s m args below meth c A ls Q hQ C0 hlk hr hP hK hD hA hl
  have hx := C0.1
  have hb := C0.2.1
  have hS : va_S A s.heap s.heap [] := va_S.rf
  have hl : lv_has ls 5 [(0, .ref (q 0)), (1, .int o), (2, .int (nI a)), (3, .int (nI b))] := hl
  refine lv_iload_n hx hb dX0_sort_0 rfl (lv_at hl 1 rfl) ?_
  refine xr_scall (As := [.int o]) (rest := []) (nA := 1) C0 (c_order l D q cI tyr wr _ n f g sf sg r o h1 h2) (gS wM_X0_X0_requireOrder wS_X0_requireOrder wN_X0 wC_X0_requireOrder) (by decide +kernel) rfl rfl rfl ⟨by decide, by decide⟩ hK hP hD hS hA hl.1 rfl (Nat.le_of_ble_eq_true rfl) dX0_sort_1 ⟨Nat.le_of_ble_eq_true rfl, Nat.le_of_ble_eq_true rfl⟩ (fun v w H locs hv hP hD hz hS => ?_)
  obtain ⟨rfl, rfl⟩ := hv
  refine lv_aload_n hx hb dX0_sort_4 rfl (lv_at hl 0 rfl) ?_
  refine lv_iload_n hx hb dX0_sort_5 rfl (lv_at hl 2 rfl) ?_
  refine lv_iload_n hx hb dX0_sort_6 rfl (lv_at hl 3 rfl) ?_
  refine xr_vcall (As := [.int (nI a), .int (nI b)]) (rest := []) (nA := 2) C0 (c_part l D q cI tyr wr _ n f g sf sg r a b hab hbn hn) (gV wM_X0_X0_requirePart wI_X0_requirePart wV_X0_X0_requirePart wN_X0 wC_X0_requirePart) (by decide +kernel) rfl rfl rfl ⟨by decide, by decide⟩ hK hP hD hS hA 0 rfl rfl hl.1 rfl (Nat.le_of_ble_eq_true rfl) dX0_sort_7 ⟨Nat.le_of_ble_eq_true rfl, Nat.le_of_ble_eq_true rfl⟩ (fun v w H locs hv hP hD hz hS => ?_)
  obtain ⟨rfl, rfl⟩ := hv
  refine lv_aload_n hx hb dX0_sort_10 rfl (lv_at hl 0 rfl) ?_
  refine lv_iload_n hx hb dX0_sort_11 rfl (lv_at hl 1 rfl) ?_
  refine lv_iload_n hx hb dX0_sort_12 rfl (lv_at hl 2 rfl) ?_
  refine lv_iload_n hx hb dX0_sort_13 rfl (lv_at hl 3 rfl) ?_
  refine xr_vcall (As := [.int o, .int (nI a), .int (nI b)]) (rest := []) (nA := 3) C0 (c_findRuns l D q cI tyr wr _ n f g sf sg r o a b hab (by omega)) (gV wM_X0_X0_findRuns wI_X0_findRuns wV_X0_X0_findRuns wN_X0 wC_X0_findRuns) (by decide +kernel) rfl rfl rfl ⟨by decide, by decide⟩ hK hP hD hS hA 0 rfl rfl hl.1 rfl (Nat.le_of_ble_eq_true rfl) dX0_sort_14 ⟨Nat.le_of_ble_eq_true rfl, Nat.le_of_ble_eq_true rfl⟩ (fun v w H locs hv hP hD hz hS => ?_)
  obtain ⟨k, r1, rfl, rfl, hR, hk⟩ := hv
  have loop : ∀ (j : Nat) (i : Nat) (F G SF SG r' : Nat → Int32) (H : Heap) (locs : List Loc) (ls : Array Slot), i ≤ j → i ≤ 2000 → rs_Mv o a b f g F G → rs_Rn o a b F G r' i → va_P D vwCl (rs_X q cI (n) (F) (G) (SF) (SG) (r') ++ wr) H → va_D A (rs_X q cI (n) (F) (G) (SF) (SG) (r') ++ wr) → va_S A s.heap H locs → lv_has ls 5 [(4, .int (nI i)), (0, .ref (q 0)), (1, .int o), (2, .int (nI a)), (3, .int (nI b))] → W p l e ({ frames := 3, cells := 0, slots := 0, locals := 92 }) s m args below meth c H locs 0 0 Q (F0 m 19 ls []) := by
    intro j
    induction j with
    | zero =>
      intro i F G SF SG r' H locs ls hi hi2 hM hR hP hD hS hl
      refine lv_iload hx hb dX0_sort_19 (lv_at hl 0 rfl) ?_
      refine lv_iconst (v := 1) hx hb dX0_sort_21 (by decide) ?_
      refine lv_icmp_le hx hb dX0_sort_22 rfl (fun h => ?_) (fun h => absurd (nI_le (b := 1) (by omega) (by omega)) h)
      refine lv_iload_n hx hb dX0_sort_43 rfl (lv_at hl 4 rfl) ?_
      refine lv_iload_n hx hb dX0_sort_44 rfl (lv_at hl 3 rfl) ?_
      refine lv_isub hx hb dX0_sort_45 ?_
      refine xr_top (pk_sub hab) ?_
      rw [hQ]
      exact xr_iret C0 hlk hr (⟨_, _, _, _, _, rfl, rfl, hM, hR.done (by omega)⟩) hP hD hS dX0_sort_46
    | succ j ih =>
      intro i F G SF SG r' H locs ls hi hi2 hM hR hP hD hS hl
      refine lv_iload hx hb dX0_sort_19 (lv_at hl 0 rfl) ?_
      refine lv_iconst (v := 1) hx hb dX0_sort_21 (by decide) ?_
      refine lv_icmp_le hx hb dX0_sort_22 rfl (fun h => ?_) (fun h => ?_)
      · skip
        refine lv_iload_n hx hb dX0_sort_43 rfl (lv_at hl 4 rfl) ?_
        refine lv_iload_n hx hb dX0_sort_44 rfl (lv_at hl 3 rfl) ?_
        refine lv_isub hx hb dX0_sort_45 ?_
        refine xr_top (pk_sub hab) ?_
        rw [hQ]
        exact xr_iret C0 hlk hr (⟨_, _, _, _, _, rfl, rfl, hM, hR.done (Nat.le_of_not_lt (fun q => nI_ge (a := 1) q (by omega) h))⟩) hP hD hS dX0_sort_46
      · skip
        have hlt : 1 < i := by
          rcases Nat.lt_or_ge 1 i with q | q
          · exact q
          · exact absurd (nI_le (b := 1) q (by omega)) h
        refine lv_aload_n hx hb dX0_sort_25 rfl (lv_at hl 1 rfl) ?_
        refine lv_iload_n hx hb dX0_sort_26 rfl (lv_at hl 2 rfl) ?_
        refine lv_iload hx hb dX0_sort_27 (lv_at hl 0 rfl) ?_
        refine xr_vcall (As := [.int o, .int (nI i)]) (rest := []) (nA := 2) C0 (c_pairs l D q cI tyr wr _ n F G SF SG r' o i a b (by omega) hi2 hR) (gV wM_X0_X0_mergePairsOfRuns wI_X0_mergePairsOfRuns wV_X0_X0_mergePairsOfRuns wN_X0 wC_X0_mergePairsOfRuns) (by decide +kernel) rfl rfl rfl ⟨by decide, by decide⟩ hK hP hD hS hA 0 rfl rfl hl.1 rfl (Nat.le_of_ble_eq_true rfl) dX0_sort_29 ⟨Nat.le_of_ble_eq_true rfl, Nat.le_of_ble_eq_true rfl⟩ (fun v w H locs hv hP hD hz hS => ?_)
        obtain ⟨F', G', SF', SG', r2, rfl, rfl, hM2, hR2⟩ := hv
        refine lv_iload hx hb dX0_sort_32 (lv_at hl 0 rfl) ?_
        refine lv_iconst (v := 1) hx hb dX0_sort_34 (by decide) ?_
        refine lv_iadd hx hb dX0_sort_35 ?_
        refine xr_top (nI_1 i) ?_
        refine lv_iconst (v := 2) hx hb dX0_sort_36 (by decide) ?_
        refine lv_idiv hx hb dX0_sort_37 (by decide) ?_
        refine xr_top (rs_half (by omega)) ?_
        refine lv_istore hx hb dX0_sort_38 hl (by decide) rfl (fun ls hl => ?_)
        have hl : lv_has ls 5 [(4, .int (nI ((i + 1) / 2))), (0, .ref (q 0)), (1, .int o), (2, .int (nI a)), (3, .int (nI b))] := hl
        refine lv_goto hx hb dX0_sort_40 rfl ?_
        exact ih ((i + 1) / 2) F' G' SF' SG' r2 H locs ls (by omega) (by omega) (hM.tr hM2) hR2 hP hD hS hl
  refine lv_istore hx hb dX0_sort_17 hl (by decide) rfl (fun ls hl => ?_)
  have hl : lv_has ls 5 [(4, .int (nI k)), (0, .ref (q 0)), (1, .int o), (2, .int (nI a)), (3, .int (nI b))] := hl
  exact loop k k f g sf sg r1 _ _ ls (Nat.le_refl _) (by omega) rs_Mv.rf hR hP hD hS hl
set_option maxHeartbeats 4000000 in
set_option maxRecDepth 100000 in
/-- RunSorter(): five new rows, no numbers -/
theorem c_init (l : Launch) (D : va_G) (cI : ClassId) (tyr : List (ClassId × FieldType)) (sz a : Nat) : xr_Met l yX0_init (wU yX0_init cX0_init 1 none) ({ frames := 1, cells := 5, slots := 10001, locals := 20 }) [.ref a] D (rs_ty cI tyr) [(a, .inr (0, [.null, .null, .int 0, .null, .null, .null]))] sz (fun v w => v = none ∧ ∃ q : Nat → Nat, q 0 = a ∧ w = rs_X q cI 0 (fun _ => 0) (fun _ => 0) (fun _ => 0) (fun _ => 0) (fun _ => 0)) 5 10001 := by
  refine xr_start (by decide) (Nat.le_of_ble_eq_true rfl) ?_
  intro p e s m args below meth c A ls C0 hlk hr hnm hP hK hD hA hl
  have hx := C0.1
  have hb := C0.2.1
  have hS : va_S A s.heap s.heap [] := va_S.rf
  have hl : lv_has ls 1 [(0, .ref a)] := hl
  refine lv_aload_n hx hb dX0_init_0 rfl (lv_at hl 0 rfl) ?_
  refine W.objInit hx hb C0.2.2.2.1 (C0.2.2.2.2 _ wM_X0_Object_init) (C0.2.2.2.2 _ wI_Object_init) (C0.2.2.2.2 _ wC_Object_init) rfl (by rw [C0.2.2.1]; exact hl.1) rfl dX0_init_1 (Nat.le_of_ble_eq_true rfl) (Nat.le_of_ble_eq_true rfl) ?_
  refine W.eq (g2 := F0 m 4 ls []) rfl ?_
  refine lv_aload_n hx hb dX0_init_4 rfl (lv_at hl 0 rfl) ?_
  refine lv_sipush (v := 2000) hx hb dX0_init_5 (by decide) ?_
  refine xr_newa (N := 2000) C0 hK hP hD hS hA rfl (by decide) (Nat.le_of_ble_eq_true rfl) (Nat.le_of_ble_eq_true rfl) dX0_init_8 (fun q1 H hP hD hS => ?_)
  have hP : va_P D vwCl [(a, .inr (0, [.null, .null, .int 0, .null, .null, .null])), (q1, .inl (cI, 2000, .inl (fun _ => 0)))] H := hP
  have hD : va_D A [(a, .inr (0, [.null, .null, .int 0, .null, .null, .null])), (q1, .inl (cI, 2000, .inl (fun _ => 0)))] := hD
  refine x0_putF_numbers C0 hnm hK hP hD hS 0 rfl (Nat.le_of_ble_eq_true rfl) dX0_init_10 (fun H locs hP hD hS => ?_)
  have hP : va_P D vwCl [(a, .inr (0, [.ref q1, .null, .int 0, .null, .null, .null])), (q1, .inl (cI, 2000, .inl (fun _ => 0)))] H := hP
  have hD : va_D A [(a, .inr (0, [.ref q1, .null, .int 0, .null, .null, .null])), (q1, .inl (cI, 2000, .inl (fun _ => 0)))] := hD
  refine lv_aload_n hx hb dX0_init_13 rfl (lv_at hl 0 rfl) ?_
  refine lv_sipush (v := 2000) hx hb dX0_init_14 (by decide) ?_
  refine xr_newa (N := 2000) C0 hK hP hD hS hA rfl (by decide) (Nat.le_of_ble_eq_true rfl) (Nat.le_of_ble_eq_true rfl) dX0_init_17 (fun q2 H hP hD hS => ?_)
  have hP : va_P D vwCl [(a, .inr (0, [.ref q1, .null, .int 0, .null, .null, .null])), (q1, .inl (cI, 2000, .inl (fun _ => 0))), (q2, .inl (cI, 2000, .inl (fun _ => 0)))] H := hP
  have hD : va_D A [(a, .inr (0, [.ref q1, .null, .int 0, .null, .null, .null])), (q1, .inl (cI, 2000, .inl (fun _ => 0))), (q2, .inl (cI, 2000, .inl (fun _ => 0)))] := hD
  refine x0_putF_tags C0 hnm hK hP hD hS 0 rfl (Nat.le_of_ble_eq_true rfl) dX0_init_19 (fun H locs hP hD hS => ?_)
  have hP : va_P D vwCl [(a, .inr (0, [.ref q1, .ref q2, .int 0, .null, .null, .null])), (q1, .inl (cI, 2000, .inl (fun _ => 0))), (q2, .inl (cI, 2000, .inl (fun _ => 0)))] H := hP
  have hD : va_D A [(a, .inr (0, [.ref q1, .ref q2, .int 0, .null, .null, .null])), (q1, .inl (cI, 2000, .inl (fun _ => 0))), (q2, .inl (cI, 2000, .inl (fun _ => 0)))] := hD
  refine lv_aload_n hx hb dX0_init_22 rfl (lv_at hl 0 rfl) ?_
  refine lv_iconst (v := 0) hx hb dX0_init_23 (by decide) ?_
  refine x0_put_size C0 hK hP hD hS 0 rfl (Nat.le_of_ble_eq_true rfl) dX0_init_24 (fun H locs hP hD hS => ?_)
  have hP : va_P D vwCl [(a, .inr (0, [.ref q1, .ref q2, .int 0, .null, .null, .null])), (q1, .inl (cI, 2000, .inl (fun _ => 0))), (q2, .inl (cI, 2000, .inl (fun _ => 0)))] H := hP
  have hD : va_D A [(a, .inr (0, [.ref q1, .ref q2, .int 0, .null, .null, .null])), (q1, .inl (cI, 2000, .inl (fun _ => 0))), (q2, .inl (cI, 2000, .inl (fun _ => 0)))] := hD
  refine lv_aload_n hx hb dX0_init_27 rfl (lv_at hl 0 rfl) ?_
  refine lv_sipush (v := 2000) hx hb dX0_init_28 (by decide) ?_
  refine xr_newa (N := 2000) C0 hK hP hD hS hA rfl (by decide) (Nat.le_of_ble_eq_true rfl) (Nat.le_of_ble_eq_true rfl) dX0_init_31 (fun q3 H hP hD hS => ?_)
  have hP : va_P D vwCl [(a, .inr (0, [.ref q1, .ref q2, .int 0, .null, .null, .null])), (q1, .inl (cI, 2000, .inl (fun _ => 0))), (q2, .inl (cI, 2000, .inl (fun _ => 0))), (q3, .inl (cI, 2000, .inl (fun _ => 0)))] H := hP
  have hD : va_D A [(a, .inr (0, [.ref q1, .ref q2, .int 0, .null, .null, .null])), (q1, .inl (cI, 2000, .inl (fun _ => 0))), (q2, .inl (cI, 2000, .inl (fun _ => 0))), (q3, .inl (cI, 2000, .inl (fun _ => 0)))] := hD
  refine x0_putF_spareNumbers C0 hnm hK hP hD hS 0 rfl (Nat.le_of_ble_eq_true rfl) dX0_init_33 (fun H locs hP hD hS => ?_)
  have hP : va_P D vwCl [(a, .inr (0, [.ref q1, .ref q2, .int 0, .ref q3, .null, .null])), (q1, .inl (cI, 2000, .inl (fun _ => 0))), (q2, .inl (cI, 2000, .inl (fun _ => 0))), (q3, .inl (cI, 2000, .inl (fun _ => 0)))] H := hP
  have hD : va_D A [(a, .inr (0, [.ref q1, .ref q2, .int 0, .ref q3, .null, .null])), (q1, .inl (cI, 2000, .inl (fun _ => 0))), (q2, .inl (cI, 2000, .inl (fun _ => 0))), (q3, .inl (cI, 2000, .inl (fun _ => 0)))] := hD
  refine lv_aload_n hx hb dX0_init_36 rfl (lv_at hl 0 rfl) ?_
  refine lv_sipush (v := 2000) hx hb dX0_init_37 (by decide) ?_
  refine xr_newa (N := 2000) C0 hK hP hD hS hA rfl (by decide) (Nat.le_of_ble_eq_true rfl) (Nat.le_of_ble_eq_true rfl) dX0_init_40 (fun q4 H hP hD hS => ?_)
  have hP : va_P D vwCl [(a, .inr (0, [.ref q1, .ref q2, .int 0, .ref q3, .null, .null])), (q1, .inl (cI, 2000, .inl (fun _ => 0))), (q2, .inl (cI, 2000, .inl (fun _ => 0))), (q3, .inl (cI, 2000, .inl (fun _ => 0))), (q4, .inl (cI, 2000, .inl (fun _ => 0)))] H := hP
  have hD : va_D A [(a, .inr (0, [.ref q1, .ref q2, .int 0, .ref q3, .null, .null])), (q1, .inl (cI, 2000, .inl (fun _ => 0))), (q2, .inl (cI, 2000, .inl (fun _ => 0))), (q3, .inl (cI, 2000, .inl (fun _ => 0))), (q4, .inl (cI, 2000, .inl (fun _ => 0)))] := hD
  refine x0_putF_spareTags C0 hnm hK hP hD hS 0 rfl (Nat.le_of_ble_eq_true rfl) dX0_init_42 (fun H locs hP hD hS => ?_)
  have hP : va_P D vwCl [(a, .inr (0, [.ref q1, .ref q2, .int 0, .ref q3, .ref q4, .null])), (q1, .inl (cI, 2000, .inl (fun _ => 0))), (q2, .inl (cI, 2000, .inl (fun _ => 0))), (q3, .inl (cI, 2000, .inl (fun _ => 0))), (q4, .inl (cI, 2000, .inl (fun _ => 0)))] H := hP
  have hD : va_D A [(a, .inr (0, [.ref q1, .ref q2, .int 0, .ref q3, .ref q4, .null])), (q1, .inl (cI, 2000, .inl (fun _ => 0))), (q2, .inl (cI, 2000, .inl (fun _ => 0))), (q3, .inl (cI, 2000, .inl (fun _ => 0))), (q4, .inl (cI, 2000, .inl (fun _ => 0)))] := hD
  refine lv_aload_n hx hb dX0_init_45 rfl (lv_at hl 0 rfl) ?_
  refine lv_sipush (v := 2001) hx hb dX0_init_46 (by decide) ?_
  refine xr_newa (N := 2001) C0 hK hP hD hS hA rfl (by decide) (Nat.le_of_ble_eq_true rfl) (Nat.le_of_ble_eq_true rfl) dX0_init_49 (fun q5 H hP hD hS => ?_)
  have hP : va_P D vwCl [(a, .inr (0, [.ref q1, .ref q2, .int 0, .ref q3, .ref q4, .null])), (q1, .inl (cI, 2000, .inl (fun _ => 0))), (q2, .inl (cI, 2000, .inl (fun _ => 0))), (q3, .inl (cI, 2000, .inl (fun _ => 0))), (q4, .inl (cI, 2000, .inl (fun _ => 0))), (q5, .inl (cI, 2001, .inl (fun _ => 0)))] H := hP
  have hD : va_D A [(a, .inr (0, [.ref q1, .ref q2, .int 0, .ref q3, .ref q4, .null])), (q1, .inl (cI, 2000, .inl (fun _ => 0))), (q2, .inl (cI, 2000, .inl (fun _ => 0))), (q3, .inl (cI, 2000, .inl (fun _ => 0))), (q4, .inl (cI, 2000, .inl (fun _ => 0))), (q5, .inl (cI, 2001, .inl (fun _ => 0)))] := hD
  refine x0_putF_runStarts C0 hnm hK hP hD hS 0 rfl (Nat.le_of_ble_eq_true rfl) dX0_init_51 (fun H locs hP hD hS => ?_)
  have hP : va_P D vwCl [(a, .inr (0, [.ref q1, .ref q2, .int 0, .ref q3, .ref q4, .ref q5])), (q1, .inl (cI, 2000, .inl (fun _ => 0))), (q2, .inl (cI, 2000, .inl (fun _ => 0))), (q3, .inl (cI, 2000, .inl (fun _ => 0))), (q4, .inl (cI, 2000, .inl (fun _ => 0))), (q5, .inl (cI, 2001, .inl (fun _ => 0)))] H := hP
  have hD : va_D A [(a, .inr (0, [.ref q1, .ref q2, .int 0, .ref q3, .ref q4, .ref q5])), (q1, .inl (cI, 2000, .inl (fun _ => 0))), (q2, .inl (cI, 2000, .inl (fun _ => 0))), (q3, .inl (cI, 2000, .inl (fun _ => 0))), (q4, .inl (cI, 2000, .inl (fun _ => 0))), (q5, .inl (cI, 2001, .inl (fun _ => 0)))] := hD
  exact xr_vret C0 hlk hr ⟨rfl, (fun k => match k with | 0 => a | 1 => q1 | 2 => q2 | 3 => q3 | 4 => q4 | _ => q5), rfl, rfl⟩ hP hD hS dX0_init_54
