/-! The reference: turn, upTo, sort, the constructor (rows laid by wip/whole/p12.py). -/
theorem rs_pred_le (a : Nat) (h : a < 2 ^ 31) : nI a - 1 ≤ nI a := by
  rcases Nat.eq_zero_or_pos a with e | e
  · subst e; decide
  · rw [rs_pre a e]; exact nI_le (by omega) h
set_option maxHeartbeats 4000000 in
set_option maxRecDepth 100000 in
/-- turn, in range -/
theorem m_turn0 (l : Launch) (D : va_G) (q : Nat → Nat) (cI : ClassId) (tyr : List (ClassId × FieldType)) (wr : va_W) (sz n : Nat) (k : Int32) (f g : Nat → Int32) (a b : Nat) (h1 : a ≤ b) (h2 : b ≤ n) (hn : n ≤ 2000) : xr_Met l yX1_turn (wU yX1_turn cX1_turn 7 (some .int)) ({ frames := 1, cells := 0, slots := 0, locals := 22 }) [.ref (q 0), .int (nI a), .int (nI b)] D (rs_ty cI tyr) (rs_M q cI (k) (n) (f) (g) ++ wr) sz (fun v w => v = some (.int (nI (b - a))) ∧ w = rs_M q cI 0 n (rs_tn f a b ((b - a) / 2)) (rs_tn g a b ((b - a) / 2)) ++ wr) 0 0 := by
  refine xr_startQ (by decide) (Nat.le_of_ble_eq_true rfl) ?_
  intro p e s m args below meth c A ls Q hQ C0 hlk hr hP hK hD hA hl
  have hx := C0.1
  have hb := C0.2.1
  have hS : va_S A s.heap s.heap [] := va_S.rf
  have hl : lv_has ls 7 [(0, .ref (q 0)), (1, .int (nI a)), (2, .int (nI b))] := hl
  refine lv_aload_n hx hb dX1_turn_0 rfl (lv_at hl 0 rfl) ?_
  refine lv_iconst (v := 0) hx hb dX1_turn_1 (by decide) ?_
  refine x1_put_failed C0 hK hP hD hS 0 rfl (Nat.le_of_ble_eq_true rfl) dX1_turn_2 (fun H locs hP hD hS => ?_)
  have hP : va_P D vwCl (rs_M q cI (0) (n) (f) (g) ++ wr) H := hP
  have hD : va_D A (rs_M q cI (0) (n) (f) (g) ++ wr) := hD
  refine lv_aload_n hx hb dX1_turn_5 rfl (lv_at hl 0 rfl) ?_
  refine lv_iload_n hx hb dX1_turn_6 rfl (lv_at hl 1 rfl) ?_
  refine lv_iload_n hx hb dX1_turn_7 rfl (lv_at hl 2 rfl) ?_
  refine xr_vcall (As := [.int (nI a), .int (nI b)]) (rest := []) (nA := 2) C0 (m_bad0 l D q cI tyr wr _ n 0 f g a b h1 h2 hn) (gV wM_X1_X1_bad wI_X1_bad wV_X1_X1_bad wN_X1 wC_X1_bad) (by decide +kernel) rfl rfl rfl ⟨by decide, by decide⟩ hK hP hD hS hA 0 rfl rfl hl.1 rfl (Nat.le_of_ble_eq_true rfl) dX1_turn_8 ⟨Nat.le_of_ble_eq_true rfl, Nat.le_of_ble_eq_true rfl⟩ (fun v w H locs hv hP hD hz hS => ?_)
  obtain ⟨rfl, rfl⟩ := hv
  refine lv_if_eq hx hb dX1_turn_11 rfl (fun h => ?_) (fun h => absurd rfl h)
  rcases Nat.eq_or_lt_of_le h1 with hab | hab
  · skip
    subst hab
    refine lv_iload_n hx hb dX1_turn_20 rfl (lv_at hl 1 rfl) ?_
    refine lv_istore_n hx hb dX1_turn_21 rfl hl (by decide) rfl (fun ls hl => ?_)
    have hl : lv_has ls 7 [(3, .int (nI a)), (0, .ref (q 0)), (1, .int (nI a)), (2, .int (nI a))] := hl
    refine lv_iload_n hx hb dX1_turn_22 rfl (lv_at hl 3 rfl) ?_
    refine lv_iconst (v := 1) hx hb dX1_turn_23 (by decide) ?_
    refine lv_isub hx hb dX1_turn_24 ?_
    refine lv_istore hx hb dX1_turn_25 hl (by decide) rfl (fun ls hl => ?_)
    have hl : lv_has ls 7 [(4, .int ((nI a) - 1)), (3, .int (nI a)), (0, .ref (q 0)), (1, .int (nI a)), (2, .int (nI a))] := hl
    refine lv_iload_n hx hb dX1_turn_27 rfl (lv_at hl 1 rfl) ?_
    refine lv_iload hx hb dX1_turn_28 (lv_at hl 0 rfl) ?_
    refine lv_icmp_ge hx hb dX1_turn_30 rfl (fun h => ?_) (fun h => absurd (rs_pred_le a (by omega)) h)
    refine lv_iload_n hx hb dX1_turn_102 rfl (lv_at hl 4 rfl) ?_
    refine lv_iload_n hx hb dX1_turn_103 rfl (lv_at hl 3 rfl) ?_
    refine lv_isub hx hb dX1_turn_104 ?_
    refine xr_top (pk_sub (Nat.le_refl a)) ?_
    rw [hQ]
    have e0 : (a - a) / 2 = 0 := by omega
    exact xr_iret C0 hlk hr (⟨rfl, by rw [e0]; rfl⟩) hP hD hS dX1_turn_105
  · skip
    have loop : ∀ (j : Nat) (i : Nat) (H : Heap) (locs : List Loc) (ls : Array Slot), i + j = (b - a) / 2 → va_P D vwCl (rs_M q cI (0) (n) (rs_tn f a b i) (rs_tn g a b i) ++ wr) H → va_D A (rs_M q cI (0) (n) (rs_tn f a b i) (rs_tn g a b i) ++ wr) → va_S A s.heap H locs → lv_has ls 7 [(4, .int (nI (b - 1 - i))), (3, .int (nI (a + i))), (0, .ref (q 0)), (1, .int (nI a)), (2, .int (nI b))] → W p l e ({ frames := 1, cells := 0, slots := 0, locals := 22 }) s m args below meth c H locs 0 0 Q (F0 m 27 ls []) := by
      intro j
      induction j with
      | zero =>
        intro i H locs ls hi hP hD hS hl
        refine lv_iload_n hx hb dX1_turn_27 rfl (lv_at hl 1 rfl) ?_
        refine lv_iload hx hb dX1_turn_28 (lv_at hl 0 rfl) ?_
        refine lv_icmp_ge hx hb dX1_turn_30 rfl (fun h => ?_) (fun h => absurd (nI_le (by omega) (by omega)) h)
        refine lv_iload_n hx hb dX1_turn_102 rfl (lv_at hl 4 rfl) ?_
        refine lv_iload_n hx hb dX1_turn_103 rfl (lv_at hl 3 rfl) ?_
        refine lv_isub hx hb dX1_turn_104 ?_
        refine xr_top (pk_sub h1) ?_
        have e : i = (b - a) / 2 := by omega
        subst e
        rw [hQ]
        exact xr_iret C0 hlk hr (⟨rfl, rfl⟩) hP hD hS dX1_turn_105
      | succ j ih =>
        intro i H locs ls hi hP hD hS hl
        refine lv_iload_n hx hb dX1_turn_27 rfl (lv_at hl 1 rfl) ?_
        refine lv_iload hx hb dX1_turn_28 (lv_at hl 0 rfl) ?_
        refine lv_icmp_ge hx hb dX1_turn_30 rfl (fun h => absurd h (nI_ge (by omega) (by omega))) (fun h => ?_)
        refine lv_aload_n hx hb dX1_turn_33 rfl (lv_at hl 2 rfl) ?_
        refine x1_get_row C0 hK hP 0 rfl rfl dX1_turn_34 ?_
        refine lv_iload_n hx hb dX1_turn_37 rfl (lv_at hl 1 rfl) ?_
        refine xr_ald C0 hK hP 1 rfl (j := a + i) (by omega) (by decide) dX1_turn_38 ?_
        refine lv_istore hx hb dX1_turn_39 hl (by decide) rfl (fun ls hl => ?_)
        have hl : lv_has ls 7 [(5, .int ((rs_tn f a b i) (a + i))), (4, .int (nI (b - 1 - i))), (3, .int (nI (a + i))), (0, .ref (q 0)), (1, .int (nI a)), (2, .int (nI b))] := hl
        refine lv_aload_n hx hb dX1_turn_41 rfl (lv_at hl 3 rfl) ?_
        refine x1_get_tags C0 hK hP 0 rfl rfl dX1_turn_42 ?_
        refine lv_iload_n hx hb dX1_turn_45 rfl (lv_at hl 2 rfl) ?_
        refine xr_ald C0 hK hP 2 rfl (j := a + i) (by omega) (by decide) dX1_turn_46 ?_
        refine lv_istore hx hb dX1_turn_47 hl (by decide) rfl (fun ls hl => ?_)
        have hl : lv_has ls 7 [(6, .int ((rs_tn g a b i) (a + i))), (5, .int ((rs_tn f a b i) (a + i))), (4, .int (nI (b - 1 - i))), (3, .int (nI (a + i))), (0, .ref (q 0)), (1, .int (nI a)), (2, .int (nI b))] := hl
        refine lv_aload_n hx hb dX1_turn_49 rfl (lv_at hl 4 rfl) ?_
        refine x1_get_row C0 hK hP 0 rfl rfl dX1_turn_50 ?_
        refine lv_iload_n hx hb dX1_turn_53 rfl (lv_at hl 3 rfl) ?_
        refine lv_aload_n hx hb dX1_turn_54 rfl (lv_at hl 4 rfl) ?_
        refine x1_get_row C0 hK hP 0 rfl rfl dX1_turn_55 ?_
        refine lv_iload hx hb dX1_turn_58 (lv_at hl 2 rfl) ?_
        refine xr_ald C0 hK hP 1 rfl (j := b - 1 - i) (by omega) (by decide) dX1_turn_60 ?_
        refine xr_ast C0 hK hP hD hS 1 rfl (j := a + i) (by omega) (by decide) dX1_turn_61 (fun H locs hP hD hS => ?_)
        have hP : va_P D vwCl (rs_M q cI (0) (n) (upd (rs_tn f a b i) (a + i) ((rs_tn f a b i) (b - 1 - i))) (rs_tn g a b i) ++ wr) H := hP
        have hD : va_D A (rs_M q cI (0) (n) (upd (rs_tn f a b i) (a + i) ((rs_tn f a b i) (b - 1 - i))) (rs_tn g a b i) ++ wr) := hD
        refine lv_aload_n hx hb dX1_turn_62 rfl (lv_at hl 4 rfl) ?_
        refine x1_get_tags C0 hK hP 0 rfl rfl dX1_turn_63 ?_
        refine lv_iload_n hx hb dX1_turn_66 rfl (lv_at hl 3 rfl) ?_
        refine lv_aload_n hx hb dX1_turn_67 rfl (lv_at hl 4 rfl) ?_
        refine x1_get_tags C0 hK hP 0 rfl rfl dX1_turn_68 ?_
        refine lv_iload hx hb dX1_turn_71 (lv_at hl 2 rfl) ?_
        refine xr_ald C0 hK hP 2 rfl (j := b - 1 - i) (by omega) (by decide) dX1_turn_73 ?_
        refine xr_ast C0 hK hP hD hS 2 rfl (j := a + i) (by omega) (by decide) dX1_turn_74 (fun H locs hP hD hS => ?_)
        have hP : va_P D vwCl (rs_M q cI (0) (n) (upd (rs_tn f a b i) (a + i) ((rs_tn f a b i) (b - 1 - i))) (upd (rs_tn g a b i) (a + i) ((rs_tn g a b i) (b - 1 - i))) ++ wr) H := hP
        have hD : va_D A (rs_M q cI (0) (n) (upd (rs_tn f a b i) (a + i) ((rs_tn f a b i) (b - 1 - i))) (upd (rs_tn g a b i) (a + i) ((rs_tn g a b i) (b - 1 - i))) ++ wr) := hD
        refine lv_aload_n hx hb dX1_turn_75 rfl (lv_at hl 4 rfl) ?_
        refine x1_get_row C0 hK hP 0 rfl rfl dX1_turn_76 ?_
        refine lv_iload hx hb dX1_turn_79 (lv_at hl 2 rfl) ?_
        refine lv_iload hx hb dX1_turn_81 (lv_at hl 1 rfl) ?_
        refine xr_ast C0 hK hP hD hS 1 rfl (j := b - 1 - i) (by omega) (by decide) dX1_turn_83 (fun H locs hP hD hS => ?_)
        have hP : va_P D vwCl (rs_M q cI (0) (n) (upd (upd (rs_tn f a b i) (a + i) ((rs_tn f a b i) (b - 1 - i))) (b - 1 - i) ((rs_tn f a b i) (a + i))) (upd (rs_tn g a b i) (a + i) ((rs_tn g a b i) (b - 1 - i))) ++ wr) H := hP
        have hD : va_D A (rs_M q cI (0) (n) (upd (upd (rs_tn f a b i) (a + i) ((rs_tn f a b i) (b - 1 - i))) (b - 1 - i) ((rs_tn f a b i) (a + i))) (upd (rs_tn g a b i) (a + i) ((rs_tn g a b i) (b - 1 - i))) ++ wr) := hD
        refine lv_aload_n hx hb dX1_turn_84 rfl (lv_at hl 4 rfl) ?_
        refine x1_get_tags C0 hK hP 0 rfl rfl dX1_turn_85 ?_
        refine lv_iload hx hb dX1_turn_88 (lv_at hl 2 rfl) ?_
        refine lv_iload hx hb dX1_turn_90 (lv_at hl 0 rfl) ?_
        refine xr_ast C0 hK hP hD hS 2 rfl (j := b - 1 - i) (by omega) (by decide) dX1_turn_92 (fun H locs hP hD hS => ?_)
        have hP : va_P D vwCl (rs_M q cI (0) (n) (upd (upd (rs_tn f a b i) (a + i) ((rs_tn f a b i) (b - 1 - i))) (b - 1 - i) ((rs_tn f a b i) (a + i))) (upd (upd (rs_tn g a b i) (a + i) ((rs_tn g a b i) (b - 1 - i))) (b - 1 - i) ((rs_tn g a b i) (a + i))) ++ wr) H := hP
        have hD : va_D A (rs_M q cI (0) (n) (upd (upd (rs_tn f a b i) (a + i) ((rs_tn f a b i) (b - 1 - i))) (b - 1 - i) ((rs_tn f a b i) (a + i))) (upd (upd (rs_tn g a b i) (a + i) ((rs_tn g a b i) (b - 1 - i))) (b - 1 - i) ((rs_tn g a b i) (a + i))) ++ wr) := hD
        have ed : nI (b - 1 - i) + Int32.ofInt (-1) = nI (b - 1 - (i + 1)) := by
          have q := rs_dec (b - 1 - (i + 1))
          rwa [show b - 1 - (i + 1) + 1 = b - 1 - i by omega] at q
        refine lv_iinc (k := 2) hx hb dX1_turn_93 hl rfl (ed) (by decide) rfl (fun ls hl => ?_)
        have hl : lv_has ls 7 [(4, .int (nI (b - 1 - (i + 1)))), (6, .int ((rs_tn g a b i) (a + i))), (5, .int ((rs_tn f a b i) (a + i))), (3, .int (nI (a + i))), (0, .ref (q 0)), (1, .int (nI a)), (2, .int (nI b))] := hl
        refine lv_iinc (k := 3) hx hb dX1_turn_96 hl rfl (rs_inc (a + i)) (by decide) rfl (fun ls hl => ?_)
        have hl : lv_has ls 7 [(3, .int (nI (a + (i + 1)))), (4, .int (nI (b - 1 - (i + 1)))), (6, .int ((rs_tn g a b i) (a + i))), (5, .int ((rs_tn f a b i) (a + i))), (0, .ref (q 0)), (1, .int (nI a)), (2, .int (nI b))] := hl
        refine lv_goto hx hb dX1_turn_99 rfl ?_
        have hl : lv_has ls 7 [(4, .int (nI (b - 1 - (i + 1)))), (3, .int (nI (a + (i + 1)))), (0, .ref (q 0)), (1, .int (nI a)), (2, .int (nI b))] := lv_sub hl [1, 0, 4, 5, 6] rfl
        have e1 : ∀ F : Nat → Int32, upd (upd F (a + i) (F (b - 1 - i))) (b - 1 - i) (F (a + i)) = upd (upd F (a + i) (F (b - 1 - i))) (b - 1 - i) (F (a + i)) := fun _ => rfl
        exact ih (i + 1) H locs ls (by omega) hP hD hS hl
    refine lv_iload_n hx hb dX1_turn_20 rfl (lv_at hl 1 rfl) ?_
    refine lv_istore_n hx hb dX1_turn_21 rfl hl (by decide) rfl (fun ls hl => ?_)
    have hl : lv_has ls 7 [(3, .int (nI a)), (0, .ref (q 0)), (1, .int (nI a)), (2, .int (nI b))] := hl
    refine lv_iload_n hx hb dX1_turn_22 rfl (lv_at hl 3 rfl) ?_
    refine lv_iconst (v := 1) hx hb dX1_turn_23 (by decide) ?_
    refine lv_isub hx hb dX1_turn_24 ?_
    refine xr_top (rs_pre b (by omega)) ?_
    refine lv_istore hx hb dX1_turn_25 hl (by decide) rfl (fun ls hl => ?_)
    have hl : lv_has ls 7 [(4, .int (nI (b - 1))), (3, .int (nI a)), (0, .ref (q 0)), (1, .int (nI a)), (2, .int (nI b))] := hl
    exact loop ((b - a) / 2) 0 _ _ ls (by omega) hP hD hS hl
set_option maxHeartbeats 4000000 in
set_option maxRecDepth 100000 in
/-- turn, not in range -/
theorem m_turn1 (l : Launch) (D : va_G) (q : Nat → Nat) (cI : ClassId) (tyr : List (ClassId × FieldType)) (wr : va_W) (sz n : Nat) (k : Int32) (f g : Nat → Int32) (a b : Int32) (hn : n ≤ 2000) (hbad : a < 0 ∨ b < a ∨ nI n < b) : xr_Met l yX1_turn (wU yX1_turn cX1_turn 7 (some .int)) ({ frames := 1, cells := 0, slots := 0, locals := 22 }) [.ref (q 0), .int a, .int b] D (rs_ty cI tyr) (rs_M q cI (k) (n) (f) (g) ++ wr) sz (fun v w => v = some (.int 0) ∧ w = rs_M q cI (1) n f g ++ wr) 0 0 := by
  refine xr_start (by decide) (Nat.le_of_ble_eq_true rfl) ?_
  intro p e s m args below meth c A ls C0 hlk hr hnm hP hK hD hA hl
  have hx := C0.1
  have hb := C0.2.1
  have hS : va_S A s.heap s.heap [] := va_S.rf
  have hl : lv_has ls 7 [(0, .ref (q 0)), (1, .int a), (2, .int b)] := hl
  refine lv_aload_n hx hb dX1_turn_0 rfl (lv_at hl 0 rfl) ?_
  refine lv_iconst (v := 0) hx hb dX1_turn_1 (by decide) ?_
  refine x1_put_failed C0 hK hP hD hS 0 rfl (Nat.le_of_ble_eq_true rfl) dX1_turn_2 (fun H locs hP hD hS => ?_)
  have hP : va_P D vwCl (rs_M q cI (0) (n) (f) (g) ++ wr) H := hP
  have hD : va_D A (rs_M q cI (0) (n) (f) (g) ++ wr) := hD
  refine lv_aload_n hx hb dX1_turn_5 rfl (lv_at hl 0 rfl) ?_
  refine lv_iload_n hx hb dX1_turn_6 rfl (lv_at hl 1 rfl) ?_
  refine lv_iload_n hx hb dX1_turn_7 rfl (lv_at hl 2 rfl) ?_
  refine xr_vcall (As := [.int a, .int b]) (rest := []) (nA := 2) C0 (m_bad1 l D q cI tyr wr _ n 0 f g a b hn hbad) (gV wM_X1_X1_bad wI_X1_bad wV_X1_X1_bad wN_X1 wC_X1_bad) (by decide +kernel) rfl rfl rfl ⟨by decide, by decide⟩ hK hP hD hS hA 0 rfl rfl hl.1 rfl (Nat.le_of_ble_eq_true rfl) dX1_turn_8 ⟨Nat.le_of_ble_eq_true rfl, Nat.le_of_ble_eq_true rfl⟩ (fun v w H locs hv hP hD hz hS => ?_)
  obtain ⟨rfl, rfl⟩ := hv
  refine lv_if_eq hx hb dX1_turn_11 rfl (fun h => absurd h (by decide)) (fun h => ?_)
  refine lv_aload_n hx hb dX1_turn_14 rfl (lv_at hl 0 rfl) ?_
  refine lv_iconst (v := 1) hx hb dX1_turn_15 (by decide) ?_
  refine xr_vcall (As := [.int 1]) (rest := []) (nA := 1) C0 (m_fail l D q cI tyr wr _ n 0 f g 1) (gV wM_X1_X1_fail wI_X1_fail wV_X1_X1_fail wN_X1 wC_X1_fail) (by decide +kernel) rfl rfl rfl ⟨by decide, by decide⟩ hK hP hD hS hA 0 rfl rfl hl.1 rfl (Nat.le_of_ble_eq_true rfl) dX1_turn_16 ⟨Nat.le_of_ble_eq_true rfl, Nat.le_of_ble_eq_true rfl⟩ (fun v w H locs hv hP hD hz hS => ?_)
  obtain ⟨rfl, rfl⟩ := hv
  exact xr_iret C0 hlk hr (⟨rfl, rfl⟩) hP hD hS dX1_turn_19
set_option maxHeartbeats 4000000 in
set_option maxRecDepth 100000 in
/-- upTo, in range -/
theorem m_upTo0 (l : Launch) (D : va_G) (q : Nat → Nat) (cI : ClassId) (tyr : List (ClassId × FieldType)) (wr : va_W) (sz n : Nat) (k : Int32) (f g : Nat → Int32) (o x b : Int32) (h1 : ¬ o < 0) (h2 : o ≤ 3) (hn : n ≤ 2000) : xr_Met l yX1_upTo (wU yX1_upTo cX1_upTo 5 (some .int)) ({ frames := 1, cells := 0, slots := 0, locals := 22 }) [.ref (q 0), .int o, .int x, .int b] D (rs_ty cI tyr) (rs_M q cI (k) (n) (f) (g) ++ wr) sz (fun v w => (∃ t, v = some (.int (nI t)) ∧ rs_uT o x b f n t) ∧ w = rs_M q cI (0) n f g ++ wr) 0 0 := by
  refine xr_startQ (by decide) (Nat.le_of_ble_eq_true rfl) ?_
  intro p e s m args below meth c A ls Q hQ C0 hlk hr hP hK hD hA hl
  have hx := C0.1
  have hb := C0.2.1
  have hS : va_S A s.heap s.heap [] := va_S.rf
  have hl : lv_has ls 5 [(0, .ref (q 0)), (1, .int o), (2, .int x), (3, .int b)] := hl
  refine lv_aload_n hx hb dX1_upTo_0 rfl (lv_at hl 0 rfl) ?_
  refine lv_iconst (v := 0) hx hb dX1_upTo_1 (by decide) ?_
  refine x1_put_failed C0 hK hP hD hS 0 rfl (Nat.le_of_ble_eq_true rfl) dX1_upTo_2 (fun H locs hP hD hS => ?_)
  have hP : va_P D vwCl (rs_M q cI (0) (n) (f) (g) ++ wr) H := hP
  have hD : va_D A (rs_M q cI (0) (n) (f) (g) ++ wr) := hD
  refine lv_iload_n hx hb dX1_upTo_5 rfl (lv_at hl 1 rfl) ?_
  refine lv_if_lt hx hb dX1_upTo_6 rfl (fun h => absurd h h1) (fun h => ?_)
  refine lv_iload_n hx hb dX1_upTo_9 rfl (lv_at hl 1 rfl) ?_
  refine lv_iconst (v := 3) hx hb dX1_upTo_10 (by decide) ?_
  refine lv_icmp_le hx hb dX1_upTo_11 rfl (fun h => ?_) (fun h => absurd h2 h)
  have loop : ∀ (j : Nat) (i : Nat) (H : Heap) (locs : List Loc) (ls : Array Slot), i + j = n → (∀ t, t < i → rs_go o x b (f t)) → va_P D vwCl (rs_M q cI (0) (n) (f) (g) ++ wr) H → va_D A (rs_M q cI (0) (n) (f) (g) ++ wr) → va_S A s.heap H locs → lv_has ls 5 [(4, .int (nI i)), (0, .ref (q 0)), (1, .int o), (2, .int x), (3, .int b)] → W p l e ({ frames := 1, cells := 0, slots := 0, locals := 22 }) s m args below meth c H locs 0 0 Q (F0 m 23 ls []) := by
    intro j
    induction j with
    | zero =>
      intro i H locs ls hi hgo hP hD hS hl
      refine lv_iload hx hb dX1_upTo_23 (lv_at hl 0 rfl) ?_
      refine lv_aload_n hx hb dX1_upTo_25 rfl (lv_at hl 1 rfl) ?_
      refine x1_get_size C0 hK hP 0 rfl rfl dX1_upTo_26 ?_
      refine lv_icmp_ge hx hb dX1_upTo_29 rfl (fun h => ?_) (fun h => absurd (nI_le (by omega) (by omega)) h)
      have e : i = n := by omega
      subst e
      refine lv_iload hx hb dX1_upTo_87 (lv_at hl 0 rfl) ?_
      rw [hQ]
      exact xr_iret C0 hlk hr (⟨⟨_, rfl, Nat.le_refl _, hgo, fun h => absurd h (by omega)⟩, rfl⟩) hP hD hS dX1_upTo_89
    | succ j ih =>
      intro i H locs ls hi hgo hP hD hS hl
      refine lv_iload hx hb dX1_upTo_23 (lv_at hl 0 rfl) ?_
      refine lv_aload_n hx hb dX1_upTo_25 rfl (lv_at hl 1 rfl) ?_
      refine x1_get_size C0 hK hP 0 rfl rfl dX1_upTo_26 ?_
      refine lv_icmp_ge hx hb dX1_upTo_29 rfl (fun h => absurd h (nI_ge (by omega) (by omega))) (fun h => ?_)
      refine lv_iload_n hx hb dX1_upTo_32 rfl (lv_at hl 4 rfl) ?_
      refine lv_if_eq hx hb dX1_upTo_33 rfl (fun h => ?_) (fun h => ?_)
      · skip
        have hb0 := h
        refine lv_aload_n hx hb dX1_upTo_60 rfl (lv_at hl 1 rfl) ?_
        refine lv_iload_n hx hb dX1_upTo_61 rfl (lv_at hl 2 rfl) ?_
        refine lv_aload_n hx hb dX1_upTo_62 rfl (lv_at hl 1 rfl) ?_
        refine x1_get_row C0 hK hP 0 rfl rfl dX1_upTo_63 ?_
        refine lv_iload hx hb dX1_upTo_66 (lv_at hl 0 rfl) ?_
        refine xr_ald C0 hK hP 1 rfl (j := i) (by omega) (by decide) dX1_upTo_68 ?_
        refine xr_vcall (As := [.int o, .int (f i)]) (rest := []) (nA := 2) C0 (m_rank l D q cI tyr wr _ n 0 f g o (f i) h1 h2) (gV wM_X1_X1_rank wI_X1_rank wV_X1_X1_rank wN_X1 wC_X1_rank) (by decide +kernel) rfl rfl rfl ⟨by decide, by decide⟩ hK hP hD hS hA 0 rfl rfl hl.1 rfl (Nat.le_of_ble_eq_true rfl) dX1_upTo_69 ⟨Nat.le_of_ble_eq_true rfl, Nat.le_of_ble_eq_true rfl⟩ (fun v w H locs hv hP hD hz hS => ?_)
        obtain ⟨rfl, rfl⟩ := hv
        refine lv_aload_n hx hb dX1_upTo_72 rfl (lv_at hl 1 rfl) ?_
        refine lv_iload_n hx hb dX1_upTo_73 rfl (lv_at hl 2 rfl) ?_
        refine lv_iload_n hx hb dX1_upTo_74 rfl (lv_at hl 3 rfl) ?_
        refine xr_vcall (As := [.int o, .int x]) (rest := [.int (rs_rk o (f i))]) (nA := 2) C0 (m_rank l D q cI tyr wr _ n 0 f g o x h1 h2) (gV wM_X1_X1_rank wI_X1_rank wV_X1_X1_rank wN_X1 wC_X1_rank) (by decide +kernel) rfl rfl rfl ⟨by decide, by decide⟩ hK hP hD hS hA 0 rfl rfl hl.1 rfl (Nat.le_of_ble_eq_true rfl) dX1_upTo_75 ⟨Nat.le_of_ble_eq_true rfl, Nat.le_of_ble_eq_true rfl⟩ (fun v w H locs hv hP hD hz hS => ?_)
        obtain ⟨rfl, rfl⟩ := hv
        refine lv_icmp_ge hx hb dX1_upTo_78 rfl (fun h => ?_) (fun h => ?_)
        · skip
          refine lv_iload hx hb dX1_upTo_87 (lv_at hl 0 rfl) ?_
          rw [hQ]
          exact xr_iret C0 hlk hr (⟨⟨i, rfl, by omega, hgo, fun _ q => q.2 ⟨rs_le_as (rs_nlt q.1) h, hb0⟩⟩, rfl⟩) hP hD hS dX1_upTo_89
        · skip
          refine lv_iinc (k := 0) hx hb dX1_upTo_81 hl rfl (rs_inc i) (by decide) rfl (fun ls hl => ?_)
          have hl : lv_has ls 5 [(4, .int (nI (i + 1))), (0, .ref (q 0)), (1, .int o), (2, .int x), (3, .int b)] := hl
          refine lv_goto hx hb dX1_upTo_84 rfl ?_
          exact ih (i + 1) H locs ls (by omega) (lt_s hgo (⟨fun q => h (rs_lt_le q), fun q => h (q.1 ▸ rs_le_rf _)⟩)) hP hD hS hl
      · skip
        have hb0 := h
        refine lv_aload_n hx hb dX1_upTo_36 rfl (lv_at hl 1 rfl) ?_
        refine lv_iload_n hx hb dX1_upTo_37 rfl (lv_at hl 2 rfl) ?_
        refine lv_aload_n hx hb dX1_upTo_38 rfl (lv_at hl 1 rfl) ?_
        refine x1_get_row C0 hK hP 0 rfl rfl dX1_upTo_39 ?_
        refine lv_iload hx hb dX1_upTo_42 (lv_at hl 0 rfl) ?_
        refine xr_ald C0 hK hP 1 rfl (j := i) (by omega) (by decide) dX1_upTo_44 ?_
        refine xr_vcall (As := [.int o, .int (f i)]) (rest := []) (nA := 2) C0 (m_rank l D q cI tyr wr _ n 0 f g o (f i) h1 h2) (gV wM_X1_X1_rank wI_X1_rank wV_X1_X1_rank wN_X1 wC_X1_rank) (by decide +kernel) rfl rfl rfl ⟨by decide, by decide⟩ hK hP hD hS hA 0 rfl rfl hl.1 rfl (Nat.le_of_ble_eq_true rfl) dX1_upTo_45 ⟨Nat.le_of_ble_eq_true rfl, Nat.le_of_ble_eq_true rfl⟩ (fun v w H locs hv hP hD hz hS => ?_)
        obtain ⟨rfl, rfl⟩ := hv
        refine lv_aload_n hx hb dX1_upTo_48 rfl (lv_at hl 1 rfl) ?_
        refine lv_iload_n hx hb dX1_upTo_49 rfl (lv_at hl 2 rfl) ?_
        refine lv_iload_n hx hb dX1_upTo_50 rfl (lv_at hl 3 rfl) ?_
        refine xr_vcall (As := [.int o, .int x]) (rest := [.int (rs_rk o (f i))]) (nA := 2) C0 (m_rank l D q cI tyr wr _ n 0 f g o x h1 h2) (gV wM_X1_X1_rank wI_X1_rank wV_X1_X1_rank wN_X1 wC_X1_rank) (by decide +kernel) rfl rfl rfl ⟨by decide, by decide⟩ hK hP hD hS hA 0 rfl rfl hl.1 rfl (Nat.le_of_ble_eq_true rfl) dX1_upTo_51 ⟨Nat.le_of_ble_eq_true rfl, Nat.le_of_ble_eq_true rfl⟩ (fun v w H locs hv hP hD hz hS => ?_)
        obtain ⟨rfl, rfl⟩ := hv
        refine lv_icmp_gt hx hb dX1_upTo_54 rfl (fun h => ?_) (fun h => ?_)
        · skip
          refine lv_iload hx hb dX1_upTo_87 (lv_at hl 0 rfl) ?_
          rw [hQ]
          exact xr_iret C0 hlk hr (⟨⟨i, rfl, by omega, hgo, fun _ q => q.1 h⟩, rfl⟩) hP hD hS dX1_upTo_89
        · skip
          refine lv_goto hx hb dX1_upTo_57 rfl ?_
          refine lv_iinc (k := 0) hx hb dX1_upTo_81 hl rfl (rs_inc i) (by decide) rfl (fun ls hl => ?_)
          have hl : lv_has ls 5 [(4, .int (nI (i + 1))), (0, .ref (q 0)), (1, .int o), (2, .int x), (3, .int b)] := hl
          refine lv_goto hx hb dX1_upTo_84 rfl ?_
          exact ih (i + 1) H locs ls (by omega) (lt_s hgo (⟨h, fun q => hb0 q.2⟩)) hP hD hS hl
  refine lv_iconst (v := 0) hx hb dX1_upTo_20 (by decide) ?_
  refine lv_istore hx hb dX1_upTo_21 hl (by decide) rfl (fun ls hl => ?_)
  have hl : lv_has ls 5 [(4, .int (nI 0)), (0, .ref (q 0)), (1, .int o), (2, .int x), (3, .int b)] := hl
  exact loop n 0 _ _ ls (by omega) lt_0 hP hD hS hl
set_option maxHeartbeats 4000000 in
set_option maxRecDepth 100000 in
/-- upTo, no such order -/
theorem m_upTo1 (l : Launch) (D : va_G) (q : Nat → Nat) (cI : ClassId) (tyr : List (ClassId × FieldType)) (wr : va_W) (sz n : Nat) (k : Int32) (f g : Nat → Int32) (o x b : Int32) (hbad : o < 0 ∨ 3 < o) : xr_Met l yX1_upTo (wU yX1_upTo cX1_upTo 5 (some .int)) ({ frames := 1, cells := 0, slots := 0, locals := 22 }) [.ref (q 0), .int o, .int x, .int b] D (rs_ty cI tyr) (rs_M q cI (k) (n) (f) (g) ++ wr) sz (fun v w => v = some (.int 0) ∧ w = rs_M q cI (1) n f g ++ wr) 0 0 := by
  refine xr_start (by decide) (Nat.le_of_ble_eq_true rfl) ?_
  intro p e s m args below meth c A ls C0 hlk hr hnm hP hK hD hA hl
  have hx := C0.1
  have hb := C0.2.1
  have hS : va_S A s.heap s.heap [] := va_S.rf
  have hl : lv_has ls 5 [(0, .ref (q 0)), (1, .int o), (2, .int x), (3, .int b)] := hl
  refine lv_aload_n hx hb dX1_upTo_0 rfl (lv_at hl 0 rfl) ?_
  refine lv_iconst (v := 0) hx hb dX1_upTo_1 (by decide) ?_
  refine x1_put_failed C0 hK hP hD hS 0 rfl (Nat.le_of_ble_eq_true rfl) dX1_upTo_2 (fun H locs hP hD hS => ?_)
  have hP : va_P D vwCl (rs_M q cI (0) (n) (f) (g) ++ wr) H := hP
  have hD : va_D A (rs_M q cI (0) (n) (f) (g) ++ wr) := hD
  refine lv_iload_n hx hb dX1_upTo_5 rfl (lv_at hl 1 rfl) ?_
  refine lv_if_lt hx hb dX1_upTo_6 rfl (fun h => ?_) (fun h => ?_)
  · skip
    refine lv_aload_n hx hb dX1_upTo_14 rfl (lv_at hl 0 rfl) ?_
    refine lv_iconst (v := 1) hx hb dX1_upTo_15 (by decide) ?_
    refine xr_vcall (As := [.int 1]) (rest := []) (nA := 1) C0 (m_fail l D q cI tyr wr _ n 0 f g 1) (gV wM_X1_X1_fail wI_X1_fail wV_X1_X1_fail wN_X1 wC_X1_fail) (by decide +kernel) rfl rfl rfl ⟨by decide, by decide⟩ hK hP hD hS hA 0 rfl rfl hl.1 rfl (Nat.le_of_ble_eq_true rfl) dX1_upTo_16 ⟨Nat.le_of_ble_eq_true rfl, Nat.le_of_ble_eq_true rfl⟩ (fun v w H locs hv hP hD hz hS => ?_)
    obtain ⟨rfl, rfl⟩ := hv
    exact xr_iret C0 hlk hr (⟨rfl, rfl⟩) hP hD hS dX1_upTo_19
  · skip
    have n1 := h
    refine lv_iload_n hx hb dX1_upTo_9 rfl (lv_at hl 1 rfl) ?_
    refine lv_iconst (v := 3) hx hb dX1_upTo_10 (by decide) ?_
    refine lv_icmp_le hx hb dX1_upTo_11 rfl (fun h => absurd h (rs_lt_nle (hbad.resolve_left n1))) (fun h => ?_)
    refine lv_aload_n hx hb dX1_upTo_14 rfl (lv_at hl 0 rfl) ?_
    refine lv_iconst (v := 1) hx hb dX1_upTo_15 (by decide) ?_
    refine xr_vcall (As := [.int 1]) (rest := []) (nA := 1) C0 (m_fail l D q cI tyr wr _ n 0 f g 1) (gV wM_X1_X1_fail wI_X1_fail wV_X1_X1_fail wN_X1 wC_X1_fail) (by decide +kernel) rfl rfl rfl ⟨by decide, by decide⟩ hK hP hD hS hA 0 rfl rfl hl.1 rfl (Nat.le_of_ble_eq_true rfl) dX1_upTo_16 ⟨Nat.le_of_ble_eq_true rfl, Nat.le_of_ble_eq_true rfl⟩ (fun v w H locs hv hP hD hz hS => ?_)
    obtain ⟨rfl, rfl⟩ := hv
    exact xr_iret C0 hlk hr (⟨rfl, rfl⟩) hP hD hS dX1_upTo_19
set_option maxHeartbeats 4000000 in
set_option maxRecDepth 100000 in
/-- sort, a number out of range -/
theorem m_sort1 (l : Launch) (D : va_G) (q : Nat → Nat) (cI : ClassId) (tyr : List (ClassId × FieldType)) (wr : va_W) (sz n : Nat) (k : Int32) (f g : Nat → Int32) (o a b : Int32) (hn : n ≤ 2000) (hbad : o < 0 ∨ 3 < o ∨ a < 0 ∨ b < a ∨ nI n < b) : xr_Met l yX1_sort (wU yX1_sort cX1_sort 8 (some .int)) ({ frames := 1, cells := 0, slots := 0, locals := 22 }) [.ref (q 0), .int o, .int a, .int b] D (rs_ty cI tyr) (rs_M q cI (k) (n) (f) (g) ++ wr) sz (fun v w => v = some (.int 0) ∧ w = rs_M q cI (1) n f g ++ wr) 0 0 := by
  refine xr_start (by decide) (Nat.le_of_ble_eq_true rfl) ?_
  intro p e s m args below meth c A ls C0 hlk hr hnm hP hK hD hA hl
  have hx := C0.1
  have hb := C0.2.1
  have hS : va_S A s.heap s.heap [] := va_S.rf
  have hl : lv_has ls 8 [(0, .ref (q 0)), (1, .int o), (2, .int a), (3, .int b)] := hl
  refine lv_aload_n hx hb dX1_sort_0 rfl (lv_at hl 0 rfl) ?_
  refine lv_iconst (v := 0) hx hb dX1_sort_1 (by decide) ?_
  refine x1_put_failed C0 hK hP hD hS 0 rfl (Nat.le_of_ble_eq_true rfl) dX1_sort_2 (fun H locs hP hD hS => ?_)
  have hP : va_P D vwCl (rs_M q cI (0) (n) (f) (g) ++ wr) H := hP
  have hD : va_D A (rs_M q cI (0) (n) (f) (g) ++ wr) := hD
  refine lv_iload_n hx hb dX1_sort_5 rfl (lv_at hl 1 rfl) ?_
  refine lv_if_lt hx hb dX1_sort_6 rfl (fun h => ?_) (fun h => ?_)
  · skip
    refine lv_aload_n hx hb dX1_sort_23 rfl (lv_at hl 0 rfl) ?_
    refine lv_iconst (v := 1) hx hb dX1_sort_24 (by decide) ?_
    refine xr_vcall (As := [.int 1]) (rest := []) (nA := 1) C0 (m_fail l D q cI tyr wr _ n 0 f g 1) (gV wM_X1_X1_fail wI_X1_fail wV_X1_X1_fail wN_X1 wC_X1_fail) (by decide +kernel) rfl rfl rfl ⟨by decide, by decide⟩ hK hP hD hS hA 0 rfl rfl hl.1 rfl (Nat.le_of_ble_eq_true rfl) dX1_sort_25 ⟨Nat.le_of_ble_eq_true rfl, Nat.le_of_ble_eq_true rfl⟩ (fun v w H locs hv hP hD hz hS => ?_)
    obtain ⟨rfl, rfl⟩ := hv
    exact xr_iret C0 hlk hr (⟨rfl, rfl⟩) hP hD hS dX1_sort_28
  · skip
    have n1 := h
    refine lv_iload_n hx hb dX1_sort_9 rfl (lv_at hl 1 rfl) ?_
    refine lv_iconst (v := 3) hx hb dX1_sort_10 (by decide) ?_
    refine lv_icmp_gt hx hb dX1_sort_11 rfl (fun h => ?_) (fun h => ?_)
    · skip
      refine lv_aload_n hx hb dX1_sort_23 rfl (lv_at hl 0 rfl) ?_
      refine lv_iconst (v := 1) hx hb dX1_sort_24 (by decide) ?_
      refine xr_vcall (As := [.int 1]) (rest := []) (nA := 1) C0 (m_fail l D q cI tyr wr _ n 0 f g 1) (gV wM_X1_X1_fail wI_X1_fail wV_X1_X1_fail wN_X1 wC_X1_fail) (by decide +kernel) rfl rfl rfl ⟨by decide, by decide⟩ hK hP hD hS hA 0 rfl rfl hl.1 rfl (Nat.le_of_ble_eq_true rfl) dX1_sort_25 ⟨Nat.le_of_ble_eq_true rfl, Nat.le_of_ble_eq_true rfl⟩ (fun v w H locs hv hP hD hz hS => ?_)
      obtain ⟨rfl, rfl⟩ := hv
      exact xr_iret C0 hlk hr (⟨rfl, rfl⟩) hP hD hS dX1_sort_28
    · skip
      have n2 := h
      refine lv_aload_n hx hb dX1_sort_14 rfl (lv_at hl 0 rfl) ?_
      refine lv_iload_n hx hb dX1_sort_15 rfl (lv_at hl 2 rfl) ?_
      refine lv_iload_n hx hb dX1_sort_16 rfl (lv_at hl 3 rfl) ?_
      refine xr_vcall (As := [.int a, .int b]) (rest := []) (nA := 2) C0 (m_bad1 l D q cI tyr wr _ n 0 f g a b hn ((hbad.resolve_left n1).resolve_left n2)) (gV wM_X1_X1_bad wI_X1_bad wV_X1_X1_bad wN_X1 wC_X1_bad) (by decide +kernel) rfl rfl rfl ⟨by decide, by decide⟩ hK hP hD hS hA 0 rfl rfl hl.1 rfl (Nat.le_of_ble_eq_true rfl) dX1_sort_17 ⟨Nat.le_of_ble_eq_true rfl, Nat.le_of_ble_eq_true rfl⟩ (fun v w H locs hv hP hD hz hS => ?_)
      obtain ⟨rfl, rfl⟩ := hv
      refine lv_if_eq hx hb dX1_sort_20 rfl (fun h => absurd h (by decide)) (fun h => ?_)
      refine lv_aload_n hx hb dX1_sort_23 rfl (lv_at hl 0 rfl) ?_
      refine lv_iconst (v := 1) hx hb dX1_sort_24 (by decide) ?_
      refine xr_vcall (As := [.int 1]) (rest := []) (nA := 1) C0 (m_fail l D q cI tyr wr _ n 0 f g 1) (gV wM_X1_X1_fail wI_X1_fail wV_X1_X1_fail wN_X1 wC_X1_fail) (by decide +kernel) rfl rfl rfl ⟨by decide, by decide⟩ hK hP hD hS hA 0 rfl rfl hl.1 rfl (Nat.le_of_ble_eq_true rfl) dX1_sort_25 ⟨Nat.le_of_ble_eq_true rfl, Nat.le_of_ble_eq_true rfl⟩ (fun v w H locs hv hP hD hz hS => ?_)
      obtain ⟨rfl, rfl⟩ := hv
      exact xr_iret C0 hlk hr (⟨rfl, rfl⟩) hP hD hS dX1_sort_28
/-- a part of at most one number, taken for the empty one -/
theorem rs_St.down {o : Int32} {a b i : Nat} {f g F G : Nat → Int32} (hab : a ≤ b) (h : rs_St o a i f g F G) (hi : i = max b (a + 1)) : rs_St o a b f g F G := by
  rcases Nat.eq_or_lt_of_le hab with e | e
  · subst e
    rw [show max a (a + 1) = a + 1 by omega] at hi
    subst hi
    have key : ∀ j, F j = f j ∧ G j = g j := by
      intro j
      by_cases hj : j = a
      · have e1 := (rs_St.zero (o := o) (a := a) (b := a + 1) (f := f) (g := g) (Nat.le_refl _)).one h
        rw [← e1.1, ← e1.2]
        exact ⟨rfl, rfl⟩
      · exact h.1.1 j (by omega)
    have eF : F = f := funext fun j => (key j).1
    have eG : G = g := funext fun j => (key j).2
    rw [eF, eG]
    exact rs_St.zero (by omega)
  · rw [show max b (a + 1) = b by omega] at hi
    subst hi
    exact h
set_option maxHeartbeats 4000000 in
set_option maxRecDepth 100000 in
/-- sort, in range -/
theorem m_sort0 (l : Launch) (D : va_G) (q : Nat → Nat) (cI : ClassId) (tyr : List (ClassId × FieldType)) (wr : va_W) (sz n : Nat) (k : Int32) (f g : Nat → Int32) (o : Int32) (a b : Nat) (h1 : ¬ o < 0) (h2 : o ≤ 3) (hab : a ≤ b) (hbn : b ≤ n) (hn : n ≤ 2000) : xr_Met l yX1_sort (wU yX1_sort cX1_sort 8 (some .int)) ({ frames := 1, cells := 0, slots := 0, locals := 22 }) [.ref (q 0), .int o, .int (nI a), .int (nI b)] D (rs_ty cI tyr) (rs_M q cI (k) (n) (f) (g) ++ wr) sz (fun v w => ∃ f' g' : Nat → Int32, v = some (.int (nI (b - a))) ∧ w = rs_M q cI 0 n f' g' ++ wr ∧ rs_St o a b f g f' g') 0 0 := by
  refine xr_startQ (by decide) (Nat.le_of_ble_eq_true rfl) ?_
  intro p e s m args below meth c A ls Q hQ C0 hlk hr hP hK hD hA hl
  have hx := C0.1
  have hb := C0.2.1
  have hS : va_S A s.heap s.heap [] := va_S.rf
  have hl : lv_has ls 8 [(0, .ref (q 0)), (1, .int o), (2, .int (nI a)), (3, .int (nI b))] := hl
  refine lv_aload_n hx hb dX1_sort_0 rfl (lv_at hl 0 rfl) ?_
  refine lv_iconst (v := 0) hx hb dX1_sort_1 (by decide) ?_
  refine x1_put_failed C0 hK hP hD hS 0 rfl (Nat.le_of_ble_eq_true rfl) dX1_sort_2 (fun H locs hP hD hS => ?_)
  have hP : va_P D vwCl (rs_M q cI (0) (n) (f) (g) ++ wr) H := hP
  have hD : va_D A (rs_M q cI (0) (n) (f) (g) ++ wr) := hD
  refine lv_iload_n hx hb dX1_sort_5 rfl (lv_at hl 1 rfl) ?_
  refine lv_if_lt hx hb dX1_sort_6 rfl (fun h => absurd h h1) (fun h => ?_)
  refine lv_iload_n hx hb dX1_sort_9 rfl (lv_at hl 1 rfl) ?_
  refine lv_iconst (v := 3) hx hb dX1_sort_10 (by decide) ?_
  refine lv_icmp_gt hx hb dX1_sort_11 rfl (fun h => absurd h2 (rs_lt_nle h)) (fun h => ?_)
  refine lv_aload_n hx hb dX1_sort_14 rfl (lv_at hl 0 rfl) ?_
  refine lv_iload_n hx hb dX1_sort_15 rfl (lv_at hl 2 rfl) ?_
  refine lv_iload_n hx hb dX1_sort_16 rfl (lv_at hl 3 rfl) ?_
  refine xr_vcall (As := [.int (nI a), .int (nI b)]) (rest := []) (nA := 2) C0 (m_bad0 l D q cI tyr wr _ n 0 f g a b hab hbn hn) (gV wM_X1_X1_bad wI_X1_bad wV_X1_X1_bad wN_X1 wC_X1_bad) (by decide +kernel) rfl rfl rfl ⟨by decide, by decide⟩ hK hP hD hS hA 0 rfl rfl hl.1 rfl (Nat.le_of_ble_eq_true rfl) dX1_sort_17 ⟨Nat.le_of_ble_eq_true rfl, Nat.le_of_ble_eq_true rfl⟩ (fun v w H locs hv hP hD hz hS => ?_)
  obtain ⟨rfl, rfl⟩ := hv
  refine lv_if_eq hx hb dX1_sort_20 rfl (fun h => ?_) (fun h => absurd rfl h)
  have loop : ∀ (j : Nat) (i : Nat) (F G : Nat → Int32) (H : Heap) (locs : List Loc) (ls : Array Slot), i + j = max b (a + 1) → a < i → rs_St o a i f g F G → va_P D vwCl (rs_M q cI (0) (n) (F) (G) ++ wr) H → va_D A (rs_M q cI (0) (n) (F) (G) ++ wr) → va_S A s.heap H locs → lv_has ls 8 [(4, .int (nI i)), (0, .ref (q 0)), (1, .int o), (2, .int (nI a)), (3, .int (nI b))] → W p l e ({ frames := 1, cells := 0, slots := 0, locals := 22 }) s m args below meth c H locs 0 0 Q (F0 m 34 ls []) := by
    intro j
    induction j with
    | zero =>
      intro i F G H locs ls hi hai hSt hP hD hS hl
      refine lv_iload hx hb dX1_sort_34 (lv_at hl 0 rfl) ?_
      refine lv_iload_n hx hb dX1_sort_36 rfl (lv_at hl 4 rfl) ?_
      refine lv_icmp_ge hx hb dX1_sort_37 rfl (fun h => ?_) (fun h => absurd (nI_le (by omega) (by omega)) h)
      refine lv_iload_n hx hb dX1_sort_154 rfl (lv_at hl 4 rfl) ?_
      refine lv_iload_n hx hb dX1_sort_155 rfl (lv_at hl 3 rfl) ?_
      refine lv_isub hx hb dX1_sort_156 ?_
      refine xr_top (pk_sub hab) ?_
      rw [hQ]
      exact xr_iret C0 hlk hr (⟨F, G, rfl, rfl, rs_St.down hab hSt (by omega)⟩) hP hD hS dX1_sort_157
    | succ j ih =>
      intro i F G H locs ls hi hai hSt hP hD hS hl
      have hib : i < b := by omega
      refine lv_iload hx hb dX1_sort_34 (lv_at hl 0 rfl) ?_
      refine lv_iload_n hx hb dX1_sort_36 rfl (lv_at hl 4 rfl) ?_
      refine lv_icmp_ge hx hb dX1_sort_37 rfl (fun h => absurd h (nI_ge hib (by omega))) (fun h => ?_)
      refine lv_aload_n hx hb dX1_sort_40 rfl (lv_at hl 1 rfl) ?_
      refine x1_get_row C0 hK hP 0 rfl rfl dX1_sort_41 ?_
      refine lv_iload hx hb dX1_sort_44 (lv_at hl 0 rfl) ?_
      refine xr_ald C0 hK hP 1 rfl (j := i) (by omega) (by decide) dX1_sort_46 ?_
      refine lv_istore hx hb dX1_sort_47 hl (by decide) rfl (fun ls hl => ?_)
      have hl : lv_has ls 8 [(5, .int (F i)), (4, .int (nI i)), (0, .ref (q 0)), (1, .int o), (2, .int (nI a)), (3, .int (nI b))] := hl
      refine lv_aload_n hx hb dX1_sort_49 rfl (lv_at hl 2 rfl) ?_
      refine x1_get_tags C0 hK hP 0 rfl rfl dX1_sort_50 ?_
      refine lv_iload hx hb dX1_sort_53 (lv_at hl 1 rfl) ?_
      refine xr_ald C0 hK hP 2 rfl (j := i) (by omega) (by decide) dX1_sort_55 ?_
      refine lv_istore hx hb dX1_sort_56 hl (by decide) rfl (fun ls hl => ?_)
      have hl : lv_has ls 8 [(6, .int (G i)), (5, .int (F i)), (4, .int (nI i)), (0, .ref (q 0)), (1, .int o), (2, .int (nI a)), (3, .int (nI b))] := hl
      refine lv_iload hx hb dX1_sort_58 (lv_at hl 2 rfl) ?_
      refine lv_istore hx hb dX1_sort_60 hl (by decide) rfl (fun ls hl => ?_)
      have hl : lv_has ls 8 [(7, .int (nI i)), (6, .int (G i)), (5, .int (F i)), (4, .int (nI i)), (0, .ref (q 0)), (1, .int o), (2, .int (nI a)), (3, .int (nI b))] := hl
      have fin : ∀ (c0 : Nat) (F' G' : Nat → Int32) (H : Heap) (locs : List Loc) (ls : Array Slot), a ≤ c0 → c0 ≤ i → (∀ u, F' u = if c0 < u ∧ u ≤ i then F (u - 1) else F u) → (∀ u, G' u = if c0 < u ∧ u ≤ i then G (u - 1) else G u) → (∀ u, c0 ≤ u → u < i → rs_rk o (F i) < rs_rk o (F u)) → (c0 = a ∨ rs_rk o (F (c0 - 1)) ≤ rs_rk o (F i)) → va_P D vwCl (rs_M q cI (0) (n) (F') (G') ++ wr) H → va_D A (rs_M q cI (0) (n) (F') (G') ++ wr) → va_S A s.heap H locs → lv_has ls 8 [(7, .int (nI c0)), (6, .int (G i)), (5, .int (F i)), (4, .int (nI i)), (0, .ref (q 0)), (1, .int o), (2, .int (nI a)), (3, .int (nI b))] → W p l e ({ frames := 1, cells := 0, slots := 0, locals := 22 }) s m args below meth c H locs 0 0 Q (F0 m 130 ls []) := by
        intro c0 F' G' H locs ls k1 k2 hF hG hgt hle hP hD hS hl
        refine lv_aload_n hx hb dX1_sort_130 rfl (lv_at hl 4 rfl) ?_
        refine x1_get_row C0 hK hP 0 rfl rfl dX1_sort_131 ?_
        refine lv_iload hx hb dX1_sort_134 (lv_at hl 0 rfl) ?_
        refine lv_iload hx hb dX1_sort_136 (lv_at hl 2 rfl) ?_
        refine xr_ast C0 hK hP hD hS 1 rfl (j := c0) (by omega) (by decide) dX1_sort_138 (fun H locs hP hD hS => ?_)
        have hP : va_P D vwCl (rs_M q cI (0) (n) (upd F' c0 (F i)) (G') ++ wr) H := hP
        have hD : va_D A (rs_M q cI (0) (n) (upd F' c0 (F i)) (G') ++ wr) := hD
        refine lv_aload_n hx hb dX1_sort_139 rfl (lv_at hl 4 rfl) ?_
        refine x1_get_tags C0 hK hP 0 rfl rfl dX1_sort_140 ?_
        refine lv_iload hx hb dX1_sort_143 (lv_at hl 0 rfl) ?_
        refine lv_iload hx hb dX1_sort_145 (lv_at hl 1 rfl) ?_
        refine xr_ast C0 hK hP hD hS 2 rfl (j := c0) (by omega) (by decide) dX1_sort_147 (fun H locs hP hD hS => ?_)
        have hP : va_P D vwCl (rs_M q cI (0) (n) (upd F' c0 (F i)) (upd G' c0 (G i)) ++ wr) H := hP
        have hD : va_D A (rs_M q cI (0) (n) (upd F' c0 (F i)) (upd G' c0 (G i)) ++ wr) := hD
        refine lv_iinc (k := 3) hx hb dX1_sort_148 hl rfl (rs_inc i) (by decide) rfl (fun ls hl => ?_)
        have hl : lv_has ls 8 [(4, .int (nI (i + 1))), (7, .int (nI c0)), (6, .int (G i)), (5, .int (F i)), (0, .ref (q 0)), (1, .int o), (2, .int (nI a)), (3, .int (nI b))] := hl
        refine lv_goto hx hb dX1_sort_151 rfl ?_
        have hl : lv_has ls 8 [(4, .int (nI (i + 1))), (0, .ref (q 0)), (1, .int o), (2, .int (nI a)), (3, .int (nI b))] := lv_sub hl [0, 4, 5, 6, 7] rfl
        refine ih (i + 1) _ _ H locs ls (by omega) (by omega) (rs_St.step (by omega) hSt (rs_ins k1 k2 hSt.2 hgt hle (fun u => ?_) (fun u => ?_))) hP hD hS hl
        · by_cases hu : u = c0
          · subst hu; rw [pk_us, if_pos rfl]
          · rw [pk_un hu, if_neg hu]; exact hF u
        · by_cases hu : u = c0
          · subst hu; rw [pk_us, if_pos rfl]
          · rw [pk_un hu, if_neg hu]; exact hG u
      have inner : ∀ (t : Nat) (F' G' : Nat → Int32) (H : Heap) (locs : List Loc) (ls : Array Slot), a ≤ (a + t) → (a + t) ≤ i → (∀ u, F' u = if (a + t) < u ∧ u ≤ i then F (u - 1) else F u) → (∀ u, G' u = if (a + t) < u ∧ u ≤ i then G (u - 1) else G u) → (∀ u, (a + t) ≤ u → u < i → rs_rk o (F i) < rs_rk o (F u)) → va_P D vwCl (rs_M q cI (0) (n) (F') (G') ++ wr) H → va_D A (rs_M q cI (0) (n) (F') (G') ++ wr) → va_S A s.heap H locs → lv_has ls 8 [(7, .int (nI (a + t))), (6, .int (G i)), (5, .int (F i)), (4, .int (nI i)), (0, .ref (q 0)), (1, .int o), (2, .int (nI a)), (3, .int (nI b))] → W p l e ({ frames := 1, cells := 0, slots := 0, locals := 22 }) s m args below meth c H locs 0 0 Q (F0 m 62 ls []) := by
        intro t
        induction t with
        | zero =>
          intro F' G' H locs ls k1 k2 hF hG hgt hP hD hS hl
          refine lv_iload hx hb dX1_sort_62 (lv_at hl 0 rfl) ?_
          refine lv_iload_n hx hb dX1_sort_64 rfl (lv_at hl 6 rfl) ?_
          refine lv_icmp_le hx hb dX1_sort_65 rfl (fun h => ?_) (fun h => absurd (nI_le (by omega) (by omega)) h)
          exact fin (a + 0) F' G' H locs ls k1 k2 hF hG hgt (Or.inl rfl) hP hD hS hl
        | succ t iht =>
          intro F' G' H locs ls k1 k2 hF hG hgt hP hD hS hl
          have hc : F' (a + t) = F (a + t) := by rw [hF, if_neg (by omega)]
          have hcG : G' (a + t) = G (a + t) := by rw [hG, if_neg (by omega)]
          refine lv_iload hx hb dX1_sort_62 (lv_at hl 0 rfl) ?_
          refine lv_iload_n hx hb dX1_sort_64 rfl (lv_at hl 6 rfl) ?_
          refine lv_icmp_le hx hb dX1_sort_65 rfl (fun h => absurd h (nI_ge (by omega) (by omega))) (fun h => ?_)
          refine lv_aload_n hx hb dX1_sort_68 rfl (lv_at hl 4 rfl) ?_
          refine lv_iload_n hx hb dX1_sort_69 rfl (lv_at hl 5 rfl) ?_
          refine lv_aload_n hx hb dX1_sort_70 rfl (lv_at hl 4 rfl) ?_
          refine x1_get_row C0 hK hP 0 rfl rfl dX1_sort_71 ?_
          refine lv_iload hx hb dX1_sort_74 (lv_at hl 0 rfl) ?_
          refine lv_iconst (v := 1) hx hb dX1_sort_76 (by decide) ?_
          refine lv_isub hx hb dX1_sort_77 ?_
          refine xr_top (nI_pred (a + t)) ?_
          refine xr_ald C0 hK hP 1 rfl (j := a + t) (by omega) (by decide) dX1_sort_78 ?_
          refine xr_vcall (As := [.int o, .int (F' (a + t))]) (rest := []) (nA := 2) C0 (m_rank l D q cI tyr wr _ n 0 F' G' o (F' (a + t)) h1 h2) (gV wM_X1_X1_rank wI_X1_rank wV_X1_X1_rank wN_X1 wC_X1_rank) (by decide +kernel) rfl rfl rfl ⟨by decide, by decide⟩ hK hP hD hS hA 0 rfl rfl hl.1 rfl (Nat.le_of_ble_eq_true rfl) dX1_sort_79 ⟨Nat.le_of_ble_eq_true rfl, Nat.le_of_ble_eq_true rfl⟩ (fun v w H locs hv hP hD hz hS => ?_)
          obtain ⟨rfl, rfl⟩ := hv
          refine lv_aload_n hx hb dX1_sort_82 rfl (lv_at hl 4 rfl) ?_
          refine lv_iload_n hx hb dX1_sort_83 rfl (lv_at hl 5 rfl) ?_
          refine lv_iload hx hb dX1_sort_84 (lv_at hl 2 rfl) ?_
          refine xr_vcall (As := [.int o, .int (F i)]) (rest := [.int (rs_rk o (F' (a + t)))]) (nA := 2) C0 (m_rank l D q cI tyr wr _ n 0 F' G' o (F i) h1 h2) (gV wM_X1_X1_rank wI_X1_rank wV_X1_X1_rank wN_X1 wC_X1_rank) (by decide +kernel) rfl rfl rfl ⟨by decide, by decide⟩ hK hP hD hS hA 0 rfl rfl hl.1 rfl (Nat.le_of_ble_eq_true rfl) dX1_sort_86 ⟨Nat.le_of_ble_eq_true rfl, Nat.le_of_ble_eq_true rfl⟩ (fun v w H locs hv hP hD hz hS => ?_)
          obtain ⟨rfl, rfl⟩ := hv
          refine lv_icmp_le hx hb dX1_sort_89 rfl (fun h => ?_) (fun h => ?_)
          · skip
            exact fin (a + (t + 1)) F' G' H locs ls k1 k2 hF hG hgt (Or.inr (by rw [show a + (t + 1) - 1 = a + t by omega, ← hc]; exact h)) hP hD hS hl
          · skip
            refine lv_aload_n hx hb dX1_sort_92 rfl (lv_at hl 4 rfl) ?_
            refine x1_get_row C0 hK hP 0 rfl rfl dX1_sort_93 ?_
            refine lv_iload hx hb dX1_sort_96 (lv_at hl 0 rfl) ?_
            refine lv_aload_n hx hb dX1_sort_98 rfl (lv_at hl 4 rfl) ?_
            refine x1_get_row C0 hK hP 0 rfl rfl dX1_sort_99 ?_
            refine lv_iload hx hb dX1_sort_102 (lv_at hl 0 rfl) ?_
            refine lv_iconst (v := 1) hx hb dX1_sort_104 (by decide) ?_
            refine lv_isub hx hb dX1_sort_105 ?_
            refine xr_top (nI_pred (a + t)) ?_
            refine xr_ald C0 hK hP 1 rfl (j := a + t) (by omega) (by decide) dX1_sort_106 ?_
            refine xr_ast C0 hK hP hD hS 1 rfl (j := a + (t + 1)) (by omega) (by decide) dX1_sort_107 (fun H locs hP hD hS => ?_)
            have hP : va_P D vwCl (rs_M q cI (0) (n) (upd F' (a + (t + 1)) (F' (a + t))) (G') ++ wr) H := hP
            have hD : va_D A (rs_M q cI (0) (n) (upd F' (a + (t + 1)) (F' (a + t))) (G') ++ wr) := hD
            refine lv_aload_n hx hb dX1_sort_108 rfl (lv_at hl 4 rfl) ?_
            refine x1_get_tags C0 hK hP 0 rfl rfl dX1_sort_109 ?_
            refine lv_iload hx hb dX1_sort_112 (lv_at hl 0 rfl) ?_
            refine lv_aload_n hx hb dX1_sort_114 rfl (lv_at hl 4 rfl) ?_
            refine x1_get_tags C0 hK hP 0 rfl rfl dX1_sort_115 ?_
            refine lv_iload hx hb dX1_sort_118 (lv_at hl 0 rfl) ?_
            refine lv_iconst (v := 1) hx hb dX1_sort_120 (by decide) ?_
            refine lv_isub hx hb dX1_sort_121 ?_
            refine xr_top (nI_pred (a + t)) ?_
            refine xr_ald C0 hK hP 2 rfl (j := a + t) (by omega) (by decide) dX1_sort_122 ?_
            refine xr_ast C0 hK hP hD hS 2 rfl (j := a + (t + 1)) (by omega) (by decide) dX1_sort_123 (fun H locs hP hD hS => ?_)
            have hP : va_P D vwCl (rs_M q cI (0) (n) (upd F' (a + (t + 1)) (F' (a + t))) (upd G' (a + (t + 1)) (G' (a + t))) ++ wr) H := hP
            have hD : va_D A (rs_M q cI (0) (n) (upd F' (a + (t + 1)) (F' (a + t))) (upd G' (a + (t + 1)) (G' (a + t))) ++ wr) := hD
            refine lv_iinc (k := 0) hx hb dX1_sort_124 hl rfl (rs_dec (a + t)) (by decide) rfl (fun ls hl => ?_)
            have hl : lv_has ls 8 [(7, .int (nI (a + t))), (6, .int (G i)), (5, .int (F i)), (4, .int (nI i)), (0, .ref (q 0)), (1, .int o), (2, .int (nI a)), (3, .int (nI b))] := hl
            refine lv_goto hx hb dX1_sort_127 rfl ?_
            refine iht _ _ H locs ls (by omega) (by omega) (fun u => ?_) (fun u => ?_) (fun u hu1 hu2 => ?_) hP hD hS hl
            · by_cases hu : u = a + (t + 1)
              · subst hu; rw [pk_us, if_pos (by omega), show a + (t + 1) - 1 = a + t by omega]; exact hc
              · rw [pk_un hu, hF u]
                by_cases hc2 : a + (t + 1) < u ∧ u ≤ i
                · rw [if_pos hc2, if_pos (by omega)]
                · rw [if_neg hc2, if_neg (by omega)]
            · by_cases hu : u = a + (t + 1)
              · subst hu; rw [pk_us, if_pos (by omega), show a + (t + 1) - 1 = a + t by omega]; exact hcG
              · rw [pk_un hu, hG u]
                by_cases hc2 : a + (t + 1) < u ∧ u ≤ i
                · rw [if_pos hc2, if_pos (by omega)]
                · rw [if_neg hc2, if_neg (by omega)]
            · rcases Nat.eq_or_lt_of_le hu1 with e | e
              · rw [← e, ← hc]; exact rs_nle h
              · exact hgt u (by omega) hu2
      have ei : i = a + (i - a) := by omega
      have hl : lv_has ls 8 [(7, .int (nI (a + (i - a)))), (6, .int (G i)), (5, .int (F i)), (4, .int (nI i)), (0, .ref (q 0)), (1, .int o), (2, .int (nI a)), (3, .int (nI b))] := by rw [← ei]; exact hl
      exact inner (i - a) F G H locs ls (by omega) (by omega) (fun u => by rw [if_neg (by omega)]) (fun u => by rw [if_neg (by omega)]) (fun u hu1 hu2 => absurd hu2 (by omega)) hP hD hS hl
  refine lv_iload_n hx hb dX1_sort_29 rfl (lv_at hl 2 rfl) ?_
  refine lv_iconst (v := 1) hx hb dX1_sort_30 (by decide) ?_
  refine lv_iadd hx hb dX1_sort_31 ?_
  refine xr_top (nI_1 a) ?_
  refine lv_istore hx hb dX1_sort_32 hl (by decide) rfl (fun ls hl => ?_)
  have hl : lv_has ls 8 [(4, .int (nI (a + 1))), (0, .ref (q 0)), (1, .int o), (2, .int (nI a)), (3, .int (nI b))] := hl
  exact loop (max b (a + 1) - (a + 1)) (a + 1) f g _ _ ls (by omega) (by omega) (rs_St.zero (Nat.le_refl _)) hP hD hS hl
set_option maxHeartbeats 4000000 in
set_option maxRecDepth 100000 in
/-- RunSorterModel(): two new rows, no numbers; the class's cells stand beside it -/
theorem m_init (l : Launch) (D : va_G) (q : Nat → Nat) (cI : ClassId) (tyr : List (ClassId × FieldType)) (sz n a : Nat) (f g sf sg r : Nat → Int32) : xr_Met l yX1_init (wU yX1_init cX1_init 1 none) ({ frames := 1, cells := 2, slots := 4000, locals := 20 }) [.ref a] D (rs_ty cI tyr) (rs_X q cI n f g sf sg r ++ [(a, .inr (1, [.int 0, .int 0, .null, .null]))]) sz (fun v w => v = none ∧ ∃ t : Nat → Nat, t 0 = a ∧ w = rs_X q cI n f g sf sg r ++ rs_M t cI 0 0 (fun _ => 0) (fun _ => 0)) 2 4000 := by
  refine xr_start (by decide) (Nat.le_of_ble_eq_true rfl) ?_
  intro p e s m args below meth c A ls C0 hlk hr hnm hP hK hD hA hl
  have hx := C0.1
  have hb := C0.2.1
  have hS : va_S A s.heap s.heap [] := va_S.rf
  have hl : lv_has ls 1 [(0, .ref a)] := hl
  refine lv_aload_n hx hb dX1_init_0 rfl (lv_at hl 0 rfl) ?_
  refine W.objInit hx hb C0.2.2.2.1 (C0.2.2.2.2 _ wM_X1_Object_init) (C0.2.2.2.2 _ wI_Object_init) (C0.2.2.2.2 _ wC_Object_init) rfl (by rw [C0.2.2.1]; exact hl.1) rfl dX1_init_1 (Nat.le_of_ble_eq_true rfl) (Nat.le_of_ble_eq_true rfl) ?_
  refine W.eq (g2 := F0 m 4 ls []) rfl ?_
  refine lv_aload_n hx hb dX1_init_4 rfl (lv_at hl 0 rfl) ?_
  refine lv_sipush (v := 2000) hx hb dX1_init_5 (by decide) ?_
  refine xr_newa (N := 2000) C0 hK hP hD hS hA rfl (by decide) (Nat.le_of_ble_eq_true rfl) (Nat.le_of_ble_eq_true rfl) dX1_init_8 (fun q1 H hP hD hS => ?_)
  have hP : va_P D vwCl (rs_X q cI n f g sf sg r ++ [(a, .inr (1, [.int 0, .int 0, .null, .null])), (q1, .inl (cI, 2000, .inl (fun _ => 0)))]) H := hP
  have hD : va_D A (rs_X q cI n f g sf sg r ++ [(a, .inr (1, [.int 0, .int 0, .null, .null])), (q1, .inl (cI, 2000, .inl (fun _ => 0)))]) := hD
  refine x1_putF_row C0 hnm hK hP hD hS 6 rfl (Nat.le_of_ble_eq_true rfl) dX1_init_10 (fun H locs hP hD hS => ?_)
  have hP : va_P D vwCl (rs_X q cI n f g sf sg r ++ [(a, .inr (1, [.int 0, .int 0, .ref q1, .null])), (q1, .inl (cI, 2000, .inl (fun _ => 0)))]) H := hP
  have hD : va_D A (rs_X q cI n f g sf sg r ++ [(a, .inr (1, [.int 0, .int 0, .ref q1, .null])), (q1, .inl (cI, 2000, .inl (fun _ => 0)))]) := hD
  refine lv_aload_n hx hb dX1_init_13 rfl (lv_at hl 0 rfl) ?_
  refine lv_sipush (v := 2000) hx hb dX1_init_14 (by decide) ?_
  refine xr_newa (N := 2000) C0 hK hP hD hS hA rfl (by decide) (Nat.le_of_ble_eq_true rfl) (Nat.le_of_ble_eq_true rfl) dX1_init_17 (fun q2 H hP hD hS => ?_)
  have hP : va_P D vwCl (rs_X q cI n f g sf sg r ++ [(a, .inr (1, [.int 0, .int 0, .ref q1, .null])), (q1, .inl (cI, 2000, .inl (fun _ => 0))), (q2, .inl (cI, 2000, .inl (fun _ => 0)))]) H := hP
  have hD : va_D A (rs_X q cI n f g sf sg r ++ [(a, .inr (1, [.int 0, .int 0, .ref q1, .null])), (q1, .inl (cI, 2000, .inl (fun _ => 0))), (q2, .inl (cI, 2000, .inl (fun _ => 0)))]) := hD
  refine x1_putF_tags C0 hnm hK hP hD hS 6 rfl (Nat.le_of_ble_eq_true rfl) dX1_init_19 (fun H locs hP hD hS => ?_)
  have hP : va_P D vwCl (rs_X q cI n f g sf sg r ++ [(a, .inr (1, [.int 0, .int 0, .ref q1, .ref q2])), (q1, .inl (cI, 2000, .inl (fun _ => 0))), (q2, .inl (cI, 2000, .inl (fun _ => 0)))]) H := hP
  have hD : va_D A (rs_X q cI n f g sf sg r ++ [(a, .inr (1, [.int 0, .int 0, .ref q1, .ref q2])), (q1, .inl (cI, 2000, .inl (fun _ => 0))), (q2, .inl (cI, 2000, .inl (fun _ => 0)))]) := hD
  exact xr_vret C0 hlk hr ⟨rfl, (fun k => match k with | 0 => a | 1 => q1 | _ => q2), rfl, rfl⟩ hP hD hS dX1_init_22
