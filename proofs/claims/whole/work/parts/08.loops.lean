/-! The class: rank, fill, scatter, hash, turn, upTo, where they return (rows laid by wip/whole/p08.py). -/
/-- the numbers that fill lays, one after the other -/
def rs_fi (f : Nat → Int32) (n : Nat) (x st : Int32) : Nat → Nat → Int32
  | 0 => f
  | i + 1 => upd (rs_fi f n x st i) (n + i) (x + nI i * st)
def rs_tg (g : Nat → Int32) (n : Nat) : Nat → Nat → Int32
  | 0 => g
  | i + 1 => upd (rs_tg g n i) (n + i) (nI (n + i))
def rs_sd (x : Int32) : Nat → Int32
  | 0 => x
  | i + 1 => 1664525 * rs_sd x i + 1013904223
def rs_sc (f : Nat → Int32) (n : Nat) (x b : Int32) : Nat → Nat → Int32
  | 0 => f
  | i + 1 => upd (rs_sc f n x b i) (n + i) (((rs_sd x (i + 1)).toUInt32 >>> ((16 : Int32).toUInt32 &&& Int32.toUInt32 31)).toInt32 &&& (((1 : Int32) <<< (b &&& 31)) - 1))
def rs_hs (f g : Nat → Int32) : Nat → Int32
  | 0 => 1
  | i + 1 => 31 * (31 * rs_hs f g i + f i) + g i
/-- i numbers from both ends have changed places -/
def rs_tn (f : Nat → Int32) (a b : Nat) : Nat → Nat → Int32
  | 0 => f
  | i + 1 => upd (upd (rs_tn f a b i) (a + i) (rs_tn f a b i (b - 1 - i))) (b - 1 - i) (rs_tn f a b i (a + i))
/-- upTo goes on over y -/
def rs_go (o x b y : Int32) : Prop := ¬ rs_rk o x < rs_rk o y ∧ ¬ (rs_rk o y = rs_rk o x ∧ b = 0)
def rs_uT (o x b : Int32) (f : Nat → Int32) (n r : Nat) : Prop := r ≤ n ∧ (∀ i, i < r → rs_go o x b (f i)) ∧ (r < n → ¬ rs_go o x b (f r))
theorem rs_uT.one {o x b : Int32} {f : Nat → Int32} {n r t : Nat} (h : rs_uT o x b f n r) (h2 : rs_uT o x b f n t) : r = t := by
  obtain ⟨a1, a2, a3⟩ := h
  obtain ⟨b1, b2, b3⟩ := h2
  rcases Nat.lt_trichotomy r t with q | q | q
  · exact absurd (b2 r q) (a3 (by omega))
  · exact q
  · exact absurd (a2 t q) (b3 (by omega))
theorem rs_inc (i : Nat) : nI i + Int32.ofInt 1 = nI (i + 1) := by rw [lit1]; exact nI_1 i
theorem rs_pre (i : Nat) (h : 0 < i) : nI i - 1 = nI (i - 1) := by
  have e := pk_sub (a := i) (b := 1) h
  exact e
theorem rs_half {c : Nat} (h : c < 2 ^ 31) : nI c / 2 = nI (c / 2) := pk_div (a := c) (d := 2) h (by omega) (by omega)
set_option maxHeartbeats 4000000 in
set_option maxRecDepth 100000 in
/-- rank -/
theorem c_rank (l : Launch) (D : va_G) (q : Nat → Nat) (cI : ClassId) (tyr : List (ClassId × FieldType)) (wr : va_W) (sz n : Nat) (f g sf sg r : Nat → Int32) (o x : Int32) : xr_Met l yX0_rank (wU yX0_rank cX0_rank 2 (some .int)) ({ frames := 0, cells := 0, slots := 0, locals := 0 }) [.int o, .int x] D (rs_ty cI tyr) (rs_X q cI (n) (f) (g) (sf) (sg) (r) ++ wr) sz (fun v w => v = some (.int (rs_rk o x)) ∧ w = rs_X q cI n f g sf sg r ++ wr) 0 0 := by
  refine xr_start (by decide) (Nat.le_of_ble_eq_true rfl) ?_
  intro p e s m args below meth c A ls C0 hlk hr hnm hP hK hD hA hl
  have hx := C0.1
  have hb := C0.2.1
  have hS : va_S A s.heap s.heap [] := va_S.rf
  have hl : lv_has ls 2 [(0, .int o), (1, .int x)] := hl
  refine lv_iload_n hx hb dX0_rank_0 rfl (lv_at hl 0 rfl) ?_
  by_cases h1 : o = 1
  · subst h1
    refine lv_tableIn (off := 27) (tgt := 28) hx hb dX0_rank_1 (by decide) (by decide) (by decide) (by decide) ?_
    refine lv_iload_n hx hb dX0_rank_28 rfl (lv_at hl 1 rfl) ?_
    refine lv_iconst (v := -1) hx hb dX0_rank_29 (by decide) ?_
    refine lv_ixor hx hb dX0_rank_30 ?_
    exact xr_iret C0 hlk hr (⟨by simp [rs_rk], rfl⟩) hP hD hS dX0_rank_31
  · skip
    by_cases h2 : o = 2
    · subst h2
      refine lv_tableIn (off := 31) (tgt := 32) hx hb dX0_rank_1 (by decide) (by decide) (by decide) (by decide) ?_
      refine lv_iload_n hx hb dX0_rank_32 rfl (lv_at hl 1 rfl) ?_
      refine lv_bipush (v := 15) hx hb dX0_rank_33 (by decide) ?_
      refine lv_iand hx hb dX0_rank_35 ?_
      exact xr_iret C0 hlk hr (⟨by simp [rs_rk], rfl⟩) hP hD hS dX0_rank_36
    · skip
      by_cases h3 : o = 3
      · subst h3
        refine lv_tableIn (off := 36) (tgt := 37) hx hb dX0_rank_1 (by decide) (by decide) (by decide) (by decide) ?_
        refine lv_iload_n hx hb dX0_rank_37 rfl (lv_at hl 1 rfl) ?_
        refine lv_ldc (v := -2147483648) hx hb C0.2.2.2.1 (C0.2.2.2.2 _ wQ_X0_80) dX0_rank_38 ?_
        refine lv_ixor hx hb dX0_rank_40 ?_
        exact xr_iret C0 hlk hr (⟨by simp [rs_rk], rfl⟩) hP hD hS dX0_rank_41
      · skip
        have hout : o.toInt < 1 ∨ 3 < o.toInt := by
          have e1 : o.toInt ≠ 1 := fun h => h1 (Int32.toInt_inj.mp h)
          have e2 : o.toInt ≠ 2 := fun h => h2 (Int32.toInt_inj.mp h)
          have e3 : o.toInt ≠ 3 := fun h => h3 (Int32.toInt_inj.mp h)
          omega
        refine lv_tableOut (tgt := 42) hx hb dX0_rank_1 hout (by decide) ?_
        refine lv_iload_n hx hb dX0_rank_42 rfl (lv_at hl 1 rfl) ?_
        exact xr_iret C0 hlk hr (⟨by simp [rs_rk, h1, h2, h3], rfl⟩) hP hD hS dX0_rank_43
set_option maxHeartbeats 4000000 in
set_option maxRecDepth 100000 in
/-- fill, in range -/
theorem c_fill (l : Launch) (D : va_G) (q : Nat → Nat) (cI : ClassId) (tyr : List (ClassId × FieldType)) (wr : va_W) (sz n : Nat) (f g sf sg r : Nat → Int32) (x st : Int32) (k : Nat) (hn : n + k ≤ 2000) : xr_Met l yX0_fill (wU yX0_fill cX0_fill 5 (some .int)) ({ frames := 1, cells := 0, slots := 0, locals := 40 }) [.ref (q 0), .int x, .int st, .int (nI k)] D (rs_ty cI tyr) (rs_X q cI (n) (f) (g) (sf) (sg) (r) ++ wr) sz (fun v w => v = some (.int (nI (n + k))) ∧ w = rs_X q cI (n + k) (rs_fi f n x st k) (rs_tg g n k) sf sg r ++ wr) 0 0 := by
  refine xr_startQ (by decide) (Nat.le_of_ble_eq_true rfl) ?_
  intro p e s m args below meth c A ls Q hQ C0 hlk hr hP hK hD hA hl
  have hx := C0.1
  have hb := C0.2.1
  have hS : va_S A s.heap s.heap [] := va_S.rf
  have hl : lv_has ls 5 [(0, .ref (q 0)), (1, .int x), (2, .int st), (3, .int (nI k))] := hl
  refine lv_iload_n hx hb dX0_fill_0 rfl (lv_at hl 3 rfl) ?_
  refine lv_iconst (v := 0) hx hb dX0_fill_1 (by decide) ?_
  refine lv_sipush (v := 2000) hx hb dX0_fill_2 (by decide) ?_
  refine xr_scall (As := [.int (nI k), .int 0, .int 2000]) (rest := []) (nA := 3) C0 (c_within l D q cI tyr wr _ n f g sf sg r (nI k) 0 2000 (nI_pos (by omega)) (nI_le (b := 2000) (by omega) (by omega))) (gS wM_X0_X0_requireWithin wS_X0_requireWithin wN_X0 wC_X0_requireWithin) (by decide +kernel) rfl rfl rfl ⟨by decide, by decide⟩ hK hP hD hS hA hl.1 rfl (Nat.le_of_ble_eq_true rfl) dX0_fill_5 ⟨Nat.le_of_ble_eq_true rfl, Nat.le_of_ble_eq_true rfl⟩ (fun v w H locs hv hP hD hz hS => ?_)
  obtain ⟨rfl, rfl⟩ := hv
  refine lv_aload_n hx hb dX0_fill_8 rfl (lv_at hl 0 rfl) ?_
  refine lv_iload_n hx hb dX0_fill_9 rfl (lv_at hl 3 rfl) ?_
  refine xr_vcall (As := [.int (nI k)]) (rest := []) (nA := 1) C0 (c_room l D q cI tyr wr _ n f g sf sg r k hn) (gV wM_X0_X0_requireRoomFor wI_X0_requireRoomFor wV_X0_X0_requireRoomFor wN_X0 wC_X0_requireRoomFor) (by decide +kernel) rfl rfl rfl ⟨by decide, by decide⟩ hK hP hD hS hA 0 rfl rfl hl.1 rfl (Nat.le_of_ble_eq_true rfl) dX0_fill_10 ⟨Nat.le_of_ble_eq_true rfl, Nat.le_of_ble_eq_true rfl⟩ (fun v w H locs hv hP hD hz hS => ?_)
  obtain ⟨rfl, rfl⟩ := hv
  have loop : ∀ (j i : Nat) (H : Heap) (locs : List Loc) (ls : Array Slot), i + j = k → va_P D vwCl (rs_X q cI (n + i) (rs_fi f n x st i) (rs_tg g n i) (sf) (sg) (r) ++ wr) H → va_D A (rs_X q cI (n + i) (rs_fi f n x st i) (rs_tg g n i) (sf) (sg) (r) ++ wr) → va_S A s.heap H locs → lv_has ls 5 [(4, .int (nI i)), (0, .ref (q 0)), (1, .int x), (2, .int st), (3, .int (nI k))] → W p l e ({ frames := 1, cells := 0, slots := 0, locals := 40 }) s m args below meth c H locs 0 0 Q (F0 m 16 ls []) := by
    intro j
    induction j with
    | zero =>
      intro i H locs ls hi hP hD hS hl
      refine lv_iload hx hb dX0_fill_16 (lv_at hl 0 rfl) ?_
      refine lv_iload_n hx hb dX0_fill_18 rfl (lv_at hl 4 rfl) ?_
      refine lv_icmp_ge hx hb dX0_fill_19 rfl (fun h => ?_) (fun h => absurd (nI_le (by omega) (by omega)) h)
      refine lv_aload_n hx hb dX0_fill_38 rfl (lv_at hl 1 rfl) ?_
      refine x0_get_size C0 hK hP 0 rfl rfl dX0_fill_39 ?_
      have e : i = k := by omega
      subst e
      rw [hQ]
      exact xr_iret C0 hlk hr (⟨rfl, rfl⟩) hP hD hS dX0_fill_42
    | succ j ih =>
      intro i H locs ls hi hP hD hS hl
      refine lv_iload hx hb dX0_fill_16 (lv_at hl 0 rfl) ?_
      refine lv_iload_n hx hb dX0_fill_18 rfl (lv_at hl 4 rfl) ?_
      refine lv_icmp_ge hx hb dX0_fill_19 rfl (fun h => absurd h (nI_ge (by omega) (by omega))) (fun h => ?_)
      refine lv_aload_n hx hb dX0_fill_22 rfl (lv_at hl 1 rfl) ?_
      refine lv_iload_n hx hb dX0_fill_23 rfl (lv_at hl 2 rfl) ?_
      refine lv_iload hx hb dX0_fill_24 (lv_at hl 0 rfl) ?_
      refine lv_iload_n hx hb dX0_fill_26 rfl (lv_at hl 3 rfl) ?_
      refine lv_imul hx hb dX0_fill_27 ?_
      refine lv_iadd hx hb dX0_fill_28 ?_
      refine xr_vcall (As := [.int (x + (nI i * st))]) (rest := []) (nA := 1) C0 (c_append l D q cI tyr wr _ (n + i) _ _ sf sg r (x + nI i * st) (by omega)) (gV wM_X0_X0_append wI_X0_append wV_X0_X0_append wN_X0 wC_X0_append) (by decide +kernel) rfl rfl rfl ⟨by decide, by decide⟩ hK hP hD hS hA 0 rfl rfl hl.1 rfl (Nat.le_of_ble_eq_true rfl) dX0_fill_29 ⟨Nat.le_of_ble_eq_true rfl, Nat.le_of_ble_eq_true rfl⟩ (fun v w H locs hv hP hD hz hS => ?_)
      obtain ⟨rfl, rfl⟩ := hv
      refine lv_iinc (k := 0) hx hb dX0_fill_32 hl rfl (rs_inc i) (by decide) rfl (fun ls hl => ?_)
      have hl : lv_has ls 5 [(4, .int (nI (i + 1))), (0, .ref (q 0)), (1, .int x), (2, .int st), (3, .int (nI k))] := hl
      refine lv_goto hx hb dX0_fill_35 rfl ?_
      exact ih (i + 1) H locs ls (by omega) hP hD hS hl
  refine lv_iconst (v := 0) hx hb dX0_fill_13 (by decide) ?_
  refine lv_istore hx hb dX0_fill_14 hl (by decide) rfl (fun ls hl => ?_)
  have hl : lv_has ls 5 [(4, .int (nI 0)), (0, .ref (q 0)), (1, .int x), (2, .int st), (3, .int (nI k))] := hl
  exact loop k 0 _ _ ls (by omega) hP hD hS hl
set_option maxHeartbeats 4000000 in
set_option maxRecDepth 100000 in
/-- scatter, in range -/
theorem c_scatter (l : Launch) (D : va_G) (q : Nat → Nat) (cI : ClassId) (tyr : List (ClassId × FieldType)) (wr : va_W) (sz n : Nat) (f g sf sg r : Nat → Int32) (x b : Int32) (k : Nat) (hb1 : ¬ b < 1) (hb2 : b ≤ 16) (hn : n + k ≤ 2000) : xr_Met l yX0_scatter (wU yX0_scatter cX0_scatter 7 (some .int)) ({ frames := 1, cells := 0, slots := 0, locals := 40 }) [.ref (q 0), .int x, .int b, .int (nI k)] D (rs_ty cI tyr) (rs_X q cI (n) (f) (g) (sf) (sg) (r) ++ wr) sz (fun v w => v = some (.int (nI (n + k))) ∧ w = rs_X q cI (n + k) (rs_sc f n x b k) (rs_tg g n k) sf sg r ++ wr) 0 0 := by
  refine xr_startQ (by decide) (Nat.le_of_ble_eq_true rfl) ?_
  intro p e s m args below meth c A ls Q hQ C0 hlk hr hP hK hD hA hl
  have hx := C0.1
  have hb := C0.2.1
  have hS : va_S A s.heap s.heap [] := va_S.rf
  have hl : lv_has ls 7 [(0, .ref (q 0)), (1, .int x), (2, .int b), (3, .int (nI k))] := hl
  refine lv_iload_n hx hb dX0_scatter_0 rfl (lv_at hl 3 rfl) ?_
  refine lv_iconst (v := 0) hx hb dX0_scatter_1 (by decide) ?_
  refine lv_sipush (v := 2000) hx hb dX0_scatter_2 (by decide) ?_
  refine xr_scall (As := [.int (nI k), .int 0, .int 2000]) (rest := []) (nA := 3) C0 (c_within l D q cI tyr wr _ n f g sf sg r (nI k) 0 2000 (nI_pos (by omega)) (nI_le (b := 2000) (by omega) (by omega))) (gS wM_X0_X0_requireWithin wS_X0_requireWithin wN_X0 wC_X0_requireWithin) (by decide +kernel) rfl rfl rfl ⟨by decide, by decide⟩ hK hP hD hS hA hl.1 rfl (Nat.le_of_ble_eq_true rfl) dX0_scatter_5 ⟨Nat.le_of_ble_eq_true rfl, Nat.le_of_ble_eq_true rfl⟩ (fun v w H locs hv hP hD hz hS => ?_)
  obtain ⟨rfl, rfl⟩ := hv
  refine lv_iload_n hx hb dX0_scatter_8 rfl (lv_at hl 2 rfl) ?_
  refine lv_iconst (v := 1) hx hb dX0_scatter_9 (by decide) ?_
  refine lv_bipush (v := 16) hx hb dX0_scatter_10 (by decide) ?_
  refine xr_scall (As := [.int b, .int 1, .int 16]) (rest := []) (nA := 3) C0 (c_within l D q cI tyr wr _ n f g sf sg r b 1 16 hb1 hb2) (gS wM_X0_X0_requireWithin wS_X0_requireWithin wN_X0 wC_X0_requireWithin) (by decide +kernel) rfl rfl rfl ⟨by decide, by decide⟩ hK hP hD hS hA hl.1 rfl (Nat.le_of_ble_eq_true rfl) dX0_scatter_12 ⟨Nat.le_of_ble_eq_true rfl, Nat.le_of_ble_eq_true rfl⟩ (fun v w H locs hv hP hD hz hS => ?_)
  obtain ⟨rfl, rfl⟩ := hv
  refine lv_aload_n hx hb dX0_scatter_15 rfl (lv_at hl 0 rfl) ?_
  refine lv_iload_n hx hb dX0_scatter_16 rfl (lv_at hl 3 rfl) ?_
  refine xr_vcall (As := [.int (nI k)]) (rest := []) (nA := 1) C0 (c_room l D q cI tyr wr _ n f g sf sg r k hn) (gV wM_X0_X0_requireRoomFor wI_X0_requireRoomFor wV_X0_X0_requireRoomFor wN_X0 wC_X0_requireRoomFor) (by decide +kernel) rfl rfl rfl ⟨by decide, by decide⟩ hK hP hD hS hA 0 rfl rfl hl.1 rfl (Nat.le_of_ble_eq_true rfl) dX0_scatter_17 ⟨Nat.le_of_ble_eq_true rfl, Nat.le_of_ble_eq_true rfl⟩ (fun v w H locs hv hP hD hz hS => ?_)
  obtain ⟨rfl, rfl⟩ := hv
  have loop : ∀ (j i : Nat) (H : Heap) (locs : List Loc) (ls : Array Slot), i + j = k → va_P D vwCl (rs_X q cI (n + i) (rs_sc f n x b i) (rs_tg g n i) (sf) (sg) (r) ++ wr) H → va_D A (rs_X q cI (n + i) (rs_sc f n x b i) (rs_tg g n i) (sf) (sg) (r) ++ wr) → va_S A s.heap H locs → lv_has ls 7 [(6, .int (nI i)), (5, .int (rs_sd x i)), (4, .int ((1 <<< (b &&& 31)) - 1)), (0, .ref (q 0)), (1, .int x), (2, .int b), (3, .int (nI k))] → W p l e ({ frames := 1, cells := 0, slots := 0, locals := 40 }) s m args below meth c H locs 0 0 Q (F0 m 33 ls []) := by
    intro j
    induction j with
    | zero =>
      intro i H locs ls hi hP hD hS hl
      refine lv_iload hx hb dX0_scatter_33 (lv_at hl 0 rfl) ?_
      refine lv_iload_n hx hb dX0_scatter_35 rfl (lv_at hl 6 rfl) ?_
      refine lv_icmp_ge hx hb dX0_scatter_36 rfl (fun h => ?_) (fun h => absurd (nI_le (by omega) (by omega)) h)
      refine lv_aload_n hx hb dX0_scatter_67 rfl (lv_at hl 3 rfl) ?_
      refine x0_get_size C0 hK hP 0 rfl rfl dX0_scatter_68 ?_
      have e : i = k := by omega
      subst e
      rw [hQ]
      exact xr_iret C0 hlk hr (⟨rfl, rfl⟩) hP hD hS dX0_scatter_71
    | succ j ih =>
      intro i H locs ls hi hP hD hS hl
      refine lv_iload hx hb dX0_scatter_33 (lv_at hl 0 rfl) ?_
      refine lv_iload_n hx hb dX0_scatter_35 rfl (lv_at hl 6 rfl) ?_
      refine lv_icmp_ge hx hb dX0_scatter_36 rfl (fun h => absurd h (nI_ge (by omega) (by omega))) (fun h => ?_)
      refine lv_ldc (v := 1664525) hx hb C0.2.2.2.1 (C0.2.2.2.2 _ wQ_X0_40) dX0_scatter_39 ?_
      refine lv_iload hx hb dX0_scatter_41 (lv_at hl 1 rfl) ?_
      refine lv_imul hx hb dX0_scatter_43 ?_
      refine lv_ldc (v := 1013904223) hx hb C0.2.2.2.1 (C0.2.2.2.2 _ wQ_X0_41) dX0_scatter_44 ?_
      refine lv_iadd hx hb dX0_scatter_46 ?_
      refine lv_istore hx hb dX0_scatter_47 hl (by decide) rfl (fun ls hl => ?_)
      have hl : lv_has ls 7 [(5, .int (rs_sd x (i + 1))), (6, .int (nI i)), (4, .int ((1 <<< (b &&& 31)) - 1)), (0, .ref (q 0)), (1, .int x), (2, .int b), (3, .int (nI k))] := hl
      refine lv_aload_n hx hb dX0_scatter_49 rfl (lv_at hl 3 rfl) ?_
      refine lv_iload hx hb dX0_scatter_50 (lv_at hl 0 rfl) ?_
      refine lv_bipush (v := 16) hx hb dX0_scatter_52 (by decide) ?_
      refine lv_iushr hx hb dX0_scatter_54 rfl ?_
      refine lv_iload hx hb dX0_scatter_55 (lv_at hl 2 rfl) ?_
      refine lv_iand hx hb dX0_scatter_57 ?_
      refine xr_vcall (As := [.int ((((rs_sd x (i + 1)).toUInt32 >>> ((16 : Int32).toUInt32 &&& Int32.toUInt32 31)).toInt32) &&& ((1 <<< (b &&& 31)) - 1))]) (rest := []) (nA := 1) C0 (c_append l D q cI tyr wr _ (n + i) _ _ sf sg r _ (by omega)) (gV wM_X0_X0_append wI_X0_append wV_X0_X0_append wN_X0 wC_X0_append) (by decide +kernel) rfl rfl rfl ⟨by decide, by decide⟩ hK hP hD hS hA 0 rfl rfl hl.1 rfl (Nat.le_of_ble_eq_true rfl) dX0_scatter_58 ⟨Nat.le_of_ble_eq_true rfl, Nat.le_of_ble_eq_true rfl⟩ (fun v w H locs hv hP hD hz hS => ?_)
      obtain ⟨rfl, rfl⟩ := hv
      refine lv_iinc (k := 1) hx hb dX0_scatter_61 hl rfl (rs_inc i) (by decide) rfl (fun ls hl => ?_)
      have hl : lv_has ls 7 [(6, .int (nI (i + 1))), (5, .int (rs_sd x (i + 1))), (4, .int ((1 <<< (b &&& 31)) - 1)), (0, .ref (q 0)), (1, .int x), (2, .int b), (3, .int (nI k))] := hl
      refine lv_goto hx hb dX0_scatter_64 rfl ?_
      exact ih (i + 1) H locs ls (by omega) hP hD hS hl
  refine lv_iconst (v := 1) hx hb dX0_scatter_20 (by decide) ?_
  refine lv_iload_n hx hb dX0_scatter_21 rfl (lv_at hl 2 rfl) ?_
  refine lv_ishl hx hb dX0_scatter_22 ?_
  refine lv_iconst (v := 1) hx hb dX0_scatter_23 (by decide) ?_
  refine lv_isub hx hb dX0_scatter_24 ?_
  refine lv_istore hx hb dX0_scatter_25 hl (by decide) rfl (fun ls hl => ?_)
  have hl : lv_has ls 7 [(4, .int ((1 <<< (b &&& 31)) - 1)), (0, .ref (q 0)), (1, .int x), (2, .int b), (3, .int (nI k))] := hl
  refine lv_iload_n hx hb dX0_scatter_27 rfl (lv_at hl 2 rfl) ?_
  refine lv_istore hx hb dX0_scatter_28 hl (by decide) rfl (fun ls hl => ?_)
  have hl : lv_has ls 7 [(5, .int (rs_sd x 0)), (4, .int ((1 <<< (b &&& 31)) - 1)), (0, .ref (q 0)), (1, .int x), (2, .int b), (3, .int (nI k))] := hl
  refine lv_iconst (v := 0) hx hb dX0_scatter_30 (by decide) ?_
  refine lv_istore hx hb dX0_scatter_31 hl (by decide) rfl (fun ls hl => ?_)
  have hl : lv_has ls 7 [(6, .int (nI 0)), (5, .int (rs_sd x 0)), (4, .int ((1 <<< (b &&& 31)) - 1)), (0, .ref (q 0)), (1, .int x), (2, .int b), (3, .int (nI k))] := hl
  exact loop k 0 _ _ ls (by omega) hP hD hS hl
set_option maxHeartbeats 4000000 in
set_option maxRecDepth 100000 in
/-- hash -/
theorem c_hash (l : Launch) (D : va_G) (q : Nat → Nat) (cI : ClassId) (tyr : List (ClassId × FieldType)) (wr : va_W) (sz n : Nat) (f g sf sg r : Nat → Int32) (hn : n ≤ 2000) : xr_Met l yX0_hash (wU yX0_hash cX0_hash 3 (some .int)) ({ frames := 0, cells := 0, slots := 0, locals := 0 }) [.ref (q 0)] D (rs_ty cI tyr) (rs_X q cI (n) (f) (g) (sf) (sg) (r) ++ wr) sz (fun v w => v = some (.int (rs_hs f g n)) ∧ w = rs_X q cI n f g sf sg r ++ wr) 0 0 := by
  refine xr_startQ (by decide) (Nat.le_of_ble_eq_true rfl) ?_
  intro p e s m args below meth c A ls Q hQ C0 hlk hr hP hK hD hA hl
  have hx := C0.1
  have hb := C0.2.1
  have hS : va_S A s.heap s.heap [] := va_S.rf
  have hl : lv_has ls 3 [(0, .ref (q 0))] := hl
  have loop : ∀ (j i : Nat) (H : Heap) (locs : List Loc) (ls : Array Slot), i + j = n → va_P D vwCl (rs_X q cI (n) (f) (g) (sf) (sg) (r) ++ wr) H → va_D A (rs_X q cI (n) (f) (g) (sf) (sg) (r) ++ wr) → va_S A s.heap H locs → lv_has ls 3 [(2, .int (nI i)), (1, .int (rs_hs f g i)), (0, .ref (q 0))] → W p l e ({ frames := 0, cells := 0, slots := 0, locals := 0 }) s m args below meth c H locs 0 0 Q (F0 m 4 ls []) := by
    intro j
    induction j with
    | zero =>
      intro i H locs ls hi hP hD hS hl
      refine lv_iload_n hx hb dX0_hash_4 rfl (lv_at hl 0 rfl) ?_
      refine lv_aload_n hx hb dX0_hash_5 rfl (lv_at hl 2 rfl) ?_
      refine x0_get_size C0 hK hP 0 rfl rfl dX0_hash_6 ?_
      refine lv_icmp_ge hx hb dX0_hash_9 rfl (fun h => ?_) (fun h => absurd (nI_le (by omega) (by omega)) h)
      refine lv_iload_n hx hb dX0_hash_42 rfl (lv_at hl 1 rfl) ?_
      have e : i = n := by omega
      subst e
      rw [hQ]
      exact xr_iret C0 hlk hr (⟨rfl, rfl⟩) hP hD hS dX0_hash_43
    | succ j ih =>
      intro i H locs ls hi hP hD hS hl
      refine lv_iload_n hx hb dX0_hash_4 rfl (lv_at hl 0 rfl) ?_
      refine lv_aload_n hx hb dX0_hash_5 rfl (lv_at hl 2 rfl) ?_
      refine x0_get_size C0 hK hP 0 rfl rfl dX0_hash_6 ?_
      refine lv_icmp_ge hx hb dX0_hash_9 rfl (fun h => absurd h (nI_ge (by omega) (by omega))) (fun h => ?_)
      refine lv_bipush (v := 31) hx hb dX0_hash_12 (by decide) ?_
      refine lv_iload_n hx hb dX0_hash_14 rfl (lv_at hl 1 rfl) ?_
      refine lv_imul hx hb dX0_hash_15 ?_
      refine lv_aload_n hx hb dX0_hash_16 rfl (lv_at hl 2 rfl) ?_
      refine x0_get_numbers C0 hK hP 0 rfl rfl dX0_hash_17 ?_
      refine lv_iload_n hx hb dX0_hash_20 rfl (lv_at hl 0 rfl) ?_
      refine xr_ald C0 hK hP 1 rfl (j := i) (by omega) (by decide) dX0_hash_21 ?_
      refine lv_iadd hx hb dX0_hash_22 ?_
      refine lv_istore_n hx hb dX0_hash_23 rfl hl (by decide) rfl (fun ls hl => ?_)
      have hl : lv_has ls 3 [(1, .int ((31 * (rs_hs f g i)) + (f i))), (2, .int (nI i)), (0, .ref (q 0))] := hl
      refine lv_bipush (v := 31) hx hb dX0_hash_24 (by decide) ?_
      refine lv_iload_n hx hb dX0_hash_26 rfl (lv_at hl 0 rfl) ?_
      refine lv_imul hx hb dX0_hash_27 ?_
      refine lv_aload_n hx hb dX0_hash_28 rfl (lv_at hl 2 rfl) ?_
      refine x0_get_tags C0 hK hP 0 rfl rfl dX0_hash_29 ?_
      refine lv_iload_n hx hb dX0_hash_32 rfl (lv_at hl 1 rfl) ?_
      refine xr_ald C0 hK hP 2 rfl (j := i) (by omega) (by decide) dX0_hash_33 ?_
      refine lv_iadd hx hb dX0_hash_34 ?_
      refine lv_istore_n hx hb dX0_hash_35 rfl hl (by decide) rfl (fun ls hl => ?_)
      have hl : lv_has ls 3 [(1, .int (rs_hs f g (i + 1))), (2, .int (nI i)), (0, .ref (q 0))] := hl
      refine lv_iinc (k := 1) hx hb dX0_hash_36 hl rfl (rs_inc i) (by decide) rfl (fun ls hl => ?_)
      have hl : lv_has ls 3 [(2, .int (nI (i + 1))), (1, .int (rs_hs f g (i + 1))), (0, .ref (q 0))] := hl
      refine lv_goto hx hb dX0_hash_39 rfl ?_
      exact ih (i + 1) H locs ls (by omega) hP hD hS hl
  refine lv_iconst (v := 1) hx hb dX0_hash_0 (by decide) ?_
  refine lv_istore_n hx hb dX0_hash_1 rfl hl (by decide) rfl (fun ls hl => ?_)
  have hl : lv_has ls 3 [(1, .int (rs_hs f g 0)), (0, .ref (q 0))] := hl
  refine lv_iconst (v := 0) hx hb dX0_hash_2 (by decide) ?_
  refine lv_istore_n hx hb dX0_hash_3 rfl hl (by decide) rfl (fun ls hl => ?_)
  have hl : lv_has ls 3 [(2, .int (nI 0)), (1, .int (rs_hs f g 0)), (0, .ref (q 0))] := hl
  exact loop n 0 _ _ ls (by omega) hP hD hS hl
set_option maxHeartbeats 4000000 in
set_option maxRecDepth 100000 in
/-- turn, in range -/
theorem c_turn (l : Launch) (D : va_G) (q : Nat → Nat) (cI : ClassId) (tyr : List (ClassId × FieldType)) (wr : va_W) (sz n : Nat) (f g sf sg r : Nat → Int32) (a b : Nat) (h1 : a ≤ b) (h2 : b ≤ n) (hn : n ≤ 2000) : xr_Met l yX0_turn (wU yX0_turn cX0_turn 5 (some .int)) ({ frames := 2, cells := 0, slots := 0, locals := 44 }) [.ref (q 0), .int (nI a), .int (nI b)] D (rs_ty cI tyr) (rs_X q cI (n) (f) (g) (sf) (sg) (r) ++ wr) sz (fun v w => v = some (.int (nI (b - a))) ∧ w = rs_X q cI n (rs_tn f a b ((b - a) / 2)) (rs_tn g a b ((b - a) / 2)) sf sg r ++ wr) 0 0 := by
  refine xr_startQ (by decide) (Nat.le_of_ble_eq_true rfl) ?_
  intro p e s m args below meth c A ls Q hQ C0 hlk hr hP hK hD hA hl
  have hx := C0.1
  have hb := C0.2.1
  have hS : va_S A s.heap s.heap [] := va_S.rf
  have hl : lv_has ls 5 [(0, .ref (q 0)), (1, .int (nI a)), (2, .int (nI b))] := hl
  refine lv_aload_n hx hb dX0_turn_0 rfl (lv_at hl 0 rfl) ?_
  refine lv_iload_n hx hb dX0_turn_1 rfl (lv_at hl 1 rfl) ?_
  refine lv_iload_n hx hb dX0_turn_2 rfl (lv_at hl 2 rfl) ?_
  refine xr_vcall (As := [.int (nI a), .int (nI b)]) (rest := []) (nA := 2) C0 (c_part l D q cI tyr wr _ n f g sf sg r a b h1 h2 hn) (gV wM_X0_X0_requirePart wI_X0_requirePart wV_X0_X0_requirePart wN_X0 wC_X0_requirePart) (by decide +kernel) rfl rfl rfl ⟨by decide, by decide⟩ hK hP hD hS hA 0 rfl rfl hl.1 rfl (Nat.le_of_ble_eq_true rfl) dX0_turn_3 ⟨Nat.le_of_ble_eq_true rfl, Nat.le_of_ble_eq_true rfl⟩ (fun v w H locs hv hP hD hz hS => ?_)
  obtain ⟨rfl, rfl⟩ := hv
  refine lv_iload_n hx hb dX0_turn_6 rfl (lv_at hl 2 rfl) ?_
  refine lv_iload_n hx hb dX0_turn_7 rfl (lv_at hl 1 rfl) ?_
  refine lv_isub hx hb dX0_turn_8 ?_
  refine xr_top (pk_sub h1) ?_
  refine lv_istore_n hx hb dX0_turn_9 rfl hl (by decide) rfl (fun ls hl => ?_)
  have hl : lv_has ls 5 [(3, .int (nI (b - a))), (0, .ref (q 0)), (1, .int (nI a)), (2, .int (nI b))] := hl
  have loop : ∀ (j i : Nat) (H : Heap) (locs : List Loc) (ls : Array Slot), i + j = (b - a) / 2 → va_P D vwCl (rs_X q cI (n) (rs_tn f a b i) (rs_tn g a b i) (sf) (sg) (r) ++ wr) H → va_D A (rs_X q cI (n) (rs_tn f a b i) (rs_tn g a b i) (sf) (sg) (r) ++ wr) → va_S A s.heap H locs → lv_has ls 5 [(4, .int (nI i)), (3, .int (nI (b - a))), (0, .ref (q 0)), (1, .int (nI a)), (2, .int (nI b))] → W p l e ({ frames := 2, cells := 0, slots := 0, locals := 44 }) s m args below meth c H locs 0 0 Q (F0 m 13 ls []) := by
    intro j
    induction j with
    | zero =>
      intro i H locs ls hi hP hD hS hl
      refine lv_iload hx hb dX0_turn_13 (lv_at hl 0 rfl) ?_
      refine lv_iload_n hx hb dX0_turn_15 rfl (lv_at hl 1 rfl) ?_
      refine lv_iconst (v := 2) hx hb dX0_turn_16 (by decide) ?_
      refine lv_idiv hx hb dX0_turn_17 (by decide) ?_
      refine xr_top (rs_half (by omega)) ?_
      refine lv_icmp_ge hx hb dX0_turn_18 rfl (fun h => ?_) (fun h => absurd (nI_le (by omega) (by omega)) h)
      refine lv_iload_n hx hb dX0_turn_41 rfl (lv_at hl 1 rfl) ?_
      have e : i = (b - a) / 2 := by omega
      subst e
      rw [hQ]
      exact xr_iret C0 hlk hr (⟨rfl, rfl⟩) hP hD hS dX0_turn_42
    | succ j ih =>
      intro i H locs ls hi hP hD hS hl
      refine lv_iload hx hb dX0_turn_13 (lv_at hl 0 rfl) ?_
      refine lv_iload_n hx hb dX0_turn_15 rfl (lv_at hl 1 rfl) ?_
      refine lv_iconst (v := 2) hx hb dX0_turn_16 (by decide) ?_
      refine lv_idiv hx hb dX0_turn_17 (by decide) ?_
      refine xr_top (rs_half (by omega)) ?_
      refine lv_icmp_ge hx hb dX0_turn_18 rfl (fun h => absurd h (nI_ge (by omega) (by omega))) (fun h => ?_)
      refine lv_aload_n hx hb dX0_turn_21 rfl (lv_at hl 2 rfl) ?_
      refine lv_iload_n hx hb dX0_turn_22 rfl (lv_at hl 3 rfl) ?_
      refine lv_iload hx hb dX0_turn_23 (lv_at hl 0 rfl) ?_
      refine lv_iadd hx hb dX0_turn_25 ?_
      refine xr_top (nI_add a i) ?_
      refine lv_iload_n hx hb dX0_turn_26 rfl (lv_at hl 4 rfl) ?_
      refine lv_iconst (v := 1) hx hb dX0_turn_27 (by decide) ?_
      refine lv_isub hx hb dX0_turn_28 ?_
      refine xr_top (rs_pre b (by omega)) ?_
      refine lv_iload hx hb dX0_turn_29 (lv_at hl 0 rfl) ?_
      refine lv_isub hx hb dX0_turn_31 ?_
      refine xr_top (pk_sub (by omega)) ?_
      refine xr_vcall (As := [.int (nI (a + i)), .int (nI (b - 1 - i))]) (rest := []) (nA := 2) C0 (c_swap l D q cI tyr wr _ n _ _ sf sg r (a + i) (b - 1 - i) (by omega) (by omega)) (gV wM_X0_X0_swap wI_X0_swap wV_X0_X0_swap wN_X0 wC_X0_swap) (by decide +kernel) rfl rfl rfl ⟨by decide, by decide⟩ hK hP hD hS hA 0 rfl rfl hl.1 rfl (Nat.le_of_ble_eq_true rfl) dX0_turn_32 ⟨Nat.le_of_ble_eq_true rfl, Nat.le_of_ble_eq_true rfl⟩ (fun v w H locs hv hP hD hz hS => ?_)
      obtain ⟨rfl, rfl⟩ := hv
      refine lv_iinc (k := 0) hx hb dX0_turn_35 hl rfl (rs_inc i) (by decide) rfl (fun ls hl => ?_)
      have hl : lv_has ls 5 [(4, .int (nI (i + 1))), (3, .int (nI (b - a))), (0, .ref (q 0)), (1, .int (nI a)), (2, .int (nI b))] := hl
      refine lv_goto hx hb dX0_turn_38 rfl ?_
      exact ih (i + 1) H locs ls (by omega) hP hD hS hl
  refine lv_iconst (v := 0) hx hb dX0_turn_10 (by decide) ?_
  refine lv_istore hx hb dX0_turn_11 hl (by decide) rfl (fun ls hl => ?_)
  have hl : lv_has ls 5 [(4, .int (nI 0)), (3, .int (nI (b - a))), (0, .ref (q 0)), (1, .int (nI a)), (2, .int (nI b))] := hl
  exact loop ((b - a) / 2) 0 _ _ ls (by omega) hP hD hS hl
set_option maxHeartbeats 4000000 in
set_option maxRecDepth 100000 in
/-- upTo, in range -/
theorem c_upTo (l : Launch) (D : va_G) (q : Nat → Nat) (cI : ClassId) (tyr : List (ClassId × FieldType)) (wr : va_W) (sz n : Nat) (f g sf sg r : Nat → Int32) (o x b : Int32) (h1 : ¬ o < 0) (h2 : o ≤ 3) (hn : n ≤ 2000) : xr_Met l yX0_upTo (wU yX0_upTo cX0_upTo 7 (some .int)) ({ frames := 2, cells := 0, slots := 0, locals := 42 }) [.ref (q 0), .int o, .int x, .int b] D (rs_ty cI tyr) (rs_X q cI (n) (f) (g) (sf) (sg) (r) ++ wr) sz (fun v w => (∃ t, v = some (.int (nI t)) ∧ rs_uT o x b f n t) ∧ w = rs_X q cI n f g sf sg r ++ wr) 0 0 := by
  refine xr_startQ (by decide) (Nat.le_of_ble_eq_true rfl) ?_
  intro p e s m args below meth c A ls Q hQ C0 hlk hr hP hK hD hA hl
  have hx := C0.1
  have hb := C0.2.1
  have hS : va_S A s.heap s.heap [] := va_S.rf
  have hl : lv_has ls 7 [(0, .ref (q 0)), (1, .int o), (2, .int x), (3, .int b)] := hl
  refine lv_iload_n hx hb dX0_upTo_0 rfl (lv_at hl 1 rfl) ?_
  refine xr_scall (As := [.int o]) (rest := []) (nA := 1) C0 (c_order l D q cI tyr wr _ n f g sf sg r o h1 h2) (gS wM_X0_X0_requireOrder wS_X0_requireOrder wN_X0 wC_X0_requireOrder) (by decide +kernel) rfl rfl rfl ⟨by decide, by decide⟩ hK hP hD hS hA hl.1 rfl (Nat.le_of_ble_eq_true rfl) dX0_upTo_1 ⟨Nat.le_of_ble_eq_true rfl, Nat.le_of_ble_eq_true rfl⟩ (fun v w H locs hv hP hD hz hS => ?_)
  obtain ⟨rfl, rfl⟩ := hv
  refine lv_iload_n hx hb dX0_upTo_4 rfl (lv_at hl 1 rfl) ?_
  refine lv_iload_n hx hb dX0_upTo_5 rfl (lv_at hl 2 rfl) ?_
  refine xr_scall (As := [.int o, .int x]) (rest := []) (nA := 2) C0 (c_rank l D q cI tyr wr _ n f g sf sg r o x) (gS wM_X0_X0_rank wS_X0_rank wN_X0 wC_X0_rank) (by decide +kernel) rfl rfl rfl ⟨by decide, by decide⟩ hK hP hD hS hA hl.1 rfl (Nat.le_of_ble_eq_true rfl) dX0_upTo_6 ⟨Nat.le_of_ble_eq_true rfl, Nat.le_of_ble_eq_true rfl⟩ (fun v w H locs hv hP hD hz hS => ?_)
  obtain ⟨rfl, rfl⟩ := hv
  refine lv_istore hx hb dX0_upTo_9 hl (by decide) rfl (fun ls hl => ?_)
  have hl : lv_has ls 7 [(4, .int (rs_rk o x)), (0, .ref (q 0)), (1, .int o), (2, .int x), (3, .int b)] := hl
  have loop : ∀ (j i : Nat) (H : Heap) (locs : List Loc) (ls : Array Slot), i + j = n → (∀ t, t < i → rs_go o x b (f t)) → va_P D vwCl (rs_X q cI (n) (f) (g) (sf) (sg) (r) ++ wr) H → va_D A (rs_X q cI (n) (f) (g) (sf) (sg) (r) ++ wr) → va_S A s.heap H locs → lv_has ls 7 [(5, .int (nI i)), (4, .int (rs_rk o x)), (0, .ref (q 0)), (1, .int o), (2, .int x), (3, .int b)] → W p l e ({ frames := 2, cells := 0, slots := 0, locals := 42 }) s m args below meth c H locs 0 0 Q (F0 m 14 ls []) := by
    intro j
    induction j with
    | zero =>
      intro i H locs ls hi hgo hP hD hS hl
      refine lv_iload hx hb dX0_upTo_14 (lv_at hl 0 rfl) ?_
      refine lv_aload_n hx hb dX0_upTo_16 rfl (lv_at hl 2 rfl) ?_
      refine x0_get_size C0 hK hP 0 rfl rfl dX0_upTo_17 ?_
      refine lv_icmp_ge hx hb dX0_upTo_20 rfl (fun h => ?_) (fun h => absurd (nI_le (by omega) (by omega)) h)
      refine lv_aload_n hx hb dX0_upTo_63 rfl (lv_at hl 2 rfl) ?_
      refine x0_get_size C0 hK hP 0 rfl rfl dX0_upTo_64 ?_
      have e : i = n := by omega
      subst e
      rw [hQ]
      exact xr_iret C0 hlk hr (⟨⟨_, rfl, Nat.le_refl _, hgo, fun h => absurd h (by omega)⟩, rfl⟩) hP hD hS dX0_upTo_67
    | succ j ih =>
      intro i H locs ls hi hgo hP hD hS hl
      refine lv_iload hx hb dX0_upTo_14 (lv_at hl 0 rfl) ?_
      refine lv_aload_n hx hb dX0_upTo_16 rfl (lv_at hl 2 rfl) ?_
      refine x0_get_size C0 hK hP 0 rfl rfl dX0_upTo_17 ?_
      refine lv_icmp_ge hx hb dX0_upTo_20 rfl (fun h => absurd h (nI_ge (by omega) (by omega))) (fun h => ?_)
      refine lv_iload_n hx hb dX0_upTo_23 rfl (lv_at hl 3 rfl) ?_
      refine lv_aload_n hx hb dX0_upTo_24 rfl (lv_at hl 2 rfl) ?_
      refine x0_get_numbers C0 hK hP 0 rfl rfl dX0_upTo_25 ?_
      refine lv_iload hx hb dX0_upTo_28 (lv_at hl 0 rfl) ?_
      refine xr_ald C0 hK hP 1 rfl (j := i) (by omega) (by decide) dX0_upTo_30 ?_
      refine xr_scall (As := [.int o, .int (f i)]) (rest := []) (nA := 2) C0 (c_rank l D q cI tyr wr _ n f g sf sg r o (f i)) (gS wM_X0_X0_rank wS_X0_rank wN_X0 wC_X0_rank) (by decide +kernel) rfl rfl rfl ⟨by decide, by decide⟩ hK hP hD hS hA hl.1 rfl (Nat.le_of_ble_eq_true rfl) dX0_upTo_31 ⟨Nat.le_of_ble_eq_true rfl, Nat.le_of_ble_eq_true rfl⟩ (fun v w H locs hv hP hD hz hS => ?_)
      obtain ⟨rfl, rfl⟩ := hv
      refine lv_istore hx hb dX0_upTo_34 hl (by decide) rfl (fun ls hl => ?_)
      have hl : lv_has ls 7 [(6, .int (rs_rk o (f i))), (5, .int (nI i)), (4, .int (rs_rk o x)), (0, .ref (q 0)), (1, .int o), (2, .int x), (3, .int b)] := hl
      refine lv_iload hx hb dX0_upTo_36 (lv_at hl 0 rfl) ?_
      refine lv_iload hx hb dX0_upTo_38 (lv_at hl 2 rfl) ?_
      refine lv_icmp_gt hx hb dX0_upTo_40 rfl (fun h => ?_) (fun h => ?_)
      · skip
        refine lv_iload hx hb dX0_upTo_54 (lv_at hl 1 rfl) ?_
        rw [hQ]
        exact xr_iret C0 hlk hr (⟨⟨i, rfl, by omega, hgo, fun _ q => q.1 h⟩, rfl⟩) hP hD hS dX0_upTo_56
      · skip
        have hg := h
        refine lv_iload hx hb dX0_upTo_43 (lv_at hl 0 rfl) ?_
        refine lv_iload hx hb dX0_upTo_45 (lv_at hl 2 rfl) ?_
        refine lv_icmp_ne hx hb dX0_upTo_47 rfl (fun h => ?_) (fun h => ?_)
        · skip
          have hl : lv_has ls 7 [(5, .int (nI i)), (4, .int (rs_rk o x)), (0, .ref (q 0)), (1, .int o), (2, .int x), (3, .int b)] := lv_sub hl [1, 2, 3, 4, 5, 6] rfl
          refine lv_iinc (k := 0) hx hb dX0_upTo_57 hl rfl (rs_inc i) (by decide) rfl (fun ls hl => ?_)
          have hl : lv_has ls 7 [(5, .int (nI (i + 1))), (4, .int (rs_rk o x)), (0, .ref (q 0)), (1, .int o), (2, .int x), (3, .int b)] := hl
          refine lv_goto hx hb dX0_upTo_60 rfl ?_
          exact ih (i + 1) H locs ls (by omega) (lt_s hgo ⟨hg, fun q => h q.1⟩) hP hD hS hl
        · skip
          have he := h
          refine lv_iload_n hx hb dX0_upTo_50 rfl (lv_at hl 6 rfl) ?_
          refine lv_if_ne hx hb dX0_upTo_51 rfl (fun h => ?_) (fun h => ?_)
          · skip
            have hl : lv_has ls 7 [(5, .int (nI i)), (4, .int (rs_rk o x)), (0, .ref (q 0)), (1, .int o), (2, .int x), (3, .int b)] := lv_sub hl [1, 2, 3, 4, 5, 6] rfl
            refine lv_iinc (k := 0) hx hb dX0_upTo_57 hl rfl (rs_inc i) (by decide) rfl (fun ls hl => ?_)
            have hl : lv_has ls 7 [(5, .int (nI (i + 1))), (4, .int (rs_rk o x)), (0, .ref (q 0)), (1, .int o), (2, .int x), (3, .int b)] := hl
            refine lv_goto hx hb dX0_upTo_60 rfl ?_
            exact ih (i + 1) H locs ls (by omega) (lt_s hgo ⟨hg, fun q => h q.2⟩) hP hD hS hl
          · skip
            refine lv_iload hx hb dX0_upTo_54 (lv_at hl 1 rfl) ?_
            rw [hQ]
            exact xr_iret C0 hlk hr (⟨⟨i, rfl, by omega, hgo, fun _ q => q.2 ⟨he, h⟩⟩, rfl⟩) hP hD hS dX0_upTo_56
  refine lv_iconst (v := 0) hx hb dX0_upTo_11 (by decide) ?_
  refine lv_istore hx hb dX0_upTo_12 hl (by decide) rfl (fun ls hl => ?_)
  have hl : lv_has ls 7 [(5, .int (nI 0)), (4, .int (rs_rk o x)), (0, .ref (q 0)), (1, .int o), (2, .int x), (3, .int b)] := hl
  exact loop n 0 _ _ ls (by omega) lt_0 hP hD hS hl
