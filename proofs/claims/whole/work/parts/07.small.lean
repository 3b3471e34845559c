/-! The class: its small methods, where they return (rows laid by wip/whole/p07.py). -/
set_option maxHeartbeats 4000000 in
set_option maxRecDepth 100000 in
/-- requireWithin, in range -/
theorem c_within (l : Launch) (D : va_G) (q : Nat → Nat) (cI : ClassId) (tyr : List (ClassId × FieldType)) (wr : va_W) (sz n : Nat) (f g sf sg r : Nat → Int32) (x a b : Int32) (h1 : ¬ x < a) (h2 : x ≤ b) : xr_Met l yX0_requireWithin (wU yX0_requireWithin cX0_requireWithin 3 none) ({ frames := 0, cells := 0, slots := 0, locals := 0 }) [.int x, .int a, .int b] D (rs_ty cI tyr) (rs_X q cI (n) (f) (g) (sf) (sg) (r) ++ wr) sz (fun v w => v = none ∧ w = rs_X q cI n f g sf sg r ++ wr) 0 0 := by
  refine xr_start (by decide) (Nat.le_of_ble_eq_true rfl) ?_
  intro p e s m args below meth c A ls C0 hlk hr hnm hP hK hD hA hl
  have hx := C0.1
  have hb := C0.2.1
  have hS : va_S A s.heap s.heap [] := va_S.rf
  have hl : lv_has ls 3 [(0, .int x), (1, .int a), (2, .int b)] := hl
  refine lv_iload_n hx hb dX0_requireWithin_0 rfl (lv_at hl 0 rfl) ?_
  refine lv_iload_n hx hb dX0_requireWithin_1 rfl (lv_at hl 1 rfl) ?_
  refine lv_icmp_lt hx hb dX0_requireWithin_2 rfl (fun h => absurd h h1) (fun h => ?_)
  refine lv_iload_n hx hb dX0_requireWithin_5 rfl (lv_at hl 0 rfl) ?_
  refine lv_iload_n hx hb dX0_requireWithin_6 rfl (lv_at hl 2 rfl) ?_
  refine lv_icmp_le hx hb dX0_requireWithin_7 rfl (fun h => ?_) (fun h => absurd h2 h)
  exact xr_vret C0 hlk hr (⟨rfl, rfl⟩) hP hD hS dX0_requireWithin_20
set_option maxHeartbeats 4000000 in
set_option maxRecDepth 100000 in
/-- requireOrder, in range -/
theorem c_order (l : Launch) (D : va_G) (q : Nat → Nat) (cI : ClassId) (tyr : List (ClassId × FieldType)) (wr : va_W) (sz n : Nat) (f g sf sg r : Nat → Int32) (o : Int32) (h1 : ¬ o < 0) (h2 : o ≤ 3) : xr_Met l yX0_requireOrder (wU yX0_requireOrder cX0_requireOrder 1 none) ({ frames := 1, cells := 0, slots := 0, locals := 22 }) [.int o] D (rs_ty cI tyr) (rs_X q cI (n) (f) (g) (sf) (sg) (r) ++ wr) sz (fun v w => v = none ∧ w = rs_X q cI n f g sf sg r ++ wr) 0 0 := by
  refine xr_start (by decide) (Nat.le_of_ble_eq_true rfl) ?_
  intro p e s m args below meth c A ls C0 hlk hr hnm hP hK hD hA hl
  have hx := C0.1
  have hb := C0.2.1
  have hS : va_S A s.heap s.heap [] := va_S.rf
  have hl : lv_has ls 1 [(0, .int o)] := hl
  refine lv_iload_n hx hb dX0_requireOrder_0 rfl (lv_at hl 0 rfl) ?_
  refine lv_iconst (v := 0) hx hb dX0_requireOrder_1 (by decide) ?_
  refine lv_iconst (v := 3) hx hb dX0_requireOrder_2 (by decide) ?_
  refine xr_scall (As := [.int o, .int 0, .int 3]) (rest := []) (nA := 3) C0 (c_within l D q cI tyr wr _ n f g sf sg r o 0 3 h1 h2) (gS wM_X0_X0_requireWithin wS_X0_requireWithin wN_X0 wC_X0_requireWithin) (by decide +kernel) rfl rfl rfl ⟨by decide, by decide⟩ hK hP hD hS hA hl.1 rfl (Nat.le_of_ble_eq_true rfl) dX0_requireOrder_3 ⟨Nat.le_of_ble_eq_true rfl, Nat.le_of_ble_eq_true rfl⟩ (fun v w H locs hv hP hD hz hS => ?_)
  obtain ⟨rfl, rfl⟩ := hv
  exact xr_vret C0 hlk hr (⟨rfl, rfl⟩) hP hD hS dX0_requireOrder_6
set_option maxHeartbeats 4000000 in
set_option maxRecDepth 100000 in
/-- requirePart, in range -/
theorem c_part (l : Launch) (D : va_G) (q : Nat → Nat) (cI : ClassId) (tyr : List (ClassId × FieldType)) (wr : va_W) (sz n : Nat) (f g sf sg r : Nat → Int32) (a b : Nat) (h1 : a ≤ b) (h2 : b ≤ n) (hn : n ≤ 2000) : xr_Met l yX0_requirePart (wU yX0_requirePart cX0_requirePart 3 none) ({ frames := 1, cells := 0, slots := 0, locals := 22 }) [.ref (q 0), .int (nI a), .int (nI b)] D (rs_ty cI tyr) (rs_X q cI (n) (f) (g) (sf) (sg) (r) ++ wr) sz (fun v w => v = none ∧ w = rs_X q cI n f g sf sg r ++ wr) 0 0 := by
  refine xr_start (by decide) (Nat.le_of_ble_eq_true rfl) ?_
  intro p e s m args below meth c A ls C0 hlk hr hnm hP hK hD hA hl
  have hx := C0.1
  have hb := C0.2.1
  have hS : va_S A s.heap s.heap [] := va_S.rf
  have hl : lv_has ls 3 [(0, .ref (q 0)), (1, .int (nI a)), (2, .int (nI b))] := hl
  refine lv_iload_n hx hb dX0_requirePart_0 rfl (lv_at hl 2 rfl) ?_
  refine lv_iconst (v := 0) hx hb dX0_requirePart_1 (by decide) ?_
  refine lv_aload_n hx hb dX0_requirePart_2 rfl (lv_at hl 0 rfl) ?_
  refine x0_get_size C0 hK hP 0 rfl rfl dX0_requirePart_3 ?_
  refine xr_scall (As := [.int (nI b), .int 0, .int (nI n)]) (rest := []) (nA := 3) C0 (c_within l D q cI tyr wr _ n f g sf sg r (nI b) 0 (nI n) (nI_pos (by omega)) (nI_le h2 (by omega))) (gS wM_X0_X0_requireWithin wS_X0_requireWithin wN_X0 wC_X0_requireWithin) (by decide +kernel) rfl rfl rfl ⟨by decide, by decide⟩ hK hP hD hS hA hl.1 rfl (Nat.le_of_ble_eq_true rfl) dX0_requirePart_6 ⟨Nat.le_of_ble_eq_true rfl, Nat.le_of_ble_eq_true rfl⟩ (fun v w H locs hv hP hD hz hS => ?_)
  obtain ⟨rfl, rfl⟩ := hv
  refine lv_iload_n hx hb dX0_requirePart_9 rfl (lv_at hl 1 rfl) ?_
  refine lv_iconst (v := 0) hx hb dX0_requirePart_10 (by decide) ?_
  refine lv_iload_n hx hb dX0_requirePart_11 rfl (lv_at hl 2 rfl) ?_
  refine xr_scall (As := [.int (nI a), .int 0, .int (nI b)]) (rest := []) (nA := 3) C0 (c_within l D q cI tyr wr _ n f g sf sg r (nI a) 0 (nI b) (nI_pos (by omega)) (nI_le h1 (by omega))) (gS wM_X0_X0_requireWithin wS_X0_requireWithin wN_X0 wC_X0_requireWithin) (by decide +kernel) rfl rfl rfl ⟨by decide, by decide⟩ hK hP hD hS hA hl.1 rfl (Nat.le_of_ble_eq_true rfl) dX0_requirePart_12 ⟨Nat.le_of_ble_eq_true rfl, Nat.le_of_ble_eq_true rfl⟩ (fun v w H locs hv hP hD hz hS => ?_)
  obtain ⟨rfl, rfl⟩ := hv
  exact xr_vret C0 hlk hr (⟨rfl, rfl⟩) hP hD hS dX0_requirePart_15
set_option maxHeartbeats 4000000 in
set_option maxRecDepth 100000 in
/-- requireRoomFor, in range -/
theorem c_room (l : Launch) (D : va_G) (q : Nat → Nat) (cI : ClassId) (tyr : List (ClassId × FieldType)) (wr : va_W) (sz n : Nat) (f g sf sg r : Nat → Int32) (k : Nat) (hn : n + k ≤ 2000) : xr_Met l yX0_requireRoomFor (wU yX0_requireRoomFor cX0_requireRoomFor 2 none) ({ frames := 0, cells := 0, slots := 0, locals := 0 }) [.ref (q 0), .int (nI k)] D (rs_ty cI tyr) (rs_X q cI (n) (f) (g) (sf) (sg) (r) ++ wr) sz (fun v w => v = none ∧ w = rs_X q cI n f g sf sg r ++ wr) 0 0 := by
  refine xr_start (by decide) (Nat.le_of_ble_eq_true rfl) ?_
  intro p e s m args below meth c A ls C0 hlk hr hnm hP hK hD hA hl
  have hx := C0.1
  have hb := C0.2.1
  have hS : va_S A s.heap s.heap [] := va_S.rf
  have hl : lv_has ls 2 [(0, .ref (q 0)), (1, .int (nI k))] := hl
  refine lv_iload_n hx hb dX0_requireRoomFor_0 rfl (lv_at hl 1 rfl) ?_
  refine lv_sipush (v := 2000) hx hb dX0_requireRoomFor_1 (by decide) ?_
  refine lv_aload_n hx hb dX0_requireRoomFor_4 rfl (lv_at hl 0 rfl) ?_
  refine x0_get_size C0 hK hP 0 rfl rfl dX0_requireRoomFor_5 ?_
  refine lv_isub hx hb dX0_requireRoomFor_8 ?_
  refine xr_top (pk_sub (a := 2000) (b := n) (by omega)) ?_
  refine lv_icmp_le hx hb dX0_requireRoomFor_9 rfl (fun h => ?_) (fun h => absurd (nI_le (by omega) (by omega)) h)
  exact xr_vret C0 hlk hr (⟨rfl, rfl⟩) hP hD hS dX0_requireRoomFor_22
set_option maxHeartbeats 4000000 in
set_option maxRecDepth 100000 in
/-- requireIndex, in range -/
theorem c_index (l : Launch) (D : va_G) (q : Nat → Nat) (cI : ClassId) (tyr : List (ClassId × FieldType)) (wr : va_W) (sz n : Nat) (f g sf sg r : Nat → Int32) (i : Nat) (hi : i < n) (hn : n ≤ 2000) : xr_Met l yX0_requireIndex (wU yX0_requireIndex cX0_requireIndex 2 none) ({ frames := 0, cells := 0, slots := 0, locals := 0 }) [.ref (q 0), .int (nI i)] D (rs_ty cI tyr) (rs_X q cI (n) (f) (g) (sf) (sg) (r) ++ wr) sz (fun v w => v = none ∧ w = rs_X q cI n f g sf sg r ++ wr) 0 0 := by
  refine xr_start (by decide) (Nat.le_of_ble_eq_true rfl) ?_
  intro p e s m args below meth c A ls C0 hlk hr hnm hP hK hD hA hl
  have hx := C0.1
  have hb := C0.2.1
  have hS : va_S A s.heap s.heap [] := va_S.rf
  have hl : lv_has ls 2 [(0, .ref (q 0)), (1, .int (nI i))] := hl
  refine lv_iload_n hx hb dX0_requireIndex_0 rfl (lv_at hl 1 rfl) ?_
  refine lv_if_lt hx hb dX0_requireIndex_1 rfl (fun h => absurd h (nI_pos (by omega))) (fun h => ?_)
  refine lv_iload_n hx hb dX0_requireIndex_4 rfl (lv_at hl 1 rfl) ?_
  refine lv_aload_n hx hb dX0_requireIndex_5 rfl (lv_at hl 0 rfl) ?_
  refine x0_get_size C0 hK hP 0 rfl rfl dX0_requireIndex_6 ?_
  refine lv_icmp_lt hx hb dX0_requireIndex_9 rfl (fun h => ?_) (fun h => absurd (nI_lt hi (by omega)) h)
  exact xr_vret C0 hlk hr (⟨rfl, rfl⟩) hP hD hS dX0_requireIndex_22
set_option maxHeartbeats 4000000 in
set_option maxRecDepth 100000 in
/-- append -/
theorem c_append (l : Launch) (D : va_G) (q : Nat → Nat) (cI : ClassId) (tyr : List (ClassId × FieldType)) (wr : va_W) (sz n : Nat) (f g sf sg r : Nat → Int32) (x : Int32) (hn : n < 2000) : xr_Met l yX0_append (wU yX0_append cX0_append 2 none) ({ frames := 0, cells := 0, slots := 0, locals := 0 }) [.ref (q 0), .int x] D (rs_ty cI tyr) (rs_X q cI (n) (f) (g) (sf) (sg) (r) ++ wr) sz (fun v w => v = none ∧ w = rs_X q cI (n + 1) (upd f n x) (upd g n (nI n)) sf sg r ++ wr) 0 0 := by
  refine xr_start (by decide) (Nat.le_of_ble_eq_true rfl) ?_
  intro p e s m args below meth c A ls C0 hlk hr hnm hP hK hD hA hl
  have hx := C0.1
  have hb := C0.2.1
  have hS : va_S A s.heap s.heap [] := va_S.rf
  have hl : lv_has ls 2 [(0, .ref (q 0)), (1, .int x)] := hl
  refine lv_aload_n hx hb dX0_append_0 rfl (lv_at hl 0 rfl) ?_
  refine x0_get_numbers C0 hK hP 0 rfl rfl dX0_append_1 ?_
  refine lv_aload_n hx hb dX0_append_4 rfl (lv_at hl 0 rfl) ?_
  refine x0_get_size C0 hK hP 0 rfl rfl dX0_append_5 ?_
  refine lv_iload_n hx hb dX0_append_8 rfl (lv_at hl 1 rfl) ?_
  refine xr_ast C0 hK hP hD hS 1 rfl (j := n) (by omega) (by decide) dX0_append_9 (fun H locs hP hD hS => ?_)
  have hP : va_P D vwCl (rs_X q cI (n) (upd f n x) (g) (sf) (sg) (r) ++ wr) H := hP
  have hD : va_D A (rs_X q cI (n) (upd f n x) (g) (sf) (sg) (r) ++ wr) := hD
  refine lv_aload_n hx hb dX0_append_10 rfl (lv_at hl 0 rfl) ?_
  refine x0_get_tags C0 hK hP 0 rfl rfl dX0_append_11 ?_
  refine lv_aload_n hx hb dX0_append_14 rfl (lv_at hl 0 rfl) ?_
  refine x0_get_size C0 hK hP 0 rfl rfl dX0_append_15 ?_
  refine lv_aload_n hx hb dX0_append_18 rfl (lv_at hl 0 rfl) ?_
  refine x0_get_size C0 hK hP 0 rfl rfl dX0_append_19 ?_
  refine xr_ast C0 hK hP hD hS 2 rfl (j := n) (by omega) (by decide) dX0_append_22 (fun H locs hP hD hS => ?_)
  have hP : va_P D vwCl (rs_X q cI (n) (upd f n x) (upd g n (nI (n))) (sf) (sg) (r) ++ wr) H := hP
  have hD : va_D A (rs_X q cI (n) (upd f n x) (upd g n (nI (n))) (sf) (sg) (r) ++ wr) := hD
  refine lv_aload_n hx hb dX0_append_23 rfl (lv_at hl 0 rfl) ?_
  refine lv_dup hx hb dX0_append_24 rfl ?_
  refine x0_get_size C0 hK hP 0 rfl rfl dX0_append_25 ?_
  refine lv_iconst (v := 1) hx hb dX0_append_28 (by decide) ?_
  refine lv_iadd hx hb dX0_append_29 ?_
  refine xr_top (nI_1 n) ?_
  refine x0_put_size C0 hK hP hD hS 0 rfl (Nat.le_of_ble_eq_true rfl) dX0_append_30 (fun H locs hP hD hS => ?_)
  have hP : va_P D vwCl (rs_X q cI (n + 1) (upd f n x) (upd g n (nI (n))) (sf) (sg) (r) ++ wr) H := hP
  have hD : va_D A (rs_X q cI (n + 1) (upd f n x) (upd g n (nI (n))) (sf) (sg) (r) ++ wr) := hD
  exact xr_vret C0 hlk hr (⟨rfl, rfl⟩) hP hD hS dX0_append_33
set_option maxHeartbeats 4000000 in
set_option maxRecDepth 100000 in
/-- swap -/
theorem c_swap (l : Launch) (D : va_G) (q : Nat → Nat) (cI : ClassId) (tyr : List (ClassId × FieldType)) (wr : va_W) (sz n : Nat) (f g sf sg r : Nat → Int32) (i j : Nat) (hi : i < 2000) (hj : j < 2000) : xr_Met l yX0_swap (wU yX0_swap cX0_swap 5 none) ({ frames := 0, cells := 0, slots := 0, locals := 0 }) [.ref (q 0), .int (nI i), .int (nI j)] D (rs_ty cI tyr) (rs_X q cI (n) (f) (g) (sf) (sg) (r) ++ wr) sz (fun v w => v = none ∧ w = rs_X q cI n (upd (upd f i (f j)) j (f i)) (upd (upd g i (g j)) j (g i)) sf sg r ++ wr) 0 0 := by
  refine xr_start (by decide) (Nat.le_of_ble_eq_true rfl) ?_
  intro p e s m args below meth c A ls C0 hlk hr hnm hP hK hD hA hl
  have hx := C0.1
  have hb := C0.2.1
  have hS : va_S A s.heap s.heap [] := va_S.rf
  have hl : lv_has ls 5 [(0, .ref (q 0)), (1, .int (nI i)), (2, .int (nI j))] := hl
  refine lv_aload_n hx hb dX0_swap_0 rfl (lv_at hl 0 rfl) ?_
  refine x0_get_numbers C0 hK hP 0 rfl rfl dX0_swap_1 ?_
  refine lv_iload_n hx hb dX0_swap_4 rfl (lv_at hl 1 rfl) ?_
  refine xr_ald C0 hK hP 1 rfl (j := i) (by omega) (by decide) dX0_swap_5 ?_
  refine lv_istore_n hx hb dX0_swap_6 rfl hl (by decide) rfl (fun ls hl => ?_)
  have hl : lv_has ls 5 [(3, .int (f i)), (0, .ref (q 0)), (1, .int (nI i)), (2, .int (nI j))] := hl
  refine lv_aload_n hx hb dX0_swap_7 rfl (lv_at hl 1 rfl) ?_
  refine x0_get_tags C0 hK hP 0 rfl rfl dX0_swap_8 ?_
  refine lv_iload_n hx hb dX0_swap_11 rfl (lv_at hl 2 rfl) ?_
  refine xr_ald C0 hK hP 2 rfl (j := i) (by omega) (by decide) dX0_swap_12 ?_
  refine lv_istore hx hb dX0_swap_13 hl (by decide) rfl (fun ls hl => ?_)
  have hl : lv_has ls 5 [(4, .int (g i)), (3, .int (f i)), (0, .ref (q 0)), (1, .int (nI i)), (2, .int (nI j))] := hl
  refine lv_aload_n hx hb dX0_swap_15 rfl (lv_at hl 2 rfl) ?_
  refine x0_get_numbers C0 hK hP 0 rfl rfl dX0_swap_16 ?_
  refine lv_iload_n hx hb dX0_swap_19 rfl (lv_at hl 3 rfl) ?_
  refine lv_aload_n hx hb dX0_swap_20 rfl (lv_at hl 2 rfl) ?_
  refine x0_get_numbers C0 hK hP 0 rfl rfl dX0_swap_21 ?_
  refine lv_iload_n hx hb dX0_swap_24 rfl (lv_at hl 4 rfl) ?_
  refine xr_ald C0 hK hP 1 rfl (j := j) (by omega) (by decide) dX0_swap_25 ?_
  refine xr_ast C0 hK hP hD hS 1 rfl (j := i) (by omega) (by decide) dX0_swap_26 (fun H locs hP hD hS => ?_)
  have hP : va_P D vwCl (rs_X q cI (n) (upd f i (f j)) (g) (sf) (sg) (r) ++ wr) H := hP
  have hD : va_D A (rs_X q cI (n) (upd f i (f j)) (g) (sf) (sg) (r) ++ wr) := hD
  refine lv_aload_n hx hb dX0_swap_27 rfl (lv_at hl 2 rfl) ?_
  refine x0_get_tags C0 hK hP 0 rfl rfl dX0_swap_28 ?_
  refine lv_iload_n hx hb dX0_swap_31 rfl (lv_at hl 3 rfl) ?_
  refine lv_aload_n hx hb dX0_swap_32 rfl (lv_at hl 2 rfl) ?_
  refine x0_get_tags C0 hK hP 0 rfl rfl dX0_swap_33 ?_
  refine lv_iload_n hx hb dX0_swap_36 rfl (lv_at hl 4 rfl) ?_
  refine xr_ald C0 hK hP 2 rfl (j := j) (by omega) (by decide) dX0_swap_37 ?_
  refine xr_ast C0 hK hP hD hS 2 rfl (j := i) (by omega) (by decide) dX0_swap_38 (fun H locs hP hD hS => ?_)
  have hP : va_P D vwCl (rs_X q cI (n) (upd f i (f j)) (upd g i (g j)) (sf) (sg) (r) ++ wr) H := hP
  have hD : va_D A (rs_X q cI (n) (upd f i (f j)) (upd g i (g j)) (sf) (sg) (r) ++ wr) := hD
  refine lv_aload_n hx hb dX0_swap_39 rfl (lv_at hl 2 rfl) ?_
  refine x0_get_numbers C0 hK hP 0 rfl rfl dX0_swap_40 ?_
  refine lv_iload_n hx hb dX0_swap_43 rfl (lv_at hl 4 rfl) ?_
  refine lv_iload_n hx hb dX0_swap_44 rfl (lv_at hl 1 rfl) ?_
  refine xr_ast C0 hK hP hD hS 1 rfl (j := j) (by omega) (by decide) dX0_swap_45 (fun H locs hP hD hS => ?_)
  have hP : va_P D vwCl (rs_X q cI (n) (upd (upd f i (f j)) j (f i)) (upd g i (g j)) (sf) (sg) (r) ++ wr) H := hP
  have hD : va_D A (rs_X q cI (n) (upd (upd f i (f j)) j (f i)) (upd g i (g j)) (sf) (sg) (r) ++ wr) := hD
  refine lv_aload_n hx hb dX0_swap_46 rfl (lv_at hl 2 rfl) ?_
  refine x0_get_tags C0 hK hP 0 rfl rfl dX0_swap_47 ?_
  refine lv_iload_n hx hb dX0_swap_50 rfl (lv_at hl 4 rfl) ?_
  refine lv_iload hx hb dX0_swap_51 (lv_at hl 0 rfl) ?_
  refine xr_ast C0 hK hP hD hS 2 rfl (j := j) (by omega) (by decide) dX0_swap_53 (fun H locs hP hD hS => ?_)
  have hP : va_P D vwCl (rs_X q cI (n) (upd (upd f i (f j)) j (f i)) (upd (upd g i (g j)) j (g i)) (sf) (sg) (r) ++ wr) H := hP
  have hD : va_D A (rs_X q cI (n) (upd (upd f i (f j)) j (f i)) (upd (upd g i (g j)) j (g i)) (sf) (sg) (r) ++ wr) := hD
  exact xr_vret C0 hlk hr (⟨rfl, rfl⟩) hP hD hS dX0_swap_54
set_option maxHeartbeats 4000000 in
set_option maxRecDepth 100000 in
/-- clear -/
theorem c_clear (l : Launch) (D : va_G) (q : Nat → Nat) (cI : ClassId) (tyr : List (ClassId × FieldType)) (wr : va_W) (sz n : Nat) (f g sf sg r : Nat → Int32) : xr_Met l yX0_clear (wU yX0_clear cX0_clear 2 (some .int)) ({ frames := 0, cells := 0, slots := 0, locals := 0 }) [.ref (q 0)] D (rs_ty cI tyr) (rs_X q cI (n) (f) (g) (sf) (sg) (r) ++ wr) sz (fun v w => v = some (.int (nI n)) ∧ w = rs_X q cI 0 f g sf sg r ++ wr) 0 0 := by
  refine xr_start (by decide) (Nat.le_of_ble_eq_true rfl) ?_
  intro p e s m args below meth c A ls C0 hlk hr hnm hP hK hD hA hl
  have hx := C0.1
  have hb := C0.2.1
  have hS : va_S A s.heap s.heap [] := va_S.rf
  have hl : lv_has ls 2 [(0, .ref (q 0))] := hl
  refine lv_aload_n hx hb dX0_clear_0 rfl (lv_at hl 0 rfl) ?_
  refine x0_get_size C0 hK hP 0 rfl rfl dX0_clear_1 ?_
  refine lv_istore_n hx hb dX0_clear_4 rfl hl (by decide) rfl (fun ls hl => ?_)
  have hl : lv_has ls 2 [(1, .int (nI (n))), (0, .ref (q 0))] := hl
  refine lv_aload_n hx hb dX0_clear_5 rfl (lv_at hl 1 rfl) ?_
  refine lv_iconst (v := 0) hx hb dX0_clear_6 (by decide) ?_
  refine x0_put_size C0 hK hP hD hS 0 rfl (Nat.le_of_ble_eq_true rfl) dX0_clear_7 (fun H locs hP hD hS => ?_)
  have hP : va_P D vwCl (rs_X q cI (0) (f) (g) (sf) (sg) (r) ++ wr) H := hP
  have hD : va_D A (rs_X q cI (0) (f) (g) (sf) (sg) (r) ++ wr) := hD
  refine lv_iload_n hx hb dX0_clear_10 rfl (lv_at hl 0 rfl) ?_
  exact xr_iret C0 hlk hr (⟨rfl, rfl⟩) hP hD hS dX0_clear_11
set_option maxHeartbeats 4000000 in
set_option maxRecDepth 100000 in
/-- get, in range -/
theorem c_get (l : Launch) (D : va_G) (q : Nat → Nat) (cI : ClassId) (tyr : List (ClassId × FieldType)) (wr : va_W) (sz n : Nat) (f g sf sg r : Nat → Int32) (i : Nat) (hi : i < n) (hn : n ≤ 2000) : xr_Met l yX0_get (wU yX0_get cX0_get 2 (some .int)) ({ frames := 1, cells := 0, slots := 0, locals := 21 }) [.ref (q 0), .int (nI i)] D (rs_ty cI tyr) (rs_X q cI (n) (f) (g) (sf) (sg) (r) ++ wr) sz (fun v w => v = some (.int (f i)) ∧ w = rs_X q cI n f g sf sg r ++ wr) 0 0 := by
  refine xr_start (by decide) (Nat.le_of_ble_eq_true rfl) ?_
  intro p e s m args below meth c A ls C0 hlk hr hnm hP hK hD hA hl
  have hx := C0.1
  have hb := C0.2.1
  have hS : va_S A s.heap s.heap [] := va_S.rf
  have hl : lv_has ls 2 [(0, .ref (q 0)), (1, .int (nI i))] := hl
  refine lv_aload_n hx hb dX0_get_0 rfl (lv_at hl 0 rfl) ?_
  refine lv_iload_n hx hb dX0_get_1 rfl (lv_at hl 1 rfl) ?_
  refine xr_vcall (As := [.int (nI i)]) (rest := []) (nA := 1) C0 (c_index l D q cI tyr wr _ n f g sf sg r i hi hn) (gV wM_X0_X0_requireIndex wI_X0_requireIndex wV_X0_X0_requireIndex wN_X0 wC_X0_requireIndex) (by decide +kernel) rfl rfl rfl ⟨by decide, by decide⟩ hK hP hD hS hA 0 rfl rfl hl.1 rfl (Nat.le_of_ble_eq_true rfl) dX0_get_2 ⟨Nat.le_of_ble_eq_true rfl, Nat.le_of_ble_eq_true rfl⟩ (fun v w H locs hv hP hD hz hS => ?_)
  obtain ⟨rfl, rfl⟩ := hv
  refine lv_aload_n hx hb dX0_get_5 rfl (lv_at hl 0 rfl) ?_
  refine x0_get_numbers C0 hK hP 0 rfl rfl dX0_get_6 ?_
  refine lv_iload_n hx hb dX0_get_9 rfl (lv_at hl 1 rfl) ?_
  refine xr_ald C0 hK hP 1 rfl (j := i) (by omega) (by decide) dX0_get_10 ?_
  exact xr_iret C0 hlk hr (⟨rfl, rfl⟩) hP hD hS dX0_get_11
set_option maxHeartbeats 4000000 in
set_option maxRecDepth 100000 in
/-- tag, in range -/
theorem c_tag (l : Launch) (D : va_G) (q : Nat → Nat) (cI : ClassId) (tyr : List (ClassId × FieldType)) (wr : va_W) (sz n : Nat) (f g sf sg r : Nat → Int32) (i : Nat) (hi : i < n) (hn : n ≤ 2000) : xr_Met l yX0_tag (wU yX0_tag cX0_tag 2 (some .int)) ({ frames := 1, cells := 0, slots := 0, locals := 21 }) [.ref (q 0), .int (nI i)] D (rs_ty cI tyr) (rs_X q cI (n) (f) (g) (sf) (sg) (r) ++ wr) sz (fun v w => v = some (.int (g i)) ∧ w = rs_X q cI n f g sf sg r ++ wr) 0 0 := by
  refine xr_start (by decide) (Nat.le_of_ble_eq_true rfl) ?_
  intro p e s m args below meth c A ls C0 hlk hr hnm hP hK hD hA hl
  have hx := C0.1
  have hb := C0.2.1
  have hS : va_S A s.heap s.heap [] := va_S.rf
  have hl : lv_has ls 2 [(0, .ref (q 0)), (1, .int (nI i))] := hl
  refine lv_aload_n hx hb dX0_tag_0 rfl (lv_at hl 0 rfl) ?_
  refine lv_iload_n hx hb dX0_tag_1 rfl (lv_at hl 1 rfl) ?_
  refine xr_vcall (As := [.int (nI i)]) (rest := []) (nA := 1) C0 (c_index l D q cI tyr wr _ n f g sf sg r i hi hn) (gV wM_X0_X0_requireIndex wI_X0_requireIndex wV_X0_X0_requireIndex wN_X0 wC_X0_requireIndex) (by decide +kernel) rfl rfl rfl ⟨by decide, by decide⟩ hK hP hD hS hA 0 rfl rfl hl.1 rfl (Nat.le_of_ble_eq_true rfl) dX0_tag_2 ⟨Nat.le_of_ble_eq_true rfl, Nat.le_of_ble_eq_true rfl⟩ (fun v w H locs hv hP hD hz hS => ?_)
  obtain ⟨rfl, rfl⟩ := hv
  refine lv_aload_n hx hb dX0_tag_5 rfl (lv_at hl 0 rfl) ?_
  refine x0_get_tags C0 hK hP 0 rfl rfl dX0_tag_6 ?_
  refine lv_iload_n hx hb dX0_tag_9 rfl (lv_at hl 1 rfl) ?_
  refine xr_ald C0 hK hP 2 rfl (j := i) (by omega) (by decide) dX0_tag_10 ?_
  exact xr_iret C0 hlk hr (⟨rfl, rfl⟩) hP hD hS dX0_tag_11
set_option maxHeartbeats 4000000 in
set_option maxRecDepth 100000 in
/-- set, in range -/
theorem c_set (l : Launch) (D : va_G) (q : Nat → Nat) (cI : ClassId) (tyr : List (ClassId × FieldType)) (wr : va_W) (sz n : Nat) (f g sf sg r : Nat → Int32) (i : Nat) (x : Int32) (hi : i < n) (hn : n ≤ 2000) : xr_Met l yX0_set (wU yX0_set cX0_set 4 (some .int)) ({ frames := 1, cells := 0, slots := 0, locals := 21 }) [.ref (q 0), .int (nI i), .int x] D (rs_ty cI tyr) (rs_X q cI (n) (f) (g) (sf) (sg) (r) ++ wr) sz (fun v w => v = some (.int (f i)) ∧ w = rs_X q cI n (upd f i x) g sf sg r ++ wr) 0 0 := by
  refine xr_start (by decide) (Nat.le_of_ble_eq_true rfl) ?_
  intro p e s m args below meth c A ls C0 hlk hr hnm hP hK hD hA hl
  have hx := C0.1
  have hb := C0.2.1
  have hS : va_S A s.heap s.heap [] := va_S.rf
  have hl : lv_has ls 4 [(0, .ref (q 0)), (1, .int (nI i)), (2, .int x)] := hl
  refine lv_aload_n hx hb dX0_set_0 rfl (lv_at hl 0 rfl) ?_
  refine lv_iload_n hx hb dX0_set_1 rfl (lv_at hl 1 rfl) ?_
  refine xr_vcall (As := [.int (nI i)]) (rest := []) (nA := 1) C0 (c_index l D q cI tyr wr _ n f g sf sg r i hi hn) (gV wM_X0_X0_requireIndex wI_X0_requireIndex wV_X0_X0_requireIndex wN_X0 wC_X0_requireIndex) (by decide +kernel) rfl rfl rfl ⟨by decide, by decide⟩ hK hP hD hS hA 0 rfl rfl hl.1 rfl (Nat.le_of_ble_eq_true rfl) dX0_set_2 ⟨Nat.le_of_ble_eq_true rfl, Nat.le_of_ble_eq_true rfl⟩ (fun v w H locs hv hP hD hz hS => ?_)
  obtain ⟨rfl, rfl⟩ := hv
  refine lv_aload_n hx hb dX0_set_5 rfl (lv_at hl 0 rfl) ?_
  refine x0_get_numbers C0 hK hP 0 rfl rfl dX0_set_6 ?_
  refine lv_iload_n hx hb dX0_set_9 rfl (lv_at hl 1 rfl) ?_
  refine xr_ald C0 hK hP 1 rfl (j := i) (by omega) (by decide) dX0_set_10 ?_
  refine lv_istore_n hx hb dX0_set_11 rfl hl (by decide) rfl (fun ls hl => ?_)
  have hl : lv_has ls 4 [(3, .int (f i)), (0, .ref (q 0)), (1, .int (nI i)), (2, .int x)] := hl
  refine lv_aload_n hx hb dX0_set_12 rfl (lv_at hl 1 rfl) ?_
  refine x0_get_numbers C0 hK hP 0 rfl rfl dX0_set_13 ?_
  refine lv_iload_n hx hb dX0_set_16 rfl (lv_at hl 2 rfl) ?_
  refine lv_iload_n hx hb dX0_set_17 rfl (lv_at hl 3 rfl) ?_
  refine xr_ast C0 hK hP hD hS 1 rfl (j := i) (by omega) (by decide) dX0_set_18 (fun H locs hP hD hS => ?_)
  have hP : va_P D vwCl (rs_X q cI (n) (upd f i x) (g) (sf) (sg) (r) ++ wr) H := hP
  have hD : va_D A (rs_X q cI (n) (upd f i x) (g) (sf) (sg) (r) ++ wr) := hD
  refine lv_iload_n hx hb dX0_set_19 rfl (lv_at hl 0 rfl) ?_
  exact xr_iret C0 hlk hr (⟨rfl, rfl⟩) hP hD hS dX0_set_20
