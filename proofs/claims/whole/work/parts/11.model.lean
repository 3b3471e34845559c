/-! The reference: its methods (rows laid by wip/whole/p11.py). -/
theorem rs_dec (i : Nat) : nI (i + 1) + Int32.ofInt (-1) = nI i := by rw [litm1]; exact pk_m1 i
theorem rs_0 : (0 : Int32) = nI 0 := nI_0.symm
section XZ
variable {p : Program} {l : Launch} {e : Env} {R : Room} {s : State} {m : MethodId} {args : Array Value} {below : List Frame} {meth : Method} {c : Code} {H : Heap} {locs : List Loc} {cells slots : Nat} {Q : State → Prop}
variable {D : va_G} {tys : List (ClassId × FieldType)} {A : Nat → Prop} {ws : va_W} {cc : ByteArray} {nL pc : Nat} {own : String} {ls : Array Slot} {st0 rest : List Value}
theorem xr_zret {post : Option Value → va_W → Prop} (C0 : CallFix p m c cc nL s args lw_w own) (hlk : meth.locks = false) (hr : meth.sig.returnType = some .boolean) {v : Int32} (hv : narrow .boolean (.int v) = .int v) {w : va_W} (hpost : post (some (.int v)) w) (hP : va_P D vwCl w H) (hD : va_D A w) (hS : va_S A s.heap H locs) (hdg : decode cc pc = .ok (.ireturn, 1)) :
    W p l e R s m args below meth c H locs cells slots (MQ below (xr_Q D A post) args s cells slots A) (F0 m pc ls [.int v]) :=
  W.zret C0.1 C0.2.1 hr hv (fun t ht hW => ⟨⟨_, w, rfl, hpost, by rw [ht]; exact hP, hD⟩, hS.F ht⟩) hS.2.2 hdg hlk
end XZ
theorem rs_ord {o : Int32} (h1 : ¬ o < 0) (h2 : o ≤ 3) : o = 0 ∨ o = 1 ∨ o = 2 ∨ o = 3 := by
  obtain ⟨j, hj, rfl⟩ := nI_of2 (M := 3) (n := 3) (by decide) h1 h2
  rcases (show j = 0 ∨ j = 1 ∨ j = 2 ∨ j = 3 by omega) with rfl | rfl | rfl | rfl
  · exact Or.inl rfl
  · exact Or.inr (Or.inl rfl)
  · exact Or.inr (Or.inr (Or.inl rfl))
  · exact Or.inr (Or.inr (Or.inr rfl))
set_option maxHeartbeats 4000000 in
set_option maxRecDepth 100000 in
/-- thrown -/
theorem m_thrown (l : Launch) (D : va_G) (q : Nat → Nat) (cI : ClassId) (tyr : List (ClassId × FieldType)) (wr : va_W) (sz n : Nat) (k : Int32) (f g : Nat → Int32) : xr_Met l yX1_thrown (wU yX1_thrown cX1_thrown 1 (some .int)) ({ frames := 0, cells := 0, slots := 0, locals := 0 }) [.ref (q 0)] D (rs_ty cI tyr) (rs_M q cI (k) (n) (f) (g) ++ wr) sz (fun v w => v = some (.int k) ∧ w = rs_M q cI (k) n f g ++ wr) 0 0 := by
  refine xr_start (by decide) (Nat.le_of_ble_eq_true rfl) ?_
  intro p e s m args below meth c A ls C0 hlk hr hnm hP hK hD hA hl
  have hx := C0.1
  have hb := C0.2.1
  have hS : va_S A s.heap s.heap [] := va_S.rf
  have hl : lv_has ls 1 [(0, .ref (q 0))] := hl
  refine lv_aload_n hx hb dX1_thrown_0 rfl (lv_at hl 0 rfl) ?_
  refine x1_get_failed C0 hK hP 0 rfl rfl dX1_thrown_1 ?_
  exact xr_iret C0 hlk hr (⟨rfl, rfl⟩) hP hD hS dX1_thrown_4
set_option maxHeartbeats 4000000 in
set_option maxRecDepth 100000 in
/-- fail -/
theorem m_fail (l : Launch) (D : va_G) (q : Nat → Nat) (cI : ClassId) (tyr : List (ClassId × FieldType)) (wr : va_W) (sz n : Nat) (k : Int32) (f g : Nat → Int32) (c0 : Int32) : xr_Met l yX1_fail (wU yX1_fail cX1_fail 2 (some .int)) ({ frames := 0, cells := 0, slots := 0, locals := 0 }) [.ref (q 0), .int c0] D (rs_ty cI tyr) (rs_M q cI (k) (n) (f) (g) ++ wr) sz (fun v w => v = some (.int 0) ∧ w = rs_M q cI (c0) n f g ++ wr) 0 0 := by
  refine xr_start (by decide) (Nat.le_of_ble_eq_true rfl) ?_
  intro p e s m args below meth c A ls C0 hlk hr hnm hP hK hD hA hl
  have hx := C0.1
  have hb := C0.2.1
  have hS : va_S A s.heap s.heap [] := va_S.rf
  have hl : lv_has ls 2 [(0, .ref (q 0)), (1, .int c0)] := hl
  refine lv_aload_n hx hb dX1_fail_0 rfl (lv_at hl 0 rfl) ?_
  refine lv_iload_n hx hb dX1_fail_1 rfl (lv_at hl 1 rfl) ?_
  refine x1_put_failed C0 hK hP hD hS 0 rfl (Nat.le_of_ble_eq_true rfl) dX1_fail_2 (fun H locs hP hD hS => ?_)
  have hP : va_P D vwCl (rs_M q cI (c0) (n) (f) (g) ++ wr) H := hP
  have hD : va_D A (rs_M q cI (c0) (n) (f) (g) ++ wr) := hD
  refine lv_iconst (v := 0) hx hb dX1_fail_5 (by decide) ?_
  exact xr_iret C0 hlk hr (⟨rfl, rfl⟩) hP hD hS dX1_fail_6
set_option maxHeartbeats 4000000 in
set_option maxRecDepth 100000 in
/-- rank -/
theorem m_rank (l : Launch) (D : va_G) (q : Nat → Nat) (cI : ClassId) (tyr : List (ClassId × FieldType)) (wr : va_W) (sz n : Nat) (k : Int32) (f g : Nat → Int32) (o x : Int32) (h1 : ¬ o < 0) (h2 : o ≤ 3) : xr_Met l yX1_rank (wU yX1_rank cX1_rank 3 (some .int)) ({ frames := 0, cells := 0, slots := 0, locals := 0 }) [.ref (q 0), .int o, .int x] D (rs_ty cI tyr) (rs_M q cI (k) (n) (f) (g) ++ wr) sz (fun v w => v = some (.int (rs_rk o x)) ∧ w = rs_M q cI (k) n f g ++ wr) 0 0 := by
  refine xr_start (by decide) (Nat.le_of_ble_eq_true rfl) ?_
  intro p e s m args below meth c A ls C0 hlk hr hnm hP hK hD hA hl
  have hx := C0.1
  have hb := C0.2.1
  have hS : va_S A s.heap s.heap [] := va_S.rf
  have hl : lv_has ls 3 [(0, .ref (q 0)), (1, .int o), (2, .int x)] := hl
  rcases rs_ord h1 h2 with rfl | rfl | rfl | rfl
  · skip
    refine lv_iload_n hx hb dX1_rank_0 rfl (lv_at hl 1 rfl) ?_
    refine lv_if_ne hx hb dX1_rank_1 rfl (fun h => absurd rfl h) (fun h => ?_)
    refine lv_iload_n hx hb dX1_rank_4 rfl (lv_at hl 2 rfl) ?_
    refine lv_goto hx hb dX1_rank_5 rfl ?_
    exact xr_iret C0 hlk hr (⟨by simp [rs_rk], rfl⟩) hP hD hS dX1_rank_35
  · skip
    refine lv_iload_n hx hb dX1_rank_0 rfl (lv_at hl 1 rfl) ?_
    refine lv_if_ne hx hb dX1_rank_1 rfl (fun h => ?_) (fun h => absurd h (by decide))
    refine lv_iload_n hx hb dX1_rank_8 rfl (lv_at hl 1 rfl) ?_
    refine lv_iconst (v := 1) hx hb dX1_rank_9 (by decide) ?_
    refine lv_icmp_ne hx hb dX1_rank_10 rfl (fun h => absurd rfl h) (fun h => ?_)
    refine lv_iload_n hx hb dX1_rank_13 rfl (lv_at hl 2 rfl) ?_
    refine lv_iconst (v := -1) hx hb dX1_rank_14 (by decide) ?_
    refine lv_ixor hx hb dX1_rank_15 ?_
    refine lv_goto hx hb dX1_rank_16 rfl ?_
    exact xr_iret C0 hlk hr (⟨by simp [rs_rk], rfl⟩) hP hD hS dX1_rank_35
  · skip
    refine lv_iload_n hx hb dX1_rank_0 rfl (lv_at hl 1 rfl) ?_
    refine lv_if_ne hx hb dX1_rank_1 rfl (fun h => ?_) (fun h => absurd h (by decide))
    refine lv_iload_n hx hb dX1_rank_8 rfl (lv_at hl 1 rfl) ?_
    refine lv_iconst (v := 1) hx hb dX1_rank_9 (by decide) ?_
    refine lv_icmp_ne hx hb dX1_rank_10 rfl (fun h => ?_) (fun h => absurd h (by decide))
    refine lv_iload_n hx hb dX1_rank_19 rfl (lv_at hl 1 rfl) ?_
    refine lv_iconst (v := 2) hx hb dX1_rank_20 (by decide) ?_
    refine lv_icmp_ne hx hb dX1_rank_21 rfl (fun h => absurd rfl h) (fun h => ?_)
    refine lv_iload_n hx hb dX1_rank_24 rfl (lv_at hl 2 rfl) ?_
    refine lv_bipush (v := 15) hx hb dX1_rank_25 (by decide) ?_
    refine lv_iand hx hb dX1_rank_27 ?_
    refine lv_goto hx hb dX1_rank_28 rfl ?_
    exact xr_iret C0 hlk hr (⟨by simp [rs_rk], rfl⟩) hP hD hS dX1_rank_35
  · skip
    refine lv_iload_n hx hb dX1_rank_0 rfl (lv_at hl 1 rfl) ?_
    refine lv_if_ne hx hb dX1_rank_1 rfl (fun h => ?_) (fun h => absurd h (by decide))
    refine lv_iload_n hx hb dX1_rank_8 rfl (lv_at hl 1 rfl) ?_
    refine lv_iconst (v := 1) hx hb dX1_rank_9 (by decide) ?_
    refine lv_icmp_ne hx hb dX1_rank_10 rfl (fun h => ?_) (fun h => absurd h (by decide))
    refine lv_iload_n hx hb dX1_rank_19 rfl (lv_at hl 1 rfl) ?_
    refine lv_iconst (v := 2) hx hb dX1_rank_20 (by decide) ?_
    refine lv_icmp_ne hx hb dX1_rank_21 rfl (fun h => ?_) (fun h => absurd h (by decide))
    refine lv_iload_n hx hb dX1_rank_31 rfl (lv_at hl 2 rfl) ?_
    refine lv_ldc (v := -2147483648) hx hb C0.2.2.2.1 (C0.2.2.2.2 _ wQ_X1_20) dX1_rank_32 ?_
    refine lv_ixor hx hb dX1_rank_34 ?_
    exact xr_iret C0 hlk hr (⟨by simp [rs_rk], rfl⟩) hP hD hS dX1_rank_35
set_option maxHeartbeats 4000000 in
set_option maxRecDepth 100000 in
/-- append -/
theorem m_append (l : Launch) (D : va_G) (q : Nat → Nat) (cI : ClassId) (tyr : List (ClassId × FieldType)) (wr : va_W) (sz n : Nat) (k : Int32) (f g : Nat → Int32) (x : Int32) (hn : n < 2000) : xr_Met l yX1_append (wU yX1_append cX1_append 2 none) ({ frames := 0, cells := 0, slots := 0, locals := 0 }) [.ref (q 0), .int x] D (rs_ty cI tyr) (rs_M q cI (k) (n) (f) (g) ++ wr) sz (fun v w => v = none ∧ w = rs_M q cI k (n + 1) (upd f n x) (upd g n (nI n)) ++ wr) 0 0 := by
  refine xr_start (by decide) (Nat.le_of_ble_eq_true rfl) ?_
  intro p e s m args below meth c A ls C0 hlk hr hnm hP hK hD hA hl
  have hx := C0.1
  have hb := C0.2.1
  have hS : va_S A s.heap s.heap [] := va_S.rf
  have hl : lv_has ls 2 [(0, .ref (q 0)), (1, .int x)] := hl
  refine lv_aload_n hx hb dX1_append_0 rfl (lv_at hl 0 rfl) ?_
  refine x1_get_row C0 hK hP 0 rfl rfl dX1_append_1 ?_
  refine lv_aload_n hx hb dX1_append_4 rfl (lv_at hl 0 rfl) ?_
  refine x1_get_size C0 hK hP 0 rfl rfl dX1_append_5 ?_
  refine lv_iload_n hx hb dX1_append_8 rfl (lv_at hl 1 rfl) ?_
  refine xr_ast C0 hK hP hD hS 1 rfl (j := n) (by omega) (by decide) dX1_append_9 (fun H locs hP hD hS => ?_)
  have hP : va_P D vwCl (rs_M q cI (k) (n) (upd f n x) (g) ++ wr) H := hP
  have hD : va_D A (rs_M q cI (k) (n) (upd f n x) (g) ++ wr) := hD
  refine lv_aload_n hx hb dX1_append_10 rfl (lv_at hl 0 rfl) ?_
  refine x1_get_tags C0 hK hP 0 rfl rfl dX1_append_11 ?_
  refine lv_aload_n hx hb dX1_append_14 rfl (lv_at hl 0 rfl) ?_
  refine x1_get_size C0 hK hP 0 rfl rfl dX1_append_15 ?_
  refine lv_aload_n hx hb dX1_append_18 rfl (lv_at hl 0 rfl) ?_
  refine x1_get_size C0 hK hP 0 rfl rfl dX1_append_19 ?_
  refine xr_ast C0 hK hP hD hS 2 rfl (j := n) (by omega) (by decide) dX1_append_22 (fun H locs hP hD hS => ?_)
  have hP : va_P D vwCl (rs_M q cI (k) (n) (upd f n x) (upd g n (nI (n))) ++ wr) H := hP
  have hD : va_D A (rs_M q cI (k) (n) (upd f n x) (upd g n (nI (n))) ++ wr) := hD
  refine lv_aload_n hx hb dX1_append_23 rfl (lv_at hl 0 rfl) ?_
  refine lv_dup hx hb dX1_append_24 rfl ?_
  refine x1_get_size C0 hK hP 0 rfl rfl dX1_append_25 ?_
  refine lv_iconst (v := 1) hx hb dX1_append_28 (by decide) ?_
  refine lv_iadd hx hb dX1_append_29 ?_
  refine xr_top (nI_1 n) ?_
  refine x1_put_size C0 hK hP hD hS 0 rfl (Nat.le_of_ble_eq_true rfl) dX1_append_30 (fun H locs hP hD hS => ?_)
  have hP : va_P D vwCl (rs_M q cI (k) (n + 1) (upd f n x) (upd g n (nI (n))) ++ wr) H := hP
  have hD : va_D A (rs_M q cI (k) (n + 1) (upd f n x) (upd g n (nI (n))) ++ wr) := hD
  exact xr_vret C0 hlk hr (⟨rfl, rfl⟩) hP hD hS dX1_append_33
set_option maxHeartbeats 4000000 in
set_option maxRecDepth 100000 in
/-- bad: in range -/
theorem m_bad0 (l : Launch) (D : va_G) (q : Nat → Nat) (cI : ClassId) (tyr : List (ClassId × FieldType)) (wr : va_W) (sz n : Nat) (k : Int32) (f g : Nat → Int32) (a b : Nat) (h1 : a ≤ b) (h2 : b ≤ n) (hn : n ≤ 2000) : xr_Met l yX1_bad (wU yX1_bad cX1_bad 3 (some .boolean)) ({ frames := 0, cells := 0, slots := 0, locals := 0 }) [.ref (q 0), .int (nI a), .int (nI b)] D (rs_ty cI tyr) (rs_M q cI (k) (n) (f) (g) ++ wr) sz (fun v w => v = some (.int 0) ∧ w = rs_M q cI (k) n f g ++ wr) 0 0 := by
  refine xr_start (by decide) (Nat.le_of_ble_eq_true rfl) ?_
  intro p e s m args below meth c A ls C0 hlk hr hnm hP hK hD hA hl
  have hx := C0.1
  have hb := C0.2.1
  have hS : va_S A s.heap s.heap [] := va_S.rf
  have hl : lv_has ls 3 [(0, .ref (q 0)), (1, .int (nI a)), (2, .int (nI b))] := hl
  refine lv_iload_n hx hb dX1_bad_0 rfl (lv_at hl 1 rfl) ?_
  refine lv_if_lt hx hb dX1_bad_1 rfl (fun h => absurd h (nI_pos (by omega))) (fun h => ?_)
  refine lv_iload_n hx hb dX1_bad_4 rfl (lv_at hl 2 rfl) ?_
  refine lv_iload_n hx hb dX1_bad_5 rfl (lv_at hl 1 rfl) ?_
  refine lv_icmp_lt hx hb dX1_bad_6 rfl (fun h => absurd h (nI_nlt h1 (by omega))) (fun h => ?_)
  refine lv_iload_n hx hb dX1_bad_9 rfl (lv_at hl 2 rfl) ?_
  refine lv_aload_n hx hb dX1_bad_10 rfl (lv_at hl 0 rfl) ?_
  refine x1_get_size C0 hK hP 0 rfl rfl dX1_bad_11 ?_
  refine lv_icmp_le hx hb dX1_bad_14 rfl (fun h => ?_) (fun h => absurd (nI_le h2 (by omega)) h)
  refine lv_iconst (v := 0) hx hb dX1_bad_21 (by decide) ?_
  exact xr_zret C0 hlk hr rfl (⟨rfl, rfl⟩) hP hD hS dX1_bad_22
set_option maxHeartbeats 4000000 in
set_option maxRecDepth 100000 in
/-- bad: not in range -/
theorem m_bad1 (l : Launch) (D : va_G) (q : Nat → Nat) (cI : ClassId) (tyr : List (ClassId × FieldType)) (wr : va_W) (sz n : Nat) (k : Int32) (f g : Nat → Int32) (a b : Int32) (hn : n ≤ 2000) (hbad : a < 0 ∨ b < a ∨ nI n < b) : xr_Met l yX1_bad (wU yX1_bad cX1_bad 3 (some .boolean)) ({ frames := 0, cells := 0, slots := 0, locals := 0 }) [.ref (q 0), .int a, .int b] D (rs_ty cI tyr) (rs_M q cI (k) (n) (f) (g) ++ wr) sz (fun v w => v = some (.int 1) ∧ w = rs_M q cI (k) n f g ++ wr) 0 0 := by
  refine xr_start (by decide) (Nat.le_of_ble_eq_true rfl) ?_
  intro p e s m args below meth c A ls C0 hlk hr hnm hP hK hD hA hl
  have hx := C0.1
  have hb := C0.2.1
  have hS : va_S A s.heap s.heap [] := va_S.rf
  have hl : lv_has ls 3 [(0, .ref (q 0)), (1, .int a), (2, .int b)] := hl
  refine lv_iload_n hx hb dX1_bad_0 rfl (lv_at hl 1 rfl) ?_
  refine lv_if_lt hx hb dX1_bad_1 rfl (fun h => ?_) (fun h => ?_)
  · skip
    refine lv_iconst (v := 1) hx hb dX1_bad_17 (by decide) ?_
    refine lv_goto hx hb dX1_bad_18 rfl ?_
    exact xr_zret C0 hlk hr rfl (⟨rfl, rfl⟩) hP hD hS dX1_bad_22
  · skip
    have n1 := h
    refine lv_iload_n hx hb dX1_bad_4 rfl (lv_at hl 2 rfl) ?_
    refine lv_iload_n hx hb dX1_bad_5 rfl (lv_at hl 1 rfl) ?_
    refine lv_icmp_lt hx hb dX1_bad_6 rfl (fun h => ?_) (fun h => ?_)
    · skip
      refine lv_iconst (v := 1) hx hb dX1_bad_17 (by decide) ?_
      refine lv_goto hx hb dX1_bad_18 rfl ?_
      exact xr_zret C0 hlk hr rfl (⟨rfl, rfl⟩) hP hD hS dX1_bad_22
    · skip
      have n2 := h
      refine lv_iload_n hx hb dX1_bad_9 rfl (lv_at hl 2 rfl) ?_
      refine lv_aload_n hx hb dX1_bad_10 rfl (lv_at hl 0 rfl) ?_
      refine x1_get_size C0 hK hP 0 rfl rfl dX1_bad_11 ?_
      refine lv_icmp_le hx hb dX1_bad_14 rfl (fun h => absurd h (rs_lt_nle ((hbad.resolve_left n1).resolve_left n2))) (fun h => ?_)
      refine lv_iconst (v := 1) hx hb dX1_bad_17 (by decide) ?_
      refine lv_goto hx hb dX1_bad_18 rfl ?_
      exact xr_zret C0 hlk hr rfl (⟨rfl, rfl⟩) hP hD hS dX1_bad_22
set_option maxHeartbeats 4000000 in
set_option maxRecDepth 100000 in
/-- get, in range -/
theorem m_get0 (l : Launch) (D : va_G) (q : Nat → Nat) (cI : ClassId) (tyr : List (ClassId × FieldType)) (wr : va_W) (sz n : Nat) (k : Int32) (f g : Nat → Int32) (i : Nat) (hi : i < n) (hn : n ≤ 2000) : xr_Met l yX1_get (wU yX1_get cX1_get 2 (some .int)) ({ frames := 0, cells := 0, slots := 0, locals := 0 }) [.ref (q 0), .int (nI i)] D (rs_ty cI tyr) (rs_M q cI (k) (n) (f) (g) ++ wr) sz (fun v w => v = some (.int (f i)) ∧ w = rs_M q cI (0) n f g ++ wr) 0 0 := by
  refine xr_start (by decide) (Nat.le_of_ble_eq_true rfl) ?_
  intro p e s m args below meth c A ls C0 hlk hr hnm hP hK hD hA hl
  have hx := C0.1
  have hb := C0.2.1
  have hS : va_S A s.heap s.heap [] := va_S.rf
  have hl : lv_has ls 2 [(0, .ref (q 0)), (1, .int (nI i))] := hl
  refine lv_aload_n hx hb dX1_get_0 rfl (lv_at hl 0 rfl) ?_
  refine lv_iconst (v := 0) hx hb dX1_get_1 (by decide) ?_
  refine x1_put_failed C0 hK hP hD hS 0 rfl (Nat.le_of_ble_eq_true rfl) dX1_get_2 (fun H locs hP hD hS => ?_)
  have hP : va_P D vwCl (rs_M q cI (0) (n) (f) (g) ++ wr) H := hP
  have hD : va_D A (rs_M q cI (0) (n) (f) (g) ++ wr) := hD
  refine lv_iload_n hx hb dX1_get_5 rfl (lv_at hl 1 rfl) ?_
  refine lv_if_lt hx hb dX1_get_6 rfl (fun h => absurd h (nI_pos (by omega))) (fun h => ?_)
  refine lv_iload_n hx hb dX1_get_9 rfl (lv_at hl 1 rfl) ?_
  refine lv_aload_n hx hb dX1_get_10 rfl (lv_at hl 0 rfl) ?_
  refine x1_get_size C0 hK hP 0 rfl rfl dX1_get_11 ?_
  refine lv_icmp_lt hx hb dX1_get_14 rfl (fun h => ?_) (fun h => absurd (nI_lt hi (by omega)) h)
  refine lv_aload_n hx hb dX1_get_25 rfl (lv_at hl 0 rfl) ?_
  refine x1_get_row C0 hK hP 0 rfl rfl dX1_get_26 ?_
  refine lv_iload_n hx hb dX1_get_29 rfl (lv_at hl 1 rfl) ?_
  refine xr_ald C0 hK hP 1 rfl (j := i) (by omega) (by decide) dX1_get_30 ?_
  exact xr_iret C0 hlk hr (⟨rfl, rfl⟩) hP hD hS dX1_get_31
set_option maxHeartbeats 4000000 in
set_option maxRecDepth 100000 in
/-- get, no such index -/
theorem m_get1 (l : Launch) (D : va_G) (q : Nat → Nat) (cI : ClassId) (tyr : List (ClassId × FieldType)) (wr : va_W) (sz n : Nat) (k : Int32) (f g : Nat → Int32) (i : Int32) (hbad : i < 0 ∨ nI n ≤ i) : xr_Met l yX1_get (wU yX1_get cX1_get 2 (some .int)) ({ frames := 1, cells := 0, slots := 0, locals := 21 }) [.ref (q 0), .int i] D (rs_ty cI tyr) (rs_M q cI (k) (n) (f) (g) ++ wr) sz (fun v w => v = some (.int 0) ∧ w = rs_M q cI (1) n f g ++ wr) 0 0 := by
  refine xr_start (by decide) (Nat.le_of_ble_eq_true rfl) ?_
  intro p e s m args below meth c A ls C0 hlk hr hnm hP hK hD hA hl
  have hx := C0.1
  have hb := C0.2.1
  have hS : va_S A s.heap s.heap [] := va_S.rf
  have hl : lv_has ls 2 [(0, .ref (q 0)), (1, .int i)] := hl
  refine lv_aload_n hx hb dX1_get_0 rfl (lv_at hl 0 rfl) ?_
  refine lv_iconst (v := 0) hx hb dX1_get_1 (by decide) ?_
  refine x1_put_failed C0 hK hP hD hS 0 rfl (Nat.le_of_ble_eq_true rfl) dX1_get_2 (fun H locs hP hD hS => ?_)
  have hP : va_P D vwCl (rs_M q cI (0) (n) (f) (g) ++ wr) H := hP
  have hD : va_D A (rs_M q cI (0) (n) (f) (g) ++ wr) := hD
  refine lv_iload_n hx hb dX1_get_5 rfl (lv_at hl 1 rfl) ?_
  refine lv_if_lt hx hb dX1_get_6 rfl (fun h => ?_) (fun h => ?_)
  · skip
    refine lv_aload_n hx hb dX1_get_17 rfl (lv_at hl 0 rfl) ?_
    refine lv_iconst (v := 1) hx hb dX1_get_18 (by decide) ?_
    refine xr_vcall (As := [.int 1]) (rest := []) (nA := 1) C0 (m_fail l D q cI tyr wr _ n 0 f g 1) (gV wM_X1_X1_fail wI_X1_fail wV_X1_X1_fail wN_X1 wC_X1_fail) (by decide +kernel) rfl rfl rfl ⟨by decide, by decide⟩ hK hP hD hS hA 0 rfl rfl hl.1 rfl (Nat.le_of_ble_eq_true rfl) dX1_get_19 ⟨Nat.le_of_ble_eq_true rfl, Nat.le_of_ble_eq_true rfl⟩ (fun v w H locs hv hP hD hz hS => ?_)
    obtain ⟨rfl, rfl⟩ := hv
    refine lv_goto hx hb dX1_get_22 rfl ?_
    exact xr_iret C0 hlk hr (⟨rfl, rfl⟩) hP hD hS dX1_get_31
  · skip
    have n1 := h
    refine lv_iload_n hx hb dX1_get_9 rfl (lv_at hl 1 rfl) ?_
    refine lv_aload_n hx hb dX1_get_10 rfl (lv_at hl 0 rfl) ?_
    refine x1_get_size C0 hK hP 0 rfl rfl dX1_get_11 ?_
    refine lv_icmp_lt hx hb dX1_get_14 rfl (fun h => absurd (hbad.resolve_left n1) (rs_lt_nle h)) (fun h => ?_)
    refine lv_aload_n hx hb dX1_get_17 rfl (lv_at hl 0 rfl) ?_
    refine lv_iconst (v := 1) hx hb dX1_get_18 (by decide) ?_
    refine xr_vcall (As := [.int 1]) (rest := []) (nA := 1) C0 (m_fail l D q cI tyr wr _ n 0 f g 1) (gV wM_X1_X1_fail wI_X1_fail wV_X1_X1_fail wN_X1 wC_X1_fail) (by decide +kernel) rfl rfl rfl ⟨by decide, by decide⟩ hK hP hD hS hA 0 rfl rfl hl.1 rfl (Nat.le_of_ble_eq_true rfl) dX1_get_19 ⟨Nat.le_of_ble_eq_true rfl, Nat.le_of_ble_eq_true rfl⟩ (fun v w H locs hv hP hD hz hS => ?_)
    obtain ⟨rfl, rfl⟩ := hv
    refine lv_goto hx hb dX1_get_22 rfl ?_
    exact xr_iret C0 hlk hr (⟨rfl, rfl⟩) hP hD hS dX1_get_31
set_option maxHeartbeats 4000000 in
set_option maxRecDepth 100000 in
/-- tag, in range -/
theorem m_tag0 (l : Launch) (D : va_G) (q : Nat → Nat) (cI : ClassId) (tyr : List (ClassId × FieldType)) (wr : va_W) (sz n : Nat) (k : Int32) (f g : Nat → Int32) (i : Nat) (hi : i < n) (hn : n ≤ 2000) : xr_Met l yX1_tag (wU yX1_tag cX1_tag 2 (some .int)) ({ frames := 0, cells := 0, slots := 0, locals := 0 }) [.ref (q 0), .int (nI i)] D (rs_ty cI tyr) (rs_M q cI (k) (n) (f) (g) ++ wr) sz (fun v w => v = some (.int (g i)) ∧ w = rs_M q cI (0) n f g ++ wr) 0 0 := by
  refine xr_start (by decide) (Nat.le_of_ble_eq_true rfl) ?_
  intro p e s m args below meth c A ls C0 hlk hr hnm hP hK hD hA hl
  have hx := C0.1
  have hb := C0.2.1
  have hS : va_S A s.heap s.heap [] := va_S.rf
  have hl : lv_has ls 2 [(0, .ref (q 0)), (1, .int (nI i))] := hl
  refine lv_aload_n hx hb dX1_tag_0 rfl (lv_at hl 0 rfl) ?_
  refine lv_iconst (v := 0) hx hb dX1_tag_1 (by decide) ?_
  refine x1_put_failed C0 hK hP hD hS 0 rfl (Nat.le_of_ble_eq_true rfl) dX1_tag_2 (fun H locs hP hD hS => ?_)
  have hP : va_P D vwCl (rs_M q cI (0) (n) (f) (g) ++ wr) H := hP
  have hD : va_D A (rs_M q cI (0) (n) (f) (g) ++ wr) := hD
  refine lv_iload_n hx hb dX1_tag_5 rfl (lv_at hl 1 rfl) ?_
  refine lv_if_lt hx hb dX1_tag_6 rfl (fun h => absurd h (nI_pos (by omega))) (fun h => ?_)
  refine lv_iload_n hx hb dX1_tag_9 rfl (lv_at hl 1 rfl) ?_
  refine lv_aload_n hx hb dX1_tag_10 rfl (lv_at hl 0 rfl) ?_
  refine x1_get_size C0 hK hP 0 rfl rfl dX1_tag_11 ?_
  refine lv_icmp_lt hx hb dX1_tag_14 rfl (fun h => ?_) (fun h => absurd (nI_lt hi (by omega)) h)
  refine lv_aload_n hx hb dX1_tag_25 rfl (lv_at hl 0 rfl) ?_
  refine x1_get_tags C0 hK hP 0 rfl rfl dX1_tag_26 ?_
  refine lv_iload_n hx hb dX1_tag_29 rfl (lv_at hl 1 rfl) ?_
  refine xr_ald C0 hK hP 2 rfl (j := i) (by omega) (by decide) dX1_tag_30 ?_
  exact xr_iret C0 hlk hr (⟨rfl, rfl⟩) hP hD hS dX1_tag_31
set_option maxHeartbeats 4000000 in
set_option maxRecDepth 100000 in
/-- tag, no such index -/
theorem m_tag1 (l : Launch) (D : va_G) (q : Nat → Nat) (cI : ClassId) (tyr : List (ClassId × FieldType)) (wr : va_W) (sz n : Nat) (k : Int32) (f g : Nat → Int32) (i : Int32) (hbad : i < 0 ∨ nI n ≤ i) : xr_Met l yX1_tag (wU yX1_tag cX1_tag 2 (some .int)) ({ frames := 1, cells := 0, slots := 0, locals := 21 }) [.ref (q 0), .int i] D (rs_ty cI tyr) (rs_M q cI (k) (n) (f) (g) ++ wr) sz (fun v w => v = some (.int 0) ∧ w = rs_M q cI (1) n f g ++ wr) 0 0 := by
  refine xr_start (by decide) (Nat.le_of_ble_eq_true rfl) ?_
  intro p e s m args below meth c A ls C0 hlk hr hnm hP hK hD hA hl
  have hx := C0.1
  have hb := C0.2.1
  have hS : va_S A s.heap s.heap [] := va_S.rf
  have hl : lv_has ls 2 [(0, .ref (q 0)), (1, .int i)] := hl
  refine lv_aload_n hx hb dX1_tag_0 rfl (lv_at hl 0 rfl) ?_
  refine lv_iconst (v := 0) hx hb dX1_tag_1 (by decide) ?_
  refine x1_put_failed C0 hK hP hD hS 0 rfl (Nat.le_of_ble_eq_true rfl) dX1_tag_2 (fun H locs hP hD hS => ?_)
  have hP : va_P D vwCl (rs_M q cI (0) (n) (f) (g) ++ wr) H := hP
  have hD : va_D A (rs_M q cI (0) (n) (f) (g) ++ wr) := hD
  refine lv_iload_n hx hb dX1_tag_5 rfl (lv_at hl 1 rfl) ?_
  refine lv_if_lt hx hb dX1_tag_6 rfl (fun h => ?_) (fun h => ?_)
  · skip
    refine lv_aload_n hx hb dX1_tag_17 rfl (lv_at hl 0 rfl) ?_
    refine lv_iconst (v := 1) hx hb dX1_tag_18 (by decide) ?_
    refine xr_vcall (As := [.int 1]) (rest := []) (nA := 1) C0 (m_fail l D q cI tyr wr _ n 0 f g 1) (gV wM_X1_X1_fail wI_X1_fail wV_X1_X1_fail wN_X1 wC_X1_fail) (by decide +kernel) rfl rfl rfl ⟨by decide, by decide⟩ hK hP hD hS hA 0 rfl rfl hl.1 rfl (Nat.le_of_ble_eq_true rfl) dX1_tag_19 ⟨Nat.le_of_ble_eq_true rfl, Nat.le_of_ble_eq_true rfl⟩ (fun v w H locs hv hP hD hz hS => ?_)
    obtain ⟨rfl, rfl⟩ := hv
    refine lv_goto hx hb dX1_tag_22 rfl ?_
    exact xr_iret C0 hlk hr (⟨rfl, rfl⟩) hP hD hS dX1_tag_31
  · skip
    have n1 := h
    refine lv_iload_n hx hb dX1_tag_9 rfl (lv_at hl 1 rfl) ?_
    refine lv_aload_n hx hb dX1_tag_10 rfl (lv_at hl 0 rfl) ?_
    refine x1_get_size C0 hK hP 0 rfl rfl dX1_tag_11 ?_
    refine lv_icmp_lt hx hb dX1_tag_14 rfl (fun h => absurd (hbad.resolve_left n1) (rs_lt_nle h)) (fun h => ?_)
    refine lv_aload_n hx hb dX1_tag_17 rfl (lv_at hl 0 rfl) ?_
    refine lv_iconst (v := 1) hx hb dX1_tag_18 (by decide) ?_
    refine xr_vcall (As := [.int 1]) (rest := []) (nA := 1) C0 (m_fail l D q cI tyr wr _ n 0 f g 1) (gV wM_X1_X1_fail wI_X1_fail wV_X1_X1_fail wN_X1 wC_X1_fail) (by decide +kernel) rfl rfl rfl ⟨by decide, by decide⟩ hK hP hD hS hA 0 rfl rfl hl.1 rfl (Nat.le_of_ble_eq_true rfl) dX1_tag_19 ⟨Nat.le_of_ble_eq_true rfl, Nat.le_of_ble_eq_true rfl⟩ (fun v w H locs hv hP hD hz hS => ?_)
    obtain ⟨rfl, rfl⟩ := hv
    refine lv_goto hx hb dX1_tag_22 rfl ?_
    exact xr_iret C0 hlk hr (⟨rfl, rfl⟩) hP hD hS dX1_tag_31
set_option maxHeartbeats 4000000 in
set_option maxRecDepth 100000 in
/-- set, in range -/
theorem m_set0 (l : Launch) (D : va_G) (q : Nat → Nat) (cI : ClassId) (tyr : List (ClassId × FieldType)) (wr : va_W) (sz n : Nat) (k : Int32) (f g : Nat → Int32) (i : Nat) (x : Int32) (hi : i < n) (hn : n ≤ 2000) : xr_Met l yX1_set (wU yX1_set cX1_set 4 (some .int)) ({ frames := 0, cells := 0, slots := 0, locals := 0 }) [.ref (q 0), .int (nI i), .int x] D (rs_ty cI tyr) (rs_M q cI (k) (n) (f) (g) ++ wr) sz (fun v w => v = some (.int (f i)) ∧ w = rs_M q cI 0 n (upd f i x) g ++ wr) 0 0 := by
  refine xr_start (by decide) (Nat.le_of_ble_eq_true rfl) ?_
  intro p e s m args below meth c A ls C0 hlk hr hnm hP hK hD hA hl
  have hx := C0.1
  have hb := C0.2.1
  have hS : va_S A s.heap s.heap [] := va_S.rf
  have hl : lv_has ls 4 [(0, .ref (q 0)), (1, .int (nI i)), (2, .int x)] := hl
  refine lv_aload_n hx hb dX1_set_0 rfl (lv_at hl 0 rfl) ?_
  refine lv_iconst (v := 0) hx hb dX1_set_1 (by decide) ?_
  refine x1_put_failed C0 hK hP hD hS 0 rfl (Nat.le_of_ble_eq_true rfl) dX1_set_2 (fun H locs hP hD hS => ?_)
  have hP : va_P D vwCl (rs_M q cI (0) (n) (f) (g) ++ wr) H := hP
  have hD : va_D A (rs_M q cI (0) (n) (f) (g) ++ wr) := hD
  refine lv_iload_n hx hb dX1_set_5 rfl (lv_at hl 1 rfl) ?_
  refine lv_if_lt hx hb dX1_set_6 rfl (fun h => absurd h (nI_pos (by omega))) (fun h => ?_)
  refine lv_iload_n hx hb dX1_set_9 rfl (lv_at hl 1 rfl) ?_
  refine lv_aload_n hx hb dX1_set_10 rfl (lv_at hl 0 rfl) ?_
  refine x1_get_size C0 hK hP 0 rfl rfl dX1_set_11 ?_
  refine lv_icmp_lt hx hb dX1_set_14 rfl (fun h => ?_) (fun h => absurd (nI_lt hi (by omega)) h)
  refine lv_aload_n hx hb dX1_set_23 rfl (lv_at hl 0 rfl) ?_
  refine x1_get_row C0 hK hP 0 rfl rfl dX1_set_24 ?_
  refine lv_iload_n hx hb dX1_set_27 rfl (lv_at hl 1 rfl) ?_
  refine xr_ald C0 hK hP 1 rfl (j := i) (by omega) (by decide) dX1_set_28 ?_
  refine lv_istore_n hx hb dX1_set_29 rfl hl (by decide) rfl (fun ls hl => ?_)
  have hl : lv_has ls 4 [(3, .int (f i)), (0, .ref (q 0)), (1, .int (nI i)), (2, .int x)] := hl
  refine lv_aload_n hx hb dX1_set_30 rfl (lv_at hl 1 rfl) ?_
  refine x1_get_row C0 hK hP 0 rfl rfl dX1_set_31 ?_
  refine lv_iload_n hx hb dX1_set_34 rfl (lv_at hl 2 rfl) ?_
  refine lv_iload_n hx hb dX1_set_35 rfl (lv_at hl 3 rfl) ?_
  refine xr_ast C0 hK hP hD hS 1 rfl (j := i) (by omega) (by decide) dX1_set_36 (fun H locs hP hD hS => ?_)
  have hP : va_P D vwCl (rs_M q cI (0) (n) (upd f i x) (g) ++ wr) H := hP
  have hD : va_D A (rs_M q cI (0) (n) (upd f i x) (g) ++ wr) := hD
  refine lv_iload_n hx hb dX1_set_37 rfl (lv_at hl 0 rfl) ?_
  exact xr_iret C0 hlk hr (⟨rfl, rfl⟩) hP hD hS dX1_set_38
set_option maxHeartbeats 4000000 in
set_option maxRecDepth 100000 in
/-- set, no such index -/
theorem m_set1 (l : Launch) (D : va_G) (q : Nat → Nat) (cI : ClassId) (tyr : List (ClassId × FieldType)) (wr : va_W) (sz n : Nat) (k : Int32) (f g : Nat → Int32) (i x : Int32) (hbad : i < 0 ∨ nI n ≤ i) : xr_Met l yX1_set (wU yX1_set cX1_set 4 (some .int)) ({ frames := 1, cells := 0, slots := 0, locals := 21 }) [.ref (q 0), .int i, .int x] D (rs_ty cI tyr) (rs_M q cI (k) (n) (f) (g) ++ wr) sz (fun v w => v = some (.int 0) ∧ w = rs_M q cI (1) n f g ++ wr) 0 0 := by
  refine xr_start (by decide) (Nat.le_of_ble_eq_true rfl) ?_
  intro p e s m args below meth c A ls C0 hlk hr hnm hP hK hD hA hl
  have hx := C0.1
  have hb := C0.2.1
  have hS : va_S A s.heap s.heap [] := va_S.rf
  have hl : lv_has ls 4 [(0, .ref (q 0)), (1, .int i), (2, .int x)] := hl
  refine lv_aload_n hx hb dX1_set_0 rfl (lv_at hl 0 rfl) ?_
  refine lv_iconst (v := 0) hx hb dX1_set_1 (by decide) ?_
  refine x1_put_failed C0 hK hP hD hS 0 rfl (Nat.le_of_ble_eq_true rfl) dX1_set_2 (fun H locs hP hD hS => ?_)
  have hP : va_P D vwCl (rs_M q cI (0) (n) (f) (g) ++ wr) H := hP
  have hD : va_D A (rs_M q cI (0) (n) (f) (g) ++ wr) := hD
  refine lv_iload_n hx hb dX1_set_5 rfl (lv_at hl 1 rfl) ?_
  refine lv_if_lt hx hb dX1_set_6 rfl (fun h => ?_) (fun h => ?_)
  · skip
    refine lv_aload_n hx hb dX1_set_17 rfl (lv_at hl 0 rfl) ?_
    refine lv_iconst (v := 1) hx hb dX1_set_18 (by decide) ?_
    refine xr_vcall (As := [.int 1]) (rest := []) (nA := 1) C0 (m_fail l D q cI tyr wr _ n 0 f g 1) (gV wM_X1_X1_fail wI_X1_fail wV_X1_X1_fail wN_X1 wC_X1_fail) (by decide +kernel) rfl rfl rfl ⟨by decide, by decide⟩ hK hP hD hS hA 0 rfl rfl hl.1 rfl (Nat.le_of_ble_eq_true rfl) dX1_set_19 ⟨Nat.le_of_ble_eq_true rfl, Nat.le_of_ble_eq_true rfl⟩ (fun v w H locs hv hP hD hz hS => ?_)
    obtain ⟨rfl, rfl⟩ := hv
    exact xr_iret C0 hlk hr (⟨rfl, rfl⟩) hP hD hS dX1_set_22
  · skip
    have n1 := h
    refine lv_iload_n hx hb dX1_set_9 rfl (lv_at hl 1 rfl) ?_
    refine lv_aload_n hx hb dX1_set_10 rfl (lv_at hl 0 rfl) ?_
    refine x1_get_size C0 hK hP 0 rfl rfl dX1_set_11 ?_
    refine lv_icmp_lt hx hb dX1_set_14 rfl (fun h => absurd (hbad.resolve_left n1) (rs_lt_nle h)) (fun h => ?_)
    refine lv_aload_n hx hb dX1_set_17 rfl (lv_at hl 0 rfl) ?_
    refine lv_iconst (v := 1) hx hb dX1_set_18 (by decide) ?_
    refine xr_vcall (As := [.int 1]) (rest := []) (nA := 1) C0 (m_fail l D q cI tyr wr _ n 0 f g 1) (gV wM_X1_X1_fail wI_X1_fail wV_X1_X1_fail wN_X1 wC_X1_fail) (by decide +kernel) rfl rfl rfl ⟨by decide, by decide⟩ hK hP hD hS hA 0 rfl rfl hl.1 rfl (Nat.le_of_ble_eq_true rfl) dX1_set_19 ⟨Nat.le_of_ble_eq_true rfl, Nat.le_of_ble_eq_true rfl⟩ (fun v w H locs hv hP hD hz hS => ?_)
    obtain ⟨rfl, rfl⟩ := hv
    exact xr_iret C0 hlk hr (⟨rfl, rfl⟩) hP hD hS dX1_set_22
set_option maxHeartbeats 4000000 in
set_option maxRecDepth 100000 in
/-- clear -/
theorem m_clear (l : Launch) (D : va_G) (q : Nat → Nat) (cI : ClassId) (tyr : List (ClassId × FieldType)) (wr : va_W) (sz n : Nat) (k : Int32) (f g : Nat → Int32) : xr_Met l yX1_clear (wU yX1_clear cX1_clear 2 (some .int)) ({ frames := 0, cells := 0, slots := 0, locals := 0 }) [.ref (q 0)] D (rs_ty cI tyr) (rs_M q cI (k) (n) (f) (g) ++ wr) sz (fun v w => v = some (.int (nI n)) ∧ w = rs_M q cI 0 0 f g ++ wr) 0 0 := by
  refine xr_start (by decide) (Nat.le_of_ble_eq_true rfl) ?_
  intro p e s m args below meth c A ls C0 hlk hr hnm hP hK hD hA hl
  have hx := C0.1
  have hb := C0.2.1
  have hS : va_S A s.heap s.heap [] := va_S.rf
  have hl : lv_has ls 2 [(0, .ref (q 0))] := hl
  refine lv_aload_n hx hb dX1_clear_0 rfl (lv_at hl 0 rfl) ?_
  refine lv_iconst (v := 0) hx hb dX1_clear_1 (by decide) ?_
  refine x1_put_failed C0 hK hP hD hS 0 rfl (Nat.le_of_ble_eq_true rfl) dX1_clear_2 (fun H locs hP hD hS => ?_)
  have hP : va_P D vwCl (rs_M q cI (0) (n) (f) (g) ++ wr) H := hP
  have hD : va_D A (rs_M q cI (0) (n) (f) (g) ++ wr) := hD
  refine lv_aload_n hx hb dX1_clear_5 rfl (lv_at hl 0 rfl) ?_
  refine x1_get_size C0 hK hP 0 rfl rfl dX1_clear_6 ?_
  refine lv_istore_n hx hb dX1_clear_9 rfl hl (by decide) rfl (fun ls hl => ?_)
  have hl : lv_has ls 2 [(1, .int (nI (n))), (0, .ref (q 0))] := hl
  refine lv_aload_n hx hb dX1_clear_10 rfl (lv_at hl 1 rfl) ?_
  refine lv_iconst (v := 0) hx hb dX1_clear_11 (by decide) ?_
  refine x1_put_size C0 hK hP hD hS 0 rfl (Nat.le_of_ble_eq_true rfl) dX1_clear_12 (fun H locs hP hD hS => ?_)
  have hP : va_P D vwCl (rs_M q cI (0) (0) (f) (g) ++ wr) H := hP
  have hD : va_D A (rs_M q cI (0) (0) (f) (g) ++ wr) := hD
  refine lv_iload_n hx hb dX1_clear_15 rfl (lv_at hl 0 rfl) ?_
  exact xr_iret C0 hlk hr (⟨rfl, rfl⟩) hP hD hS dX1_clear_16
set_option maxHeartbeats 4000000 in
set_option maxRecDepth 100000 in
/-- hash -/
theorem m_hash (l : Launch) (D : va_G) (q : Nat → Nat) (cI : ClassId) (tyr : List (ClassId × FieldType)) (wr : va_W) (sz n : Nat) (k : Int32) (f g : Nat → Int32) (hn : n ≤ 2000) : xr_Met l yX1_hash (wU yX1_hash cX1_hash 3 (some .int)) ({ frames := 0, cells := 0, slots := 0, locals := 0 }) [.ref (q 0)] D (rs_ty cI tyr) (rs_M q cI (k) (n) (f) (g) ++ wr) sz (fun v w => v = some (.int (rs_hs f g n)) ∧ w = rs_M q cI (0) n f g ++ wr) 0 0 := by
  refine xr_startQ (by decide) (Nat.le_of_ble_eq_true rfl) ?_
  intro p e s m args below meth c A ls Q hQ C0 hlk hr hP hK hD hA hl
  have hx := C0.1
  have hb := C0.2.1
  have hS : va_S A s.heap s.heap [] := va_S.rf
  have hl : lv_has ls 3 [(0, .ref (q 0))] := hl
  refine lv_aload_n hx hb dX1_hash_0 rfl (lv_at hl 0 rfl) ?_
  refine lv_iconst (v := 0) hx hb dX1_hash_1 (by decide) ?_
  refine x1_put_failed C0 hK hP hD hS 0 rfl (Nat.le_of_ble_eq_true rfl) dX1_hash_2 (fun H locs hP hD hS => ?_)
  have hP : va_P D vwCl (rs_M q cI (0) (n) (f) (g) ++ wr) H := hP
  have hD : va_D A (rs_M q cI (0) (n) (f) (g) ++ wr) := hD
  have loop : ∀ (j : Nat) (i : Nat) (H : Heap) (locs : List Loc) (ls : Array Slot), i + j = n → va_P D vwCl (rs_M q cI (0) (n) (f) (g) ++ wr) H → va_D A (rs_M q cI (0) (n) (f) (g) ++ wr) → va_S A s.heap H locs → lv_has ls 3 [(2, .int (nI i)), (1, .int (rs_hs f g i)), (0, .ref (q 0))] → W p l e ({ frames := 0, cells := 0, slots := 0, locals := 0 }) s m args below meth c H locs 0 0 Q (F0 m 9 ls []) := by
    intro j
    induction j with
    | zero =>
      intro i H locs ls hi hP hD hS hl
      refine lv_iload_n hx hb dX1_hash_9 rfl (lv_at hl 0 rfl) ?_
      refine lv_aload_n hx hb dX1_hash_10 rfl (lv_at hl 2 rfl) ?_
      refine x1_get_size C0 hK hP 0 rfl rfl dX1_hash_11 ?_
      refine lv_icmp_ge hx hb dX1_hash_14 rfl (fun h => ?_) (fun h => absurd (nI_le (by omega) (by omega)) h)
      refine lv_iload_n hx hb dX1_hash_45 rfl (lv_at hl 1 rfl) ?_
      have e : i = n := by omega
      subst e
      rw [hQ]
      exact xr_iret C0 hlk hr (⟨rfl, rfl⟩) hP hD hS dX1_hash_46
    | succ j ih =>
      intro i H locs ls hi hP hD hS hl
      refine lv_iload_n hx hb dX1_hash_9 rfl (lv_at hl 0 rfl) ?_
      refine lv_aload_n hx hb dX1_hash_10 rfl (lv_at hl 2 rfl) ?_
      refine x1_get_size C0 hK hP 0 rfl rfl dX1_hash_11 ?_
      refine lv_icmp_ge hx hb dX1_hash_14 rfl (fun h => absurd h (nI_ge (by omega) (by omega))) (fun h => ?_)
      refine lv_bipush (v := 31) hx hb dX1_hash_17 (by decide) ?_
      refine lv_bipush (v := 31) hx hb dX1_hash_19 (by decide) ?_
      refine lv_iload_n hx hb dX1_hash_21 rfl (lv_at hl 1 rfl) ?_
      refine lv_imul hx hb dX1_hash_22 ?_
      refine lv_aload_n hx hb dX1_hash_23 rfl (lv_at hl 2 rfl) ?_
      refine x1_get_row C0 hK hP 0 rfl rfl dX1_hash_24 ?_
      refine lv_iload_n hx hb dX1_hash_27 rfl (lv_at hl 0 rfl) ?_
      refine xr_ald C0 hK hP 1 rfl (j := i) (by omega) (by decide) dX1_hash_28 ?_
      refine lv_iadd hx hb dX1_hash_29 ?_
      refine lv_imul hx hb dX1_hash_30 ?_
      refine lv_aload_n hx hb dX1_hash_31 rfl (lv_at hl 2 rfl) ?_
      refine x1_get_tags C0 hK hP 0 rfl rfl dX1_hash_32 ?_
      refine lv_iload_n hx hb dX1_hash_35 rfl (lv_at hl 0 rfl) ?_
      refine xr_ald C0 hK hP 2 rfl (j := i) (by omega) (by decide) dX1_hash_36 ?_
      refine lv_iadd hx hb dX1_hash_37 ?_
      refine lv_istore_n hx hb dX1_hash_38 rfl hl (by decide) rfl (fun ls hl => ?_)
      have hl : lv_has ls 3 [(1, .int (rs_hs f g (i + 1))), (2, .int (nI i)), (0, .ref (q 0))] := hl
      refine lv_iinc (k := 1) hx hb dX1_hash_39 hl rfl (rs_inc i) (by decide) rfl (fun ls hl => ?_)
      have hl : lv_has ls 3 [(2, .int (nI (i + 1))), (1, .int (rs_hs f g (i + 1))), (0, .ref (q 0))] := hl
      refine lv_goto hx hb dX1_hash_42 rfl ?_
      exact ih (i + 1) H locs ls (by omega) hP hD hS hl
  refine lv_iconst (v := 1) hx hb dX1_hash_5 (by decide) ?_
  refine lv_istore_n hx hb dX1_hash_6 rfl hl (by decide) rfl (fun ls hl => ?_)
  have hl : lv_has ls 3 [(1, .int (rs_hs f g 0)), (0, .ref (q 0))] := hl
  refine lv_iconst (v := 0) hx hb dX1_hash_7 (by decide) ?_
  refine lv_istore_n hx hb dX1_hash_8 rfl hl (by decide) rfl (fun ls hl => ?_)
  have hl : lv_has ls 3 [(2, .int (nI 0)), (1, .int (rs_hs f g 0)), (0, .ref (q 0))] := hl
  exact loop n 0 _ _ ls (by omega) hP hD hS hl
set_option maxHeartbeats 4000000 in
set_option maxRecDepth 100000 in
/-- fill, in range -/
theorem m_fill0 (l : Launch) (D : va_G) (q : Nat → Nat) (cI : ClassId) (tyr : List (ClassId × FieldType)) (wr : va_W) (sz n : Nat) (k : Int32) (f g : Nat → Int32) (x st : Int32) (c0 : Nat) (hn : n + c0 ≤ 2000) : xr_Met l yX1_fill (wU yX1_fill cX1_fill 5 (some .int)) ({ frames := 1, cells := 0, slots := 0, locals := 21 }) [.ref (q 0), .int x, .int st, .int (nI c0)] D (rs_ty cI tyr) (rs_M q cI (k) (n) (f) (g) ++ wr) sz (fun v w => v = some (.int (nI (n + c0))) ∧ w = rs_M q cI 0 (n + c0) (rs_fi f n x st c0) (rs_tg g n c0) ++ wr) 0 0 := by
  refine xr_startQ (by decide) (Nat.le_of_ble_eq_true rfl) ?_
  intro p e s m args below meth c A ls Q hQ C0 hlk hr hP hK hD hA hl
  have hx := C0.1
  have hb := C0.2.1
  have hS : va_S A s.heap s.heap [] := va_S.rf
  have hl : lv_has ls 5 [(0, .ref (q 0)), (1, .int x), (2, .int st), (3, .int (nI c0))] := hl
  refine lv_aload_n hx hb dX1_fill_0 rfl (lv_at hl 0 rfl) ?_
  refine lv_iconst (v := 0) hx hb dX1_fill_1 (by decide) ?_
  refine x1_put_failed C0 hK hP hD hS 0 rfl (Nat.le_of_ble_eq_true rfl) dX1_fill_2 (fun H locs hP hD hS => ?_)
  have hP : va_P D vwCl (rs_M q cI (0) (n) (f) (g) ++ wr) H := hP
  have hD : va_D A (rs_M q cI (0) (n) (f) (g) ++ wr) := hD
  refine lv_iload_n hx hb dX1_fill_5 rfl (lv_at hl 3 rfl) ?_
  refine lv_if_lt hx hb dX1_fill_6 rfl (fun h => absurd h (nI_pos (by omega))) (fun h => ?_)
  refine lv_iload_n hx hb dX1_fill_9 rfl (lv_at hl 3 rfl) ?_
  refine lv_sipush (v := 2000) hx hb dX1_fill_10 (by decide) ?_
  refine lv_icmp_le hx hb dX1_fill_13 rfl (fun h => ?_) (fun h => absurd (nI_le (b := 2000) (by omega) (by omega)) h)
  refine lv_aload_n hx hb dX1_fill_22 rfl (lv_at hl 0 rfl) ?_
  refine x1_get_size C0 hK hP 0 rfl rfl dX1_fill_23 ?_
  refine lv_iload_n hx hb dX1_fill_26 rfl (lv_at hl 3 rfl) ?_
  refine lv_iadd hx hb dX1_fill_27 ?_
  refine xr_top (nI_add n c0) ?_
  refine lv_sipush (v := 2000) hx hb dX1_fill_28 (by decide) ?_
  refine lv_icmp_le hx hb dX1_fill_31 rfl (fun h => ?_) (fun h => absurd (nI_le (b := 2000) (by omega) (by omega)) h)
  have loop : ∀ (j : Nat) (i : Nat) (H : Heap) (locs : List Loc) (ls : Array Slot), i + j = c0 → va_P D vwCl (rs_M q cI (0) (n + i) (rs_fi f n x st i) (rs_tg g n i) ++ wr) H → va_D A (rs_M q cI (0) (n + i) (rs_fi f n x st i) (rs_tg g n i) ++ wr) → va_S A s.heap H locs → lv_has ls 5 [(4, .int (nI i)), (0, .ref (q 0)), (1, .int x), (2, .int st), (3, .int (nI c0))] → W p l e ({ frames := 1, cells := 0, slots := 0, locals := 21 }) s m args below meth c H locs 0 0 Q (F0 m 43 ls []) := by
    intro j
    induction j with
    | zero =>
      intro i H locs ls hi hP hD hS hl
      refine lv_iload hx hb dX1_fill_43 (lv_at hl 0 rfl) ?_
      refine lv_iload_n hx hb dX1_fill_45 rfl (lv_at hl 4 rfl) ?_
      refine lv_icmp_ge hx hb dX1_fill_46 rfl (fun h => ?_) (fun h => absurd (nI_le (by omega) (by omega)) h)
      refine lv_aload_n hx hb dX1_fill_65 rfl (lv_at hl 1 rfl) ?_
      refine x1_get_size C0 hK hP 0 rfl rfl dX1_fill_66 ?_
      have e : i = c0 := by omega
      subst e
      rw [hQ]
      exact xr_iret C0 hlk hr (⟨rfl, rfl⟩) hP hD hS dX1_fill_69
    | succ j ih =>
      intro i H locs ls hi hP hD hS hl
      refine lv_iload hx hb dX1_fill_43 (lv_at hl 0 rfl) ?_
      refine lv_iload_n hx hb dX1_fill_45 rfl (lv_at hl 4 rfl) ?_
      refine lv_icmp_ge hx hb dX1_fill_46 rfl (fun h => absurd h (nI_ge (by omega) (by omega))) (fun h => ?_)
      refine lv_aload_n hx hb dX1_fill_49 rfl (lv_at hl 1 rfl) ?_
      refine lv_iload_n hx hb dX1_fill_50 rfl (lv_at hl 2 rfl) ?_
      refine lv_iload hx hb dX1_fill_51 (lv_at hl 0 rfl) ?_
      refine lv_iload_n hx hb dX1_fill_53 rfl (lv_at hl 3 rfl) ?_
      refine lv_imul hx hb dX1_fill_54 ?_
      refine lv_iadd hx hb dX1_fill_55 ?_
      refine xr_vcall (As := [.int (x + ((nI i) * st))]) (rest := []) (nA := 1) C0 (m_append l D q cI tyr wr _ (n + i) 0 _ _ (x + nI i * st) (by omega)) (gV wM_X1_X1_append wI_X1_append wV_X1_X1_append wN_X1 wC_X1_append) (by decide +kernel) rfl rfl rfl ⟨by decide, by decide⟩ hK hP hD hS hA 0 rfl rfl hl.1 rfl (Nat.le_of_ble_eq_true rfl) dX1_fill_56 ⟨Nat.le_of_ble_eq_true rfl, Nat.le_of_ble_eq_true rfl⟩ (fun v w H locs hv hP hD hz hS => ?_)
      obtain ⟨rfl, rfl⟩ := hv
      refine lv_iinc (k := 0) hx hb dX1_fill_59 hl rfl (rs_inc i) (by decide) rfl (fun ls hl => ?_)
      have hl : lv_has ls 5 [(4, .int (nI (i + 1))), (0, .ref (q 0)), (1, .int x), (2, .int st), (3, .int (nI c0))] := hl
      refine lv_goto hx hb dX1_fill_62 rfl ?_
      exact ih (i + 1) H locs ls (by omega) hP hD hS hl
  refine lv_iconst (v := 0) hx hb dX1_fill_40 (by decide) ?_
  refine lv_istore hx hb dX1_fill_41 hl (by decide) rfl (fun ls hl => ?_)
  have hl : lv_has ls 5 [(4, .int (nI 0)), (0, .ref (q 0)), (1, .int x), (2, .int st), (3, .int (nI c0))] := hl
  exact loop c0 0 _ _ ls (by omega) hP hD hS hl
set_option maxHeartbeats 4000000 in
set_option maxRecDepth 100000 in
/-- fill, n out of range -/
theorem m_fill1 (l : Launch) (D : va_G) (q : Nat → Nat) (cI : ClassId) (tyr : List (ClassId × FieldType)) (wr : va_W) (sz n : Nat) (k : Int32) (f g : Nat → Int32) (x st y : Int32) (hbad : y < 0 ∨ 2000 < y) : xr_Met l yX1_fill (wU yX1_fill cX1_fill 5 (some .int)) ({ frames := 1, cells := 0, slots := 0, locals := 21 }) [.ref (q 0), .int x, .int st, .int y] D (rs_ty cI tyr) (rs_M q cI (k) (n) (f) (g) ++ wr) sz (fun v w => v = some (.int 0) ∧ w = rs_M q cI (1) n f g ++ wr) 0 0 := by
  refine xr_start (by decide) (Nat.le_of_ble_eq_true rfl) ?_
  intro p e s m args below meth c A ls C0 hlk hr hnm hP hK hD hA hl
  have hx := C0.1
  have hb := C0.2.1
  have hS : va_S A s.heap s.heap [] := va_S.rf
  have hl : lv_has ls 5 [(0, .ref (q 0)), (1, .int x), (2, .int st), (3, .int y)] := hl
  refine lv_aload_n hx hb dX1_fill_0 rfl (lv_at hl 0 rfl) ?_
  refine lv_iconst (v := 0) hx hb dX1_fill_1 (by decide) ?_
  refine x1_put_failed C0 hK hP hD hS 0 rfl (Nat.le_of_ble_eq_true rfl) dX1_fill_2 (fun H locs hP hD hS => ?_)
  have hP : va_P D vwCl (rs_M q cI (0) (n) (f) (g) ++ wr) H := hP
  have hD : va_D A (rs_M q cI (0) (n) (f) (g) ++ wr) := hD
  refine lv_iload_n hx hb dX1_fill_5 rfl (lv_at hl 3 rfl) ?_
  refine lv_if_lt hx hb dX1_fill_6 rfl (fun h => ?_) (fun h => ?_)
  · skip
    refine lv_aload_n hx hb dX1_fill_16 rfl (lv_at hl 0 rfl) ?_
    refine lv_iconst (v := 1) hx hb dX1_fill_17 (by decide) ?_
    refine xr_vcall (As := [.int 1]) (rest := []) (nA := 1) C0 (m_fail l D q cI tyr wr _ n 0 f g 1) (gV wM_X1_X1_fail wI_X1_fail wV_X1_X1_fail wN_X1 wC_X1_fail) (by decide +kernel) rfl rfl rfl ⟨by decide, by decide⟩ hK hP hD hS hA 0 rfl rfl hl.1 rfl (Nat.le_of_ble_eq_true rfl) dX1_fill_18 ⟨Nat.le_of_ble_eq_true rfl, Nat.le_of_ble_eq_true rfl⟩ (fun v w H locs hv hP hD hz hS => ?_)
    obtain ⟨rfl, rfl⟩ := hv
    exact xr_iret C0 hlk hr (⟨rfl, rfl⟩) hP hD hS dX1_fill_21
  · skip
    have n1 := h
    refine lv_iload_n hx hb dX1_fill_9 rfl (lv_at hl 3 rfl) ?_
    refine lv_sipush (v := 2000) hx hb dX1_fill_10 (by decide) ?_
    refine lv_icmp_le hx hb dX1_fill_13 rfl (fun h => absurd h (rs_lt_nle (hbad.resolve_left n1))) (fun h => ?_)
    refine lv_aload_n hx hb dX1_fill_16 rfl (lv_at hl 0 rfl) ?_
    refine lv_iconst (v := 1) hx hb dX1_fill_17 (by decide) ?_
    refine xr_vcall (As := [.int 1]) (rest := []) (nA := 1) C0 (m_fail l D q cI tyr wr _ n 0 f g 1) (gV wM_X1_X1_fail wI_X1_fail wV_X1_X1_fail wN_X1 wC_X1_fail) (by decide +kernel) rfl rfl rfl ⟨by decide, by decide⟩ hK hP hD hS hA 0 rfl rfl hl.1 rfl (Nat.le_of_ble_eq_true rfl) dX1_fill_18 ⟨Nat.le_of_ble_eq_true rfl, Nat.le_of_ble_eq_true rfl⟩ (fun v w H locs hv hP hD hz hS => ?_)
    obtain ⟨rfl, rfl⟩ := hv
    exact xr_iret C0 hlk hr (⟨rfl, rfl⟩) hP hD hS dX1_fill_21
set_option maxHeartbeats 4000000 in
set_option maxRecDepth 100000 in
/-- fill, no room -/
theorem m_fill2 (l : Launch) (D : va_G) (q : Nat → Nat) (cI : ClassId) (tyr : List (ClassId × FieldType)) (wr : va_W) (sz n : Nat) (k : Int32) (f g : Nat → Int32) (x st : Int32) (c0 : Nat) (hc : c0 ≤ 2000) (hn2 : n ≤ 2000) (hn : 2000 < n + c0) : xr_Met l yX1_fill (wU yX1_fill cX1_fill 5 (some .int)) ({ frames := 1, cells := 0, slots := 0, locals := 21 }) [.ref (q 0), .int x, .int st, .int (nI c0)] D (rs_ty cI tyr) (rs_M q cI (k) (n) (f) (g) ++ wr) sz (fun v w => v = some (.int 0) ∧ w = rs_M q cI (2) n f g ++ wr) 0 0 := by
  refine xr_start (by decide) (Nat.le_of_ble_eq_true rfl) ?_
  intro p e s m args below meth c A ls C0 hlk hr hnm hP hK hD hA hl
  have hx := C0.1
  have hb := C0.2.1
  have hS : va_S A s.heap s.heap [] := va_S.rf
  have hl : lv_has ls 5 [(0, .ref (q 0)), (1, .int x), (2, .int st), (3, .int (nI c0))] := hl
  refine lv_aload_n hx hb dX1_fill_0 rfl (lv_at hl 0 rfl) ?_
  refine lv_iconst (v := 0) hx hb dX1_fill_1 (by decide) ?_
  refine x1_put_failed C0 hK hP hD hS 0 rfl (Nat.le_of_ble_eq_true rfl) dX1_fill_2 (fun H locs hP hD hS => ?_)
  have hP : va_P D vwCl (rs_M q cI (0) (n) (f) (g) ++ wr) H := hP
  have hD : va_D A (rs_M q cI (0) (n) (f) (g) ++ wr) := hD
  refine lv_iload_n hx hb dX1_fill_5 rfl (lv_at hl 3 rfl) ?_
  refine lv_if_lt hx hb dX1_fill_6 rfl (fun h => absurd h (nI_pos (by omega))) (fun h => ?_)
  refine lv_iload_n hx hb dX1_fill_9 rfl (lv_at hl 3 rfl) ?_
  refine lv_sipush (v := 2000) hx hb dX1_fill_10 (by decide) ?_
  refine lv_icmp_le hx hb dX1_fill_13 rfl (fun h => ?_) (fun h => absurd (nI_le (b := 2000) (by omega) (by omega)) h)
  refine lv_aload_n hx hb dX1_fill_22 rfl (lv_at hl 0 rfl) ?_
  refine x1_get_size C0 hK hP 0 rfl rfl dX1_fill_23 ?_
  refine lv_iload_n hx hb dX1_fill_26 rfl (lv_at hl 3 rfl) ?_
  refine lv_iadd hx hb dX1_fill_27 ?_
  refine xr_top (nI_add n c0) ?_
  refine lv_sipush (v := 2000) hx hb dX1_fill_28 (by decide) ?_
  refine lv_icmp_le hx hb dX1_fill_31 rfl (fun h => absurd h (nI_ge (a := 2000) (by omega) (by omega))) (fun h => ?_)
  refine lv_aload_n hx hb dX1_fill_34 rfl (lv_at hl 0 rfl) ?_
  refine lv_iconst (v := 2) hx hb dX1_fill_35 (by decide) ?_
  refine xr_vcall (As := [.int 2]) (rest := []) (nA := 1) C0 (m_fail l D q cI tyr wr _ n 0 f g 2) (gV wM_X1_X1_fail wI_X1_fail wV_X1_X1_fail wN_X1 wC_X1_fail) (by decide +kernel) rfl rfl rfl ⟨by decide, by decide⟩ hK hP hD hS hA 0 rfl rfl hl.1 rfl (Nat.le_of_ble_eq_true rfl) dX1_fill_36 ⟨Nat.le_of_ble_eq_true rfl, Nat.le_of_ble_eq_true rfl⟩ (fun v w H locs hv hP hD hz hS => ?_)
  obtain ⟨rfl, rfl⟩ := hv
  exact xr_iret C0 hlk hr (⟨rfl, rfl⟩) hP hD hS dX1_fill_39
set_option maxHeartbeats 4000000 in
set_option maxRecDepth 100000 in
/-- scatter, in range -/
theorem m_scatter0 (l : Launch) (D : va_G) (q : Nat → Nat) (cI : ClassId) (tyr : List (ClassId × FieldType)) (wr : va_W) (sz n : Nat) (k : Int32) (f g : Nat → Int32) (x b : Int32) (c0 : Nat) (hb1 : ¬ b < 1) (hb2 : b ≤ 16) (hn : n + c0 ≤ 2000) : xr_Met l yX1_scatter (wU yX1_scatter cX1_scatter 6 (some .int)) ({ frames := 1, cells := 0, slots := 0, locals := 21 }) [.ref (q 0), .int x, .int b, .int (nI c0)] D (rs_ty cI tyr) (rs_M q cI (k) (n) (f) (g) ++ wr) sz (fun v w => v = some (.int (nI (n + c0))) ∧ w = rs_M q cI 0 (n + c0) (rs_sc f n x b c0) (rs_tg g n c0) ++ wr) 0 0 := by
  refine xr_startQ (by decide) (Nat.le_of_ble_eq_true rfl) ?_
  intro p e s m args below meth c A ls Q hQ C0 hlk hr hP hK hD hA hl
  have hx := C0.1
  have hb := C0.2.1
  have hS : va_S A s.heap s.heap [] := va_S.rf
  have hl : lv_has ls 6 [(0, .ref (q 0)), (1, .int x), (2, .int b), (3, .int (nI c0))] := hl
  refine lv_aload_n hx hb dX1_scatter_0 rfl (lv_at hl 0 rfl) ?_
  refine lv_iconst (v := 0) hx hb dX1_scatter_1 (by decide) ?_
  refine x1_put_failed C0 hK hP hD hS 0 rfl (Nat.le_of_ble_eq_true rfl) dX1_scatter_2 (fun H locs hP hD hS => ?_)
  have hP : va_P D vwCl (rs_M q cI (0) (n) (f) (g) ++ wr) H := hP
  have hD : va_D A (rs_M q cI (0) (n) (f) (g) ++ wr) := hD
  refine lv_iload_n hx hb dX1_scatter_5 rfl (lv_at hl 3 rfl) ?_
  refine lv_if_lt hx hb dX1_scatter_6 rfl (fun h => absurd h (nI_pos (by omega))) (fun h => ?_)
  refine lv_iload_n hx hb dX1_scatter_9 rfl (lv_at hl 3 rfl) ?_
  refine lv_sipush (v := 2000) hx hb dX1_scatter_10 (by decide) ?_
  refine lv_icmp_gt hx hb dX1_scatter_13 rfl (fun h => absurd h (nI_nlt (a := 2000) (by omega) (by omega))) (fun h => ?_)
  refine lv_iload_n hx hb dX1_scatter_16 rfl (lv_at hl 2 rfl) ?_
  refine lv_iconst (v := 1) hx hb dX1_scatter_17 (by decide) ?_
  refine lv_icmp_lt hx hb dX1_scatter_18 rfl (fun h => absurd h hb1) (fun h => ?_)
  refine lv_iload_n hx hb dX1_scatter_21 rfl (lv_at hl 2 rfl) ?_
  refine lv_bipush (v := 16) hx hb dX1_scatter_22 (by decide) ?_
  refine lv_icmp_le hx hb dX1_scatter_24 rfl (fun h => ?_) (fun h => absurd hb2 h)
  refine lv_aload_n hx hb dX1_scatter_33 rfl (lv_at hl 0 rfl) ?_
  refine x1_get_size C0 hK hP 0 rfl rfl dX1_scatter_34 ?_
  refine lv_iload_n hx hb dX1_scatter_37 rfl (lv_at hl 3 rfl) ?_
  refine lv_iadd hx hb dX1_scatter_38 ?_
  refine xr_top (nI_add n c0) ?_
  refine lv_sipush (v := 2000) hx hb dX1_scatter_39 (by decide) ?_
  refine lv_icmp_le hx hb dX1_scatter_42 rfl (fun h => ?_) (fun h => absurd (nI_le (b := 2000) (by omega) (by omega)) h)
  have loop : ∀ (j : Nat) (i : Nat) (H : Heap) (locs : List Loc) (ls : Array Slot), i + j = c0 → va_P D vwCl (rs_M q cI (0) (n + i) (rs_sc f n x b i) (rs_tg g n i) ++ wr) H → va_D A (rs_M q cI (0) (n + i) (rs_sc f n x b i) (rs_tg g n i) ++ wr) → va_S A s.heap H locs → lv_has ls 6 [(5, .int (nI i)), (4, .int (rs_sd x i)), (0, .ref (q 0)), (1, .int x), (2, .int b), (3, .int (nI c0))] → W p l e ({ frames := 1, cells := 0, slots := 0, locals := 21 }) s m args below meth c H locs 0 0 Q (F0 m 57 ls []) := by
    intro j
    induction j with
    | zero =>
      intro i H locs ls hi hP hD hS hl
      refine lv_iload hx hb dX1_scatter_57 (lv_at hl 0 rfl) ?_
      refine lv_iload_n hx hb dX1_scatter_59 rfl (lv_at hl 5 rfl) ?_
      refine lv_icmp_ge hx hb dX1_scatter_60 rfl (fun h => ?_) (fun h => absurd (nI_le (by omega) (by omega)) h)
      refine lv_aload_n hx hb dX1_scatter_94 rfl (lv_at hl 2 rfl) ?_
      refine x1_get_size C0 hK hP 0 rfl rfl dX1_scatter_95 ?_
      have e : i = c0 := by omega
      subst e
      rw [hQ]
      exact xr_iret C0 hlk hr (⟨rfl, rfl⟩) hP hD hS dX1_scatter_98
    | succ j ih =>
      intro i H locs ls hi hP hD hS hl
      refine lv_iload hx hb dX1_scatter_57 (lv_at hl 0 rfl) ?_
      refine lv_iload_n hx hb dX1_scatter_59 rfl (lv_at hl 5 rfl) ?_
      refine lv_icmp_ge hx hb dX1_scatter_60 rfl (fun h => absurd h (nI_ge (by omega) (by omega))) (fun h => ?_)
      refine lv_ldc (v := 1664525) hx hb C0.2.2.2.1 (C0.2.2.2.2 _ wQ_X1_32) dX1_scatter_63 ?_
      refine lv_iload hx hb dX1_scatter_65 (lv_at hl 1 rfl) ?_
      refine lv_imul hx hb dX1_scatter_67 ?_
      refine lv_ldc (v := 1013904223) hx hb C0.2.2.2.1 (C0.2.2.2.2 _ wQ_X1_33) dX1_scatter_68 ?_
      refine lv_iadd hx hb dX1_scatter_70 ?_
      refine lv_istore hx hb dX1_scatter_71 hl (by decide) rfl (fun ls hl => ?_)
      have hl : lv_has ls 6 [(4, .int (rs_sd x (i + 1))), (5, .int (nI i)), (0, .ref (q 0)), (1, .int x), (2, .int b), (3, .int (nI c0))] := hl
      refine lv_aload_n hx hb dX1_scatter_73 rfl (lv_at hl 2 rfl) ?_
      refine lv_iload hx hb dX1_scatter_74 (lv_at hl 0 rfl) ?_
      refine lv_bipush (v := 16) hx hb dX1_scatter_76 (by decide) ?_
      refine lv_iushr hx hb dX1_scatter_78 rfl ?_
      refine lv_iconst (v := 1) hx hb dX1_scatter_79 (by decide) ?_
      refine lv_iload_n hx hb dX1_scatter_80 rfl (lv_at hl 4 rfl) ?_
      refine lv_ishl hx hb dX1_scatter_81 ?_
      refine lv_iconst (v := 1) hx hb dX1_scatter_82 (by decide) ?_
      refine lv_isub hx hb dX1_scatter_83 ?_
      refine lv_iand hx hb dX1_scatter_84 ?_
      refine xr_vcall (As := [.int ((((rs_sd x (i + 1)).toUInt32 >>> ((16 : Int32).toUInt32 &&& Int32.toUInt32 31)).toInt32) &&& ((1 <<< (b &&& 31)) - 1))]) (rest := []) (nA := 1) C0 (m_append l D q cI tyr wr _ (n + i) 0 _ _ _ (by omega)) (gV wM_X1_X1_append wI_X1_append wV_X1_X1_append wN_X1 wC_X1_append) (by decide +kernel) rfl rfl rfl ⟨by decide, by decide⟩ hK hP hD hS hA 0 rfl rfl hl.1 rfl (Nat.le_of_ble_eq_true rfl) dX1_scatter_85 ⟨Nat.le_of_ble_eq_true rfl, Nat.le_of_ble_eq_true rfl⟩ (fun v w H locs hv hP hD hz hS => ?_)
      obtain ⟨rfl, rfl⟩ := hv
      have hl : lv_has ls 6 [(4, .int (rs_sd x (i + 1))), (0, .ref (q 0)), (1, .int x), (2, .int b), (3, .int (nI c0)), (5, .int (nI i))] := lv_sub hl [0, 2, 3, 4, 5, 1] rfl
      refine lv_iinc (k := 5) hx hb dX1_scatter_88 hl rfl (rs_inc i) (by decide) rfl (fun ls hl => ?_)
      have hl : lv_has ls 6 [(5, .int (nI (i + 1))), (4, .int (rs_sd x (i + 1))), (0, .ref (q 0)), (1, .int x), (2, .int b), (3, .int (nI c0))] := hl
      refine lv_goto hx hb dX1_scatter_91 rfl ?_
      exact ih (i + 1) H locs ls (by omega) hP hD hS hl
  refine lv_iload_n hx hb dX1_scatter_51 rfl (lv_at hl 1 rfl) ?_
  refine lv_istore hx hb dX1_scatter_52 hl (by decide) rfl (fun ls hl => ?_)
  have hl : lv_has ls 6 [(4, .int (rs_sd x 0)), (0, .ref (q 0)), (1, .int x), (2, .int b), (3, .int (nI c0))] := hl
  refine lv_iconst (v := 0) hx hb dX1_scatter_54 (by decide) ?_
  refine lv_istore hx hb dX1_scatter_55 hl (by decide) rfl (fun ls hl => ?_)
  have hl : lv_has ls 6 [(5, .int (nI 0)), (4, .int (rs_sd x 0)), (0, .ref (q 0)), (1, .int x), (2, .int b), (3, .int (nI c0))] := hl
  exact loop c0 0 _ _ ls (by omega) hP hD hS hl
set_option maxHeartbeats 4000000 in
set_option maxRecDepth 100000 in
/-- scatter, a number out of range -/
theorem m_scatter1 (l : Launch) (D : va_G) (q : Nat → Nat) (cI : ClassId) (tyr : List (ClassId × FieldType)) (wr : va_W) (sz n : Nat) (k : Int32) (f g : Nat → Int32) (x b y : Int32) (hbad : y < 0 ∨ 2000 < y ∨ b < 1 ∨ 16 < b) : xr_Met l yX1_scatter (wU yX1_scatter cX1_scatter 6 (some .int)) ({ frames := 1, cells := 0, slots := 0, locals := 21 }) [.ref (q 0), .int x, .int b, .int y] D (rs_ty cI tyr) (rs_M q cI (k) (n) (f) (g) ++ wr) sz (fun v w => v = some (.int 0) ∧ w = rs_M q cI (1) n f g ++ wr) 0 0 := by
  refine xr_start (by decide) (Nat.le_of_ble_eq_true rfl) ?_
  intro p e s m args below meth c A ls C0 hlk hr hnm hP hK hD hA hl
  have hx := C0.1
  have hb := C0.2.1
  have hS : va_S A s.heap s.heap [] := va_S.rf
  have hl : lv_has ls 6 [(0, .ref (q 0)), (1, .int x), (2, .int b), (3, .int y)] := hl
  refine lv_aload_n hx hb dX1_scatter_0 rfl (lv_at hl 0 rfl) ?_
  refine lv_iconst (v := 0) hx hb dX1_scatter_1 (by decide) ?_
  refine x1_put_failed C0 hK hP hD hS 0 rfl (Nat.le_of_ble_eq_true rfl) dX1_scatter_2 (fun H locs hP hD hS => ?_)
  have hP : va_P D vwCl (rs_M q cI (0) (n) (f) (g) ++ wr) H := hP
  have hD : va_D A (rs_M q cI (0) (n) (f) (g) ++ wr) := hD
  refine lv_iload_n hx hb dX1_scatter_5 rfl (lv_at hl 3 rfl) ?_
  refine lv_if_lt hx hb dX1_scatter_6 rfl (fun h => ?_) (fun h => ?_)
  · skip
    refine lv_aload_n hx hb dX1_scatter_27 rfl (lv_at hl 0 rfl) ?_
    refine lv_iconst (v := 1) hx hb dX1_scatter_28 (by decide) ?_
    refine xr_vcall (As := [.int 1]) (rest := []) (nA := 1) C0 (m_fail l D q cI tyr wr _ n 0 f g 1) (gV wM_X1_X1_fail wI_X1_fail wV_X1_X1_fail wN_X1 wC_X1_fail) (by decide +kernel) rfl rfl rfl ⟨by decide, by decide⟩ hK hP hD hS hA 0 rfl rfl hl.1 rfl (Nat.le_of_ble_eq_true rfl) dX1_scatter_29 ⟨Nat.le_of_ble_eq_true rfl, Nat.le_of_ble_eq_true rfl⟩ (fun v w H locs hv hP hD hz hS => ?_)
    obtain ⟨rfl, rfl⟩ := hv
    exact xr_iret C0 hlk hr (⟨rfl, rfl⟩) hP hD hS dX1_scatter_32
  · skip
    have n1 := h
    refine lv_iload_n hx hb dX1_scatter_9 rfl (lv_at hl 3 rfl) ?_
    refine lv_sipush (v := 2000) hx hb dX1_scatter_10 (by decide) ?_
    refine lv_icmp_gt hx hb dX1_scatter_13 rfl (fun h => ?_) (fun h => ?_)
    · skip
      refine lv_aload_n hx hb dX1_scatter_27 rfl (lv_at hl 0 rfl) ?_
      refine lv_iconst (v := 1) hx hb dX1_scatter_28 (by decide) ?_
      refine xr_vcall (As := [.int 1]) (rest := []) (nA := 1) C0 (m_fail l D q cI tyr wr _ n 0 f g 1) (gV wM_X1_X1_fail wI_X1_fail wV_X1_X1_fail wN_X1 wC_X1_fail) (by decide +kernel) rfl rfl rfl ⟨by decide, by decide⟩ hK hP hD hS hA 0 rfl rfl hl.1 rfl (Nat.le_of_ble_eq_true rfl) dX1_scatter_29 ⟨Nat.le_of_ble_eq_true rfl, Nat.le_of_ble_eq_true rfl⟩ (fun v w H locs hv hP hD hz hS => ?_)
      obtain ⟨rfl, rfl⟩ := hv
      exact xr_iret C0 hlk hr (⟨rfl, rfl⟩) hP hD hS dX1_scatter_32
    · skip
      have n2 := h
      refine lv_iload_n hx hb dX1_scatter_16 rfl (lv_at hl 2 rfl) ?_
      refine lv_iconst (v := 1) hx hb dX1_scatter_17 (by decide) ?_
      refine lv_icmp_lt hx hb dX1_scatter_18 rfl (fun h => ?_) (fun h => ?_)
      · skip
        refine lv_aload_n hx hb dX1_scatter_27 rfl (lv_at hl 0 rfl) ?_
        refine lv_iconst (v := 1) hx hb dX1_scatter_28 (by decide) ?_
        refine xr_vcall (As := [.int 1]) (rest := []) (nA := 1) C0 (m_fail l D q cI tyr wr _ n 0 f g 1) (gV wM_X1_X1_fail wI_X1_fail wV_X1_X1_fail wN_X1 wC_X1_fail) (by decide +kernel) rfl rfl rfl ⟨by decide, by decide⟩ hK hP hD hS hA 0 rfl rfl hl.1 rfl (Nat.le_of_ble_eq_true rfl) dX1_scatter_29 ⟨Nat.le_of_ble_eq_true rfl, Nat.le_of_ble_eq_true rfl⟩ (fun v w H locs hv hP hD hz hS => ?_)
        obtain ⟨rfl, rfl⟩ := hv
        exact xr_iret C0 hlk hr (⟨rfl, rfl⟩) hP hD hS dX1_scatter_32
      · skip
        have n3 := h
        refine lv_iload_n hx hb dX1_scatter_21 rfl (lv_at hl 2 rfl) ?_
        refine lv_bipush (v := 16) hx hb dX1_scatter_22 (by decide) ?_
        refine lv_icmp_le hx hb dX1_scatter_24 rfl (fun h => absurd h (rs_lt_nle (((hbad.resolve_left n1).resolve_left n2).resolve_left n3))) (fun h => ?_)
        refine lv_aload_n hx hb dX1_scatter_27 rfl (lv_at hl 0 rfl) ?_
        refine lv_iconst (v := 1) hx hb dX1_scatter_28 (by decide) ?_
        refine xr_vcall (As := [.int 1]) (rest := []) (nA := 1) C0 (m_fail l D q cI tyr wr _ n 0 f g 1) (gV wM_X1_X1_fail wI_X1_fail wV_X1_X1_fail wN_X1 wC_X1_fail) (by decide +kernel) rfl rfl rfl ⟨by decide, by decide⟩ hK hP hD hS hA 0 rfl rfl hl.1 rfl (Nat.le_of_ble_eq_true rfl) dX1_scatter_29 ⟨Nat.le_of_ble_eq_true rfl, Nat.le_of_ble_eq_true rfl⟩ (fun v w H locs hv hP hD hz hS => ?_)
        obtain ⟨rfl, rfl⟩ := hv
        exact xr_iret C0 hlk hr (⟨rfl, rfl⟩) hP hD hS dX1_scatter_32
set_option maxHeartbeats 4000000 in
set_option maxRecDepth 100000 in
/-- scatter, no room -/
theorem m_scatter2 (l : Launch) (D : va_G) (q : Nat → Nat) (cI : ClassId) (tyr : List (ClassId × FieldType)) (wr : va_W) (sz n : Nat) (k : Int32) (f g : Nat → Int32) (x b : Int32) (c0 : Nat) (hb1 : ¬ b < 1) (hb2 : b ≤ 16) (hc : c0 ≤ 2000) (hn2 : n ≤ 2000) (hn : 2000 < n + c0) : xr_Met l yX1_scatter (wU yX1_scatter cX1_scatter 6 (some .int)) ({ frames := 1, cells := 0, slots := 0, locals := 21 }) [.ref (q 0), .int x, .int b, .int (nI c0)] D (rs_ty cI tyr) (rs_M q cI (k) (n) (f) (g) ++ wr) sz (fun v w => v = some (.int 0) ∧ w = rs_M q cI (2) n f g ++ wr) 0 0 := by
  refine xr_start (by decide) (Nat.le_of_ble_eq_true rfl) ?_
  intro p e s m args below meth c A ls C0 hlk hr hnm hP hK hD hA hl
  have hx := C0.1
  have hb := C0.2.1
  have hS : va_S A s.heap s.heap [] := va_S.rf
  have hl : lv_has ls 6 [(0, .ref (q 0)), (1, .int x), (2, .int b), (3, .int (nI c0))] := hl
  refine lv_aload_n hx hb dX1_scatter_0 rfl (lv_at hl 0 rfl) ?_
  refine lv_iconst (v := 0) hx hb dX1_scatter_1 (by decide) ?_
  refine x1_put_failed C0 hK hP hD hS 0 rfl (Nat.le_of_ble_eq_true rfl) dX1_scatter_2 (fun H locs hP hD hS => ?_)
  have hP : va_P D vwCl (rs_M q cI (0) (n) (f) (g) ++ wr) H := hP
  have hD : va_D A (rs_M q cI (0) (n) (f) (g) ++ wr) := hD
  refine lv_iload_n hx hb dX1_scatter_5 rfl (lv_at hl 3 rfl) ?_
  refine lv_if_lt hx hb dX1_scatter_6 rfl (fun h => absurd h (nI_pos (by omega))) (fun h => ?_)
  refine lv_iload_n hx hb dX1_scatter_9 rfl (lv_at hl 3 rfl) ?_
  refine lv_sipush (v := 2000) hx hb dX1_scatter_10 (by decide) ?_
  refine lv_icmp_gt hx hb dX1_scatter_13 rfl (fun h => absurd h (nI_nlt (a := 2000) (by omega) (by omega))) (fun h => ?_)
  refine lv_iload_n hx hb dX1_scatter_16 rfl (lv_at hl 2 rfl) ?_
  refine lv_iconst (v := 1) hx hb dX1_scatter_17 (by decide) ?_
  refine lv_icmp_lt hx hb dX1_scatter_18 rfl (fun h => absurd h hb1) (fun h => ?_)
  refine lv_iload_n hx hb dX1_scatter_21 rfl (lv_at hl 2 rfl) ?_
  refine lv_bipush (v := 16) hx hb dX1_scatter_22 (by decide) ?_
  refine lv_icmp_le hx hb dX1_scatter_24 rfl (fun h => ?_) (fun h => absurd hb2 h)
  refine lv_aload_n hx hb dX1_scatter_33 rfl (lv_at hl 0 rfl) ?_
  refine x1_get_size C0 hK hP 0 rfl rfl dX1_scatter_34 ?_
  refine lv_iload_n hx hb dX1_scatter_37 rfl (lv_at hl 3 rfl) ?_
  refine lv_iadd hx hb dX1_scatter_38 ?_
  refine xr_top (nI_add n c0) ?_
  refine lv_sipush (v := 2000) hx hb dX1_scatter_39 (by decide) ?_
  refine lv_icmp_le hx hb dX1_scatter_42 rfl (fun h => absurd h (nI_ge (a := 2000) (by omega) (by omega))) (fun h => ?_)
  refine lv_aload_n hx hb dX1_scatter_45 rfl (lv_at hl 0 rfl) ?_
  refine lv_iconst (v := 2) hx hb dX1_scatter_46 (by decide) ?_
  refine xr_vcall (As := [.int 2]) (rest := []) (nA := 1) C0 (m_fail l D q cI tyr wr _ n 0 f g 2) (gV wM_X1_X1_fail wI_X1_fail wV_X1_X1_fail wN_X1 wC_X1_fail) (by decide +kernel) rfl rfl rfl ⟨by decide, by decide⟩ hK hP hD hS hA 0 rfl rfl hl.1 rfl (Nat.le_of_ble_eq_true rfl) dX1_scatter_47 ⟨Nat.le_of_ble_eq_true rfl, Nat.le_of_ble_eq_true rfl⟩ (fun v w H locs hv hP hD hz hS => ?_)
  obtain ⟨rfl, rfl⟩ := hv
  exact xr_iret C0 hlk hr (⟨rfl, rfl⟩) hP hD hS dX1_scatter_50
