/-! Rows for arraycopy, Math.min, newarray; the class's findRuns and merge (rows laid by wip/whole/p09.py). -/
theorem wC_min : Cond.code Lib.Math.min.name Lib.Math.min.code 2 (some .int) ∈ lw_w := mW 206 (by decide +kernel) (by decide +kernel)
theorem wM_min : Cond.methodLink RX0 85 Lib.Math.min.name ∈ lw_w := mW 204 (by decide +kernel) (by decide +kernel)
theorem wS_min : Cond.static Lib.Math.min.name ∈ lw_w := mW 205 (by decide +kernel) (by decide +kernel)
theorem wM_cpy : Cond.methodLink RX0 90 arraycopyName ∈ lw_w := mW 201 (by decide +kernel) (by decide +kernel)
theorem wS_cpy : Cond.static arraycopyName ∈ lw_w := wS_System_arraycopy
theorem wT_cpy : Cond.native arraycopyName ∈ lw_w := wT_System_arraycopy
section XR3
variable {p : Program} {l : Launch} {e : Env} {R : Room} {s : State} {m : MethodId} {args : Array Value} {below : List Frame} {meth : Method} {c : Code} {H : Heap} {locs : List Loc} {cells slots : Nat} {Q : State → Prop}
variable {D : va_G} {tys : List (ClassId × FieldType)} {A : Nat → Prop} {ws : va_W} {cc : ByteArray} {nL pc : Nat} {own : String} {ls : Array Slot} {st0 rest : List Value}
theorem xr_copy {cI : ClassId} {tyr : List (ClassId × FieldType)} {n0 n1 a0 a1 : Nat} {f g : Nat → Int32} (C0 : CallFix p m c cc nL s args lw_w RX0) (hls : ls.size = nL) (hK : va_K D vwCl ((cI, .int) :: tyr) s) (hP : va_P D vwCl ws H) (hD : va_D A ws) (hS : va_S A s.heap H locs) (q0 q1 : Nat) (ha0 : ws[q0]? = some (a0, .inl (cI, n0, .inl f))) (ha1 : ws[q1]? = some (a1, .inl (cI, n1, .inl g)))
    {sp k : Nat} (h4 : sp + k ≤ n0) (h5 : k ≤ n1) (hn0 : n0 < 2 ^ 31) (hn1 : n1 < 2 ^ 31) (hframes : 1 ≤ R.frames) (hlocals : (rest.map fun v => v.category).sum + 18 ≤ R.locals) (hdg : decode cc pc = .ok (.invokestatic 90, 3))
    (kk : ∀ (H1 : Heap) (locs1 : List Loc), va_P D vwCl (ws.set q1 (a1, .inl (cI, n1, .inl (va_cpy f g sp 0 k)))) H1 → va_D A (ws.set q1 (a1, .inl (cI, n1, .inl (va_cpy f g sp 0 k)))) → va_S A s.heap H1 locs1 → W p l e R s m args below meth c H1 locs1 cells slots Q (F0 m (pc + 3) ls rest)) : W p l e R s m args below meth c H locs cells slots Q (F0 m pc ls (.int (nI k) :: .int 0 :: .ref a1 :: .int (nI sp) :: .ref a0 :: rest)) := by
  have e1 : (nI sp).toNatClampNeg = sp := nI_clamp (by omega)
  have e2 : (nI k).toNatClampNeg = k := nI_clamp (by omega)
  have e3 : (0 : Int32).toNatClampNeg = 0 := sb_cl0
  refine va_copyi (ty := .int) C0.1 C0.2.1 (C0.2.2.1.trans hls.symm) C0.2.2.2.1 (C0.2.2.2.2 _ wM_cpy) (C0.2.2.2.2 _ wT_cpy) (C0.2.2.2.2 _ wS_cpy) (C0.2.2.2.2 _ wN_System) hK hP hD hS q0 q1 0 0 ha0 ha1 rfl rfl rfl (nI_pos (by omega)) (by decide) (nI_pos (by omega)) (by rw [e1, e2]; exact h4) (by rw [e3, e2]; omega) (fun _ _ => rfl) hframes (by have hw : nativeFrameWords "java/lang/System" "arraycopy" 5 = 7 := (by decide); omega) hdg ?_
  rw [e1, e2, e3]
  exact kk
theorem xr_min {a b : Nat} (ha : a < 2 ^ 31) (hb' : b < 2 ^ 31) (C0 : CallFix p m c cc nL s args lw_w RX0) (hls : ls.size = nL) (hframes : 1 ≤ R.frames) (hlocals : (rest.map fun v => v.category).sum + 13 ≤ R.locals) (hc : cells ≤ R.cells) (hs : slots ≤ R.slots) (hdg : decode cc pc = .ok (.invokestatic 85, 3))
    (kk : W p l e R s m args below meth c H locs cells slots Q (F0 m (pc + 3) ls (.int (nI (min a b)) :: rest))) : W p l e R s m args below meth c H locs cells slots Q (F0 m pc ls (.int (nI b) :: .int (nI a) :: rest)) := by
  refine va_mmin C0.1 C0.2.1 (C0.2.2.1.trans hls.symm) C0.2.2.2.1 (C0.2.2.2.2 _ wM_min) (C0.2.2.2.2 _ wS_min) (C0.2.2.2.2 _ wN_Math) (C0.2.2.2.2 _ wC_min) hframes hlocals hc hs hdg ?_
  have e : (if nI b < nI a then nI b else nI a) = nI (min a b) := by
    by_cases h : b < a
    · rw [if_pos (nI_lt h ha), show min a b = b by omega]
    · rw [if_neg (nI_nlt (by omega) hb'), show min a b = a by omega]
  rw [e]
  exact kk
/-- a new row of ints: its class is the one that is known -/
theorem xr_newa {cI : ClassId} {tyr : List (ClassId × FieldType)} (C0 : CallFix p m c cc nL s args lw_w own) (hK : va_K D vwCl ((cI, .int) :: tyr) s) (hP : va_P D vwCl ws H) (hD : va_D A ws) (hS : va_S A s.heap H locs) (hA : ∀ q, s.heap.size ≤ q → A q) {N : Nat} {x : Int32} (hx : x = nI N) (hN : N ≤ 100000) (hcells : cells + 1 ≤ R.cells) (hslots : slots + N ≤ R.slots) (hdg : decode cc pc = .ok (.newarray .int, 2))
    (kk : ∀ (q : Nat) (H1 : Heap), va_P D vwCl (ws ++ [(q, .inl (cI, N, .inl (fun _ => 0)))]) H1 → va_D A (ws ++ [(q, .inl (cI, N, .inl (fun _ => 0)))]) → va_S A s.heap H1 locs → W p l e R s m args below meth c H1 locs (cells + 1) (slots + N) Q (F0 m (pc + 2) ls (.ref q :: rest))) : W p l e R s m args below meth c H locs cells slots Q (F0 m pc ls (.int x :: rest)) := by
  subst hx
  refine va_newa (atype := .int) (ty := .int) (a0 := (N, .inl (fun _ => 0))) C0.1 C0.2.1 (C0.2.2.2.2 _ wA_int) rfl hK hP hD hS hA (fun cA => rfl) (nI_pos (by omega)) (nI_clamp (by omega)) (by show N * 4 ≤ _; omega) hcells hslots hdg (fun q cA H1 hK1 hP1 hD1 hS1 => ?_)
  have h1 := (hK1.2 (((cI, FieldType.int) :: tyr).length) (cA, .int) (by simp)).2
  have h2 := (hK.2 0 (cI, .int) rfl).2
  have h3 : cA = cI := Option.some.inj (Eq.trans (Eq.symm h1) h2)
  subst h3
  exact kk q H1 hP1 hD1 hS1
end XR3
set_option maxHeartbeats 4000000 in
set_option maxRecDepth 100000 in
/-- findRuns -/
theorem c_findRuns (l : Launch) (D : va_G) (q : Nat → Nat) (cI : ClassId) (tyr : List (ClassId × FieldType)) (wr : va_W) (sz n : Nat) (f g sf sg r : Nat → Int32) (o : Int32) (a b : Nat) (h1 : a ≤ b) (h2 : b ≤ 2000) : xr_Met l yX0_findRuns (wU yX0_findRuns cX0_findRuns 6 (some .int)) ({ frames := 1, cells := 0, slots := 0, locals := 21 }) [.ref (q 0), .int o, .int (nI a), .int (nI b)] D (rs_ty cI tyr) (rs_X q cI (n) (f) (g) (sf) (sg) (r) ++ wr) sz (fun v w => ∃ (k : Nat) (r' : Nat → Int32), v = some (.int (nI k)) ∧ w = rs_X q cI n f g sf sg r' ++ wr ∧ rs_Rn o a b f g r' k ∧ k ≤ b - a) 0 0 := by
  refine xr_startQ (by decide) (Nat.le_of_ble_eq_true rfl) ?_
  intro p e s m args below meth c A ls Q hQ C0 hlk hr hP hK hD hA hl
  have hx := C0.1
  have hb := C0.2.1
  have hS : va_S A s.heap s.heap [] := va_S.rf
  have hl : lv_has ls 6 [(0, .ref (q 0)), (1, .int o), (2, .int (nI a)), (3, .int (nI b))] := hl
  have loop : ∀ (j : Nat) (i k : Nat) (r : Nat → Int32) (H : Heap) (locs : List Loc) (ls : Array Slot), i + j = b → rs_FI o a f g r i k → va_P D vwCl (rs_X q cI (n) (f) (g) (sf) (sg) (r) ++ wr) H → va_D A (rs_X q cI (n) (f) (g) (sf) (sg) (r) ++ wr) → va_S A s.heap H locs → lv_has ls 6 [(5, .int (nI i)), (4, .int (nI k)), (0, .ref (q 0)), (1, .int o), (2, .int (nI a)), (3, .int (nI b))] → W p l e ({ frames := 1, cells := 0, slots := 0, locals := 21 }) s m args below meth c H locs 0 0 Q (F0 m 6 ls []) := by
    intro j
    induction j with
    | zero =>
      intro i k r H locs ls hi hF hP hD hS hl
      have hk := hF.2.1
      refine lv_iload hx hb dX0_findRuns_6 (lv_at hl 0 rfl) ?_
      refine lv_iload_n hx hb dX0_findRuns_8 rfl (lv_at hl 5 rfl) ?_
      refine lv_icmp_ge hx hb dX0_findRuns_9 rfl (fun h => ?_) (fun h => absurd (nI_le (by omega) (by omega)) h)
      have e : b = i := by omega
      subst e
      refine lv_aload_n hx hb dX0_findRuns_63 rfl (lv_at hl 2 rfl) ?_
      refine x0_get_runStarts C0 hK hP 0 rfl rfl dX0_findRuns_64 ?_
      refine lv_iload hx hb dX0_findRuns_67 (lv_at hl 1 rfl) ?_
      refine lv_iload_n hx hb dX0_findRuns_69 rfl (lv_at hl 5 rfl) ?_
      refine xr_ast C0 hK hP hD hS 5 rfl (j := k) (by omega) (by decide) dX0_findRuns_70 (fun H locs hP hD hS => ?_)
      have hP : va_P D vwCl (rs_X q cI (n) (f) (g) (sf) (sg) (upd r k (nI b)) ++ wr) H := hP
      have hD : va_D A (rs_X q cI (n) (f) (g) (sf) (sg) (upd r k (nI b)) ++ wr) := hD
      refine lv_iload hx hb dX0_findRuns_71 (lv_at hl 1 rfl) ?_
      rw [hQ]
      exact xr_iret C0 hlk hr (⟨k, _, rfl, rfl, hF.done, hk⟩) hP hD hS dX0_findRuns_73
    | succ j ih =>
      intro i k r H locs ls hi hF hP hD hS hl
      have hk := hF.2.1
      have ha := hF.1
      refine lv_iload hx hb dX0_findRuns_6 (lv_at hl 0 rfl) ?_
      refine lv_iload_n hx hb dX0_findRuns_8 rfl (lv_at hl 5 rfl) ?_
      refine lv_icmp_ge hx hb dX0_findRuns_9 rfl (fun h => absurd h (nI_ge (by omega) (by omega))) (fun h => ?_)
      refine lv_iload hx hb dX0_findRuns_12 (lv_at hl 0 rfl) ?_
      refine lv_iload_n hx hb dX0_findRuns_14 rfl (lv_at hl 4 rfl) ?_
      refine lv_icmp_eq hx hb dX0_findRuns_15 rfl (fun h => ?_) (fun h => ?_)
      · skip
        refine lv_aload_n hx hb dX0_findRuns_45 rfl (lv_at hl 2 rfl) ?_
        refine x0_get_runStarts C0 hK hP 0 rfl rfl dX0_findRuns_46 ?_
        refine lv_iload hx hb dX0_findRuns_49 (lv_at hl 1 rfl) ?_
        refine lv_iload hx hb dX0_findRuns_51 (lv_at hl 0 rfl) ?_
        refine xr_ast C0 hK hP hD hS 5 rfl (j := k) (by omega) (by decide) dX0_findRuns_53 (fun H locs hP hD hS => ?_)
        have hP : va_P D vwCl (rs_X q cI (n) (f) (g) (sf) (sg) (upd r k (nI i)) ++ wr) H := hP
        have hD : va_D A (rs_X q cI (n) (f) (g) (sf) (sg) (upd r k (nI i)) ++ wr) := hD
        refine lv_iinc (k := 1) hx hb dX0_findRuns_54 hl rfl (rs_inc k) (by decide) rfl (fun ls hl => ?_)
        have hl : lv_has ls 6 [(4, .int (nI (k + 1))), (5, .int (nI i)), (0, .ref (q 0)), (1, .int o), (2, .int (nI a)), (3, .int (nI b))] := hl
        refine lv_iinc (k := 1) hx hb dX0_findRuns_57 hl rfl (rs_inc i) (by decide) rfl (fun ls hl => ?_)
        have hl : lv_has ls 6 [(5, .int (nI (i + 1))), (4, .int (nI (k + 1))), (0, .ref (q 0)), (1, .int o), (2, .int (nI a)), (3, .int (nI b))] := hl
        refine lv_goto hx hb dX0_findRuns_60 rfl ?_
        have hl : lv_has ls 6 [(5, .int (nI (i + 1))), (4, .int (nI (k + 1))), (0, .ref (q 0)), (1, .int o), (2, .int (nI a)), (3, .int (nI b))] := lv_sub hl [0, 1, 2, 3, 4, 5] rfl
        exact ih (i + 1) (k + 1) _ H locs ls (by omega) hF.new hP hD hS hl
      · skip
        have hne : i ≠ a := fun q => h (by rw [q])
        refine lv_iload_n hx hb dX0_findRuns_18 rfl (lv_at hl 3 rfl) ?_
        refine lv_aload_n hx hb dX0_findRuns_19 rfl (lv_at hl 2 rfl) ?_
        refine x0_get_numbers C0 hK hP 0 rfl rfl dX0_findRuns_20 ?_
        refine lv_iload hx hb dX0_findRuns_23 (lv_at hl 0 rfl) ?_
        refine xr_ald C0 hK hP 1 rfl (j := i) (by omega) (by decide) dX0_findRuns_25 ?_
        refine xr_scall (As := [.int o, .int (f i)]) (rest := []) (nA := 2) C0 (c_rank l D q cI tyr wr _ n f g sf sg r o (f i)) (gS wM_X0_X0_rank wS_X0_rank wN_X0 wC_X0_rank) (by decide +kernel) rfl rfl rfl ⟨by decide, by decide⟩ hK hP hD hS hA hl.1 rfl (Nat.le_of_ble_eq_true rfl) dX0_findRuns_26 ⟨Nat.le_of_ble_eq_true rfl, Nat.le_of_ble_eq_true rfl⟩ (fun v w H locs hv hP hD hz hS => ?_)
        obtain ⟨rfl, rfl⟩ := hv
        refine lv_iload_n hx hb dX0_findRuns_29 rfl (lv_at hl 3 rfl) ?_
        refine lv_aload_n hx hb dX0_findRuns_30 rfl (lv_at hl 2 rfl) ?_
        refine x0_get_numbers C0 hK hP 0 rfl rfl dX0_findRuns_31 ?_
        refine lv_iload hx hb dX0_findRuns_34 (lv_at hl 0 rfl) ?_
        refine lv_iconst (v := 1) hx hb dX0_findRuns_36 (by decide) ?_
        refine lv_isub hx hb dX0_findRuns_37 ?_
        refine xr_top (rs_pre i (by omega)) ?_
        refine xr_ald C0 hK hP 1 rfl (j := i - 1) (by omega) (by decide) dX0_findRuns_38 ?_
        refine xr_scall (As := [.int o, .int (f (i - 1))]) (rest := [.int (rs_rk o (f i))]) (nA := 2) C0 (c_rank l D q cI tyr wr _ n f g sf sg r o (f (i - 1))) (gS wM_X0_X0_rank wS_X0_rank wN_X0 wC_X0_rank) (by decide +kernel) rfl rfl rfl ⟨by decide, by decide⟩ hK hP hD hS hA hl.1 rfl (Nat.le_of_ble_eq_true rfl) dX0_findRuns_39 ⟨Nat.le_of_ble_eq_true rfl, Nat.le_of_ble_eq_true rfl⟩ (fun v w H locs hv hP hD hz hS => ?_)
        obtain ⟨rfl, rfl⟩ := hv
        refine lv_icmp_ge hx hb dX0_findRuns_42 rfl (fun h => ?_) (fun h => ?_)
        · skip
          refine lv_iinc (k := 0) hx hb dX0_findRuns_57 hl rfl (rs_inc i) (by decide) rfl (fun ls hl => ?_)
          have hl : lv_has ls 6 [(5, .int (nI (i + 1))), (4, .int (nI k)), (0, .ref (q 0)), (1, .int o), (2, .int (nI a)), (3, .int (nI b))] := hl
          refine lv_goto hx hb dX0_findRuns_60 rfl ?_
          have hl : lv_has ls 6 [(5, .int (nI (i + 1))), (4, .int (nI k)), (0, .ref (q 0)), (1, .int o), (2, .int (nI a)), (3, .int (nI b))] := lv_sub hl [0, 1, 2, 3, 4, 5] rfl
          exact ih (i + 1) k _ H locs ls (by omega) (hF.more hne h) hP hD hS hl
        · skip
          refine lv_aload_n hx hb dX0_findRuns_45 rfl (lv_at hl 2 rfl) ?_
          refine x0_get_runStarts C0 hK hP 0 rfl rfl dX0_findRuns_46 ?_
          refine lv_iload hx hb dX0_findRuns_49 (lv_at hl 1 rfl) ?_
          refine lv_iload hx hb dX0_findRuns_51 (lv_at hl 0 rfl) ?_
          refine xr_ast C0 hK hP hD hS 5 rfl (j := k) (by omega) (by decide) dX0_findRuns_53 (fun H locs hP hD hS => ?_)
          have hP : va_P D vwCl (rs_X q cI (n) (f) (g) (sf) (sg) (upd r k (nI i)) ++ wr) H := hP
          have hD : va_D A (rs_X q cI (n) (f) (g) (sf) (sg) (upd r k (nI i)) ++ wr) := hD
          refine lv_iinc (k := 1) hx hb dX0_findRuns_54 hl rfl (rs_inc k) (by decide) rfl (fun ls hl => ?_)
          have hl : lv_has ls 6 [(4, .int (nI (k + 1))), (5, .int (nI i)), (0, .ref (q 0)), (1, .int o), (2, .int (nI a)), (3, .int (nI b))] := hl
          refine lv_iinc (k := 1) hx hb dX0_findRuns_57 hl rfl (rs_inc i) (by decide) rfl (fun ls hl => ?_)
          have hl : lv_has ls 6 [(5, .int (nI (i + 1))), (4, .int (nI (k + 1))), (0, .ref (q 0)), (1, .int o), (2, .int (nI a)), (3, .int (nI b))] := hl
          refine lv_goto hx hb dX0_findRuns_60 rfl ?_
          have hl : lv_has ls 6 [(5, .int (nI (i + 1))), (4, .int (nI (k + 1))), (0, .ref (q 0)), (1, .int o), (2, .int (nI a)), (3, .int (nI b))] := lv_sub hl [0, 1, 2, 3, 4, 5] rfl
          exact ih (i + 1) (k + 1) _ H locs ls (by omega) hF.new hP hD hS hl
  refine lv_iconst (v := 0) hx hb dX0_findRuns_0 (by decide) ?_
  refine lv_istore hx hb dX0_findRuns_1 hl (by decide) rfl (fun ls hl => ?_)
  have hl : lv_has ls 6 [(4, .int (nI 0)), (0, .ref (q 0)), (1, .int o), (2, .int (nI a)), (3, .int (nI b))] := hl
  refine lv_iload_n hx hb dX0_findRuns_3 rfl (lv_at hl 3 rfl) ?_
  refine lv_istore hx hb dX0_findRuns_4 hl (by decide) rfl (fun ls hl => ?_)
  have hl : lv_has ls 6 [(5, .int (nI a)), (4, .int (nI 0)), (0, .ref (q 0)), (1, .int o), (2, .int (nI a)), (3, .int (nI b))] := hl
  exact loop (b - a) a 0 r _ _ ls (by omega) rs_FI.init hP hD hS hl
set_option maxHeartbeats 4000000 in
set_option maxRecDepth 100000 in
/-- merge -/
theorem c_merge (l : Launch) (D : va_G) (q : Nat → Nat) (cI : ClassId) (tyr : List (ClassId × FieldType)) (wr : va_W) (sz n : Nat) (f g sf sg r : Nat → Int32) (o : Int32) (st mi en : Nat) (h1 : st ≤ mi) (h2 : mi ≤ en) (h3 : en ≤ 2000) (hs1 : rs_So o (rs_sg f g st (mi - st))) (hs2 : rs_So o (rs_sg f g mi (en - mi))) : xr_Met l yX0_merge (wU yX0_merge cX0_merge 9 none) ({ frames := 1, cells := 0, slots := 0, locals := 40 }) [.ref (q 0), .int o, .int (nI st), .int (nI mi), .int (nI en)] D (rs_ty cI tyr) (rs_X q cI (n) (f) (g) (sf) (sg) (r) ++ wr) sz (fun v w => ∃ f' g' sf' sg' : Nat → Int32, v = none ∧ w = rs_X q cI n f' g' sf' sg' r ++ wr ∧ rs_St o st en f g f' g') 0 0 := by
  refine xr_startQ (by decide) (Nat.le_of_ble_eq_true rfl) ?_
  intro p e s m args below meth c A ls Q hQ C0 hlk hr hP hK hD hA hl
  have hx := C0.1
  have hb := C0.2.1
  have hS : va_S A s.heap s.heap [] := va_S.rf
  have hl : lv_has ls 9 [(0, .ref (q 0)), (1, .int o), (2, .int (nI st)), (3, .int (nI mi)), (4, .int (nI en))] := hl
  refine lv_iload_n hx hb dX0_merge_0 rfl (lv_at hl 3 rfl) ?_
  refine lv_iload_n hx hb dX0_merge_1 rfl (lv_at hl 2 rfl) ?_
  refine lv_isub hx hb dX0_merge_2 ?_
  refine xr_top (pk_sub h1) ?_
  refine lv_istore hx hb dX0_merge_3 hl (by decide) rfl (fun ls hl => ?_)
  have hl : lv_has ls 9 [(5, .int (nI (mi - st))), (0, .ref (q 0)), (1, .int o), (2, .int (nI st)), (3, .int (nI mi)), (4, .int (nI en))] := hl
  refine lv_aload_n hx hb dX0_merge_5 rfl (lv_at hl 1 rfl) ?_
  refine x0_get_numbers C0 hK hP 0 rfl rfl dX0_merge_6 ?_
  refine lv_iload_n hx hb dX0_merge_9 rfl (lv_at hl 3 rfl) ?_
  refine lv_aload_n hx hb dX0_merge_10 rfl (lv_at hl 1 rfl) ?_
  refine x0_get_spareNumbers C0 hK hP 0 rfl rfl dX0_merge_11 ?_
  refine lv_iconst (v := 0) hx hb dX0_merge_14 (by decide) ?_
  refine lv_iload hx hb dX0_merge_15 (lv_at hl 0 rfl) ?_
  refine xr_copy (rest := []) C0 hl.1 hK hP hD hS 1 3 rfl rfl (by omega) (by omega) (by decide) (by decide) (by decide) (by decide) dX0_merge_17 (fun H locs hP hD hS => ?_)
  have hP : va_P D vwCl (rs_X q cI (n) (f) (g) (va_cpy f sf st 0 (mi - st)) (sg) (r) ++ wr) H := hP
  have hD : va_D A (rs_X q cI (n) (f) (g) (va_cpy f sf st 0 (mi - st)) (sg) (r) ++ wr) := hD
  refine lv_aload_n hx hb dX0_merge_20 rfl (lv_at hl 1 rfl) ?_
  refine x0_get_tags C0 hK hP 0 rfl rfl dX0_merge_21 ?_
  refine lv_iload_n hx hb dX0_merge_24 rfl (lv_at hl 3 rfl) ?_
  refine lv_aload_n hx hb dX0_merge_25 rfl (lv_at hl 1 rfl) ?_
  refine x0_get_spareTags C0 hK hP 0 rfl rfl dX0_merge_26 ?_
  refine lv_iconst (v := 0) hx hb dX0_merge_29 (by decide) ?_
  refine lv_iload hx hb dX0_merge_30 (lv_at hl 0 rfl) ?_
  refine xr_copy (rest := []) C0 hl.1 hK hP hD hS 2 4 rfl rfl (by omega) (by omega) (by decide) (by decide) (by decide) (by decide) dX0_merge_32 (fun H locs hP hD hS => ?_)
  have hP : va_P D vwCl (rs_X q cI (n) (f) (g) (va_cpy f sf st 0 (mi - st)) (va_cpy g sg st 0 (mi - st)) (r) ++ wr) H := hP
  have hD : va_D A (rs_X q cI (n) (f) (g) (va_cpy f sf st 0 (mi - st)) (va_cpy g sg st 0 (mi - st)) (r) ++ wr) := hD
  have loop : ∀ (j : Nat) (fi se pl : Nat) (F G : Nat → Int32) (H : Heap) (locs : List Loc) (ls : Array Slot), pl + j = en → rs_MI o st mi en f g fi se pl F G (va_cpy f sf st 0 (mi - st)) (va_cpy g sg st 0 (mi - st)) → va_P D vwCl (rs_X q cI (n) (F) (G) (va_cpy f sf st 0 (mi - st)) (va_cpy g sg st 0 (mi - st)) (r) ++ wr) H → va_D A (rs_X q cI (n) (F) (G) (va_cpy f sf st 0 (mi - st)) (va_cpy g sg st 0 (mi - st)) (r) ++ wr) → va_S A s.heap H locs → lv_has ls 9 [(8, .int (nI pl)), (7, .int (nI se)), (6, .int (nI fi)), (5, .int (nI (mi - st))), (0, .ref (q 0)), (1, .int o), (2, .int (nI st)), (3, .int (nI mi)), (4, .int (nI en))] → W p l e ({ frames := 1, cells := 0, slots := 0, locals := 40 }) s m args below meth c H locs 0 0 Q (F0 m 44 ls []) := by
    intro j
    induction j with
    | zero =>
      intro fi se pl F G H locs ls hi hM hP hD hS hl
      refine lv_iload hx hb dX0_merge_44 (lv_at hl 0 rfl) ?_
      refine lv_iload hx hb dX0_merge_46 (lv_at hl 8 rfl) ?_
      refine lv_icmp_ge hx hb dX0_merge_48 rfl (fun h => ?_) (fun h => absurd (nI_le (by omega) (by omega)) h)
      rw [hQ]
      exact xr_vret C0 hlk hr (⟨_, _, _, _, rfl, rfl, hM.done (fun q => absurd (hM.lt q).2.2 (by omega))⟩) hP hD hS dX0_merge_161
    | succ j ih =>
      intro fi se pl F G H locs ls hi hM hP hD hS hl
      have hM1 := hM.1
      refine lv_iload hx hb dX0_merge_44 (lv_at hl 0 rfl) ?_
      refine lv_iload hx hb dX0_merge_46 (lv_at hl 8 rfl) ?_
      refine lv_icmp_ge hx hb dX0_merge_48 rfl (fun h => absurd h (nI_ge (by omega) (by omega))) (fun h => ?_)
      refine lv_iload hx hb dX0_merge_51 (lv_at hl 2 rfl) ?_
      refine lv_iload hx hb dX0_merge_53 (lv_at hl 3 rfl) ?_
      refine lv_icmp_ge hx hb dX0_merge_55 rfl (fun h => ?_) (fun h => ?_)
      · skip
        rw [hQ]
        exact xr_vret C0 hlk hr (⟨_, _, _, _, rfl, rfl, hM.done (fun q => nI_ge q (by omega) h)⟩) hP hD hS dX0_merge_161
      · skip
        have hf : fi < mi - st := by
          rcases Nat.lt_or_ge fi (mi - st) with q | q
          · exact q
          · exact absurd (nI_le q (by omega)) h
        have hlt := hM.lt hf
        refine lv_iload hx hb dX0_merge_58 (lv_at hl 1 rfl) ?_
        refine lv_iload hx hb dX0_merge_60 (lv_at hl 8 rfl) ?_
        refine lv_icmp_ge hx hb dX0_merge_62 rfl (fun h => ?_) (fun h => ?_)
        · skip
          have hse : se = en := by
            rcases Nat.lt_or_ge se en with q | q
            · exact absurd h (nI_ge q (by omega))
            · omega
          refine lv_aload_n hx hb dX0_merge_124 rfl (lv_at hl 4 rfl) ?_
          refine x0_get_numbers C0 hK hP 0 rfl rfl dX0_merge_125 ?_
          refine lv_iload hx hb dX0_merge_128 (lv_at hl 0 rfl) ?_
          refine lv_aload_n hx hb dX0_merge_130 rfl (lv_at hl 4 rfl) ?_
          refine x0_get_spareNumbers C0 hK hP 0 rfl rfl dX0_merge_131 ?_
          refine lv_iload hx hb dX0_merge_134 (lv_at hl 2 rfl) ?_
          refine xr_ald C0 hK hP 3 rfl (j := fi) (by omega) (by decide) dX0_merge_136 ?_
          refine xr_ast C0 hK hP hD hS 1 rfl (j := pl) (by omega) (by decide) dX0_merge_137 (fun H locs hP hD hS => ?_)
          have hP : va_P D vwCl (rs_X q cI (n) (upd F pl ((va_cpy f sf st 0 (mi - st)) fi)) (G) (va_cpy f sf st 0 (mi - st)) (va_cpy g sg st 0 (mi - st)) (r) ++ wr) H := hP
          have hD : va_D A (rs_X q cI (n) (upd F pl ((va_cpy f sf st 0 (mi - st)) fi)) (G) (va_cpy f sf st 0 (mi - st)) (va_cpy g sg st 0 (mi - st)) (r) ++ wr) := hD
          refine lv_aload_n hx hb dX0_merge_138 rfl (lv_at hl 4 rfl) ?_
          refine x0_get_tags C0 hK hP 0 rfl rfl dX0_merge_139 ?_
          refine lv_iload hx hb dX0_merge_142 (lv_at hl 0 rfl) ?_
          refine lv_aload_n hx hb dX0_merge_144 rfl (lv_at hl 4 rfl) ?_
          refine x0_get_spareTags C0 hK hP 0 rfl rfl dX0_merge_145 ?_
          refine lv_iload hx hb dX0_merge_148 (lv_at hl 2 rfl) ?_
          refine xr_ald C0 hK hP 4 rfl (j := fi) (by omega) (by decide) dX0_merge_150 ?_
          refine xr_ast C0 hK hP hD hS 2 rfl (j := pl) (by omega) (by decide) dX0_merge_151 (fun H locs hP hD hS => ?_)
          have hP : va_P D vwCl (rs_X q cI (n) (upd F pl ((va_cpy f sf st 0 (mi - st)) fi)) (upd G pl ((va_cpy g sg st 0 (mi - st)) fi)) (va_cpy f sf st 0 (mi - st)) (va_cpy g sg st 0 (mi - st)) (r) ++ wr) H := hP
          have hD : va_D A (rs_X q cI (n) (upd F pl ((va_cpy f sf st 0 (mi - st)) fi)) (upd G pl ((va_cpy g sg st 0 (mi - st)) fi)) (va_cpy f sf st 0 (mi - st)) (va_cpy g sg st 0 (mi - st)) (r) ++ wr) := hD
          refine lv_iinc (k := 2) hx hb dX0_merge_152 hl rfl (rs_inc fi) (by decide) rfl (fun ls hl => ?_)
          have hl : lv_has ls 9 [(6, .int (nI (fi + 1))), (8, .int (nI pl)), (7, .int (nI se)), (5, .int (nI (mi - st))), (0, .ref (q 0)), (1, .int o), (2, .int (nI st)), (3, .int (nI mi)), (4, .int (nI en))] := hl
          refine lv_iinc (k := 1) hx hb dX0_merge_155 hl rfl (rs_inc pl) (by decide) rfl (fun ls hl => ?_)
          have hl : lv_has ls 9 [(8, .int (nI (pl + 1))), (6, .int (nI (fi + 1))), (7, .int (nI se)), (5, .int (nI (mi - st))), (0, .ref (q 0)), (1, .int o), (2, .int (nI st)), (3, .int (nI mi)), (4, .int (nI en))] := hl
          refine lv_goto hx hb dX0_merge_158 rfl ?_
          have hl : lv_has ls 9 [(8, .int (nI (pl + 1))), (7, .int (nI se)), (6, .int (nI (fi + 1))), (5, .int (nI (mi - st))), (0, .ref (q 0)), (1, .int o), (2, .int (nI st)), (3, .int (nI mi)), (4, .int (nI en))] := lv_sub hl [0, 2, 1, 3, 4, 5, 6, 7, 8] rfl
          exact ih (fi + 1) se (pl + 1) _ _ H locs ls (by omega) (hM.one hf (Or.inl hse)) hP hD hS hl
        · skip
          have hse : se < en := by
            rcases Nat.lt_or_ge se en with q | q
            · exact q
            · exact absurd (nI_le q (by omega)) h
          refine lv_iload_n hx hb dX0_merge_65 rfl (lv_at hl 5 rfl) ?_
          refine lv_aload_n hx hb dX0_merge_66 rfl (lv_at hl 4 rfl) ?_
          refine x0_get_numbers C0 hK hP 0 rfl rfl dX0_merge_67 ?_
          refine lv_iload hx hb dX0_merge_70 (lv_at hl 1 rfl) ?_
          refine xr_ald C0 hK hP 1 rfl (j := se) (by omega) (by decide) dX0_merge_72 ?_
          refine xr_scall (As := [.int o, .int (F se)]) (rest := []) (nA := 2) C0 (c_rank l D q cI tyr wr _ n F G _ _ r o (F se)) (gS wM_X0_X0_rank wS_X0_rank wN_X0 wC_X0_rank) (by decide +kernel) rfl rfl rfl ⟨by decide, by decide⟩ hK hP hD hS hA hl.1 rfl (Nat.le_of_ble_eq_true rfl) dX0_merge_73 ⟨Nat.le_of_ble_eq_true rfl, Nat.le_of_ble_eq_true rfl⟩ (fun v w H locs hv hP hD hz hS => ?_)
          obtain ⟨rfl, rfl⟩ := hv
          refine lv_iload_n hx hb dX0_merge_76 rfl (lv_at hl 5 rfl) ?_
          refine lv_aload_n hx hb dX0_merge_77 rfl (lv_at hl 4 rfl) ?_
          refine x0_get_spareNumbers C0 hK hP 0 rfl rfl dX0_merge_78 ?_
          refine lv_iload hx hb dX0_merge_81 (lv_at hl 2 rfl) ?_
          refine xr_ald C0 hK hP 3 rfl (j := fi) (by omega) (by decide) dX0_merge_83 ?_
          refine xr_scall (As := [.int o, .int ((va_cpy f sf st 0 (mi - st)) fi)]) (rest := [.int (rs_rk o (F se))]) (nA := 2) C0 (c_rank l D q cI tyr wr _ n F G _ _ r o ((va_cpy f sf st 0 (mi - st)) fi)) (gS wM_X0_X0_rank wS_X0_rank wN_X0 wC_X0_rank) (by decide +kernel) rfl rfl rfl ⟨by decide, by decide⟩ hK hP hD hS hA hl.1 rfl (Nat.le_of_ble_eq_true rfl) dX0_merge_84 ⟨Nat.le_of_ble_eq_true rfl, Nat.le_of_ble_eq_true rfl⟩ (fun v w H locs hv hP hD hz hS => ?_)
          obtain ⟨rfl, rfl⟩ := hv
          refine lv_icmp_ge hx hb dX0_merge_87 rfl (fun h => ?_) (fun h => ?_)
          · skip
            refine lv_aload_n hx hb dX0_merge_124 rfl (lv_at hl 4 rfl) ?_
            refine x0_get_numbers C0 hK hP 0 rfl rfl dX0_merge_125 ?_
            refine lv_iload hx hb dX0_merge_128 (lv_at hl 0 rfl) ?_
            refine lv_aload_n hx hb dX0_merge_130 rfl (lv_at hl 4 rfl) ?_
            refine x0_get_spareNumbers C0 hK hP 0 rfl rfl dX0_merge_131 ?_
            refine lv_iload hx hb dX0_merge_134 (lv_at hl 2 rfl) ?_
            refine xr_ald C0 hK hP 3 rfl (j := fi) (by omega) (by decide) dX0_merge_136 ?_
            refine xr_ast C0 hK hP hD hS 1 rfl (j := pl) (by omega) (by decide) dX0_merge_137 (fun H locs hP hD hS => ?_)
            have hP : va_P D vwCl (rs_X q cI (n) (upd F pl ((va_cpy f sf st 0 (mi - st)) fi)) (G) (va_cpy f sf st 0 (mi - st)) (va_cpy g sg st 0 (mi - st)) (r) ++ wr) H := hP
            have hD : va_D A (rs_X q cI (n) (upd F pl ((va_cpy f sf st 0 (mi - st)) fi)) (G) (va_cpy f sf st 0 (mi - st)) (va_cpy g sg st 0 (mi - st)) (r) ++ wr) := hD
            refine lv_aload_n hx hb dX0_merge_138 rfl (lv_at hl 4 rfl) ?_
            refine x0_get_tags C0 hK hP 0 rfl rfl dX0_merge_139 ?_
            refine lv_iload hx hb dX0_merge_142 (lv_at hl 0 rfl) ?_
            refine lv_aload_n hx hb dX0_merge_144 rfl (lv_at hl 4 rfl) ?_
            refine x0_get_spareTags C0 hK hP 0 rfl rfl dX0_merge_145 ?_
            refine lv_iload hx hb dX0_merge_148 (lv_at hl 2 rfl) ?_
            refine xr_ald C0 hK hP 4 rfl (j := fi) (by omega) (by decide) dX0_merge_150 ?_
            refine xr_ast C0 hK hP hD hS 2 rfl (j := pl) (by omega) (by decide) dX0_merge_151 (fun H locs hP hD hS => ?_)
            have hP : va_P D vwCl (rs_X q cI (n) (upd F pl ((va_cpy f sf st 0 (mi - st)) fi)) (upd G pl ((va_cpy g sg st 0 (mi - st)) fi)) (va_cpy f sf st 0 (mi - st)) (va_cpy g sg st 0 (mi - st)) (r) ++ wr) H := hP
            have hD : va_D A (rs_X q cI (n) (upd F pl ((va_cpy f sf st 0 (mi - st)) fi)) (upd G pl ((va_cpy g sg st 0 (mi - st)) fi)) (va_cpy f sf st 0 (mi - st)) (va_cpy g sg st 0 (mi - st)) (r) ++ wr) := hD
            refine lv_iinc (k := 2) hx hb dX0_merge_152 hl rfl (rs_inc fi) (by decide) rfl (fun ls hl => ?_)
            have hl : lv_has ls 9 [(6, .int (nI (fi + 1))), (8, .int (nI pl)), (7, .int (nI se)), (5, .int (nI (mi - st))), (0, .ref (q 0)), (1, .int o), (2, .int (nI st)), (3, .int (nI mi)), (4, .int (nI en))] := hl
            refine lv_iinc (k := 1) hx hb dX0_merge_155 hl rfl (rs_inc pl) (by decide) rfl (fun ls hl => ?_)
            have hl : lv_has ls 9 [(8, .int (nI (pl + 1))), (6, .int (nI (fi + 1))), (7, .int (nI se)), (5, .int (nI (mi - st))), (0, .ref (q 0)), (1, .int o), (2, .int (nI st)), (3, .int (nI mi)), (4, .int (nI en))] := hl
            refine lv_goto hx hb dX0_merge_158 rfl ?_
            have hl : lv_has ls 9 [(8, .int (nI (pl + 1))), (7, .int (nI se)), (6, .int (nI (fi + 1))), (5, .int (nI (mi - st))), (0, .ref (q 0)), (1, .int o), (2, .int (nI st)), (3, .int (nI mi)), (4, .int (nI en))] := lv_sub hl [0, 2, 1, 3, 4, 5, 6, 7, 8] rfl
            exact ih (fi + 1) se (pl + 1) _ _ H locs ls (by omega) (hM.one hf (Or.inr h)) hP hD hS hl
          · skip
            refine lv_aload_n hx hb dX0_merge_90 rfl (lv_at hl 4 rfl) ?_
            refine x0_get_numbers C0 hK hP 0 rfl rfl dX0_merge_91 ?_
            refine lv_iload hx hb dX0_merge_94 (lv_at hl 0 rfl) ?_
            refine lv_aload_n hx hb dX0_merge_96 rfl (lv_at hl 4 rfl) ?_
            refine x0_get_numbers C0 hK hP 0 rfl rfl dX0_merge_97 ?_
            refine lv_iload hx hb dX0_merge_100 (lv_at hl 1 rfl) ?_
            refine xr_ald C0 hK hP 1 rfl (j := se) (by omega) (by decide) dX0_merge_102 ?_
            refine xr_ast C0 hK hP hD hS 1 rfl (j := pl) (by omega) (by decide) dX0_merge_103 (fun H locs hP hD hS => ?_)
            have hP : va_P D vwCl (rs_X q cI (n) (upd F pl (F se)) (G) (va_cpy f sf st 0 (mi - st)) (va_cpy g sg st 0 (mi - st)) (r) ++ wr) H := hP
            have hD : va_D A (rs_X q cI (n) (upd F pl (F se)) (G) (va_cpy f sf st 0 (mi - st)) (va_cpy g sg st 0 (mi - st)) (r) ++ wr) := hD
            refine lv_aload_n hx hb dX0_merge_104 rfl (lv_at hl 4 rfl) ?_
            refine x0_get_tags C0 hK hP 0 rfl rfl dX0_merge_105 ?_
            refine lv_iload hx hb dX0_merge_108 (lv_at hl 0 rfl) ?_
            refine lv_aload_n hx hb dX0_merge_110 rfl (lv_at hl 4 rfl) ?_
            refine x0_get_tags C0 hK hP 0 rfl rfl dX0_merge_111 ?_
            refine lv_iload hx hb dX0_merge_114 (lv_at hl 1 rfl) ?_
            refine xr_ald C0 hK hP 2 rfl (j := se) (by omega) (by decide) dX0_merge_116 ?_
            refine xr_ast C0 hK hP hD hS 2 rfl (j := pl) (by omega) (by decide) dX0_merge_117 (fun H locs hP hD hS => ?_)
            have hP : va_P D vwCl (rs_X q cI (n) (upd F pl (F se)) (upd G pl (G se)) (va_cpy f sf st 0 (mi - st)) (va_cpy g sg st 0 (mi - st)) (r) ++ wr) H := hP
            have hD : va_D A (rs_X q cI (n) (upd F pl (F se)) (upd G pl (G se)) (va_cpy f sf st 0 (mi - st)) (va_cpy g sg st 0 (mi - st)) (r) ++ wr) := hD
            refine lv_iinc (k := 1) hx hb dX0_merge_118 hl rfl (rs_inc se) (by decide) rfl (fun ls hl => ?_)
            have hl : lv_has ls 9 [(7, .int (nI (se + 1))), (8, .int (nI pl)), (6, .int (nI fi)), (5, .int (nI (mi - st))), (0, .ref (q 0)), (1, .int o), (2, .int (nI st)), (3, .int (nI mi)), (4, .int (nI en))] := hl
            refine lv_goto hx hb dX0_merge_121 rfl ?_
            refine lv_iinc (k := 1) hx hb dX0_merge_155 hl rfl (rs_inc pl) (by decide) rfl (fun ls hl => ?_)
            have hl : lv_has ls 9 [(8, .int (nI (pl + 1))), (7, .int (nI (se + 1))), (6, .int (nI fi)), (5, .int (nI (mi - st))), (0, .ref (q 0)), (1, .int o), (2, .int (nI st)), (3, .int (nI mi)), (4, .int (nI en))] := hl
            refine lv_goto hx hb dX0_merge_158 rfl ?_
            have hl : lv_has ls 9 [(8, .int (nI (pl + 1))), (7, .int (nI (se + 1))), (6, .int (nI fi)), (5, .int (nI (mi - st))), (0, .ref (q 0)), (1, .int o), (2, .int (nI st)), (3, .int (nI mi)), (4, .int (nI en))] := lv_sub hl [0, 1, 2, 3, 4, 5, 6, 7, 8] rfl
            exact ih fi (se + 1) (pl + 1) _ _ H locs ls (by omega) (hM.two hf hse (rs_nle h)) hP hD hS hl
  refine lv_iconst (v := 0) hx hb dX0_merge_35 (by decide) ?_
  refine lv_istore hx hb dX0_merge_36 hl (by decide) rfl (fun ls hl => ?_)
  have hl : lv_has ls 9 [(6, .int (nI 0)), (5, .int (nI (mi - st))), (0, .ref (q 0)), (1, .int o), (2, .int (nI st)), (3, .int (nI mi)), (4, .int (nI en))] := hl
  refine lv_iload_n hx hb dX0_merge_38 rfl (lv_at hl 5 rfl) ?_
  refine lv_istore hx hb dX0_merge_39 hl (by decide) rfl (fun ls hl => ?_)
  have hl : lv_has ls 9 [(7, .int (nI mi)), (6, .int (nI 0)), (5, .int (nI (mi - st))), (0, .ref (q 0)), (1, .int o), (2, .int (nI st)), (3, .int (nI mi)), (4, .int (nI en))] := hl
  refine lv_iload_n hx hb dX0_merge_41 rfl (lv_at hl 5 rfl) ?_
  refine lv_istore hx hb dX0_merge_42 hl (by decide) rfl (fun ls hl => ?_)
  have hl : lv_has ls 9 [(8, .int (nI st)), (7, .int (nI mi)), (6, .int (nI 0)), (5, .int (nI (mi - st))), (0, .ref (q 0)), (1, .int o), (2, .int (nI st)), (3, .int (nI mi)), (4, .int (nI en))] := hl
  exact loop (en - st) 0 mi st f g _ _ ls (by omega) (rs_MI.init h1 h2 hs1 hs2 (fun t ht => ⟨pk_cpy_in (Nat.zero_le _) (by omega), pk_cpy_in (Nat.zero_le _) (by omega)⟩)) hP hD hS hl
