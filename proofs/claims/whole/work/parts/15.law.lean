/-! The law: rows of its own, and one theorem for each kind of call in its loop (rows laid by wip/whole/p15.py). -/
/-- all the law's cells: the class's, out, the reference's, with the same numbers -/
abbrev rs_L (q t : Nat → Nat) (qo : Nat) (cI cL : ClassId) (n : Nat) (f g sf sg r : Nat → Int32) (fo : Nat → Int64) (k : Int32) (n2 : Nat) (f2 g2 : Nat → Int32) : va_W := rs_X q cI n f g sf sg r ++ ((qo, .inl (cL, 1, .inr (.inl fo))) :: rs_M t cI k n2 f2 g2)
abbrev rs_LM (q t : Nat → Nat) (qo : Nat) (cI cL : ClassId) (n : Nat) (f g sf sg r : Nat → Int32) (fo : Nat → Int64) (k : Int32) (n2 : Nat) (f2 g2 : Nat → Int32) : va_W := rs_M t cI k n2 f2 g2 ++ (rs_X q cI n f g sf sg r ++ [(qo, .inl (cL, 1, .inr (.inl fo)))])
theorem rs_cmp (x : Int64) : lg_cmp x x = 0 := by
  have h : ¬ x < x := by rw [Int64.lt_iff_toInt_lt]; omega
  simp [lg_cmp, h]
theorem gH {own : String} {idx : Nat} {y : MethodName} {cc : ByteArray} {n : Nat} {ret : Option FieldType} {hh : List (Nat × Nat × Nat × Nat)} (h1 : Cond.methodLink own idx y ∈ lw_w) (h2 : Cond.static y ∈ lw_w) (h4 : Cond.initialized y.cls ∈ lw_w) (h5 : Cond.codeWith y cc n ret hh ∈ lw_w) : GoodIn lw_w (va_wsS own idx y (wH y cc n ret hh)) := gU (fun w hw => by
  unfold va_wsS at hw
  rcases List.mem_append.mp hw with h | h
  · simp only [List.mem_cons, List.not_mem_nil, or_false] at h
    rcases h with rfl | rfl | rfl
    · exact h1
    · exact h2
    · exact h4
  · exact (List.mem_cons.mp h).elim (fun e => e ▸ h5) id)
/-- a number is out of 0 .. M, or it is a counted one -/
theorem rs_in (y : Int32) {M : Int32} {N : Nat} (hM : M.toInt = N) (hN : N < 2 ^ 31) : (y < 0 ∨ M < y) ∨ ∃ j : Nat, j ≤ N ∧ y = nI j ∧ ¬ y < 0 ∧ y ≤ M := by
  by_cases h1 : y < 0
  · exact Or.inl (Or.inl h1)
  · by_cases h2 : M < y
    · exact Or.inl (Or.inr h2)
    · obtain ⟨j, a1, a2⟩ := nI_of2 hM h1 (rs_nlt h2)
      exact Or.inr ⟨j, a1, a2, h1, rs_nlt h2⟩
theorem rs_ix (y : Int32) {n : Nat} (hn : n < 2 ^ 31) : (y < 0 ∨ nI n ≤ y) ∨ ∃ j : Nat, j < n ∧ y = nI j := by
  rcases pk_ix y hn with h | h | h
  · exact Or.inl (Or.inl h)
  · exact Or.inl (Or.inr h)
  · exact Or.inr h
/-- the part from .. to of a row of n numbers: out of range, or counted -/
theorem rs_ab (x y : Int32) {n : Nat} (hn : n ≤ 2000) : ((y < 0 ∨ nI n < y) ∨ x < 0 ∨ y < x) ∨ ∃ a b : Nat, a ≤ b ∧ b ≤ n ∧ x = nI a ∧ y = nI b := by
  rcases rs_in y (M := nI n) (N := n) (nI_toInt (by omega)) (by omega) with h | ⟨b, hb, rfl, h1, h2⟩
  · exact Or.inl (Or.inl h)
  · rcases rs_in x (M := nI b) (N := b) (nI_toInt (by omega)) (by omega) with h | ⟨a, ha, rfl, h3, h4⟩
    · exact Or.inl (Or.inr h)
    · exact Or.inr ⟨a, b, ha, hb, rfl, rfl⟩
/-- the class's wording of 'out of range' in the reference's -/
theorem rs_bad {x y : Int32} {n : Nat} (hn : n ≤ 2000) (h : (y < 0 ∨ nI n < y) ∨ x < 0 ∨ y < x) : x < 0 ∨ y < x ∨ nI n < y := by
  rcases h with (h | h) | h | h
  · by_cases hx : x < 0
    · exact Or.inl hx
    · refine Or.inr (Or.inl ?_)
      have h0 := rs_nlt hx
      rw [Int32.lt_iff_toInt_lt] at h ⊢
      rw [Int32.le_iff_toInt_le] at h0
      omega
  · exact Or.inr (Or.inr h)
  · exact Or.inl h
  · exact Or.inr (Or.inl h)
section XL
variable {p : Program} {l : Launch} {e : Env} {R : Room} {s : State} {m : MethodId} {args : Array Value} {below : List Frame} {meth : Method} {c : Code} {H : Heap} {locs : List Loc} {cells slots : Nat} {Q : State → Prop}
variable {D : va_G} {tys : List (ClassId × FieldType)} {A : Nat → Prop} {ws : va_W} {cc : ByteArray} {nL pc : Nat} {own : String} {ls : Array Slot} {st0 rest : List Value}
theorem xr_sld {b L : Nat} {xs : Nat → Int32} (C0 : CallFix p m c cc nL s args lw_w own) (hX : va_X b L xs s s.heap) (hbl : b < s.heap.size) (hbA : ¬ A b) (hS : va_S A s.heap H locs) {j : Nat} (hj : j < L) (hL : L < 2 ^ 31) (hdg : decode cc pc = .ok (.iaload, 1))
    (kk : W p l e R s m args below meth c H locs cells slots Q (F0 m (pc + 1) ls (.int (xs j) :: rest))) : W p l e R s m args below meth c H locs cells slots Q (F0 m pc ls (.int (nI j) :: .ref b :: rest)) :=
  va_sld C0.1 C0.2.1 hX hbl hbA hS (vp_in_nI hj hL) hdg (by rw [nI_clamp (Nat.lt_trans hj hL)]; exact kk)
theorem xr_lald0 {cI cL : ClassId} {tyr : List (ClassId × FieldType)} {a : Nat} {fo : Nat → Int64} (C0 : CallFix p m c cc nL s args lw_w own) (hK : va_K D vwCl ((cI, .int) :: (cL, .long) :: tyr) s) (hP : va_P D vwCl ws H) (q0 : Nat) (ha : ws[q0]? = some (a, .inl (cL, 1, .inr (.inl fo)))) (hdg : decode cc pc = .ok (.laload, 1))
    (kk : W p l e R s m args below meth c H locs cells slots Q (F0 m (pc + 1) ls (.long (fo 0) :: rest))) : W p l e R s m args below meth c H locs cells slots Q (F0 m pc ls (.int 0 :: .ref a :: rest)) :=
  va_lald C0.1 C0.2.1 hK hP q0 1 ha rfl (i := 0) (vp_in_nI (n := 0) (N := 1) (by decide) (by decide)) hdg kk
/-- a call of a helper -/
theorem xr_lcall {idx maxL nA : Nat} {y : MethodName} {bytes : ByteArray} {ret : Option FieldType} {hh : List (Nat × Nat × Nat × Nat)} {As : List Value} {post : Option Value → va_W → Prop}
    (C0 : CallFix p m c cc nL s args lw_w own) (hM : xr_HM l y (wH y bytes maxL ret hh) As D tys ws H.size post)
    (hg : GoodIn lw_w (va_wsS own idx y (wH y bytes maxL ret hh)))
    (hd : y.cls ≠ "java/lang/invoke/MethodHandle" ∧ y.cls ≠ "java/lang/invoke/VarHandle" ∧ (parseMethodDescriptor y.desc).map (fun d => d.parameters.length) = some nA) (hnA : As.length = nA)
    (hR : 9 + 1 ≤ R.frames ∧ 8 + (maxL + 11) + 160 ≤ R.locals)
    (hK : va_K D vwCl tys s) (hP : va_P D vwCl ws H) (hD : va_D A ws) (hS : va_S A s.heap H locs) (hA : ∀ q, s.heap.size ≤ q → A q) (hZ : ∀ U : State, U.heap = H → s.WarmedH U.vm → xr_Zh U)
    (hls : ls.size = nL) (hst : st0 = As.reverse ++ rest) (hW : (rest.map fun v => v.category).sum ≤ 8) (hdg : decode cc pc = .ok (.invokestatic idx, 3)) (hcs : cells + 1 ≤ R.cells ∧ slots + 6 ≤ R.slots)
    (kk : ∀ (v : Option Value) (w : va_W) (H1 : Heap) (locs1 : List Loc), post v w → va_P D vwCl w H1 → va_D A w → H.size ≤ H1.size → va_S A s.heap H1 locs1 → W p l e R s m args below meth c H1 locs1 (cells + 1) (slots + 6) Q (F0 m (pc + 3) ls (v.toList ++ rest))) : W p l e R s m args below meth c H locs cells slots Q (F0 m pc ls st0) :=
  xr_call (vx_runSW (n := nA) C0 hM (vx_cwSW nA C0.2.2.2.2 hg rfl rfl rfl hd hR) ⟨xr_Hblind, fun U hU hW => ⟨rfl, by rw [hU], by rw [hU]; exact hP, va_K.moved hW.alike hK, hD.weaken (fun _ _ _ _ => trivial), hZ U hU hW⟩⟩ rfl hnA hls hst (lv_room hW) hdg hcs) hS (xr_free hD hS hA) kk
end XL
set_option maxHeartbeats 4000000 in
set_option maxRecDepth 100000 in
/-- the law calls fill -/
theorem law_fill {p : Program} {l : Launch} {e : Env} {s : State} {m : MethodId} {args : Array Value} {below : List Frame} {meth : Method} {c : Code} {Q : State → Prop} {D : va_G} {A : Nat → Prop} {q t : Nat → Nat} {qo b L : Nat} {cI cL : ClassId} {xs : Nat → Int32} (hl0 : l.stackTraces = false) (C0 : CallFix p m c cL_law 7 s args lw_w RL) (hK : va_K D vwCl [(cI, .int), (cL, .long)] s) (hA : ∀ q, s.heap.size ≤ q → A q) (hX : va_X b L xs s s.heap) (hbl : b < s.heap.size) (hbA : ¬ A b) (hL : L ≤ 2048)
    (hZ : ∀ (H : Heap) (locs : List Loc), va_S A s.heap H locs → ∀ U : State, U.heap = H → s.WarmedH U.vm → xr_Zh U) {i n cells slots : Nat} {f g sf sg r : Nat → Int32} {fo : Nat → Int64} {k : Int32} {H : Heap} {locs : List Loc} {ls : Array Slot} (hi : i + 4 ≤ L) (hn : n ≤ 2000) (hcs : cells + 1 ≤ 1037 ∧ slots + 6 ≤ 22222)
    (hP : va_P D vwCl (rs_L q t qo cI cL n f g sf sg r fo k n f g) H) (hD : va_D A (rs_L q t qo cI cL n f g sf sg r fo k n f g)) (hS : va_S A s.heap H locs) (hl : lv_has ls 7 [(4, .int (nI i)), (3, .ref qo), (2, .ref (t 0)), (1, .ref (q 0)), (0, .ref b)])
    (kk : ∀ (n : Nat) (f g sf sg r : Nat → Int32) (fo : Nat → Int64) (k : Int32) (H : Heap) (locs : List Loc) (ls : Array Slot), n ≤ 2000 → va_P D vwCl (rs_L q t qo cI cL n f g sf sg r fo k n f g) H → va_D A (rs_L q t qo cI cL n f g sf sg r fo k n f g) → va_S A s.heap H locs → lv_has ls 7 [(4, .int (nI i)), (3, .ref qo), (2, .ref (t 0)), (1, .ref (q 0)), (0, .ref b)] → W p l e room_1 s m args below meth c H locs (cells + 1) (slots + 6) Q (F0 m 702 ls [])) : W p l e room_1 s m args below meth c H locs cells slots Q (F0 m 92 ls []) := by
  have hx := C0.1
  have hb := C0.2.1
  rcases rs_in (xs (i + 3)) (M := 2000) (N := 2000) (by decide) (by decide) with hbad | ⟨c0, hc, e3, h1, h2⟩
  · skip
    refine lv_aload_n hx hb dL_law_92 rfl (lv_at hl 3 rfl) ?_
    refine lv_aload_n hx hb dL_law_93 rfl (lv_at hl 4 rfl) ?_
    refine lv_iload hx hb dL_law_94 (lv_at hl 0 rfl) ?_
    refine lv_iconst (v := 1) hx hb dL_law_96 (by decide) ?_
    refine lv_iadd hx hb dL_law_97 ?_
    refine xr_top (nI_add i 1) ?_
    refine xr_sld C0 hX hbl hbA hS (j := i + 1) (by omega) (by omega) dL_law_98 ?_
    refine lv_aload_n hx hb dL_law_99 rfl (lv_at hl 4 rfl) ?_
    refine lv_iload hx hb dL_law_100 (lv_at hl 0 rfl) ?_
    refine lv_iconst (v := 2) hx hb dL_law_102 (by decide) ?_
    refine lv_iadd hx hb dL_law_103 ?_
    refine xr_top (nI_add i 2) ?_
    refine xr_sld C0 hX hbl hbA hS (j := i + 2) (by omega) (by omega) dL_law_104 ?_
    refine lv_aload_n hx hb dL_law_105 rfl (lv_at hl 4 rfl) ?_
    refine lv_iload hx hb dL_law_106 (lv_at hl 0 rfl) ?_
    refine lv_iconst (v := 3) hx hb dL_law_108 (by decide) ?_
    refine lv_iadd hx hb dL_law_109 ?_
    refine xr_top (nI_add i 3) ?_
    refine xr_sld C0 hX hbl hbA hS (j := i + 3) (by omega) (by omega) dL_law_110 ?_
    refine lv_aload_n hx hb dL_law_111 rfl (lv_at hl 1 rfl) ?_
    refine xr_lcall (As := [.ref (q 0), .int (xs (i + 1)), .int (xs (i + 2)), .int (xs (i + 3)), .ref qo]) (rest := []) (nA := 5) C0 (h_fill1 l hl0 D q qo cI cL [] (rs_M t cI k n f g) _ n f g sf sg r fo (xs (i + 1)) (xs (i + 2)) (xs (i + 3)) hbad) (gH wM_L_L_fill wS_L_fill wN_L wC_L_fill) (by decide +kernel) rfl ⟨by decide, by decide⟩ hK hP hD hS hA (hZ _ _ hS) hl.1 rfl (Nat.le_of_ble_eq_true rfl) dL_law_112 hcs (fun v w H locs hv hP hD hz hS => ?_)
    obtain ⟨rfl, rfl⟩ := hv
    refine lv_istore hx hb dL_law_115 hl (by decide) rfl (fun ls hl => ?_)
    have hl : lv_has ls 7 [(5, .int 1), (4, .int (nI i)), (3, .ref qo), (2, .ref (t 0)), (1, .ref (q 0)), (0, .ref b)] := hl
    refine lv_aload_n hx hb dL_law_117 rfl (lv_at hl 3 rfl) ?_
    refine lv_aload_n hx hb dL_law_118 rfl (lv_at hl 5 rfl) ?_
    refine lv_iload hx hb dL_law_119 (lv_at hl 1 rfl) ?_
    refine lv_iconst (v := 1) hx hb dL_law_121 (by decide) ?_
    refine lv_iadd hx hb dL_law_122 ?_
    refine xr_top (nI_add i 1) ?_
    refine xr_sld C0 hX hbl hbA hS (j := i + 1) (by omega) (by omega) dL_law_123 ?_
    refine lv_aload_n hx hb dL_law_124 rfl (lv_at hl 5 rfl) ?_
    refine lv_iload hx hb dL_law_125 (lv_at hl 1 rfl) ?_
    refine lv_iconst (v := 2) hx hb dL_law_127 (by decide) ?_
    refine lv_iadd hx hb dL_law_128 ?_
    refine xr_top (nI_add i 2) ?_
    refine xr_sld C0 hX hbl hbA hS (j := i + 2) (by omega) (by omega) dL_law_129 ?_
    refine lv_aload_n hx hb dL_law_130 rfl (lv_at hl 5 rfl) ?_
    refine lv_iload hx hb dL_law_131 (lv_at hl 1 rfl) ?_
    refine lv_iconst (v := 3) hx hb dL_law_133 (by decide) ?_
    refine lv_iadd hx hb dL_law_134 ?_
    refine xr_top (nI_add i 3) ?_
    refine xr_sld C0 hX hbl hbA hS (j := i + 3) (by omega) (by omega) dL_law_135 ?_
    have hP := hP.sub (ws' := rs_LM q t qo cI cL (n) (f) (g) (sf) (sg) (r) (fo) (k) (n) (f) (g)) [7, 8, 9, 0, 1, 2, 3, 4, 5, 6] rfl
    have hD := hD.sub (ws' := rs_LM q t qo cI cL (n) (f) (g) (sf) (sg) (r) (fo) (k) (n) (f) (g)) [7, 8, 9, 0, 1, 2, 3, 4, 5, 6] (by decide) rfl
    refine xr_vcall (As := [.int (xs (i + 1)), .int (xs (i + 2)), .int (xs (i + 3))]) (rest := []) (nA := 3) C0 (m_fill1 l D t cI [(cL, .long)] (rs_X q cI (n) (f) (g) (sf) (sg) (r) ++ [(qo, .inl (cL, 1, .inr (.inl (fo))))]) _ (n) (k) (f) (g) (xs (i + 1)) (xs (i + 2)) (xs (i + 3)) hbad) (gV wM_L_X1_fill wI_X1_fill wV_X1_X1_fill wN_X1 wC_X1_fill) (by decide +kernel) rfl rfl rfl ⟨by decide, by decide⟩ hK hP hD hS hA 0 rfl rfl hl.1 rfl (Nat.le_of_ble_eq_true rfl) dL_law_136 (⟨hcs.1, hcs.2⟩) (fun v w H locs hv hP hD hz hS => ?_)
    obtain ⟨rfl, rfl⟩ := hv
    have hP := hP.sub (ws' := rs_L q t qo cI cL (n) (f) (g) (sf) (sg) (r) (fo) (1) (n) (f) (g)) [3, 4, 5, 6, 7, 8, 9, 0, 1, 2] rfl
    have hD := hD.sub (ws' := rs_L q t qo cI cL (n) (f) (g) (sf) (sg) (r) (fo) (1) (n) (f) (g)) [3, 4, 5, 6, 7, 8, 9, 0, 1, 2] (by decide) rfl
    refine lv_istore hx hb dL_law_139 hl (by decide) rfl (fun ls hl => ?_)
    have hl : lv_has ls 7 [(6, .int (0)), (5, .int 1), (4, .int (nI i)), (3, .ref qo), (2, .ref (t 0)), (1, .ref (q 0)), (0, .ref b)] := hl
    refine lv_aload_n hx hb dL_law_141 rfl (lv_at hl 4 rfl) ?_
    have hP := hP.sub (ws' := rs_LM q t qo cI cL (n) (f) (g) (sf) (sg) (r) (fo) (1) (n) (f) (g)) [7, 8, 9, 0, 1, 2, 3, 4, 5, 6] rfl
    have hD := hD.sub (ws' := rs_LM q t qo cI cL (n) (f) (g) (sf) (sg) (r) (fo) (1) (n) (f) (g)) [7, 8, 9, 0, 1, 2, 3, 4, 5, 6] (by decide) rfl
    refine xr_vcall (As := []) (rest := []) (nA := 0) C0 (m_thrown l D t cI [(cL, .long)] (rs_X q cI (n) (f) (g) (sf) (sg) (r) ++ [(qo, .inl (cL, 1, .inr (.inl (fo))))]) _ (n) (1) (f) (g) ) (gV wM_L_X1_thrown wI_X1_thrown wV_X1_X1_thrown wN_X1 wC_X1_thrown) (by decide +kernel) rfl rfl rfl ⟨by decide, by decide⟩ hK hP hD hS hA 0 rfl rfl hl.1 rfl (Nat.le_of_ble_eq_true rfl) dL_law_142 (⟨hcs.1, hcs.2⟩) (fun v w H locs hv hP hD hz hS => ?_)
    obtain ⟨rfl, rfl⟩ := hv
    have hP := hP.sub (ws' := rs_L q t qo cI cL (n) (f) (g) (sf) (sg) (r) (fo) (1) (n) (f) (g)) [3, 4, 5, 6, 7, 8, 9, 0, 1, 2] rfl
    have hD := hD.sub (ws' := rs_L q t qo cI cL (n) (f) (g) (sf) (sg) (r) (fo) (1) (n) (f) (g)) [3, 4, 5, 6, 7, 8, 9, 0, 1, 2] (by decide) rfl
    refine lv_iload hx hb dL_law_145 (lv_at hl 1 rfl) ?_
    refine lv_icmp_eq hx hb dL_law_147 rfl (fun h => ?_) (fun h => absurd rfl h)
    refine lv_iload hx hb dL_law_152 (lv_at hl 1 rfl) ?_
    refine lv_if_ne hx hb dL_law_154 rfl (fun h => ?_) (fun h => absurd h (by decide))
    refine lv_goto hx hb dL_law_169 rfl ?_
    have hl : lv_has ls 7 [(4, .int (nI i)), (3, .ref qo), (2, .ref (t 0)), (1, .ref (q 0)), (0, .ref b)] := lv_sub hl [2, 3, 4, 5, 6] rfl
    exact kk (n) (f) (g) (sf) (sg) (r) (fo) (1) H locs ls (hn) hP hD hS hl
  · skip
    by_cases hr : n + c0 ≤ 2000
    · skip
      refine lv_aload_n hx hb dL_law_92 rfl (lv_at hl 3 rfl) ?_
      refine lv_aload_n hx hb dL_law_93 rfl (lv_at hl 4 rfl) ?_
      refine lv_iload hx hb dL_law_94 (lv_at hl 0 rfl) ?_
      refine lv_iconst (v := 1) hx hb dL_law_96 (by decide) ?_
      refine lv_iadd hx hb dL_law_97 ?_
      refine xr_top (nI_add i 1) ?_
      refine xr_sld C0 hX hbl hbA hS (j := i + 1) (by omega) (by omega) dL_law_98 ?_
      refine lv_aload_n hx hb dL_law_99 rfl (lv_at hl 4 rfl) ?_
      refine lv_iload hx hb dL_law_100 (lv_at hl 0 rfl) ?_
      refine lv_iconst (v := 2) hx hb dL_law_102 (by decide) ?_
      refine lv_iadd hx hb dL_law_103 ?_
      refine xr_top (nI_add i 2) ?_
      refine xr_sld C0 hX hbl hbA hS (j := i + 2) (by omega) (by omega) dL_law_104 ?_
      refine lv_aload_n hx hb dL_law_105 rfl (lv_at hl 4 rfl) ?_
      refine lv_iload hx hb dL_law_106 (lv_at hl 0 rfl) ?_
      refine lv_iconst (v := 3) hx hb dL_law_108 (by decide) ?_
      refine lv_iadd hx hb dL_law_109 ?_
      refine xr_top (nI_add i 3) ?_
      refine xr_sld C0 hX hbl hbA hS (j := i + 3) (by omega) (by omega) dL_law_110 ?_
      refine xr_top (e3) ?_
      refine lv_aload_n hx hb dL_law_111 rfl (lv_at hl 1 rfl) ?_
      refine xr_lcall (As := [.ref (q 0), .int (xs (i + 1)), .int (xs (i + 2)), .int (nI c0), .ref qo]) (rest := []) (nA := 5) C0 (h_fill0 l hl0 D q qo cI cL [] (rs_M t cI k n f g) _ n f g sf sg r fo (xs (i + 1)) (xs (i + 2)) c0 hr) (gH wM_L_L_fill wS_L_fill wN_L wC_L_fill) (by decide +kernel) rfl ⟨by decide, by decide⟩ hK hP hD hS hA (hZ _ _ hS) hl.1 rfl (Nat.le_of_ble_eq_true rfl) dL_law_112 hcs (fun v w H locs hv hP hD hz hS => ?_)
      obtain ⟨rfl, rfl⟩ := hv
      refine lv_istore hx hb dL_law_115 hl (by decide) rfl (fun ls hl => ?_)
      have hl : lv_has ls 7 [(5, .int 0), (4, .int (nI i)), (3, .ref qo), (2, .ref (t 0)), (1, .ref (q 0)), (0, .ref b)] := hl
      refine lv_aload_n hx hb dL_law_117 rfl (lv_at hl 3 rfl) ?_
      refine lv_aload_n hx hb dL_law_118 rfl (lv_at hl 5 rfl) ?_
      refine lv_iload hx hb dL_law_119 (lv_at hl 1 rfl) ?_
      refine lv_iconst (v := 1) hx hb dL_law_121 (by decide) ?_
      refine lv_iadd hx hb dL_law_122 ?_
      refine xr_top (nI_add i 1) ?_
      refine xr_sld C0 hX hbl hbA hS (j := i + 1) (by omega) (by omega) dL_law_123 ?_
      refine lv_aload_n hx hb dL_law_124 rfl (lv_at hl 5 rfl) ?_
      refine lv_iload hx hb dL_law_125 (lv_at hl 1 rfl) ?_
      refine lv_iconst (v := 2) hx hb dL_law_127 (by decide) ?_
      refine lv_iadd hx hb dL_law_128 ?_
      refine xr_top (nI_add i 2) ?_
      refine xr_sld C0 hX hbl hbA hS (j := i + 2) (by omega) (by omega) dL_law_129 ?_
      refine lv_aload_n hx hb dL_law_130 rfl (lv_at hl 5 rfl) ?_
      refine lv_iload hx hb dL_law_131 (lv_at hl 1 rfl) ?_
      refine lv_iconst (v := 3) hx hb dL_law_133 (by decide) ?_
      refine lv_iadd hx hb dL_law_134 ?_
      refine xr_top (nI_add i 3) ?_
      refine xr_sld C0 hX hbl hbA hS (j := i + 3) (by omega) (by omega) dL_law_135 ?_
      refine xr_top (e3) ?_
      have hP := hP.sub (ws' := rs_LM q t qo cI cL (n + c0) (rs_fi f n (xs (i + 1)) (xs (i + 2)) c0) (rs_tg g n c0) (sf) (sg) (r) (vp_updL fo 0 (nI (n + c0)).toInt64) (k) (n) (f) (g)) [7, 8, 9, 0, 1, 2, 3, 4, 5, 6] rfl
      have hD := hD.sub (ws' := rs_LM q t qo cI cL (n + c0) (rs_fi f n (xs (i + 1)) (xs (i + 2)) c0) (rs_tg g n c0) (sf) (sg) (r) (vp_updL fo 0 (nI (n + c0)).toInt64) (k) (n) (f) (g)) [7, 8, 9, 0, 1, 2, 3, 4, 5, 6] (by decide) rfl
      refine xr_vcall (As := [.int (xs (i + 1)), .int (xs (i + 2)), .int (nI c0)]) (rest := []) (nA := 3) C0 (m_fill0 l D t cI [(cL, .long)] (rs_X q cI (n + c0) (rs_fi f n (xs (i + 1)) (xs (i + 2)) c0) (rs_tg g n c0) (sf) (sg) (r) ++ [(qo, .inl (cL, 1, .inr (.inl (vp_updL fo 0 (nI (n + c0)).toInt64))))]) _ (n) (k) (f) (g) (xs (i + 1)) (xs (i + 2)) c0 hr) (gV wM_L_X1_fill wI_X1_fill wV_X1_X1_fill wN_X1 wC_X1_fill) (by decide +kernel) rfl rfl rfl ⟨by decide, by decide⟩ hK hP hD hS hA 0 rfl rfl hl.1 rfl (Nat.le_of_ble_eq_true rfl) dL_law_136 (⟨hcs.1, hcs.2⟩) (fun v w H locs hv hP hD hz hS => ?_)
      obtain ⟨rfl, rfl⟩ := hv
      have hP := hP.sub (ws' := rs_L q t qo cI cL (n + c0) (rs_fi f n (xs (i + 1)) (xs (i + 2)) c0) (rs_tg g n c0) (sf) (sg) (r) (vp_updL fo 0 (nI (n + c0)).toInt64) (0) (n + c0) (rs_fi f n (xs (i + 1)) (xs (i + 2)) c0) (rs_tg g n c0)) [3, 4, 5, 6, 7, 8, 9, 0, 1, 2] rfl
      have hD := hD.sub (ws' := rs_L q t qo cI cL (n + c0) (rs_fi f n (xs (i + 1)) (xs (i + 2)) c0) (rs_tg g n c0) (sf) (sg) (r) (vp_updL fo 0 (nI (n + c0)).toInt64) (0) (n + c0) (rs_fi f n (xs (i + 1)) (xs (i + 2)) c0) (rs_tg g n c0)) [3, 4, 5, 6, 7, 8, 9, 0, 1, 2] (by decide) rfl
      refine lv_istore hx hb dL_law_139 hl (by decide) rfl (fun ls hl => ?_)
      have hl : lv_has ls 7 [(6, .int (nI (n + c0))), (5, .int 0), (4, .int (nI i)), (3, .ref qo), (2, .ref (t 0)), (1, .ref (q 0)), (0, .ref b)] := hl
      refine lv_aload_n hx hb dL_law_141 rfl (lv_at hl 4 rfl) ?_
      have hP := hP.sub (ws' := rs_LM q t qo cI cL (n + c0) (rs_fi f n (xs (i + 1)) (xs (i + 2)) c0) (rs_tg g n c0) (sf) (sg) (r) (vp_updL fo 0 (nI (n + c0)).toInt64) (0) (n + c0) (rs_fi f n (xs (i + 1)) (xs (i + 2)) c0) (rs_tg g n c0)) [7, 8, 9, 0, 1, 2, 3, 4, 5, 6] rfl
      have hD := hD.sub (ws' := rs_LM q t qo cI cL (n + c0) (rs_fi f n (xs (i + 1)) (xs (i + 2)) c0) (rs_tg g n c0) (sf) (sg) (r) (vp_updL fo 0 (nI (n + c0)).toInt64) (0) (n + c0) (rs_fi f n (xs (i + 1)) (xs (i + 2)) c0) (rs_tg g n c0)) [7, 8, 9, 0, 1, 2, 3, 4, 5, 6] (by decide) rfl
      refine xr_vcall (As := []) (rest := []) (nA := 0) C0 (m_thrown l D t cI [(cL, .long)] (rs_X q cI (n + c0) (rs_fi f n (xs (i + 1)) (xs (i + 2)) c0) (rs_tg g n c0) (sf) (sg) (r) ++ [(qo, .inl (cL, 1, .inr (.inl (vp_updL fo 0 (nI (n + c0)).toInt64))))]) _ (n + c0) (0) (rs_fi f n (xs (i + 1)) (xs (i + 2)) c0) (rs_tg g n c0) ) (gV wM_L_X1_thrown wI_X1_thrown wV_X1_X1_thrown wN_X1 wC_X1_thrown) (by decide +kernel) rfl rfl rfl ⟨by decide, by decide⟩ hK hP hD hS hA 0 rfl rfl hl.1 rfl (Nat.le_of_ble_eq_true rfl) dL_law_142 (⟨hcs.1, hcs.2⟩) (fun v w H locs hv hP hD hz hS => ?_)
      obtain ⟨rfl, rfl⟩ := hv
      have hP := hP.sub (ws' := rs_L q t qo cI cL (n + c0) (rs_fi f n (xs (i + 1)) (xs (i + 2)) c0) (rs_tg g n c0) (sf) (sg) (r) (vp_updL fo 0 (nI (n + c0)).toInt64) (0) (n + c0) (rs_fi f n (xs (i + 1)) (xs (i + 2)) c0) (rs_tg g n c0)) [3, 4, 5, 6, 7, 8, 9, 0, 1, 2] rfl
      have hD := hD.sub (ws' := rs_L q t qo cI cL (n + c0) (rs_fi f n (xs (i + 1)) (xs (i + 2)) c0) (rs_tg g n c0) (sf) (sg) (r) (vp_updL fo 0 (nI (n + c0)).toInt64) (0) (n + c0) (rs_fi f n (xs (i + 1)) (xs (i + 2)) c0) (rs_tg g n c0)) [3, 4, 5, 6, 7, 8, 9, 0, 1, 2] (by decide) rfl
      refine lv_iload hx hb dL_law_145 (lv_at hl 1 rfl) ?_
      refine lv_icmp_eq hx hb dL_law_147 rfl (fun h => ?_) (fun h => absurd rfl h)
      refine lv_iload hx hb dL_law_152 (lv_at hl 1 rfl) ?_
      refine lv_if_ne hx hb dL_law_154 rfl (fun h => absurd rfl h) (fun h => ?_)
      refine lv_aload_n hx hb dL_law_157 rfl (lv_at hl 3 rfl) ?_
      refine lv_iconst (v := 0) hx hb dL_law_158 (by decide) ?_
      refine xr_lald0 C0 hK hP 6 rfl dL_law_159 ?_
      refine xr_topl pk_uLs ?_
      refine lv_iload hx hb dL_law_160 (lv_at hl 0 rfl) ?_
      refine lv_i2l hx hb dL_law_162 rfl ?_
      refine W.lcmp hx hb dL_law_163 ?_
      refine xr_top (rs_cmp _) ?_
      refine lv_if_eq hx hb dL_law_164 rfl (fun h => ?_) (fun h => absurd rfl h)
      refine lv_goto hx hb dL_law_169 rfl ?_
      have hl : lv_has ls 7 [(4, .int (nI i)), (3, .ref qo), (2, .ref (t 0)), (1, .ref (q 0)), (0, .ref b)] := lv_sub hl [2, 3, 4, 5, 6] rfl
      exact kk (n + c0) (rs_fi f n (xs (i + 1)) (xs (i + 2)) c0) (rs_tg g n c0) (sf) (sg) (r) (vp_updL fo 0 (nI (n + c0)).toInt64) (0) H locs ls (hr) hP hD hS hl
    · skip
      have hbad : nI (2000 - n) < nI c0 := nI_lt (by omega) (by omega)
      rw [e3] at h1 h2
      refine lv_aload_n hx hb dL_law_92 rfl (lv_at hl 3 rfl) ?_
      refine lv_aload_n hx hb dL_law_93 rfl (lv_at hl 4 rfl) ?_
      refine lv_iload hx hb dL_law_94 (lv_at hl 0 rfl) ?_
      refine lv_iconst (v := 1) hx hb dL_law_96 (by decide) ?_
      refine lv_iadd hx hb dL_law_97 ?_
      refine xr_top (nI_add i 1) ?_
      refine xr_sld C0 hX hbl hbA hS (j := i + 1) (by omega) (by omega) dL_law_98 ?_
      refine lv_aload_n hx hb dL_law_99 rfl (lv_at hl 4 rfl) ?_
      refine lv_iload hx hb dL_law_100 (lv_at hl 0 rfl) ?_
      refine lv_iconst (v := 2) hx hb dL_law_102 (by decide) ?_
      refine lv_iadd hx hb dL_law_103 ?_
      refine xr_top (nI_add i 2) ?_
      refine xr_sld C0 hX hbl hbA hS (j := i + 2) (by omega) (by omega) dL_law_104 ?_
      refine lv_aload_n hx hb dL_law_105 rfl (lv_at hl 4 rfl) ?_
      refine lv_iload hx hb dL_law_106 (lv_at hl 0 rfl) ?_
      refine lv_iconst (v := 3) hx hb dL_law_108 (by decide) ?_
      refine lv_iadd hx hb dL_law_109 ?_
      refine xr_top (nI_add i 3) ?_
      refine xr_sld C0 hX hbl hbA hS (j := i + 3) (by omega) (by omega) dL_law_110 ?_
      refine xr_top (e3) ?_
      refine lv_aload_n hx hb dL_law_111 rfl (lv_at hl 1 rfl) ?_
      refine xr_lcall (As := [.ref (q 0), .int (xs (i + 1)), .int (xs (i + 2)), .int (nI c0), .ref qo]) (rest := []) (nA := 5) C0 (h_fill2 l hl0 D q qo cI cL [] (rs_M t cI k n f g) _ n f g sf sg r fo (xs (i + 1)) (xs (i + 2)) (nI c0) h1 h2 hn hbad) (gH wM_L_L_fill wS_L_fill wN_L wC_L_fill) (by decide +kernel) rfl ⟨by decide, by decide⟩ hK hP hD hS hA (hZ _ _ hS) hl.1 rfl (Nat.le_of_ble_eq_true rfl) dL_law_112 hcs (fun v w H locs hv hP hD hz hS => ?_)
      obtain ⟨rfl, rfl⟩ := hv
      refine lv_istore hx hb dL_law_115 hl (by decide) rfl (fun ls hl => ?_)
      have hl : lv_has ls 7 [(5, .int 2), (4, .int (nI i)), (3, .ref qo), (2, .ref (t 0)), (1, .ref (q 0)), (0, .ref b)] := hl
      refine lv_aload_n hx hb dL_law_117 rfl (lv_at hl 3 rfl) ?_
      refine lv_aload_n hx hb dL_law_118 rfl (lv_at hl 5 rfl) ?_
      refine lv_iload hx hb dL_law_119 (lv_at hl 1 rfl) ?_
      refine lv_iconst (v := 1) hx hb dL_law_121 (by decide) ?_
      refine lv_iadd hx hb dL_law_122 ?_
      refine xr_top (nI_add i 1) ?_
      refine xr_sld C0 hX hbl hbA hS (j := i + 1) (by omega) (by omega) dL_law_123 ?_
      refine lv_aload_n hx hb dL_law_124 rfl (lv_at hl 5 rfl) ?_
      refine lv_iload hx hb dL_law_125 (lv_at hl 1 rfl) ?_
      refine lv_iconst (v := 2) hx hb dL_law_127 (by decide) ?_
      refine lv_iadd hx hb dL_law_128 ?_
      refine xr_top (nI_add i 2) ?_
      refine xr_sld C0 hX hbl hbA hS (j := i + 2) (by omega) (by omega) dL_law_129 ?_
      refine lv_aload_n hx hb dL_law_130 rfl (lv_at hl 5 rfl) ?_
      refine lv_iload hx hb dL_law_131 (lv_at hl 1 rfl) ?_
      refine lv_iconst (v := 3) hx hb dL_law_133 (by decide) ?_
      refine lv_iadd hx hb dL_law_134 ?_
      refine xr_top (nI_add i 3) ?_
      refine xr_sld C0 hX hbl hbA hS (j := i + 3) (by omega) (by omega) dL_law_135 ?_
      refine xr_top (e3) ?_
      have hP := hP.sub (ws' := rs_LM q t qo cI cL (n) (f) (g) (sf) (sg) (r) (fo) (k) (n) (f) (g)) [7, 8, 9, 0, 1, 2, 3, 4, 5, 6] rfl
      have hD := hD.sub (ws' := rs_LM q t qo cI cL (n) (f) (g) (sf) (sg) (r) (fo) (k) (n) (f) (g)) [7, 8, 9, 0, 1, 2, 3, 4, 5, 6] (by decide) rfl
      refine xr_vcall (As := [.int (xs (i + 1)), .int (xs (i + 2)), .int (nI c0)]) (rest := []) (nA := 3) C0 (m_fill2 l D t cI [(cL, .long)] (rs_X q cI (n) (f) (g) (sf) (sg) (r) ++ [(qo, .inl (cL, 1, .inr (.inl (fo))))]) _ (n) (k) (f) (g) (xs (i + 1)) (xs (i + 2)) c0 hc hn (by omega)) (gV wM_L_X1_fill wI_X1_fill wV_X1_X1_fill wN_X1 wC_X1_fill) (by decide +kernel) rfl rfl rfl ⟨by decide, by decide⟩ hK hP hD hS hA 0 rfl rfl hl.1 rfl (Nat.le_of_ble_eq_true rfl) dL_law_136 (⟨hcs.1, hcs.2⟩) (fun v w H locs hv hP hD hz hS => ?_)
      obtain ⟨rfl, rfl⟩ := hv
      have hP := hP.sub (ws' := rs_L q t qo cI cL (n) (f) (g) (sf) (sg) (r) (fo) (2) (n) (f) (g)) [3, 4, 5, 6, 7, 8, 9, 0, 1, 2] rfl
      have hD := hD.sub (ws' := rs_L q t qo cI cL (n) (f) (g) (sf) (sg) (r) (fo) (2) (n) (f) (g)) [3, 4, 5, 6, 7, 8, 9, 0, 1, 2] (by decide) rfl
      refine lv_istore hx hb dL_law_139 hl (by decide) rfl (fun ls hl => ?_)
      have hl : lv_has ls 7 [(6, .int (0)), (5, .int 2), (4, .int (nI i)), (3, .ref qo), (2, .ref (t 0)), (1, .ref (q 0)), (0, .ref b)] := hl
      refine lv_aload_n hx hb dL_law_141 rfl (lv_at hl 4 rfl) ?_
      have hP := hP.sub (ws' := rs_LM q t qo cI cL (n) (f) (g) (sf) (sg) (r) (fo) (2) (n) (f) (g)) [7, 8, 9, 0, 1, 2, 3, 4, 5, 6] rfl
      have hD := hD.sub (ws' := rs_LM q t qo cI cL (n) (f) (g) (sf) (sg) (r) (fo) (2) (n) (f) (g)) [7, 8, 9, 0, 1, 2, 3, 4, 5, 6] (by decide) rfl
      refine xr_vcall (As := []) (rest := []) (nA := 0) C0 (m_thrown l D t cI [(cL, .long)] (rs_X q cI (n) (f) (g) (sf) (sg) (r) ++ [(qo, .inl (cL, 1, .inr (.inl (fo))))]) _ (n) (2) (f) (g) ) (gV wM_L_X1_thrown wI_X1_thrown wV_X1_X1_thrown wN_X1 wC_X1_thrown) (by decide +kernel) rfl rfl rfl ⟨by decide, by decide⟩ hK hP hD hS hA 0 rfl rfl hl.1 rfl (Nat.le_of_ble_eq_true rfl) dL_law_142 (⟨hcs.1, hcs.2⟩) (fun v w H locs hv hP hD hz hS => ?_)
      obtain ⟨rfl, rfl⟩ := hv
      have hP := hP.sub (ws' := rs_L q t qo cI cL (n) (f) (g) (sf) (sg) (r) (fo) (2) (n) (f) (g)) [3, 4, 5, 6, 7, 8, 9, 0, 1, 2] rfl
      have hD := hD.sub (ws' := rs_L q t qo cI cL (n) (f) (g) (sf) (sg) (r) (fo) (2) (n) (f) (g)) [3, 4, 5, 6, 7, 8, 9, 0, 1, 2] (by decide) rfl
      refine lv_iload hx hb dL_law_145 (lv_at hl 1 rfl) ?_
      refine lv_icmp_eq hx hb dL_law_147 rfl (fun h => ?_) (fun h => absurd rfl h)
      refine lv_iload hx hb dL_law_152 (lv_at hl 1 rfl) ?_
      refine lv_if_ne hx hb dL_law_154 rfl (fun h => ?_) (fun h => absurd h (by decide))
      refine lv_goto hx hb dL_law_169 rfl ?_
      have hl : lv_has ls 7 [(4, .int (nI i)), (3, .ref qo), (2, .ref (t 0)), (1, .ref (q 0)), (0, .ref b)] := lv_sub hl [2, 3, 4, 5, 6] rfl
      exact kk (n) (f) (g) (sf) (sg) (r) (fo) (2) H locs ls (hn) hP hD hS hl
set_option maxHeartbeats 4000000 in
set_option maxRecDepth 100000 in
/-- the law calls scatter -/
theorem law_scatter {p : Program} {l : Launch} {e : Env} {s : State} {m : MethodId} {args : Array Value} {below : List Frame} {meth : Method} {c : Code} {Q : State → Prop} {D : va_G} {A : Nat → Prop} {q t : Nat → Nat} {qo b L : Nat} {cI cL : ClassId} {xs : Nat → Int32} (hl0 : l.stackTraces = false) (C0 : CallFix p m c cL_law 7 s args lw_w RL) (hK : va_K D vwCl [(cI, .int), (cL, .long)] s) (hA : ∀ q, s.heap.size ≤ q → A q) (hX : va_X b L xs s s.heap) (hbl : b < s.heap.size) (hbA : ¬ A b) (hL : L ≤ 2048)
    (hZ : ∀ (H : Heap) (locs : List Loc), va_S A s.heap H locs → ∀ U : State, U.heap = H → s.WarmedH U.vm → xr_Zh U) {i n cells slots : Nat} {f g sf sg r : Nat → Int32} {fo : Nat → Int64} {k : Int32} {H : Heap} {locs : List Loc} {ls : Array Slot} (hi : i + 4 ≤ L) (hn : n ≤ 2000) (hcs : cells + 1 ≤ 1037 ∧ slots + 6 ≤ 22222)
    (hP : va_P D vwCl (rs_L q t qo cI cL n f g sf sg r fo k n f g) H) (hD : va_D A (rs_L q t qo cI cL n f g sf sg r fo k n f g)) (hS : va_S A s.heap H locs) (hl : lv_has ls 7 [(4, .int (nI i)), (3, .ref qo), (2, .ref (t 0)), (1, .ref (q 0)), (0, .ref b)])
    (kk : ∀ (n : Nat) (f g sf sg r : Nat → Int32) (fo : Nat → Int64) (k : Int32) (H : Heap) (locs : List Loc) (ls : Array Slot), n ≤ 2000 → va_P D vwCl (rs_L q t qo cI cL n f g sf sg r fo k n f g) H → va_D A (rs_L q t qo cI cL n f g sf sg r fo k n f g) → va_S A s.heap H locs → lv_has ls 7 [(4, .int (nI i)), (3, .ref qo), (2, .ref (t 0)), (1, .ref (q 0)), (0, .ref b)] → W p l e room_1 s m args below meth c H locs (cells + 1) (slots + 6) Q (F0 m 702 ls [])) : W p l e room_1 s m args below meth c H locs cells slots Q (F0 m 172 ls []) := by
  have hx := C0.1
  have hb := C0.2.1
  by_cases hb2 : (xs (i + 2)) < 1 ∨ 16 < (xs (i + 2))
  · skip
    refine lv_aload_n hx hb dL_law_172 rfl (lv_at hl 3 rfl) ?_
    refine lv_aload_n hx hb dL_law_173 rfl (lv_at hl 4 rfl) ?_
    refine lv_iload hx hb dL_law_174 (lv_at hl 0 rfl) ?_
    refine lv_iconst (v := 1) hx hb dL_law_176 (by decide) ?_
    refine lv_iadd hx hb dL_law_177 ?_
    refine xr_top (nI_add i 1) ?_
    refine xr_sld C0 hX hbl hbA hS (j := i + 1) (by omega) (by omega) dL_law_178 ?_
    refine lv_aload_n hx hb dL_law_179 rfl (lv_at hl 4 rfl) ?_
    refine lv_iload hx hb dL_law_180 (lv_at hl 0 rfl) ?_
    refine lv_iconst (v := 2) hx hb dL_law_182 (by decide) ?_
    refine lv_iadd hx hb dL_law_183 ?_
    refine xr_top (nI_add i 2) ?_
    refine xr_sld C0 hX hbl hbA hS (j := i + 2) (by omega) (by omega) dL_law_184 ?_
    refine lv_aload_n hx hb dL_law_185 rfl (lv_at hl 4 rfl) ?_
    refine lv_iload hx hb dL_law_186 (lv_at hl 0 rfl) ?_
    refine lv_iconst (v := 3) hx hb dL_law_188 (by decide) ?_
    refine lv_iadd hx hb dL_law_189 ?_
    refine xr_top (nI_add i 3) ?_
    refine xr_sld C0 hX hbl hbA hS (j := i + 3) (by omega) (by omega) dL_law_190 ?_
    refine lv_aload_n hx hb dL_law_191 rfl (lv_at hl 1 rfl) ?_
    refine xr_lcall (As := [.ref (q 0), .int (xs (i + 1)), .int (xs (i + 2)), .int (xs (i + 3)), .ref qo]) (rest := []) (nA := 5) C0 (h_scatter1 l hl0 D q qo cI cL [] (rs_M t cI k n f g) _ n f g sf sg r fo (xs (i + 1)) (xs (i + 2)) (xs (i + 3)) (Or.inr hb2)) (gH wM_L_L_scatter wS_L_scatter wN_L wC_L_scatter) (by decide +kernel) rfl ⟨by decide, by decide⟩ hK hP hD hS hA (hZ _ _ hS) hl.1 rfl (Nat.le_of_ble_eq_true rfl) dL_law_192 hcs (fun v w H locs hv hP hD hz hS => ?_)
    obtain ⟨rfl, rfl⟩ := hv
    refine lv_istore hx hb dL_law_195 hl (by decide) rfl (fun ls hl => ?_)
    have hl : lv_has ls 7 [(5, .int 1), (4, .int (nI i)), (3, .ref qo), (2, .ref (t 0)), (1, .ref (q 0)), (0, .ref b)] := hl
    refine lv_aload_n hx hb dL_law_197 rfl (lv_at hl 3 rfl) ?_
    refine lv_aload_n hx hb dL_law_198 rfl (lv_at hl 5 rfl) ?_
    refine lv_iload hx hb dL_law_199 (lv_at hl 1 rfl) ?_
    refine lv_iconst (v := 1) hx hb dL_law_201 (by decide) ?_
    refine lv_iadd hx hb dL_law_202 ?_
    refine xr_top (nI_add i 1) ?_
    refine xr_sld C0 hX hbl hbA hS (j := i + 1) (by omega) (by omega) dL_law_203 ?_
    refine lv_aload_n hx hb dL_law_204 rfl (lv_at hl 5 rfl) ?_
    refine lv_iload hx hb dL_law_205 (lv_at hl 1 rfl) ?_
    refine lv_iconst (v := 2) hx hb dL_law_207 (by decide) ?_
    refine lv_iadd hx hb dL_law_208 ?_
    refine xr_top (nI_add i 2) ?_
    refine xr_sld C0 hX hbl hbA hS (j := i + 2) (by omega) (by omega) dL_law_209 ?_
    refine lv_aload_n hx hb dL_law_210 rfl (lv_at hl 5 rfl) ?_
    refine lv_iload hx hb dL_law_211 (lv_at hl 1 rfl) ?_
    refine lv_iconst (v := 3) hx hb dL_law_213 (by decide) ?_
    refine lv_iadd hx hb dL_law_214 ?_
    refine xr_top (nI_add i 3) ?_
    refine xr_sld C0 hX hbl hbA hS (j := i + 3) (by omega) (by omega) dL_law_215 ?_
    have hP := hP.sub (ws' := rs_LM q t qo cI cL (n) (f) (g) (sf) (sg) (r) (fo) (k) (n) (f) (g)) [7, 8, 9, 0, 1, 2, 3, 4, 5, 6] rfl
    have hD := hD.sub (ws' := rs_LM q t qo cI cL (n) (f) (g) (sf) (sg) (r) (fo) (k) (n) (f) (g)) [7, 8, 9, 0, 1, 2, 3, 4, 5, 6] (by decide) rfl
    refine xr_vcall (As := [.int (xs (i + 1)), .int (xs (i + 2)), .int (xs (i + 3))]) (rest := []) (nA := 3) C0 (m_scatter1 l D t cI [(cL, .long)] (rs_X q cI (n) (f) (g) (sf) (sg) (r) ++ [(qo, .inl (cL, 1, .inr (.inl (fo))))]) _ (n) (k) (f) (g) (xs (i + 1)) (xs (i + 2)) (xs (i + 3)) (Or.inr (Or.inr hb2))) (gV wM_L_X1_scatter wI_X1_scatter wV_X1_X1_scatter wN_X1 wC_X1_scatter) (by decide +kernel) rfl rfl rfl ⟨by decide, by decide⟩ hK hP hD hS hA 0 rfl rfl hl.1 rfl (Nat.le_of_ble_eq_true rfl) dL_law_216 (⟨hcs.1, hcs.2⟩) (fun v w H locs hv hP hD hz hS => ?_)
    obtain ⟨rfl, rfl⟩ := hv
    have hP := hP.sub (ws' := rs_L q t qo cI cL (n) (f) (g) (sf) (sg) (r) (fo) (1) (n) (f) (g)) [3, 4, 5, 6, 7, 8, 9, 0, 1, 2] rfl
    have hD := hD.sub (ws' := rs_L q t qo cI cL (n) (f) (g) (sf) (sg) (r) (fo) (1) (n) (f) (g)) [3, 4, 5, 6, 7, 8, 9, 0, 1, 2] (by decide) rfl
    refine lv_istore hx hb dL_law_219 hl (by decide) rfl (fun ls hl => ?_)
    have hl : lv_has ls 7 [(6, .int (0)), (5, .int 1), (4, .int (nI i)), (3, .ref qo), (2, .ref (t 0)), (1, .ref (q 0)), (0, .ref b)] := hl
    refine lv_aload_n hx hb dL_law_221 rfl (lv_at hl 4 rfl) ?_
    have hP := hP.sub (ws' := rs_LM q t qo cI cL (n) (f) (g) (sf) (sg) (r) (fo) (1) (n) (f) (g)) [7, 8, 9, 0, 1, 2, 3, 4, 5, 6] rfl
    have hD := hD.sub (ws' := rs_LM q t qo cI cL (n) (f) (g) (sf) (sg) (r) (fo) (1) (n) (f) (g)) [7, 8, 9, 0, 1, 2, 3, 4, 5, 6] (by decide) rfl
    refine xr_vcall (As := []) (rest := []) (nA := 0) C0 (m_thrown l D t cI [(cL, .long)] (rs_X q cI (n) (f) (g) (sf) (sg) (r) ++ [(qo, .inl (cL, 1, .inr (.inl (fo))))]) _ (n) (1) (f) (g) ) (gV wM_L_X1_thrown wI_X1_thrown wV_X1_X1_thrown wN_X1 wC_X1_thrown) (by decide +kernel) rfl rfl rfl ⟨by decide, by decide⟩ hK hP hD hS hA 0 rfl rfl hl.1 rfl (Nat.le_of_ble_eq_true rfl) dL_law_222 (⟨hcs.1, hcs.2⟩) (fun v w H locs hv hP hD hz hS => ?_)
    obtain ⟨rfl, rfl⟩ := hv
    have hP := hP.sub (ws' := rs_L q t qo cI cL (n) (f) (g) (sf) (sg) (r) (fo) (1) (n) (f) (g)) [3, 4, 5, 6, 7, 8, 9, 0, 1, 2] rfl
    have hD := hD.sub (ws' := rs_L q t qo cI cL (n) (f) (g) (sf) (sg) (r) (fo) (1) (n) (f) (g)) [3, 4, 5, 6, 7, 8, 9, 0, 1, 2] (by decide) rfl
    refine lv_iload hx hb dL_law_225 (lv_at hl 1 rfl) ?_
    refine lv_icmp_eq hx hb dL_law_227 rfl (fun h => ?_) (fun h => absurd rfl h)
    refine lv_iload hx hb dL_law_232 (lv_at hl 1 rfl) ?_
    refine lv_if_ne hx hb dL_law_234 rfl (fun h => ?_) (fun h => absurd h (by decide))
    refine lv_goto hx hb dL_law_249 rfl ?_
    have hl : lv_has ls 7 [(4, .int (nI i)), (3, .ref qo), (2, .ref (t 0)), (1, .ref (q 0)), (0, .ref b)] := lv_sub hl [2, 3, 4, 5, 6] rfl
    exact kk (n) (f) (g) (sf) (sg) (r) (fo) (1) H locs ls (hn) hP hD hS hl
  · skip
    have hb3 : ¬ xs (i + 2) < 1 := fun q => hb2 (Or.inl q)
    have hb4 : xs (i + 2) ≤ 16 := rs_nlt (fun q => hb2 (Or.inr q))
    rcases rs_in (xs (i + 3)) (M := 2000) (N := 2000) (by decide) (by decide) with hbad | ⟨c0, hc, e3, h1, h2⟩
    · skip
      refine lv_aload_n hx hb dL_law_172 rfl (lv_at hl 3 rfl) ?_
      refine lv_aload_n hx hb dL_law_173 rfl (lv_at hl 4 rfl) ?_
      refine lv_iload hx hb dL_law_174 (lv_at hl 0 rfl) ?_
      refine lv_iconst (v := 1) hx hb dL_law_176 (by decide) ?_
      refine lv_iadd hx hb dL_law_177 ?_
      refine xr_top (nI_add i 1) ?_
      refine xr_sld C0 hX hbl hbA hS (j := i + 1) (by omega) (by omega) dL_law_178 ?_
      refine lv_aload_n hx hb dL_law_179 rfl (lv_at hl 4 rfl) ?_
      refine lv_iload hx hb dL_law_180 (lv_at hl 0 rfl) ?_
      refine lv_iconst (v := 2) hx hb dL_law_182 (by decide) ?_
      refine lv_iadd hx hb dL_law_183 ?_
      refine xr_top (nI_add i 2) ?_
      refine xr_sld C0 hX hbl hbA hS (j := i + 2) (by omega) (by omega) dL_law_184 ?_
      refine lv_aload_n hx hb dL_law_185 rfl (lv_at hl 4 rfl) ?_
      refine lv_iload hx hb dL_law_186 (lv_at hl 0 rfl) ?_
      refine lv_iconst (v := 3) hx hb dL_law_188 (by decide) ?_
      refine lv_iadd hx hb dL_law_189 ?_
      refine xr_top (nI_add i 3) ?_
      refine xr_sld C0 hX hbl hbA hS (j := i + 3) (by omega) (by omega) dL_law_190 ?_
      refine lv_aload_n hx hb dL_law_191 rfl (lv_at hl 1 rfl) ?_
      refine xr_lcall (As := [.ref (q 0), .int (xs (i + 1)), .int (xs (i + 2)), .int (xs (i + 3)), .ref qo]) (rest := []) (nA := 5) C0 (h_scatter1 l hl0 D q qo cI cL [] (rs_M t cI k n f g) _ n f g sf sg r fo (xs (i + 1)) (xs (i + 2)) (xs (i + 3)) (Or.inl hbad)) (gH wM_L_L_scatter wS_L_scatter wN_L wC_L_scatter) (by decide +kernel) rfl ⟨by decide, by decide⟩ hK hP hD hS hA (hZ _ _ hS) hl.1 rfl (Nat.le_of_ble_eq_true rfl) dL_law_192 hcs (fun v w H locs hv hP hD hz hS => ?_)
      obtain ⟨rfl, rfl⟩ := hv
      refine lv_istore hx hb dL_law_195 hl (by decide) rfl (fun ls hl => ?_)
      have hl : lv_has ls 7 [(5, .int 1), (4, .int (nI i)), (3, .ref qo), (2, .ref (t 0)), (1, .ref (q 0)), (0, .ref b)] := hl
      refine lv_aload_n hx hb dL_law_197 rfl (lv_at hl 3 rfl) ?_
      refine lv_aload_n hx hb dL_law_198 rfl (lv_at hl 5 rfl) ?_
      refine lv_iload hx hb dL_law_199 (lv_at hl 1 rfl) ?_
      refine lv_iconst (v := 1) hx hb dL_law_201 (by decide) ?_
      refine lv_iadd hx hb dL_law_202 ?_
      refine xr_top (nI_add i 1) ?_
      refine xr_sld C0 hX hbl hbA hS (j := i + 1) (by omega) (by omega) dL_law_203 ?_
      refine lv_aload_n hx hb dL_law_204 rfl (lv_at hl 5 rfl) ?_
      refine lv_iload hx hb dL_law_205 (lv_at hl 1 rfl) ?_
      refine lv_iconst (v := 2) hx hb dL_law_207 (by decide) ?_
      refine lv_iadd hx hb dL_law_208 ?_
      refine xr_top (nI_add i 2) ?_
      refine xr_sld C0 hX hbl hbA hS (j := i + 2) (by omega) (by omega) dL_law_209 ?_
      refine lv_aload_n hx hb dL_law_210 rfl (lv_at hl 5 rfl) ?_
      refine lv_iload hx hb dL_law_211 (lv_at hl 1 rfl) ?_
      refine lv_iconst (v := 3) hx hb dL_law_213 (by decide) ?_
      refine lv_iadd hx hb dL_law_214 ?_
      refine xr_top (nI_add i 3) ?_
      refine xr_sld C0 hX hbl hbA hS (j := i + 3) (by omega) (by omega) dL_law_215 ?_
      have hP := hP.sub (ws' := rs_LM q t qo cI cL (n) (f) (g) (sf) (sg) (r) (fo) (k) (n) (f) (g)) [7, 8, 9, 0, 1, 2, 3, 4, 5, 6] rfl
      have hD := hD.sub (ws' := rs_LM q t qo cI cL (n) (f) (g) (sf) (sg) (r) (fo) (k) (n) (f) (g)) [7, 8, 9, 0, 1, 2, 3, 4, 5, 6] (by decide) rfl
      refine xr_vcall (As := [.int (xs (i + 1)), .int (xs (i + 2)), .int (xs (i + 3))]) (rest := []) (nA := 3) C0 (m_scatter1 l D t cI [(cL, .long)] (rs_X q cI (n) (f) (g) (sf) (sg) (r) ++ [(qo, .inl (cL, 1, .inr (.inl (fo))))]) _ (n) (k) (f) (g) (xs (i + 1)) (xs (i + 2)) (xs (i + 3)) (hbad.elim Or.inl (fun q => Or.inr (Or.inl q)))) (gV wM_L_X1_scatter wI_X1_scatter wV_X1_X1_scatter wN_X1 wC_X1_scatter) (by decide +kernel) rfl rfl rfl ⟨by decide, by decide⟩ hK hP hD hS hA 0 rfl rfl hl.1 rfl (Nat.le_of_ble_eq_true rfl) dL_law_216 (⟨hcs.1, hcs.2⟩) (fun v w H locs hv hP hD hz hS => ?_)
      obtain ⟨rfl, rfl⟩ := hv
      have hP := hP.sub (ws' := rs_L q t qo cI cL (n) (f) (g) (sf) (sg) (r) (fo) (1) (n) (f) (g)) [3, 4, 5, 6, 7, 8, 9, 0, 1, 2] rfl
      have hD := hD.sub (ws' := rs_L q t qo cI cL (n) (f) (g) (sf) (sg) (r) (fo) (1) (n) (f) (g)) [3, 4, 5, 6, 7, 8, 9, 0, 1, 2] (by decide) rfl
      refine lv_istore hx hb dL_law_219 hl (by decide) rfl (fun ls hl => ?_)
      have hl : lv_has ls 7 [(6, .int (0)), (5, .int 1), (4, .int (nI i)), (3, .ref qo), (2, .ref (t 0)), (1, .ref (q 0)), (0, .ref b)] := hl
      refine lv_aload_n hx hb dL_law_221 rfl (lv_at hl 4 rfl) ?_
      have hP := hP.sub (ws' := rs_LM q t qo cI cL (n) (f) (g) (sf) (sg) (r) (fo) (1) (n) (f) (g)) [7, 8, 9, 0, 1, 2, 3, 4, 5, 6] rfl
      have hD := hD.sub (ws' := rs_LM q t qo cI cL (n) (f) (g) (sf) (sg) (r) (fo) (1) (n) (f) (g)) [7, 8, 9, 0, 1, 2, 3, 4, 5, 6] (by decide) rfl
      refine xr_vcall (As := []) (rest := []) (nA := 0) C0 (m_thrown l D t cI [(cL, .long)] (rs_X q cI (n) (f) (g) (sf) (sg) (r) ++ [(qo, .inl (cL, 1, .inr (.inl (fo))))]) _ (n) (1) (f) (g) ) (gV wM_L_X1_thrown wI_X1_thrown wV_X1_X1_thrown wN_X1 wC_X1_thrown) (by decide +kernel) rfl rfl rfl ⟨by decide, by decide⟩ hK hP hD hS hA 0 rfl rfl hl.1 rfl (Nat.le_of_ble_eq_true rfl) dL_law_222 (⟨hcs.1, hcs.2⟩) (fun v w H locs hv hP hD hz hS => ?_)
      obtain ⟨rfl, rfl⟩ := hv
      have hP := hP.sub (ws' := rs_L q t qo cI cL (n) (f) (g) (sf) (sg) (r) (fo) (1) (n) (f) (g)) [3, 4, 5, 6, 7, 8, 9, 0, 1, 2] rfl
      have hD := hD.sub (ws' := rs_L q t qo cI cL (n) (f) (g) (sf) (sg) (r) (fo) (1) (n) (f) (g)) [3, 4, 5, 6, 7, 8, 9, 0, 1, 2] (by decide) rfl
      refine lv_iload hx hb dL_law_225 (lv_at hl 1 rfl) ?_
      refine lv_icmp_eq hx hb dL_law_227 rfl (fun h => ?_) (fun h => absurd rfl h)
      refine lv_iload hx hb dL_law_232 (lv_at hl 1 rfl) ?_
      refine lv_if_ne hx hb dL_law_234 rfl (fun h => ?_) (fun h => absurd h (by decide))
      refine lv_goto hx hb dL_law_249 rfl ?_
      have hl : lv_has ls 7 [(4, .int (nI i)), (3, .ref qo), (2, .ref (t 0)), (1, .ref (q 0)), (0, .ref b)] := lv_sub hl [2, 3, 4, 5, 6] rfl
      exact kk (n) (f) (g) (sf) (sg) (r) (fo) (1) H locs ls (hn) hP hD hS hl
    · skip
      by_cases hr : n + c0 ≤ 2000
      · skip
        refine lv_aload_n hx hb dL_law_172 rfl (lv_at hl 3 rfl) ?_
        refine lv_aload_n hx hb dL_law_173 rfl (lv_at hl 4 rfl) ?_
        refine lv_iload hx hb dL_law_174 (lv_at hl 0 rfl) ?_
        refine lv_iconst (v := 1) hx hb dL_law_176 (by decide) ?_
        refine lv_iadd hx hb dL_law_177 ?_
        refine xr_top (nI_add i 1) ?_
        refine xr_sld C0 hX hbl hbA hS (j := i + 1) (by omega) (by omega) dL_law_178 ?_
        refine lv_aload_n hx hb dL_law_179 rfl (lv_at hl 4 rfl) ?_
        refine lv_iload hx hb dL_law_180 (lv_at hl 0 rfl) ?_
        refine lv_iconst (v := 2) hx hb dL_law_182 (by decide) ?_
        refine lv_iadd hx hb dL_law_183 ?_
        refine xr_top (nI_add i 2) ?_
        refine xr_sld C0 hX hbl hbA hS (j := i + 2) (by omega) (by omega) dL_law_184 ?_
        refine lv_aload_n hx hb dL_law_185 rfl (lv_at hl 4 rfl) ?_
        refine lv_iload hx hb dL_law_186 (lv_at hl 0 rfl) ?_
        refine lv_iconst (v := 3) hx hb dL_law_188 (by decide) ?_
        refine lv_iadd hx hb dL_law_189 ?_
        refine xr_top (nI_add i 3) ?_
        refine xr_sld C0 hX hbl hbA hS (j := i + 3) (by omega) (by omega) dL_law_190 ?_
        refine xr_top (e3) ?_
        refine lv_aload_n hx hb dL_law_191 rfl (lv_at hl 1 rfl) ?_
        refine xr_lcall (As := [.ref (q 0), .int (xs (i + 1)), .int (xs (i + 2)), .int (nI c0), .ref qo]) (rest := []) (nA := 5) C0 (h_scatter0 l hl0 D q qo cI cL [] (rs_M t cI k n f g) _ n f g sf sg r fo (xs (i + 1)) (xs (i + 2)) c0 hb3 hb4 hr) (gH wM_L_L_scatter wS_L_scatter wN_L wC_L_scatter) (by decide +kernel) rfl ⟨by decide, by decide⟩ hK hP hD hS hA (hZ _ _ hS) hl.1 rfl (Nat.le_of_ble_eq_true rfl) dL_law_192 hcs (fun v w H locs hv hP hD hz hS => ?_)
        obtain ⟨rfl, rfl⟩ := hv
        refine lv_istore hx hb dL_law_195 hl (by decide) rfl (fun ls hl => ?_)
        have hl : lv_has ls 7 [(5, .int 0), (4, .int (nI i)), (3, .ref qo), (2, .ref (t 0)), (1, .ref (q 0)), (0, .ref b)] := hl
        refine lv_aload_n hx hb dL_law_197 rfl (lv_at hl 3 rfl) ?_
        refine lv_aload_n hx hb dL_law_198 rfl (lv_at hl 5 rfl) ?_
        refine lv_iload hx hb dL_law_199 (lv_at hl 1 rfl) ?_
        refine lv_iconst (v := 1) hx hb dL_law_201 (by decide) ?_
        refine lv_iadd hx hb dL_law_202 ?_
        refine xr_top (nI_add i 1) ?_
        refine xr_sld C0 hX hbl hbA hS (j := i + 1) (by omega) (by omega) dL_law_203 ?_
        refine lv_aload_n hx hb dL_law_204 rfl (lv_at hl 5 rfl) ?_
        refine lv_iload hx hb dL_law_205 (lv_at hl 1 rfl) ?_
        refine lv_iconst (v := 2) hx hb dL_law_207 (by decide) ?_
        refine lv_iadd hx hb dL_law_208 ?_
        refine xr_top (nI_add i 2) ?_
        refine xr_sld C0 hX hbl hbA hS (j := i + 2) (by omega) (by omega) dL_law_209 ?_
        refine lv_aload_n hx hb dL_law_210 rfl (lv_at hl 5 rfl) ?_
        refine lv_iload hx hb dL_law_211 (lv_at hl 1 rfl) ?_
        refine lv_iconst (v := 3) hx hb dL_law_213 (by decide) ?_
        refine lv_iadd hx hb dL_law_214 ?_
        refine xr_top (nI_add i 3) ?_
        refine xr_sld C0 hX hbl hbA hS (j := i + 3) (by omega) (by omega) dL_law_215 ?_
        refine xr_top (e3) ?_
        have hP := hP.sub (ws' := rs_LM q t qo cI cL (n + c0) (rs_sc f n (xs (i + 1)) (xs (i + 2)) c0) (rs_tg g n c0) (sf) (sg) (r) (vp_updL fo 0 (nI (n + c0)).toInt64) (k) (n) (f) (g)) [7, 8, 9, 0, 1, 2, 3, 4, 5, 6] rfl
        have hD := hD.sub (ws' := rs_LM q t qo cI cL (n + c0) (rs_sc f n (xs (i + 1)) (xs (i + 2)) c0) (rs_tg g n c0) (sf) (sg) (r) (vp_updL fo 0 (nI (n + c0)).toInt64) (k) (n) (f) (g)) [7, 8, 9, 0, 1, 2, 3, 4, 5, 6] (by decide) rfl
        refine xr_vcall (As := [.int (xs (i + 1)), .int (xs (i + 2)), .int (nI c0)]) (rest := []) (nA := 3) C0 (m_scatter0 l D t cI [(cL, .long)] (rs_X q cI (n + c0) (rs_sc f n (xs (i + 1)) (xs (i + 2)) c0) (rs_tg g n c0) (sf) (sg) (r) ++ [(qo, .inl (cL, 1, .inr (.inl (vp_updL fo 0 (nI (n + c0)).toInt64))))]) _ (n) (k) (f) (g) (xs (i + 1)) (xs (i + 2)) c0 hb3 hb4 hr) (gV wM_L_X1_scatter wI_X1_scatter wV_X1_X1_scatter wN_X1 wC_X1_scatter) (by decide +kernel) rfl rfl rfl ⟨by decide, by decide⟩ hK hP hD hS hA 0 rfl rfl hl.1 rfl (Nat.le_of_ble_eq_true rfl) dL_law_216 (⟨hcs.1, hcs.2⟩) (fun v w H locs hv hP hD hz hS => ?_)
        obtain ⟨rfl, rfl⟩ := hv
        have hP := hP.sub (ws' := rs_L q t qo cI cL (n + c0) (rs_sc f n (xs (i + 1)) (xs (i + 2)) c0) (rs_tg g n c0) (sf) (sg) (r) (vp_updL fo 0 (nI (n + c0)).toInt64) (0) (n + c0) (rs_sc f n (xs (i + 1)) (xs (i + 2)) c0) (rs_tg g n c0)) [3, 4, 5, 6, 7, 8, 9, 0, 1, 2] rfl
        have hD := hD.sub (ws' := rs_L q t qo cI cL (n + c0) (rs_sc f n (xs (i + 1)) (xs (i + 2)) c0) (rs_tg g n c0) (sf) (sg) (r) (vp_updL fo 0 (nI (n + c0)).toInt64) (0) (n + c0) (rs_sc f n (xs (i + 1)) (xs (i + 2)) c0) (rs_tg g n c0)) [3, 4, 5, 6, 7, 8, 9, 0, 1, 2] (by decide) rfl
        refine lv_istore hx hb dL_law_219 hl (by decide) rfl (fun ls hl => ?_)
        have hl : lv_has ls 7 [(6, .int (nI (n + c0))), (5, .int 0), (4, .int (nI i)), (3, .ref qo), (2, .ref (t 0)), (1, .ref (q 0)), (0, .ref b)] := hl
        refine lv_aload_n hx hb dL_law_221 rfl (lv_at hl 4 rfl) ?_
        have hP := hP.sub (ws' := rs_LM q t qo cI cL (n + c0) (rs_sc f n (xs (i + 1)) (xs (i + 2)) c0) (rs_tg g n c0) (sf) (sg) (r) (vp_updL fo 0 (nI (n + c0)).toInt64) (0) (n + c0) (rs_sc f n (xs (i + 1)) (xs (i + 2)) c0) (rs_tg g n c0)) [7, 8, 9, 0, 1, 2, 3, 4, 5, 6] rfl
        have hD := hD.sub (ws' := rs_LM q t qo cI cL (n + c0) (rs_sc f n (xs (i + 1)) (xs (i + 2)) c0) (rs_tg g n c0) (sf) (sg) (r) (vp_updL fo 0 (nI (n + c0)).toInt64) (0) (n + c0) (rs_sc f n (xs (i + 1)) (xs (i + 2)) c0) (rs_tg g n c0)) [7, 8, 9, 0, 1, 2, 3, 4, 5, 6] (by decide) rfl
        refine xr_vcall (As := []) (rest := []) (nA := 0) C0 (m_thrown l D t cI [(cL, .long)] (rs_X q cI (n + c0) (rs_sc f n (xs (i + 1)) (xs (i + 2)) c0) (rs_tg g n c0) (sf) (sg) (r) ++ [(qo, .inl (cL, 1, .inr (.inl (vp_updL fo 0 (nI (n + c0)).toInt64))))]) _ (n + c0) (0) (rs_sc f n (xs (i + 1)) (xs (i + 2)) c0) (rs_tg g n c0) ) (gV wM_L_X1_thrown wI_X1_thrown wV_X1_X1_thrown wN_X1 wC_X1_thrown) (by decide +kernel) rfl rfl rfl ⟨by decide, by decide⟩ hK hP hD hS hA 0 rfl rfl hl.1 rfl (Nat.le_of_ble_eq_true rfl) dL_law_222 (⟨hcs.1, hcs.2⟩) (fun v w H locs hv hP hD hz hS => ?_)
        obtain ⟨rfl, rfl⟩ := hv
        have hP := hP.sub (ws' := rs_L q t qo cI cL (n + c0) (rs_sc f n (xs (i + 1)) (xs (i + 2)) c0) (rs_tg g n c0) (sf) (sg) (r) (vp_updL fo 0 (nI (n + c0)).toInt64) (0) (n + c0) (rs_sc f n (xs (i + 1)) (xs (i + 2)) c0) (rs_tg g n c0)) [3, 4, 5, 6, 7, 8, 9, 0, 1, 2] rfl
        have hD := hD.sub (ws' := rs_L q t qo cI cL (n + c0) (rs_sc f n (xs (i + 1)) (xs (i + 2)) c0) (rs_tg g n c0) (sf) (sg) (r) (vp_updL fo 0 (nI (n + c0)).toInt64) (0) (n + c0) (rs_sc f n (xs (i + 1)) (xs (i + 2)) c0) (rs_tg g n c0)) [3, 4, 5, 6, 7, 8, 9, 0, 1, 2] (by decide) rfl
        refine lv_iload hx hb dL_law_225 (lv_at hl 1 rfl) ?_
        refine lv_icmp_eq hx hb dL_law_227 rfl (fun h => ?_) (fun h => absurd rfl h)
        refine lv_iload hx hb dL_law_232 (lv_at hl 1 rfl) ?_
        refine lv_if_ne hx hb dL_law_234 rfl (fun h => absurd rfl h) (fun h => ?_)
        refine lv_aload_n hx hb dL_law_237 rfl (lv_at hl 3 rfl) ?_
        refine lv_iconst (v := 0) hx hb dL_law_238 (by decide) ?_
        refine xr_lald0 C0 hK hP 6 rfl dL_law_239 ?_
        refine xr_topl pk_uLs ?_
        refine lv_iload hx hb dL_law_240 (lv_at hl 0 rfl) ?_
        refine lv_i2l hx hb dL_law_242 rfl ?_
        refine W.lcmp hx hb dL_law_243 ?_
        refine xr_top (rs_cmp _) ?_
        refine lv_if_eq hx hb dL_law_244 rfl (fun h => ?_) (fun h => absurd rfl h)
        refine lv_goto hx hb dL_law_249 rfl ?_
        have hl : lv_has ls 7 [(4, .int (nI i)), (3, .ref qo), (2, .ref (t 0)), (1, .ref (q 0)), (0, .ref b)] := lv_sub hl [2, 3, 4, 5, 6] rfl
        exact kk (n + c0) (rs_sc f n (xs (i + 1)) (xs (i + 2)) c0) (rs_tg g n c0) (sf) (sg) (r) (vp_updL fo 0 (nI (n + c0)).toInt64) (0) H locs ls (hr) hP hD hS hl
      · skip
        have hbad : nI (2000 - n) < nI c0 := nI_lt (by omega) (by omega)
        rw [e3] at h1 h2
        refine lv_aload_n hx hb dL_law_172 rfl (lv_at hl 3 rfl) ?_
        refine lv_aload_n hx hb dL_law_173 rfl (lv_at hl 4 rfl) ?_
        refine lv_iload hx hb dL_law_174 (lv_at hl 0 rfl) ?_
        refine lv_iconst (v := 1) hx hb dL_law_176 (by decide) ?_
        refine lv_iadd hx hb dL_law_177 ?_
        refine xr_top (nI_add i 1) ?_
        refine xr_sld C0 hX hbl hbA hS (j := i + 1) (by omega) (by omega) dL_law_178 ?_
        refine lv_aload_n hx hb dL_law_179 rfl (lv_at hl 4 rfl) ?_
        refine lv_iload hx hb dL_law_180 (lv_at hl 0 rfl) ?_
        refine lv_iconst (v := 2) hx hb dL_law_182 (by decide) ?_
        refine lv_iadd hx hb dL_law_183 ?_
        refine xr_top (nI_add i 2) ?_
        refine xr_sld C0 hX hbl hbA hS (j := i + 2) (by omega) (by omega) dL_law_184 ?_
        refine lv_aload_n hx hb dL_law_185 rfl (lv_at hl 4 rfl) ?_
        refine lv_iload hx hb dL_law_186 (lv_at hl 0 rfl) ?_
        refine lv_iconst (v := 3) hx hb dL_law_188 (by decide) ?_
        refine lv_iadd hx hb dL_law_189 ?_
        refine xr_top (nI_add i 3) ?_
        refine xr_sld C0 hX hbl hbA hS (j := i + 3) (by omega) (by omega) dL_law_190 ?_
        refine xr_top (e3) ?_
        refine lv_aload_n hx hb dL_law_191 rfl (lv_at hl 1 rfl) ?_
        refine xr_lcall (As := [.ref (q 0), .int (xs (i + 1)), .int (xs (i + 2)), .int (nI c0), .ref qo]) (rest := []) (nA := 5) C0 (h_scatter2 l hl0 D q qo cI cL [] (rs_M t cI k n f g) _ n f g sf sg r fo (xs (i + 1)) (xs (i + 2)) (nI c0) h1 h2 hb3 hb4 hn hbad) (gH wM_L_L_scatter wS_L_scatter wN_L wC_L_scatter) (by decide +kernel) rfl ⟨by decide, by decide⟩ hK hP hD hS hA (hZ _ _ hS) hl.1 rfl (Nat.le_of_ble_eq_true rfl) dL_law_192 hcs (fun v w H locs hv hP hD hz hS => ?_)
        obtain ⟨rfl, rfl⟩ := hv
        refine lv_istore hx hb dL_law_195 hl (by decide) rfl (fun ls hl => ?_)
        have hl : lv_has ls 7 [(5, .int 2), (4, .int (nI i)), (3, .ref qo), (2, .ref (t 0)), (1, .ref (q 0)), (0, .ref b)] := hl
        refine lv_aload_n hx hb dL_law_197 rfl (lv_at hl 3 rfl) ?_
        refine lv_aload_n hx hb dL_law_198 rfl (lv_at hl 5 rfl) ?_
        refine lv_iload hx hb dL_law_199 (lv_at hl 1 rfl) ?_
        refine lv_iconst (v := 1) hx hb dL_law_201 (by decide) ?_
        refine lv_iadd hx hb dL_law_202 ?_
        refine xr_top (nI_add i 1) ?_
        refine xr_sld C0 hX hbl hbA hS (j := i + 1) (by omega) (by omega) dL_law_203 ?_
        refine lv_aload_n hx hb dL_law_204 rfl (lv_at hl 5 rfl) ?_
        refine lv_iload hx hb dL_law_205 (lv_at hl 1 rfl) ?_
        refine lv_iconst (v := 2) hx hb dL_law_207 (by decide) ?_
        refine lv_iadd hx hb dL_law_208 ?_
        refine xr_top (nI_add i 2) ?_
        refine xr_sld C0 hX hbl hbA hS (j := i + 2) (by omega) (by omega) dL_law_209 ?_
        refine lv_aload_n hx hb dL_law_210 rfl (lv_at hl 5 rfl) ?_
        refine lv_iload hx hb dL_law_211 (lv_at hl 1 rfl) ?_
        refine lv_iconst (v := 3) hx hb dL_law_213 (by decide) ?_
        refine lv_iadd hx hb dL_law_214 ?_
        refine xr_top (nI_add i 3) ?_
        refine xr_sld C0 hX hbl hbA hS (j := i + 3) (by omega) (by omega) dL_law_215 ?_
        refine xr_top (e3) ?_
        have hP := hP.sub (ws' := rs_LM q t qo cI cL (n) (f) (g) (sf) (sg) (r) (fo) (k) (n) (f) (g)) [7, 8, 9, 0, 1, 2, 3, 4, 5, 6] rfl
        have hD := hD.sub (ws' := rs_LM q t qo cI cL (n) (f) (g) (sf) (sg) (r) (fo) (k) (n) (f) (g)) [7, 8, 9, 0, 1, 2, 3, 4, 5, 6] (by decide) rfl
        refine xr_vcall (As := [.int (xs (i + 1)), .int (xs (i + 2)), .int (nI c0)]) (rest := []) (nA := 3) C0 (m_scatter2 l D t cI [(cL, .long)] (rs_X q cI (n) (f) (g) (sf) (sg) (r) ++ [(qo, .inl (cL, 1, .inr (.inl (fo))))]) _ (n) (k) (f) (g) (xs (i + 1)) (xs (i + 2)) c0 hb3 hb4 hc hn (by omega)) (gV wM_L_X1_scatter wI_X1_scatter wV_X1_X1_scatter wN_X1 wC_X1_scatter) (by decide +kernel) rfl rfl rfl ⟨by decide, by decide⟩ hK hP hD hS hA 0 rfl rfl hl.1 rfl (Nat.le_of_ble_eq_true rfl) dL_law_216 (⟨hcs.1, hcs.2⟩) (fun v w H locs hv hP hD hz hS => ?_)
        obtain ⟨rfl, rfl⟩ := hv
        have hP := hP.sub (ws' := rs_L q t qo cI cL (n) (f) (g) (sf) (sg) (r) (fo) (2) (n) (f) (g)) [3, 4, 5, 6, 7, 8, 9, 0, 1, 2] rfl
        have hD := hD.sub (ws' := rs_L q t qo cI cL (n) (f) (g) (sf) (sg) (r) (fo) (2) (n) (f) (g)) [3, 4, 5, 6, 7, 8, 9, 0, 1, 2] (by decide) rfl
        refine lv_istore hx hb dL_law_219 hl (by decide) rfl (fun ls hl => ?_)
        have hl : lv_has ls 7 [(6, .int (0)), (5, .int 2), (4, .int (nI i)), (3, .ref qo), (2, .ref (t 0)), (1, .ref (q 0)), (0, .ref b)] := hl
        refine lv_aload_n hx hb dL_law_221 rfl (lv_at hl 4 rfl) ?_
        have hP := hP.sub (ws' := rs_LM q t qo cI cL (n) (f) (g) (sf) (sg) (r) (fo) (2) (n) (f) (g)) [7, 8, 9, 0, 1, 2, 3, 4, 5, 6] rfl
        have hD := hD.sub (ws' := rs_LM q t qo cI cL (n) (f) (g) (sf) (sg) (r) (fo) (2) (n) (f) (g)) [7, 8, 9, 0, 1, 2, 3, 4, 5, 6] (by decide) rfl
        refine xr_vcall (As := []) (rest := []) (nA := 0) C0 (m_thrown l D t cI [(cL, .long)] (rs_X q cI (n) (f) (g) (sf) (sg) (r) ++ [(qo, .inl (cL, 1, .inr (.inl (fo))))]) _ (n) (2) (f) (g) ) (gV wM_L_X1_thrown wI_X1_thrown wV_X1_X1_thrown wN_X1 wC_X1_thrown) (by decide +kernel) rfl rfl rfl ⟨by decide, by decide⟩ hK hP hD hS hA 0 rfl rfl hl.1 rfl (Nat.le_of_ble_eq_true rfl) dL_law_222 (⟨hcs.1, hcs.2⟩) (fun v w H locs hv hP hD hz hS => ?_)
        obtain ⟨rfl, rfl⟩ := hv
        have hP := hP.sub (ws' := rs_L q t qo cI cL (n) (f) (g) (sf) (sg) (r) (fo) (2) (n) (f) (g)) [3, 4, 5, 6, 7, 8, 9, 0, 1, 2] rfl
        have hD := hD.sub (ws' := rs_L q t qo cI cL (n) (f) (g) (sf) (sg) (r) (fo) (2) (n) (f) (g)) [3, 4, 5, 6, 7, 8, 9, 0, 1, 2] (by decide) rfl
        refine lv_iload hx hb dL_law_225 (lv_at hl 1 rfl) ?_
        refine lv_icmp_eq hx hb dL_law_227 rfl (fun h => ?_) (fun h => absurd rfl h)
        refine lv_iload hx hb dL_law_232 (lv_at hl 1 rfl) ?_
        refine lv_if_ne hx hb dL_law_234 rfl (fun h => ?_) (fun h => absurd h (by decide))
        refine lv_goto hx hb dL_law_249 rfl ?_
        have hl : lv_has ls 7 [(4, .int (nI i)), (3, .ref qo), (2, .ref (t 0)), (1, .ref (q 0)), (0, .ref b)] := lv_sub hl [2, 3, 4, 5, 6] rfl
        exact kk (n) (f) (g) (sf) (sg) (r) (fo) (2) H locs ls (hn) hP hD hS hl
