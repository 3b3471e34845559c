/-! The law calls sort, get, tag, set, turn, upTo, clear, hash (rows laid by wip/whole/p15.py). -/
set_option maxHeartbeats 4000000 in
set_option maxRecDepth 100000 in
/-- the law calls sort -/
theorem law_sort {p : Program} {l : Launch} {e : Env} {s : State} {m : MethodId} {args : Array Value} {below : List Frame} {meth : Method} {c : Code} {Q : State → Prop} {D : va_G} {A : Nat → Prop} {q t : Nat → Nat} {qo b L : Nat} {cI cL : ClassId} {xs : Nat → Int32} (hl0 : l.stackTraces = false) (C0 : CallFix p m c cL_law 7 s args lw_w RL) (hK : va_K D vwCl [(cI, .int), (cL, .long)] s) (hA : ∀ q, s.heap.size ≤ q → A q) (hX : va_X b L xs s s.heap) (hbl : b < s.heap.size) (hbA : ¬ A b) (hL : L ≤ 2048)
    (hZ : ∀ (H : Heap) (locs : List Loc), va_S A s.heap H locs → ∀ U : State, U.heap = H → s.WarmedH U.vm → xr_Zh U) {i n cells slots : Nat} {f g sf sg r : Nat → Int32} {fo : Nat → Int64} {k : Int32} {H : Heap} {locs : List Loc} {ls : Array Slot} (hi : i + 4 ≤ L) (hn : n ≤ 2000) (hcs : cells + 1 ≤ 1037 ∧ slots + 6 ≤ 22222)
    (hP : va_P D vwCl (rs_L q t qo cI cL n f g sf sg r fo k n f g) H) (hD : va_D A (rs_L q t qo cI cL n f g sf sg r fo k n f g)) (hS : va_S A s.heap H locs) (hl : lv_has ls 7 [(4, .int (nI i)), (3, .ref qo), (2, .ref (t 0)), (1, .ref (q 0)), (0, .ref b)])
    (kk : ∀ (n : Nat) (f g sf sg r : Nat → Int32) (fo : Nat → Int64) (k : Int32) (H : Heap) (locs : List Loc) (ls : Array Slot), n ≤ 2000 → va_P D vwCl (rs_L q t qo cI cL n f g sf sg r fo k n f g) H → va_D A (rs_L q t qo cI cL n f g sf sg r fo k n f g) → va_S A s.heap H locs → lv_has ls 7 [(4, .int (nI i)), (3, .ref qo), (2, .ref (t 0)), (1, .ref (q 0)), (0, .ref b)] → W p l e room_1 s m args below meth c H locs (cells + 1) (slots + 6) Q (F0 m 702 ls [])) : W p l e room_1 s m args below meth c H locs cells slots Q (F0 m 252 ls []) := by
  have hx := C0.1
  have hb := C0.2.1
  by_cases ho : (xs (i + 1)) < 0 ∨ 3 < (xs (i + 1))
  · skip
    refine lv_aload_n hx hb dL_law_252 rfl (lv_at hl 3 rfl) ?_
    refine lv_aload_n hx hb dL_law_253 rfl (lv_at hl 4 rfl) ?_
    refine lv_iload hx hb dL_law_254 (lv_at hl 0 rfl) ?_
    refine lv_iconst (v := 1) hx hb dL_law_256 (by decide) ?_
    refine lv_iadd hx hb dL_law_257 ?_
    refine xr_top (nI_add i 1) ?_
    refine xr_sld C0 hX hbl hbA hS (j := i + 1) (by omega) (by omega) dL_law_258 ?_
    refine lv_aload_n hx hb dL_law_259 rfl (lv_at hl 4 rfl) ?_
    refine lv_iload hx hb dL_law_260 (lv_at hl 0 rfl) ?_
    refine lv_iconst (v := 2) hx hb dL_law_262 (by decide) ?_
    refine lv_iadd hx hb dL_law_263 ?_
    refine xr_top (nI_add i 2) ?_
    refine xr_sld C0 hX hbl hbA hS (j := i + 2) (by omega) (by omega) dL_law_264 ?_
    refine lv_aload_n hx hb dL_law_265 rfl (lv_at hl 4 rfl) ?_
    refine lv_iload hx hb dL_law_266 (lv_at hl 0 rfl) ?_
    refine lv_iconst (v := 3) hx hb dL_law_268 (by decide) ?_
    refine lv_iadd hx hb dL_law_269 ?_
    refine xr_top (nI_add i 3) ?_
    refine xr_sld C0 hX hbl hbA hS (j := i + 3) (by omega) (by omega) dL_law_270 ?_
    refine lv_aload_n hx hb dL_law_271 rfl (lv_at hl 1 rfl) ?_
    refine xr_lcall (As := [.ref (q 0), .int (xs (i + 1)), .int (xs (i + 2)), .int (xs (i + 3)), .ref qo]) (rest := []) (nA := 5) C0 (h_sort1 l hl0 D q qo cI cL [] (rs_M t cI k n f g) _ n f g sf sg r fo (xs (i + 1)) (xs (i + 2)) (xs (i + 3)) (Or.inl ho)) (gH wM_L_L_sort wS_L_sort wN_L wC_L_sort) (by decide +kernel) rfl ⟨by decide, by decide⟩ hK hP hD hS hA (hZ _ _ hS) hl.1 rfl (Nat.le_of_ble_eq_true rfl) dL_law_272 hcs (fun v w H locs hv hP hD hz hS => ?_)
    obtain ⟨rfl, rfl⟩ := hv
    refine lv_istore hx hb dL_law_275 hl (by decide) rfl (fun ls hl => ?_)
    have hl : lv_has ls 7 [(5, .int 1), (4, .int (nI i)), (3, .ref qo), (2, .ref (t 0)), (1, .ref (q 0)), (0, .ref b)] := hl
    refine lv_aload_n hx hb dL_law_277 rfl (lv_at hl 3 rfl) ?_
    refine lv_aload_n hx hb dL_law_278 rfl (lv_at hl 5 rfl) ?_
    refine lv_iload hx hb dL_law_279 (lv_at hl 1 rfl) ?_
    refine lv_iconst (v := 1) hx hb dL_law_281 (by decide) ?_
    refine lv_iadd hx hb dL_law_282 ?_
    refine xr_top (nI_add i 1) ?_
    refine xr_sld C0 hX hbl hbA hS (j := i + 1) (by omega) (by omega) dL_law_283 ?_
    refine lv_aload_n hx hb dL_law_284 rfl (lv_at hl 5 rfl) ?_
    refine lv_iload hx hb dL_law_285 (lv_at hl 1 rfl) ?_
    refine lv_iconst (v := 2) hx hb dL_law_287 (by decide) ?_
    refine lv_iadd hx hb dL_law_288 ?_
    refine xr_top (nI_add i 2) ?_
    refine xr_sld C0 hX hbl hbA hS (j := i + 2) (by omega) (by omega) dL_law_289 ?_
    refine lv_aload_n hx hb dL_law_290 rfl (lv_at hl 5 rfl) ?_
    refine lv_iload hx hb dL_law_291 (lv_at hl 1 rfl) ?_
    refine lv_iconst (v := 3) hx hb dL_law_293 (by decide) ?_
    refine lv_iadd hx hb dL_law_294 ?_
    refine xr_top (nI_add i 3) ?_
    refine xr_sld C0 hX hbl hbA hS (j := i + 3) (by omega) (by omega) dL_law_295 ?_
    have hP := hP.sub (ws' := rs_LM q t qo cI cL (n) (f) (g) (sf) (sg) (r) (fo) (k) (n) (f) (g)) [7, 8, 9, 0, 1, 2, 3, 4, 5, 6] rfl
    have hD := hD.sub (ws' := rs_LM q t qo cI cL (n) (f) (g) (sf) (sg) (r) (fo) (k) (n) (f) (g)) [7, 8, 9, 0, 1, 2, 3, 4, 5, 6] (by decide) rfl
    refine xr_vcall (As := [.int (xs (i + 1)), .int (xs (i + 2)), .int (xs (i + 3))]) (rest := []) (nA := 3) C0 (m_sort1 l D t cI [(cL, .long)] (rs_X q cI (n) (f) (g) (sf) (sg) (r) ++ [(qo, .inl (cL, 1, .inr (.inl (fo))))]) _ (n) (k) (f) (g) (xs (i + 1)) (xs (i + 2)) (xs (i + 3)) hn (ho.elim Or.inl (fun q => Or.inr (Or.inl q)))) (gV wM_L_X1_sort wI_X1_sort wV_X1_X1_sort wN_X1 wC_X1_sort) (by decide +kernel) rfl rfl rfl ⟨by decide, by decide⟩ hK hP hD hS hA 0 rfl rfl hl.1 rfl (Nat.le_of_ble_eq_true rfl) dL_law_296 (⟨hcs.1, hcs.2⟩) (fun v w H locs hv hP hD hz hS => ?_)
    obtain ⟨rfl, rfl⟩ := hv
    have hP := hP.sub (ws' := rs_L q t qo cI cL (n) (f) (g) (sf) (sg) (r) (fo) (1) (n) (f) (g)) [3, 4, 5, 6, 7, 8, 9, 0, 1, 2] rfl
    have hD := hD.sub (ws' := rs_L q t qo cI cL (n) (f) (g) (sf) (sg) (r) (fo) (1) (n) (f) (g)) [3, 4, 5, 6, 7, 8, 9, 0, 1, 2] (by decide) rfl
    refine lv_istore hx hb dL_law_299 hl (by decide) rfl (fun ls hl => ?_)
    have hl : lv_has ls 7 [(6, .int (0)), (5, .int 1), (4, .int (nI i)), (3, .ref qo), (2, .ref (t 0)), (1, .ref (q 0)), (0, .ref b)] := hl
    refine lv_aload_n hx hb dL_law_301 rfl (lv_at hl 4 rfl) ?_
    have hP := hP.sub (ws' := rs_LM q t qo cI cL (n) (f) (g) (sf) (sg) (r) (fo) (1) (n) (f) (g)) [7, 8, 9, 0, 1, 2, 3, 4, 5, 6] rfl
    have hD := hD.sub (ws' := rs_LM q t qo cI cL (n) (f) (g) (sf) (sg) (r) (fo) (1) (n) (f) (g)) [7, 8, 9, 0, 1, 2, 3, 4, 5, 6] (by decide) rfl
    refine xr_vcall (As := []) (rest := []) (nA := 0) C0 (m_thrown l D t cI [(cL, .long)] (rs_X q cI (n) (f) (g) (sf) (sg) (r) ++ [(qo, .inl (cL, 1, .inr (.inl (fo))))]) _ (n) (1) (f) (g) ) (gV wM_L_X1_thrown wI_X1_thrown wV_X1_X1_thrown wN_X1 wC_X1_thrown) (by decide +kernel) rfl rfl rfl ⟨by decide, by decide⟩ hK hP hD hS hA 0 rfl rfl hl.1 rfl (Nat.le_of_ble_eq_true rfl) dL_law_302 (⟨hcs.1, hcs.2⟩) (fun v w H locs hv hP hD hz hS => ?_)
    obtain ⟨rfl, rfl⟩ := hv
    have hP := hP.sub (ws' := rs_L q t qo cI cL (n) (f) (g) (sf) (sg) (r) (fo) (1) (n) (f) (g)) [3, 4, 5, 6, 7, 8, 9, 0, 1, 2] rfl
    have hD := hD.sub (ws' := rs_L q t qo cI cL (n) (f) (g) (sf) (sg) (r) (fo) (1) (n) (f) (g)) [3, 4, 5, 6, 7, 8, 9, 0, 1, 2] (by decide) rfl
    refine lv_iload hx hb dL_law_305 (lv_at hl 1 rfl) ?_
    refine lv_icmp_eq hx hb dL_law_307 rfl (fun h => ?_) (fun h => absurd rfl h)
    refine lv_iload hx hb dL_law_312 (lv_at hl 1 rfl) ?_
    refine lv_if_ne hx hb dL_law_314 rfl (fun h => ?_) (fun h => absurd h (by decide))
    refine lv_goto hx hb dL_law_329 rfl ?_
    have hl : lv_has ls 7 [(4, .int (nI i)), (3, .ref qo), (2, .ref (t 0)), (1, .ref (q 0)), (0, .ref b)] := lv_sub hl [2, 3, 4, 5, 6] rfl
    exact kk (n) (f) (g) (sf) (sg) (r) (fo) (1) H locs ls (hn) hP hD hS hl
  · skip
    have h1 : ¬ xs (i + 1) < 0 := fun q => ho (Or.inl q)
    have h2 : xs (i + 1) ≤ 3 := rs_nlt (fun q => ho (Or.inr q))
    rcases rs_ab (xs (i + 2)) (xs (i + 3)) hn with hbad | ⟨a, d, had, hdn, e2, e3⟩
    · skip
      refine lv_aload_n hx hb dL_law_252 rfl (lv_at hl 3 rfl) ?_
      refine lv_aload_n hx hb dL_law_253 rfl (lv_at hl 4 rfl) ?_
      refine lv_iload hx hb dL_law_254 (lv_at hl 0 rfl) ?_
      refine lv_iconst (v := 1) hx hb dL_law_256 (by decide) ?_
      refine lv_iadd hx hb dL_law_257 ?_
      refine xr_top (nI_add i 1) ?_
      refine xr_sld C0 hX hbl hbA hS (j := i + 1) (by omega) (by omega) dL_law_258 ?_
      refine lv_aload_n hx hb dL_law_259 rfl (lv_at hl 4 rfl) ?_
      refine lv_iload hx hb dL_law_260 (lv_at hl 0 rfl) ?_
      refine lv_iconst (v := 2) hx hb dL_law_262 (by decide) ?_
      refine lv_iadd hx hb dL_law_263 ?_
      refine xr_top (nI_add i 2) ?_
      refine xr_sld C0 hX hbl hbA hS (j := i + 2) (by omega) (by omega) dL_law_264 ?_
      refine lv_aload_n hx hb dL_law_265 rfl (lv_at hl 4 rfl) ?_
      refine lv_iload hx hb dL_law_266 (lv_at hl 0 rfl) ?_
      refine lv_iconst (v := 3) hx hb dL_law_268 (by decide) ?_
      refine lv_iadd hx hb dL_law_269 ?_
      refine xr_top (nI_add i 3) ?_
      refine xr_sld C0 hX hbl hbA hS (j := i + 3) (by omega) (by omega) dL_law_270 ?_
      refine lv_aload_n hx hb dL_law_271 rfl (lv_at hl 1 rfl) ?_
      refine xr_lcall (As := [.ref (q 0), .int (xs (i + 1)), .int (xs (i + 2)), .int (xs (i + 3)), .ref qo]) (rest := []) (nA := 5) C0 (h_sort1 l hl0 D q qo cI cL [] (rs_M t cI k n f g) _ n f g sf sg r fo (xs (i + 1)) (xs (i + 2)) (xs (i + 3)) (Or.inr hbad)) (gH wM_L_L_sort wS_L_sort wN_L wC_L_sort) (by decide +kernel) rfl ⟨by decide, by decide⟩ hK hP hD hS hA (hZ _ _ hS) hl.1 rfl (Nat.le_of_ble_eq_true rfl) dL_law_272 hcs (fun v w H locs hv hP hD hz hS => ?_)
      obtain ⟨rfl, rfl⟩ := hv
      refine lv_istore hx hb dL_law_275 hl (by decide) rfl (fun ls hl => ?_)
      have hl : lv_has ls 7 [(5, .int 1), (4, .int (nI i)), (3, .ref qo), (2, .ref (t 0)), (1, .ref (q 0)), (0, .ref b)] := hl
      refine lv_aload_n hx hb dL_law_277 rfl (lv_at hl 3 rfl) ?_
      refine lv_aload_n hx hb dL_law_278 rfl (lv_at hl 5 rfl) ?_
      refine lv_iload hx hb dL_law_279 (lv_at hl 1 rfl) ?_
      refine lv_iconst (v := 1) hx hb dL_law_281 (by decide) ?_
      refine lv_iadd hx hb dL_law_282 ?_
      refine xr_top (nI_add i 1) ?_
      refine xr_sld C0 hX hbl hbA hS (j := i + 1) (by omega) (by omega) dL_law_283 ?_
      refine lv_aload_n hx hb dL_law_284 rfl (lv_at hl 5 rfl) ?_
      refine lv_iload hx hb dL_law_285 (lv_at hl 1 rfl) ?_
      refine lv_iconst (v := 2) hx hb dL_law_287 (by decide) ?_
      refine lv_iadd hx hb dL_law_288 ?_
      refine xr_top (nI_add i 2) ?_
      refine xr_sld C0 hX hbl hbA hS (j := i + 2) (by omega) (by omega) dL_law_289 ?_
      refine lv_aload_n hx hb dL_law_290 rfl (lv_at hl 5 rfl) ?_
      refine lv_iload hx hb dL_law_291 (lv_at hl 1 rfl) ?_
      refine lv_iconst (v := 3) hx hb dL_law_293 (by decide) ?_
      refine lv_iadd hx hb dL_law_294 ?_
      refine xr_top (nI_add i 3) ?_
      refine xr_sld C0 hX hbl hbA hS (j := i + 3) (by omega) (by omega) dL_law_295 ?_
      have hP := hP.sub (ws' := rs_LM q t qo cI cL (n) (f) (g) (sf) (sg) (r) (fo) (k) (n) (f) (g)) [7, 8, 9, 0, 1, 2, 3, 4, 5, 6] rfl
      have hD := hD.sub (ws' := rs_LM q t qo cI cL (n) (f) (g) (sf) (sg) (r) (fo) (k) (n) (f) (g)) [7, 8, 9, 0, 1, 2, 3, 4, 5, 6] (by decide) rfl
      refine xr_vcall (As := [.int (xs (i + 1)), .int (xs (i + 2)), .int (xs (i + 3))]) (rest := []) (nA := 3) C0 (m_sort1 l D t cI [(cL, .long)] (rs_X q cI (n) (f) (g) (sf) (sg) (r) ++ [(qo, .inl (cL, 1, .inr (.inl (fo))))]) _ (n) (k) (f) (g) (xs (i + 1)) (xs (i + 2)) (xs (i + 3)) hn (Or.inr (Or.inr (rs_bad hn hbad)))) (gV wM_L_X1_sort wI_X1_sort wV_X1_X1_sort wN_X1 wC_X1_sort) (by decide +kernel) rfl rfl rfl ⟨by decide, by decide⟩ hK hP hD hS hA 0 rfl rfl hl.1 rfl (Nat.le_of_ble_eq_true rfl) dL_law_296 (⟨hcs.1, hcs.2⟩) (fun v w H locs hv hP hD hz hS => ?_)
      obtain ⟨rfl, rfl⟩ := hv
      have hP := hP.sub (ws' := rs_L q t qo cI cL (n) (f) (g) (sf) (sg) (r) (fo) (1) (n) (f) (g)) [3, 4, 5, 6, 7, 8, 9, 0, 1, 2] rfl
      have hD := hD.sub (ws' := rs_L q t qo cI cL (n) (f) (g) (sf) (sg) (r) (fo) (1) (n) (f) (g)) [3, 4, 5, 6, 7, 8, 9, 0, 1, 2] (by decide) rfl
      refine lv_istore hx hb dL_law_299 hl (by decide) rfl (fun ls hl => ?_)
      have hl : lv_has ls 7 [(6, .int (0)), (5, .int 1), (4, .int (nI i)), (3, .ref qo), (2, .ref (t 0)), (1, .ref (q 0)), (0, .ref b)] := hl
      refine lv_aload_n hx hb dL_law_301 rfl (lv_at hl 4 rfl) ?_
      have hP := hP.sub (ws' := rs_LM q t qo cI cL (n) (f) (g) (sf) (sg) (r) (fo) (1) (n) (f) (g)) [7, 8, 9, 0, 1, 2, 3, 4, 5, 6] rfl
      have hD := hD.sub (ws' := rs_LM q t qo cI cL (n) (f) (g) (sf) (sg) (r) (fo) (1) (n) (f) (g)) [7, 8, 9, 0, 1, 2, 3, 4, 5, 6] (by decide) rfl
      refine xr_vcall (As := []) (rest := []) (nA := 0) C0 (m_thrown l D t cI [(cL, .long)] (rs_X q cI (n) (f) (g) (sf) (sg) (r) ++ [(qo, .inl (cL, 1, .inr (.inl (fo))))]) _ (n) (1) (f) (g) ) (gV wM_L_X1_thrown wI_X1_thrown wV_X1_X1_thrown wN_X1 wC_X1_thrown) (by decide +kernel) rfl rfl rfl ⟨by decide, by decide⟩ hK hP hD hS hA 0 rfl rfl hl.1 rfl (Nat.le_of_ble_eq_true rfl) dL_law_302 (⟨hcs.1, hcs.2⟩) (fun v w H locs hv hP hD hz hS => ?_)
      obtain ⟨rfl, rfl⟩ := hv
      have hP := hP.sub (ws' := rs_L q t qo cI cL (n) (f) (g) (sf) (sg) (r) (fo) (1) (n) (f) (g)) [3, 4, 5, 6, 7, 8, 9, 0, 1, 2] rfl
      have hD := hD.sub (ws' := rs_L q t qo cI cL (n) (f) (g) (sf) (sg) (r) (fo) (1) (n) (f) (g)) [3, 4, 5, 6, 7, 8, 9, 0, 1, 2] (by decide) rfl
      refine lv_iload hx hb dL_law_305 (lv_at hl 1 rfl) ?_
      refine lv_icmp_eq hx hb dL_law_307 rfl (fun h => ?_) (fun h => absurd rfl h)
      refine lv_iload hx hb dL_law_312 (lv_at hl 1 rfl) ?_
      refine lv_if_ne hx hb dL_law_314 rfl (fun h => ?_) (fun h => absurd h (by decide))
      refine lv_goto hx hb dL_law_329 rfl ?_
      have hl : lv_has ls 7 [(4, .int (nI i)), (3, .ref qo), (2, .ref (t 0)), (1, .ref (q 0)), (0, .ref b)] := lv_sub hl [2, 3, 4, 5, 6] rfl
      exact kk (n) (f) (g) (sf) (sg) (r) (fo) (1) H locs ls (hn) hP hD hS hl
    · skip
      refine lv_aload_n hx hb dL_law_252 rfl (lv_at hl 3 rfl) ?_
      refine lv_aload_n hx hb dL_law_253 rfl (lv_at hl 4 rfl) ?_
      refine lv_iload hx hb dL_law_254 (lv_at hl 0 rfl) ?_
      refine lv_iconst (v := 1) hx hb dL_law_256 (by decide) ?_
      refine lv_iadd hx hb dL_law_257 ?_
      refine xr_top (nI_add i 1) ?_
      refine xr_sld C0 hX hbl hbA hS (j := i + 1) (by omega) (by omega) dL_law_258 ?_
      refine lv_aload_n hx hb dL_law_259 rfl (lv_at hl 4 rfl) ?_
      refine lv_iload hx hb dL_law_260 (lv_at hl 0 rfl) ?_
      refine lv_iconst (v := 2) hx hb dL_law_262 (by decide) ?_
      refine lv_iadd hx hb dL_law_263 ?_
      refine xr_top (nI_add i 2) ?_
      refine xr_sld C0 hX hbl hbA hS (j := i + 2) (by omega) (by omega) dL_law_264 ?_
      refine xr_top (e2) ?_
      refine lv_aload_n hx hb dL_law_265 rfl (lv_at hl 4 rfl) ?_
      refine lv_iload hx hb dL_law_266 (lv_at hl 0 rfl) ?_
      refine lv_iconst (v := 3) hx hb dL_law_268 (by decide) ?_
      refine lv_iadd hx hb dL_law_269 ?_
      refine xr_top (nI_add i 3) ?_
      refine xr_sld C0 hX hbl hbA hS (j := i + 3) (by omega) (by omega) dL_law_270 ?_
      refine xr_top (e3) ?_
      refine lv_aload_n hx hb dL_law_271 rfl (lv_at hl 1 rfl) ?_
      refine xr_lcall (As := [.ref (q 0), .int (xs (i + 1)), .int (nI a), .int (nI d), .ref qo]) (rest := []) (nA := 5) C0 (h_sort0 l hl0 D q qo cI cL [] (rs_M t cI k n f g) _ n f g sf sg r fo (xs (i + 1)) a d h1 h2 had hdn hn) (gH wM_L_L_sort wS_L_sort wN_L wC_L_sort) (by decide +kernel) rfl ⟨by decide, by decide⟩ hK hP hD hS hA (hZ _ _ hS) hl.1 rfl (Nat.le_of_ble_eq_true rfl) dL_law_272 hcs (fun v w H locs hv hP hD hz hS => ?_)
      obtain ⟨f', g', sf', sg', r', rfl, rfl, hSt⟩ := hv
      refine lv_istore hx hb dL_law_275 hl (by decide) rfl (fun ls hl => ?_)
      have hl : lv_has ls 7 [(5, .int 0), (4, .int (nI i)), (3, .ref qo), (2, .ref (t 0)), (1, .ref (q 0)), (0, .ref b)] := hl
      refine lv_aload_n hx hb dL_law_277 rfl (lv_at hl 3 rfl) ?_
      refine lv_aload_n hx hb dL_law_278 rfl (lv_at hl 5 rfl) ?_
      refine lv_iload hx hb dL_law_279 (lv_at hl 1 rfl) ?_
      refine lv_iconst (v := 1) hx hb dL_law_281 (by decide) ?_
      refine lv_iadd hx hb dL_law_282 ?_
      refine xr_top (nI_add i 1) ?_
      refine xr_sld C0 hX hbl hbA hS (j := i + 1) (by omega) (by omega) dL_law_283 ?_
      refine lv_aload_n hx hb dL_law_284 rfl (lv_at hl 5 rfl) ?_
      refine lv_iload hx hb dL_law_285 (lv_at hl 1 rfl) ?_
      refine lv_iconst (v := 2) hx hb dL_law_287 (by decide) ?_
      refine lv_iadd hx hb dL_law_288 ?_
      refine xr_top (nI_add i 2) ?_
      refine xr_sld C0 hX hbl hbA hS (j := i + 2) (by omega) (by omega) dL_law_289 ?_
      refine xr_top (e2) ?_
      refine lv_aload_n hx hb dL_law_290 rfl (lv_at hl 5 rfl) ?_
      refine lv_iload hx hb dL_law_291 (lv_at hl 1 rfl) ?_
      refine lv_iconst (v := 3) hx hb dL_law_293 (by decide) ?_
      refine lv_iadd hx hb dL_law_294 ?_
      refine xr_top (nI_add i 3) ?_
      refine xr_sld C0 hX hbl hbA hS (j := i + 3) (by omega) (by omega) dL_law_295 ?_
      refine xr_top (e3) ?_
      have hP := hP.sub (ws' := rs_LM q t qo cI cL (n) (f') (g') (sf') (sg') (r') (vp_updL fo 0 (nI (d - a)).toInt64) (k) (n) (f) (g)) [7, 8, 9, 0, 1, 2, 3, 4, 5, 6] rfl
      have hD := hD.sub (ws' := rs_LM q t qo cI cL (n) (f') (g') (sf') (sg') (r') (vp_updL fo 0 (nI (d - a)).toInt64) (k) (n) (f) (g)) [7, 8, 9, 0, 1, 2, 3, 4, 5, 6] (by decide) rfl
      refine xr_vcall (As := [.int (xs (i + 1)), .int (nI a), .int (nI d)]) (rest := []) (nA := 3) C0 (m_sort0 l D t cI [(cL, .long)] (rs_X q cI (n) (f') (g') (sf') (sg') (r') ++ [(qo, .inl (cL, 1, .inr (.inl (vp_updL fo 0 (nI (d - a)).toInt64))))]) _ (n) (k) (f) (g) (xs (i + 1)) a d h1 h2 had hdn hn) (gV wM_L_X1_sort wI_X1_sort wV_X1_X1_sort wN_X1 wC_X1_sort) (by decide +kernel) rfl rfl rfl ⟨by decide, by decide⟩ hK hP hD hS hA 0 rfl rfl hl.1 rfl (Nat.le_of_ble_eq_true rfl) dL_law_296 (⟨hcs.1, hcs.2⟩) (fun v w H locs hv hP hD hz hS => ?_)
      obtain ⟨f2, g2, rfl, rfl, hSt2⟩ := hv
      obtain ⟨rfl, rfl⟩ := hSt.one hSt2
      have hP := hP.sub (ws' := rs_L q t qo cI cL (n) (f') (g') (sf') (sg') (r') (vp_updL fo 0 (nI (d - a)).toInt64) (0) (n) (f') (g')) [3, 4, 5, 6, 7, 8, 9, 0, 1, 2] rfl
      have hD := hD.sub (ws' := rs_L q t qo cI cL (n) (f') (g') (sf') (sg') (r') (vp_updL fo 0 (nI (d - a)).toInt64) (0) (n) (f') (g')) [3, 4, 5, 6, 7, 8, 9, 0, 1, 2] (by decide) rfl
      refine lv_istore hx hb dL_law_299 hl (by decide) rfl (fun ls hl => ?_)
      have hl : lv_has ls 7 [(6, .int (nI (d - a))), (5, .int 0), (4, .int (nI i)), (3, .ref qo), (2, .ref (t 0)), (1, .ref (q 0)), (0, .ref b)] := hl
      refine lv_aload_n hx hb dL_law_301 rfl (lv_at hl 4 rfl) ?_
      have hP := hP.sub (ws' := rs_LM q t qo cI cL (n) (f') (g') (sf') (sg') (r') (vp_updL fo 0 (nI (d - a)).toInt64) (0) (n) (f') (g')) [7, 8, 9, 0, 1, 2, 3, 4, 5, 6] rfl
      have hD := hD.sub (ws' := rs_LM q t qo cI cL (n) (f') (g') (sf') (sg') (r') (vp_updL fo 0 (nI (d - a)).toInt64) (0) (n) (f') (g')) [7, 8, 9, 0, 1, 2, 3, 4, 5, 6] (by decide) rfl
      refine xr_vcall (As := []) (rest := []) (nA := 0) C0 (m_thrown l D t cI [(cL, .long)] (rs_X q cI (n) (f') (g') (sf') (sg') (r') ++ [(qo, .inl (cL, 1, .inr (.inl (vp_updL fo 0 (nI (d - a)).toInt64))))]) _ (n) (0) (f') (g') ) (gV wM_L_X1_thrown wI_X1_thrown wV_X1_X1_thrown wN_X1 wC_X1_thrown) (by decide +kernel) rfl rfl rfl ⟨by decide, by decide⟩ hK hP hD hS hA 0 rfl rfl hl.1 rfl (Nat.le_of_ble_eq_true rfl) dL_law_302 (⟨hcs.1, hcs.2⟩) (fun v w H locs hv hP hD hz hS => ?_)
      obtain ⟨rfl, rfl⟩ := hv
      have hP := hP.sub (ws' := rs_L q t qo cI cL (n) (f') (g') (sf') (sg') (r') (vp_updL fo 0 (nI (d - a)).toInt64) (0) (n) (f') (g')) [3, 4, 5, 6, 7, 8, 9, 0, 1, 2] rfl
      have hD := hD.sub (ws' := rs_L q t qo cI cL (n) (f') (g') (sf') (sg') (r') (vp_updL fo 0 (nI (d - a)).toInt64) (0) (n) (f') (g')) [3, 4, 5, 6, 7, 8, 9, 0, 1, 2] (by decide) rfl
      refine lv_iload hx hb dL_law_305 (lv_at hl 1 rfl) ?_
      refine lv_icmp_eq hx hb dL_law_307 rfl (fun h => ?_) (fun h => absurd rfl h)
      refine lv_iload hx hb dL_law_312 (lv_at hl 1 rfl) ?_
      refine lv_if_ne hx hb dL_law_314 rfl (fun h => absurd rfl h) (fun h => ?_)
      refine lv_aload_n hx hb dL_law_317 rfl (lv_at hl 3 rfl) ?_
      refine lv_iconst (v := 0) hx hb dL_law_318 (by decide) ?_
      refine xr_lald0 C0 hK hP 6 rfl dL_law_319 ?_
      refine xr_topl pk_uLs ?_
      refine lv_iload hx hb dL_law_320 (lv_at hl 0 rfl) ?_
      refine lv_i2l hx hb dL_law_322 rfl ?_
      refine W.lcmp hx hb dL_law_323 ?_
      refine xr_top (rs_cmp _) ?_
      refine lv_if_eq hx hb dL_law_324 rfl (fun h => ?_) (fun h => absurd rfl h)
      refine lv_goto hx hb dL_law_329 rfl ?_
      have hl : lv_has ls 7 [(4, .int (nI i)), (3, .ref qo), (2, .ref (t 0)), (1, .ref (q 0)), (0, .ref b)] := lv_sub hl [2, 3, 4, 5, 6] rfl
      exact kk (n) (f') (g') (sf') (sg') (r') (vp_updL fo 0 (nI (d - a)).toInt64) (0) H locs ls (hn) hP hD hS hl
set_option maxHeartbeats 4000000 in
set_option maxRecDepth 100000 in
/-- the law calls get -/
theorem law_get {p : Program} {l : Launch} {e : Env} {s : State} {m : MethodId} {args : Array Value} {below : List Frame} {meth : Method} {c : Code} {Q : State → Prop} {D : va_G} {A : Nat → Prop} {q t : Nat → Nat} {qo b L : Nat} {cI cL : ClassId} {xs : Nat → Int32} (hl0 : l.stackTraces = false) (C0 : CallFix p m c cL_law 7 s args lw_w RL) (hK : va_K D vwCl [(cI, .int), (cL, .long)] s) (hA : ∀ q, s.heap.size ≤ q → A q) (hX : va_X b L xs s s.heap) (hbl : b < s.heap.size) (hbA : ¬ A b) (hL : L ≤ 2048)
    (hZ : ∀ (H : Heap) (locs : List Loc), va_S A s.heap H locs → ∀ U : State, U.heap = H → s.WarmedH U.vm → xr_Zh U) {i n cells slots : Nat} {f g sf sg r : Nat → Int32} {fo : Nat → Int64} {k : Int32} {H : Heap} {locs : List Loc} {ls : Array Slot} (hi : i + 4 ≤ L) (hn : n ≤ 2000) (hcs : cells + 1 ≤ 1037 ∧ slots + 6 ≤ 22222)
    (hP : va_P D vwCl (rs_L q t qo cI cL n f g sf sg r fo k n f g) H) (hD : va_D A (rs_L q t qo cI cL n f g sf sg r fo k n f g)) (hS : va_S A s.heap H locs) (hl : lv_has ls 7 [(4, .int (nI i)), (3, .ref qo), (2, .ref (t 0)), (1, .ref (q 0)), (0, .ref b)])
    (kk : ∀ (n : Nat) (f g sf sg r : Nat → Int32) (fo : Nat → Int64) (k : Int32) (H : Heap) (locs : List Loc) (ls : Array Slot), n ≤ 2000 → va_P D vwCl (rs_L q t qo cI cL n f g sf sg r fo k n f g) H → va_D A (rs_L q t qo cI cL n f g sf sg r fo k n f g) → va_S A s.heap H locs → lv_has ls 7 [(4, .int (nI i)), (3, .ref qo), (2, .ref (t 0)), (1, .ref (q 0)), (0, .ref b)] → W p l e room_1 s m args below meth c H locs (cells + 1) (slots + 6) Q (F0 m 702 ls [])) : W p l e room_1 s m args below meth c H locs cells slots Q (F0 m 332 ls []) := by
  have hx := C0.1
  have hb := C0.2.1
  rcases rs_ix (xs (i + 1)) (n := n) (by omega) with hbad | ⟨j, hj, e1⟩
  · skip
    refine lv_aload_n hx hb dL_law_332 rfl (lv_at hl 3 rfl) ?_
    refine lv_aload_n hx hb dL_law_333 rfl (lv_at hl 4 rfl) ?_
    refine lv_iload hx hb dL_law_334 (lv_at hl 0 rfl) ?_
    refine lv_iconst (v := 1) hx hb dL_law_336 (by decide) ?_
    refine lv_iadd hx hb dL_law_337 ?_
    refine xr_top (nI_add i 1) ?_
    refine xr_sld C0 hX hbl hbA hS (j := i + 1) (by omega) (by omega) dL_law_338 ?_
    refine lv_aload_n hx hb dL_law_339 rfl (lv_at hl 1 rfl) ?_
    refine xr_lcall (As := [.ref (q 0), .int (xs (i + 1)), .ref qo]) (rest := []) (nA := 3) C0 (h_get1 l hl0 D q qo cI cL [] (rs_M t cI k n f g) _ n f g sf sg r fo (xs (i + 1)) hbad) (gH wM_L_L_get wS_L_get wN_L wC_L_get) (by decide +kernel) rfl ⟨by decide, by decide⟩ hK hP hD hS hA (hZ _ _ hS) hl.1 rfl (Nat.le_of_ble_eq_true rfl) dL_law_340 hcs (fun v w H locs hv hP hD hz hS => ?_)
    obtain ⟨rfl, rfl⟩ := hv
    refine lv_istore hx hb dL_law_343 hl (by decide) rfl (fun ls hl => ?_)
    have hl : lv_has ls 7 [(5, .int 1), (4, .int (nI i)), (3, .ref qo), (2, .ref (t 0)), (1, .ref (q 0)), (0, .ref b)] := hl
    refine lv_aload_n hx hb dL_law_345 rfl (lv_at hl 3 rfl) ?_
    refine lv_aload_n hx hb dL_law_346 rfl (lv_at hl 5 rfl) ?_
    refine lv_iload hx hb dL_law_347 (lv_at hl 1 rfl) ?_
    refine lv_iconst (v := 1) hx hb dL_law_349 (by decide) ?_
    refine lv_iadd hx hb dL_law_350 ?_
    refine xr_top (nI_add i 1) ?_
    refine xr_sld C0 hX hbl hbA hS (j := i + 1) (by omega) (by omega) dL_law_351 ?_
    have hP := hP.sub (ws' := rs_LM q t qo cI cL (n) (f) (g) (sf) (sg) (r) (fo) (k) (n) (f) (g)) [7, 8, 9, 0, 1, 2, 3, 4, 5, 6] rfl
    have hD := hD.sub (ws' := rs_LM q t qo cI cL (n) (f) (g) (sf) (sg) (r) (fo) (k) (n) (f) (g)) [7, 8, 9, 0, 1, 2, 3, 4, 5, 6] (by decide) rfl
    refine xr_vcall (As := [.int (xs (i + 1))]) (rest := []) (nA := 1) C0 (m_get1 l D t cI [(cL, .long)] (rs_X q cI (n) (f) (g) (sf) (sg) (r) ++ [(qo, .inl (cL, 1, .inr (.inl (fo))))]) _ (n) (k) (f) (g) (xs (i + 1)) hbad) (gV wM_L_X1_get wI_X1_get wV_X1_X1_get wN_X1 wC_X1_get) (by decide +kernel) rfl rfl rfl ⟨by decide, by decide⟩ hK hP hD hS hA 0 rfl rfl hl.1 rfl (Nat.le_of_ble_eq_true rfl) dL_law_352 (⟨hcs.1, hcs.2⟩) (fun v w H locs hv hP hD hz hS => ?_)
    obtain ⟨rfl, rfl⟩ := hv
    have hP := hP.sub (ws' := rs_L q t qo cI cL (n) (f) (g) (sf) (sg) (r) (fo) (1) (n) (f) (g)) [3, 4, 5, 6, 7, 8, 9, 0, 1, 2] rfl
    have hD := hD.sub (ws' := rs_L q t qo cI cL (n) (f) (g) (sf) (sg) (r) (fo) (1) (n) (f) (g)) [3, 4, 5, 6, 7, 8, 9, 0, 1, 2] (by decide) rfl
    refine lv_istore hx hb dL_law_355 hl (by decide) rfl (fun ls hl => ?_)
    have hl : lv_has ls 7 [(6, .int (0)), (5, .int 1), (4, .int (nI i)), (3, .ref qo), (2, .ref (t 0)), (1, .ref (q 0)), (0, .ref b)] := hl
    refine lv_aload_n hx hb dL_law_357 rfl (lv_at hl 4 rfl) ?_
    have hP := hP.sub (ws' := rs_LM q t qo cI cL (n) (f) (g) (sf) (sg) (r) (fo) (1) (n) (f) (g)) [7, 8, 9, 0, 1, 2, 3, 4, 5, 6] rfl
    have hD := hD.sub (ws' := rs_LM q t qo cI cL (n) (f) (g) (sf) (sg) (r) (fo) (1) (n) (f) (g)) [7, 8, 9, 0, 1, 2, 3, 4, 5, 6] (by decide) rfl
    refine xr_vcall (As := []) (rest := []) (nA := 0) C0 (m_thrown l D t cI [(cL, .long)] (rs_X q cI (n) (f) (g) (sf) (sg) (r) ++ [(qo, .inl (cL, 1, .inr (.inl (fo))))]) _ (n) (1) (f) (g) ) (gV wM_L_X1_thrown wI_X1_thrown wV_X1_X1_thrown wN_X1 wC_X1_thrown) (by decide +kernel) rfl rfl rfl ⟨by decide, by decide⟩ hK hP hD hS hA 0 rfl rfl hl.1 rfl (Nat.le_of_ble_eq_true rfl) dL_law_358 (⟨hcs.1, hcs.2⟩) (fun v w H locs hv hP hD hz hS => ?_)
    obtain ⟨rfl, rfl⟩ := hv
    have hP := hP.sub (ws' := rs_L q t qo cI cL (n) (f) (g) (sf) (sg) (r) (fo) (1) (n) (f) (g)) [3, 4, 5, 6, 7, 8, 9, 0, 1, 2] rfl
    have hD := hD.sub (ws' := rs_L q t qo cI cL (n) (f) (g) (sf) (sg) (r) (fo) (1) (n) (f) (g)) [3, 4, 5, 6, 7, 8, 9, 0, 1, 2] (by decide) rfl
    refine lv_iload hx hb dL_law_361 (lv_at hl 1 rfl) ?_
    refine lv_icmp_eq hx hb dL_law_363 rfl (fun h => ?_) (fun h => absurd rfl h)
    refine lv_iload hx hb dL_law_368 (lv_at hl 1 rfl) ?_
    refine lv_if_ne hx hb dL_law_370 rfl (fun h => ?_) (fun h => absurd h (by decide))
    refine lv_goto hx hb dL_law_385 rfl ?_
    have hl : lv_has ls 7 [(4, .int (nI i)), (3, .ref qo), (2, .ref (t 0)), (1, .ref (q 0)), (0, .ref b)] := lv_sub hl [2, 3, 4, 5, 6] rfl
    exact kk (n) (f) (g) (sf) (sg) (r) (fo) (1) H locs ls (hn) hP hD hS hl
  · skip
    refine lv_aload_n hx hb dL_law_332 rfl (lv_at hl 3 rfl) ?_
    refine lv_aload_n hx hb dL_law_333 rfl (lv_at hl 4 rfl) ?_
    refine lv_iload hx hb dL_law_334 (lv_at hl 0 rfl) ?_
    refine lv_iconst (v := 1) hx hb dL_law_336 (by decide) ?_
    refine lv_iadd hx hb dL_law_337 ?_
    refine xr_top (nI_add i 1) ?_
    refine xr_sld C0 hX hbl hbA hS (j := i + 1) (by omega) (by omega) dL_law_338 ?_
    refine xr_top (e1) ?_
    refine lv_aload_n hx hb dL_law_339 rfl (lv_at hl 1 rfl) ?_
    refine xr_lcall (As := [.ref (q 0), .int (nI j), .ref qo]) (rest := []) (nA := 3) C0 (h_get0 l hl0 D q qo cI cL [] (rs_M t cI k n f g) _ n f g sf sg r fo j hj hn) (gH wM_L_L_get wS_L_get wN_L wC_L_get) (by decide +kernel) rfl ⟨by decide, by decide⟩ hK hP hD hS hA (hZ _ _ hS) hl.1 rfl (Nat.le_of_ble_eq_true rfl) dL_law_340 hcs (fun v w H locs hv hP hD hz hS => ?_)
    obtain ⟨rfl, rfl⟩ := hv
    refine lv_istore hx hb dL_law_343 hl (by decide) rfl (fun ls hl => ?_)
    have hl : lv_has ls 7 [(5, .int 0), (4, .int (nI i)), (3, .ref qo), (2, .ref (t 0)), (1, .ref (q 0)), (0, .ref b)] := hl
    refine lv_aload_n hx hb dL_law_345 rfl (lv_at hl 3 rfl) ?_
    refine lv_aload_n hx hb dL_law_346 rfl (lv_at hl 5 rfl) ?_
    refine lv_iload hx hb dL_law_347 (lv_at hl 1 rfl) ?_
    refine lv_iconst (v := 1) hx hb dL_law_349 (by decide) ?_
    refine lv_iadd hx hb dL_law_350 ?_
    refine xr_top (nI_add i 1) ?_
    refine xr_sld C0 hX hbl hbA hS (j := i + 1) (by omega) (by omega) dL_law_351 ?_
    refine xr_top (e1) ?_
    have hP := hP.sub (ws' := rs_LM q t qo cI cL (n) (f) (g) (sf) (sg) (r) (vp_updL fo 0 (f j).toInt64) (k) (n) (f) (g)) [7, 8, 9, 0, 1, 2, 3, 4, 5, 6] rfl
    have hD := hD.sub (ws' := rs_LM q t qo cI cL (n) (f) (g) (sf) (sg) (r) (vp_updL fo 0 (f j).toInt64) (k) (n) (f) (g)) [7, 8, 9, 0, 1, 2, 3, 4, 5, 6] (by decide) rfl
    refine xr_vcall (As := [.int (nI j)]) (rest := []) (nA := 1) C0 (m_get0 l D t cI [(cL, .long)] (rs_X q cI (n) (f) (g) (sf) (sg) (r) ++ [(qo, .inl (cL, 1, .inr (.inl (vp_updL fo 0 (f j).toInt64))))]) _ (n) (k) (f) (g) j hj hn) (gV wM_L_X1_get wI_X1_get wV_X1_X1_get wN_X1 wC_X1_get) (by decide +kernel) rfl rfl rfl ⟨by decide, by decide⟩ hK hP hD hS hA 0 rfl rfl hl.1 rfl (Nat.le_of_ble_eq_true rfl) dL_law_352 (⟨hcs.1, hcs.2⟩) (fun v w H locs hv hP hD hz hS => ?_)
    obtain ⟨rfl, rfl⟩ := hv
    have hP := hP.sub (ws' := rs_L q t qo cI cL (n) (f) (g) (sf) (sg) (r) (vp_updL fo 0 (f j).toInt64) (0) (n) (f) (g)) [3, 4, 5, 6, 7, 8, 9, 0, 1, 2] rfl
    have hD := hD.sub (ws' := rs_L q t qo cI cL (n) (f) (g) (sf) (sg) (r) (vp_updL fo 0 (f j).toInt64) (0) (n) (f) (g)) [3, 4, 5, 6, 7, 8, 9, 0, 1, 2] (by decide) rfl
    refine lv_istore hx hb dL_law_355 hl (by decide) rfl (fun ls hl => ?_)
    have hl : lv_has ls 7 [(6, .int (f j)), (5, .int 0), (4, .int (nI i)), (3, .ref qo), (2, .ref (t 0)), (1, .ref (q 0)), (0, .ref b)] := hl
    refine lv_aload_n hx hb dL_law_357 rfl (lv_at hl 4 rfl) ?_
    have hP := hP.sub (ws' := rs_LM q t qo cI cL (n) (f) (g) (sf) (sg) (r) (vp_updL fo 0 (f j).toInt64) (0) (n) (f) (g)) [7, 8, 9, 0, 1, 2, 3, 4, 5, 6] rfl
    have hD := hD.sub (ws' := rs_LM q t qo cI cL (n) (f) (g) (sf) (sg) (r) (vp_updL fo 0 (f j).toInt64) (0) (n) (f) (g)) [7, 8, 9, 0, 1, 2, 3, 4, 5, 6] (by decide) rfl
    refine xr_vcall (As := []) (rest := []) (nA := 0) C0 (m_thrown l D t cI [(cL, .long)] (rs_X q cI (n) (f) (g) (sf) (sg) (r) ++ [(qo, .inl (cL, 1, .inr (.inl (vp_updL fo 0 (f j).toInt64))))]) _ (n) (0) (f) (g) ) (gV wM_L_X1_thrown wI_X1_thrown wV_X1_X1_thrown wN_X1 wC_X1_thrown) (by decide +kernel) rfl rfl rfl ⟨by decide, by decide⟩ hK hP hD hS hA 0 rfl rfl hl.1 rfl (Nat.le_of_ble_eq_true rfl) dL_law_358 (⟨hcs.1, hcs.2⟩) (fun v w H locs hv hP hD hz hS => ?_)
    obtain ⟨rfl, rfl⟩ := hv
    have hP := hP.sub (ws' := rs_L q t qo cI cL (n) (f) (g) (sf) (sg) (r) (vp_updL fo 0 (f j).toInt64) (0) (n) (f) (g)) [3, 4, 5, 6, 7, 8, 9, 0, 1, 2] rfl
    have hD := hD.sub (ws' := rs_L q t qo cI cL (n) (f) (g) (sf) (sg) (r) (vp_updL fo 0 (f j).toInt64) (0) (n) (f) (g)) [3, 4, 5, 6, 7, 8, 9, 0, 1, 2] (by decide) rfl
    refine lv_iload hx hb dL_law_361 (lv_at hl 1 rfl) ?_
    refine lv_icmp_eq hx hb dL_law_363 rfl (fun h => ?_) (fun h => absurd rfl h)
    refine lv_iload hx hb dL_law_368 (lv_at hl 1 rfl) ?_
    refine lv_if_ne hx hb dL_law_370 rfl (fun h => absurd rfl h) (fun h => ?_)
    refine lv_aload_n hx hb dL_law_373 rfl (lv_at hl 3 rfl) ?_
    refine lv_iconst (v := 0) hx hb dL_law_374 (by decide) ?_
    refine xr_lald0 C0 hK hP 6 rfl dL_law_375 ?_
    refine xr_topl pk_uLs ?_
    refine lv_iload hx hb dL_law_376 (lv_at hl 0 rfl) ?_
    refine lv_i2l hx hb dL_law_378 rfl ?_
    refine W.lcmp hx hb dL_law_379 ?_
    refine xr_top (rs_cmp _) ?_
    refine lv_if_eq hx hb dL_law_380 rfl (fun h => ?_) (fun h => absurd rfl h)
    refine lv_goto hx hb dL_law_385 rfl ?_
    have hl : lv_has ls 7 [(4, .int (nI i)), (3, .ref qo), (2, .ref (t 0)), (1, .ref (q 0)), (0, .ref b)] := lv_sub hl [2, 3, 4, 5, 6] rfl
    exact kk (n) (f) (g) (sf) (sg) (r) (vp_updL fo 0 (f j).toInt64) (0) H locs ls (hn) hP hD hS hl
set_option maxHeartbeats 4000000 in
set_option maxRecDepth 100000 in
/-- the law calls tag -/
theorem law_tag {p : Program} {l : Launch} {e : Env} {s : State} {m : MethodId} {args : Array Value} {below : List Frame} {meth : Method} {c : Code} {Q : State → Prop} {D : va_G} {A : Nat → Prop} {q t : Nat → Nat} {qo b L : Nat} {cI cL : ClassId} {xs : Nat → Int32} (hl0 : l.stackTraces = false) (C0 : CallFix p m c cL_law 7 s args lw_w RL) (hK : va_K D vwCl [(cI, .int), (cL, .long)] s) (hA : ∀ q, s.heap.size ≤ q → A q) (hX : va_X b L xs s s.heap) (hbl : b < s.heap.size) (hbA : ¬ A b) (hL : L ≤ 2048)
    (hZ : ∀ (H : Heap) (locs : List Loc), va_S A s.heap H locs → ∀ U : State, U.heap = H → s.WarmedH U.vm → xr_Zh U) {i n cells slots : Nat} {f g sf sg r : Nat → Int32} {fo : Nat → Int64} {k : Int32} {H : Heap} {locs : List Loc} {ls : Array Slot} (hi : i + 4 ≤ L) (hn : n ≤ 2000) (hcs : cells + 1 ≤ 1037 ∧ slots + 6 ≤ 22222)
    (hP : va_P D vwCl (rs_L q t qo cI cL n f g sf sg r fo k n f g) H) (hD : va_D A (rs_L q t qo cI cL n f g sf sg r fo k n f g)) (hS : va_S A s.heap H locs) (hl : lv_has ls 7 [(4, .int (nI i)), (3, .ref qo), (2, .ref (t 0)), (1, .ref (q 0)), (0, .ref b)])
    (kk : ∀ (n : Nat) (f g sf sg r : Nat → Int32) (fo : Nat → Int64) (k : Int32) (H : Heap) (locs : List Loc) (ls : Array Slot), n ≤ 2000 → va_P D vwCl (rs_L q t qo cI cL n f g sf sg r fo k n f g) H → va_D A (rs_L q t qo cI cL n f g sf sg r fo k n f g) → va_S A s.heap H locs → lv_has ls 7 [(4, .int (nI i)), (3, .ref qo), (2, .ref (t 0)), (1, .ref (q 0)), (0, .ref b)] → W p l e room_1 s m args below meth c H locs (cells + 1) (slots + 6) Q (F0 m 702 ls [])) : W p l e room_1 s m args below meth c H locs cells slots Q (F0 m 388 ls []) := by
  have hx := C0.1
  have hb := C0.2.1
  rcases rs_ix (xs (i + 1)) (n := n) (by omega) with hbad | ⟨j, hj, e1⟩
  · skip
    refine lv_aload_n hx hb dL_law_388 rfl (lv_at hl 3 rfl) ?_
    refine lv_aload_n hx hb dL_law_389 rfl (lv_at hl 4 rfl) ?_
    refine lv_iload hx hb dL_law_390 (lv_at hl 0 rfl) ?_
    refine lv_iconst (v := 1) hx hb dL_law_392 (by decide) ?_
    refine lv_iadd hx hb dL_law_393 ?_
    refine xr_top (nI_add i 1) ?_
    refine xr_sld C0 hX hbl hbA hS (j := i + 1) (by omega) (by omega) dL_law_394 ?_
    refine lv_aload_n hx hb dL_law_395 rfl (lv_at hl 1 rfl) ?_
    refine xr_lcall (As := [.ref (q 0), .int (xs (i + 1)), .ref qo]) (rest := []) (nA := 3) C0 (h_tag1 l hl0 D q qo cI cL [] (rs_M t cI k n f g) _ n f g sf sg r fo (xs (i + 1)) hbad) (gH wM_L_L_tag wS_L_tag wN_L wC_L_tag) (by decide +kernel) rfl ⟨by decide, by decide⟩ hK hP hD hS hA (hZ _ _ hS) hl.1 rfl (Nat.le_of_ble_eq_true rfl) dL_law_396 hcs (fun v w H locs hv hP hD hz hS => ?_)
    obtain ⟨rfl, rfl⟩ := hv
    refine lv_istore hx hb dL_law_399 hl (by decide) rfl (fun ls hl => ?_)
    have hl : lv_has ls 7 [(5, .int 1), (4, .int (nI i)), (3, .ref qo), (2, .ref (t 0)), (1, .ref (q 0)), (0, .ref b)] := hl
    refine lv_aload_n hx hb dL_law_401 rfl (lv_at hl 3 rfl) ?_
    refine lv_aload_n hx hb dL_law_402 rfl (lv_at hl 5 rfl) ?_
    refine lv_iload hx hb dL_law_403 (lv_at hl 1 rfl) ?_
    refine lv_iconst (v := 1) hx hb dL_law_405 (by decide) ?_
    refine lv_iadd hx hb dL_law_406 ?_
    refine xr_top (nI_add i 1) ?_
    refine xr_sld C0 hX hbl hbA hS (j := i + 1) (by omega) (by omega) dL_law_407 ?_
    have hP := hP.sub (ws' := rs_LM q t qo cI cL (n) (f) (g) (sf) (sg) (r) (fo) (k) (n) (f) (g)) [7, 8, 9, 0, 1, 2, 3, 4, 5, 6] rfl
    have hD := hD.sub (ws' := rs_LM q t qo cI cL (n) (f) (g) (sf) (sg) (r) (fo) (k) (n) (f) (g)) [7, 8, 9, 0, 1, 2, 3, 4, 5, 6] (by decide) rfl
    refine xr_vcall (As := [.int (xs (i + 1))]) (rest := []) (nA := 1) C0 (m_tag1 l D t cI [(cL, .long)] (rs_X q cI (n) (f) (g) (sf) (sg) (r) ++ [(qo, .inl (cL, 1, .inr (.inl (fo))))]) _ (n) (k) (f) (g) (xs (i + 1)) hbad) (gV wM_L_X1_tag wI_X1_tag wV_X1_X1_tag wN_X1 wC_X1_tag) (by decide +kernel) rfl rfl rfl ⟨by decide, by decide⟩ hK hP hD hS hA 0 rfl rfl hl.1 rfl (Nat.le_of_ble_eq_true rfl) dL_law_408 (⟨hcs.1, hcs.2⟩) (fun v w H locs hv hP hD hz hS => ?_)
    obtain ⟨rfl, rfl⟩ := hv
    have hP := hP.sub (ws' := rs_L q t qo cI cL (n) (f) (g) (sf) (sg) (r) (fo) (1) (n) (f) (g)) [3, 4, 5, 6, 7, 8, 9, 0, 1, 2] rfl
    have hD := hD.sub (ws' := rs_L q t qo cI cL (n) (f) (g) (sf) (sg) (r) (fo) (1) (n) (f) (g)) [3, 4, 5, 6, 7, 8, 9, 0, 1, 2] (by decide) rfl
    refine lv_istore hx hb dL_law_411 hl (by decide) rfl (fun ls hl => ?_)
    have hl : lv_has ls 7 [(6, .int (0)), (5, .int 1), (4, .int (nI i)), (3, .ref qo), (2, .ref (t 0)), (1, .ref (q 0)), (0, .ref b)] := hl
    refine lv_aload_n hx hb dL_law_413 rfl (lv_at hl 4 rfl) ?_
    have hP := hP.sub (ws' := rs_LM q t qo cI cL (n) (f) (g) (sf) (sg) (r) (fo) (1) (n) (f) (g)) [7, 8, 9, 0, 1, 2, 3, 4, 5, 6] rfl
    have hD := hD.sub (ws' := rs_LM q t qo cI cL (n) (f) (g) (sf) (sg) (r) (fo) (1) (n) (f) (g)) [7, 8, 9, 0, 1, 2, 3, 4, 5, 6] (by decide) rfl
    refine xr_vcall (As := []) (rest := []) (nA := 0) C0 (m_thrown l D t cI [(cL, .long)] (rs_X q cI (n) (f) (g) (sf) (sg) (r) ++ [(qo, .inl (cL, 1, .inr (.inl (fo))))]) _ (n) (1) (f) (g) ) (gV wM_L_X1_thrown wI_X1_thrown wV_X1_X1_thrown wN_X1 wC_X1_thrown) (by decide +kernel) rfl rfl rfl ⟨by decide, by decide⟩ hK hP hD hS hA 0 rfl rfl hl.1 rfl (Nat.le_of_ble_eq_true rfl) dL_law_414 (⟨hcs.1, hcs.2⟩) (fun v w H locs hv hP hD hz hS => ?_)
    obtain ⟨rfl, rfl⟩ := hv
    have hP := hP.sub (ws' := rs_L q t qo cI cL (n) (f) (g) (sf) (sg) (r) (fo) (1) (n) (f) (g)) [3, 4, 5, 6, 7, 8, 9, 0, 1, 2] rfl
    have hD := hD.sub (ws' := rs_L q t qo cI cL (n) (f) (g) (sf) (sg) (r) (fo) (1) (n) (f) (g)) [3, 4, 5, 6, 7, 8, 9, 0, 1, 2] (by decide) rfl
    refine lv_iload hx hb dL_law_417 (lv_at hl 1 rfl) ?_
    refine lv_icmp_eq hx hb dL_law_419 rfl (fun h => ?_) (fun h => absurd rfl h)
    refine lv_iload hx hb dL_law_424 (lv_at hl 1 rfl) ?_
    refine lv_if_ne hx hb dL_law_426 rfl (fun h => ?_) (fun h => absurd h (by decide))
    refine lv_goto hx hb dL_law_441 rfl ?_
    have hl : lv_has ls 7 [(4, .int (nI i)), (3, .ref qo), (2, .ref (t 0)), (1, .ref (q 0)), (0, .ref b)] := lv_sub hl [2, 3, 4, 5, 6] rfl
    exact kk (n) (f) (g) (sf) (sg) (r) (fo) (1) H locs ls (hn) hP hD hS hl
  · skip
    refine lv_aload_n hx hb dL_law_388 rfl (lv_at hl 3 rfl) ?_
    refine lv_aload_n hx hb dL_law_389 rfl (lv_at hl 4 rfl) ?_
    refine lv_iload hx hb dL_law_390 (lv_at hl 0 rfl) ?_
    refine lv_iconst (v := 1) hx hb dL_law_392 (by decide) ?_
    refine lv_iadd hx hb dL_law_393 ?_
    refine xr_top (nI_add i 1) ?_
    refine xr_sld C0 hX hbl hbA hS (j := i + 1) (by omega) (by omega) dL_law_394 ?_
    refine xr_top (e1) ?_
    refine lv_aload_n hx hb dL_law_395 rfl (lv_at hl 1 rfl) ?_
    refine xr_lcall (As := [.ref (q 0), .int (nI j), .ref qo]) (rest := []) (nA := 3) C0 (h_tag0 l hl0 D q qo cI cL [] (rs_M t cI k n f g) _ n f g sf sg r fo j hj hn) (gH wM_L_L_tag wS_L_tag wN_L wC_L_tag) (by decide +kernel) rfl ⟨by decide, by decide⟩ hK hP hD hS hA (hZ _ _ hS) hl.1 rfl (Nat.le_of_ble_eq_true rfl) dL_law_396 hcs (fun v w H locs hv hP hD hz hS => ?_)
    obtain ⟨rfl, rfl⟩ := hv
    refine lv_istore hx hb dL_law_399 hl (by decide) rfl (fun ls hl => ?_)
    have hl : lv_has ls 7 [(5, .int 0), (4, .int (nI i)), (3, .ref qo), (2, .ref (t 0)), (1, .ref (q 0)), (0, .ref b)] := hl
    refine lv_aload_n hx hb dL_law_401 rfl (lv_at hl 3 rfl) ?_
    refine lv_aload_n hx hb dL_law_402 rfl (lv_at hl 5 rfl) ?_
    refine lv_iload hx hb dL_law_403 (lv_at hl 1 rfl) ?_
    refine lv_iconst (v := 1) hx hb dL_law_405 (by decide) ?_
    refine lv_iadd hx hb dL_law_406 ?_
    refine xr_top (nI_add i 1) ?_
    refine xr_sld C0 hX hbl hbA hS (j := i + 1) (by omega) (by omega) dL_law_407 ?_
    refine xr_top (e1) ?_
    have hP := hP.sub (ws' := rs_LM q t qo cI cL (n) (f) (g) (sf) (sg) (r) (vp_updL fo 0 (g j).toInt64) (k) (n) (f) (g)) [7, 8, 9, 0, 1, 2, 3, 4, 5, 6] rfl
    have hD := hD.sub (ws' := rs_LM q t qo cI cL (n) (f) (g) (sf) (sg) (r) (vp_updL fo 0 (g j).toInt64) (k) (n) (f) (g)) [7, 8, 9, 0, 1, 2, 3, 4, 5, 6] (by decide) rfl
    refine xr_vcall (As := [.int (nI j)]) (rest := []) (nA := 1) C0 (m_tag0 l D t cI [(cL, .long)] (rs_X q cI (n) (f) (g) (sf) (sg) (r) ++ [(qo, .inl (cL, 1, .inr (.inl (vp_updL fo 0 (g j).toInt64))))]) _ (n) (k) (f) (g) j hj hn) (gV wM_L_X1_tag wI_X1_tag wV_X1_X1_tag wN_X1 wC_X1_tag) (by decide +kernel) rfl rfl rfl ⟨by decide, by decide⟩ hK hP hD hS hA 0 rfl rfl hl.1 rfl (Nat.le_of_ble_eq_true rfl) dL_law_408 (⟨hcs.1, hcs.2⟩) (fun v w H locs hv hP hD hz hS => ?_)
    obtain ⟨rfl, rfl⟩ := hv
    have hP := hP.sub (ws' := rs_L q t qo cI cL (n) (f) (g) (sf) (sg) (r) (vp_updL fo 0 (g j).toInt64) (0) (n) (f) (g)) [3, 4, 5, 6, 7, 8, 9, 0, 1, 2] rfl
    have hD := hD.sub (ws' := rs_L q t qo cI cL (n) (f) (g) (sf) (sg) (r) (vp_updL fo 0 (g j).toInt64) (0) (n) (f) (g)) [3, 4, 5, 6, 7, 8, 9, 0, 1, 2] (by decide) rfl
    refine lv_istore hx hb dL_law_411 hl (by decide) rfl (fun ls hl => ?_)
    have hl : lv_has ls 7 [(6, .int (g j)), (5, .int 0), (4, .int (nI i)), (3, .ref qo), (2, .ref (t 0)), (1, .ref (q 0)), (0, .ref b)] := hl
    refine lv_aload_n hx hb dL_law_413 rfl (lv_at hl 4 rfl) ?_
    have hP := hP.sub (ws' := rs_LM q t qo cI cL (n) (f) (g) (sf) (sg) (r) (vp_updL fo 0 (g j).toInt64) (0) (n) (f) (g)) [7, 8, 9, 0, 1, 2, 3, 4, 5, 6] rfl
    have hD := hD.sub (ws' := rs_LM q t qo cI cL (n) (f) (g) (sf) (sg) (r) (vp_updL fo 0 (g j).toInt64) (0) (n) (f) (g)) [7, 8, 9, 0, 1, 2, 3, 4, 5, 6] (by decide) rfl
    refine xr_vcall (As := []) (rest := []) (nA := 0) C0 (m_thrown l D t cI [(cL, .long)] (rs_X q cI (n) (f) (g) (sf) (sg) (r) ++ [(qo, .inl (cL, 1, .inr (.inl (vp_updL fo 0 (g j).toInt64))))]) _ (n) (0) (f) (g) ) (gV wM_L_X1_thrown wI_X1_thrown wV_X1_X1_thrown wN_X1 wC_X1_thrown) (by decide +kernel) rfl rfl rfl ⟨by decide, by decide⟩ hK hP hD hS hA 0 rfl rfl hl.1 rfl (Nat.le_of_ble_eq_true rfl) dL_law_414 (⟨hcs.1, hcs.2⟩) (fun v w H locs hv hP hD hz hS => ?_)
    obtain ⟨rfl, rfl⟩ := hv
    have hP := hP.sub (ws' := rs_L q t qo cI cL (n) (f) (g) (sf) (sg) (r) (vp_updL fo 0 (g j).toInt64) (0) (n) (f) (g)) [3, 4, 5, 6, 7, 8, 9, 0, 1, 2] rfl
    have hD := hD.sub (ws' := rs_L q t qo cI cL (n) (f) (g) (sf) (sg) (r) (vp_updL fo 0 (g j).toInt64) (0) (n) (f) (g)) [3, 4, 5, 6, 7, 8, 9, 0, 1, 2] (by decide) rfl
    refine lv_iload hx hb dL_law_417 (lv_at hl 1 rfl) ?_
    refine lv_icmp_eq hx hb dL_law_419 rfl (fun h => ?_) (fun h => absurd rfl h)
    refine lv_iload hx hb dL_law_424 (lv_at hl 1 rfl) ?_
    refine lv_if_ne hx hb dL_law_426 rfl (fun h => absurd rfl h) (fun h => ?_)
    refine lv_aload_n hx hb dL_law_429 rfl (lv_at hl 3 rfl) ?_
    refine lv_iconst (v := 0) hx hb dL_law_430 (by decide) ?_
    refine xr_lald0 C0 hK hP 6 rfl dL_law_431 ?_
    refine xr_topl pk_uLs ?_
    refine lv_iload hx hb dL_law_432 (lv_at hl 0 rfl) ?_
    refine lv_i2l hx hb dL_law_434 rfl ?_
    refine W.lcmp hx hb dL_law_435 ?_
    refine xr_top (rs_cmp _) ?_
    refine lv_if_eq hx hb dL_law_436 rfl (fun h => ?_) (fun h => absurd rfl h)
    refine lv_goto hx hb dL_law_441 rfl ?_
    have hl : lv_has ls 7 [(4, .int (nI i)), (3, .ref qo), (2, .ref (t 0)), (1, .ref (q 0)), (0, .ref b)] := lv_sub hl [2, 3, 4, 5, 6] rfl
    exact kk (n) (f) (g) (sf) (sg) (r) (vp_updL fo 0 (g j).toInt64) (0) H locs ls (hn) hP hD hS hl
set_option maxHeartbeats 4000000 in
set_option maxRecDepth 100000 in
/-- the law calls set -/
theorem law_set {p : Program} {l : Launch} {e : Env} {s : State} {m : MethodId} {args : Array Value} {below : List Frame} {meth : Method} {c : Code} {Q : State → Prop} {D : va_G} {A : Nat → Prop} {q t : Nat → Nat} {qo b L : Nat} {cI cL : ClassId} {xs : Nat → Int32} (hl0 : l.stackTraces = false) (C0 : CallFix p m c cL_law 7 s args lw_w RL) (hK : va_K D vwCl [(cI, .int), (cL, .long)] s) (hA : ∀ q, s.heap.size ≤ q → A q) (hX : va_X b L xs s s.heap) (hbl : b < s.heap.size) (hbA : ¬ A b) (hL : L ≤ 2048)
    (hZ : ∀ (H : Heap) (locs : List Loc), va_S A s.heap H locs → ∀ U : State, U.heap = H → s.WarmedH U.vm → xr_Zh U) {i n cells slots : Nat} {f g sf sg r : Nat → Int32} {fo : Nat → Int64} {k : Int32} {H : Heap} {locs : List Loc} {ls : Array Slot} (hi : i + 4 ≤ L) (hn : n ≤ 2000) (hcs : cells + 1 ≤ 1037 ∧ slots + 6 ≤ 22222)
    (hP : va_P D vwCl (rs_L q t qo cI cL n f g sf sg r fo k n f g) H) (hD : va_D A (rs_L q t qo cI cL n f g sf sg r fo k n f g)) (hS : va_S A s.heap H locs) (hl : lv_has ls 7 [(4, .int (nI i)), (3, .ref qo), (2, .ref (t 0)), (1, .ref (q 0)), (0, .ref b)])
    (kk : ∀ (n : Nat) (f g sf sg r : Nat → Int32) (fo : Nat → Int64) (k : Int32) (H : Heap) (locs : List Loc) (ls : Array Slot), n ≤ 2000 → va_P D vwCl (rs_L q t qo cI cL n f g sf sg r fo k n f g) H → va_D A (rs_L q t qo cI cL n f g sf sg r fo k n f g) → va_S A s.heap H locs → lv_has ls 7 [(4, .int (nI i)), (3, .ref qo), (2, .ref (t 0)), (1, .ref (q 0)), (0, .ref b)] → W p l e room_1 s m args below meth c H locs (cells + 1) (slots + 6) Q (F0 m 702 ls [])) : W p l e room_1 s m args below meth c H locs cells slots Q (F0 m 444 ls []) := by
  have hx := C0.1
  have hb := C0.2.1
  rcases rs_ix (xs (i + 1)) (n := n) (by omega) with hbad | ⟨j, hj, e1⟩
  · skip
    refine lv_aload_n hx hb dL_law_444 rfl (lv_at hl 3 rfl) ?_
    refine lv_aload_n hx hb dL_law_445 rfl (lv_at hl 4 rfl) ?_
    refine lv_iload hx hb dL_law_446 (lv_at hl 0 rfl) ?_
    refine lv_iconst (v := 1) hx hb dL_law_448 (by decide) ?_
    refine lv_iadd hx hb dL_law_449 ?_
    refine xr_top (nI_add i 1) ?_
    refine xr_sld C0 hX hbl hbA hS (j := i + 1) (by omega) (by omega) dL_law_450 ?_
    refine lv_aload_n hx hb dL_law_451 rfl (lv_at hl 4 rfl) ?_
    refine lv_iload hx hb dL_law_452 (lv_at hl 0 rfl) ?_
    refine lv_iconst (v := 2) hx hb dL_law_454 (by decide) ?_
    refine lv_iadd hx hb dL_law_455 ?_
    refine xr_top (nI_add i 2) ?_
    refine xr_sld C0 hX hbl hbA hS (j := i + 2) (by omega) (by omega) dL_law_456 ?_
    refine lv_aload_n hx hb dL_law_457 rfl (lv_at hl 1 rfl) ?_
    refine xr_lcall (As := [.ref (q 0), .int (xs (i + 1)), .int (xs (i + 2)), .ref qo]) (rest := []) (nA := 4) C0 (h_set1 l hl0 D q qo cI cL [] (rs_M t cI k n f g) _ n f g sf sg r fo (xs (i + 1)) (xs (i + 2)) hbad) (gH wM_L_L_set wS_L_set wN_L wC_L_set) (by decide +kernel) rfl ⟨by decide, by decide⟩ hK hP hD hS hA (hZ _ _ hS) hl.1 rfl (Nat.le_of_ble_eq_true rfl) dL_law_458 hcs (fun v w H locs hv hP hD hz hS => ?_)
    obtain ⟨rfl, rfl⟩ := hv
    refine lv_istore hx hb dL_law_461 hl (by decide) rfl (fun ls hl => ?_)
    have hl : lv_has ls 7 [(5, .int 1), (4, .int (nI i)), (3, .ref qo), (2, .ref (t 0)), (1, .ref (q 0)), (0, .ref b)] := hl
    refine lv_aload_n hx hb dL_law_463 rfl (lv_at hl 3 rfl) ?_
    refine lv_aload_n hx hb dL_law_464 rfl (lv_at hl 5 rfl) ?_
    refine lv_iload hx hb dL_law_465 (lv_at hl 1 rfl) ?_
    refine lv_iconst (v := 1) hx hb dL_law_467 (by decide) ?_
    refine lv_iadd hx hb dL_law_468 ?_
    refine xr_top (nI_add i 1) ?_
    refine xr_sld C0 hX hbl hbA hS (j := i + 1) (by omega) (by omega) dL_law_469 ?_
    refine lv_aload_n hx hb dL_law_470 rfl (lv_at hl 5 rfl) ?_
    refine lv_iload hx hb dL_law_471 (lv_at hl 1 rfl) ?_
    refine lv_iconst (v := 2) hx hb dL_law_473 (by decide) ?_
    refine lv_iadd hx hb dL_law_474 ?_
    refine xr_top (nI_add i 2) ?_
    refine xr_sld C0 hX hbl hbA hS (j := i + 2) (by omega) (by omega) dL_law_475 ?_
    have hP := hP.sub (ws' := rs_LM q t qo cI cL (n) (f) (g) (sf) (sg) (r) (fo) (k) (n) (f) (g)) [7, 8, 9, 0, 1, 2, 3, 4, 5, 6] rfl
    have hD := hD.sub (ws' := rs_LM q t qo cI cL (n) (f) (g) (sf) (sg) (r) (fo) (k) (n) (f) (g)) [7, 8, 9, 0, 1, 2, 3, 4, 5, 6] (by decide) rfl
    refine xr_vcall (As := [.int (xs (i + 1)), .int (xs (i + 2))]) (rest := []) (nA := 2) C0 (m_set1 l D t cI [(cL, .long)] (rs_X q cI (n) (f) (g) (sf) (sg) (r) ++ [(qo, .inl (cL, 1, .inr (.inl (fo))))]) _ (n) (k) (f) (g) (xs (i + 1)) (xs (i + 2)) hbad) (gV wM_L_X1_set wI_X1_set wV_X1_X1_set wN_X1 wC_X1_set) (by decide +kernel) rfl rfl rfl ⟨by decide, by decide⟩ hK hP hD hS hA 0 rfl rfl hl.1 rfl (Nat.le_of_ble_eq_true rfl) dL_law_476 (⟨hcs.1, hcs.2⟩) (fun v w H locs hv hP hD hz hS => ?_)
    obtain ⟨rfl, rfl⟩ := hv
    have hP := hP.sub (ws' := rs_L q t qo cI cL (n) (f) (g) (sf) (sg) (r) (fo) (1) (n) (f) (g)) [3, 4, 5, 6, 7, 8, 9, 0, 1, 2] rfl
    have hD := hD.sub (ws' := rs_L q t qo cI cL (n) (f) (g) (sf) (sg) (r) (fo) (1) (n) (f) (g)) [3, 4, 5, 6, 7, 8, 9, 0, 1, 2] (by decide) rfl
    refine lv_istore hx hb dL_law_479 hl (by decide) rfl (fun ls hl => ?_)
    have hl : lv_has ls 7 [(6, .int (0)), (5, .int 1), (4, .int (nI i)), (3, .ref qo), (2, .ref (t 0)), (1, .ref (q 0)), (0, .ref b)] := hl
    refine lv_aload_n hx hb dL_law_481 rfl (lv_at hl 4 rfl) ?_
    have hP := hP.sub (ws' := rs_LM q t qo cI cL (n) (f) (g) (sf) (sg) (r) (fo) (1) (n) (f) (g)) [7, 8, 9, 0, 1, 2, 3, 4, 5, 6] rfl
    have hD := hD.sub (ws' := rs_LM q t qo cI cL (n) (f) (g) (sf) (sg) (r) (fo) (1) (n) (f) (g)) [7, 8, 9, 0, 1, 2, 3, 4, 5, 6] (by decide) rfl
    refine xr_vcall (As := []) (rest := []) (nA := 0) C0 (m_thrown l D t cI [(cL, .long)] (rs_X q cI (n) (f) (g) (sf) (sg) (r) ++ [(qo, .inl (cL, 1, .inr (.inl (fo))))]) _ (n) (1) (f) (g) ) (gV wM_L_X1_thrown wI_X1_thrown wV_X1_X1_thrown wN_X1 wC_X1_thrown) (by decide +kernel) rfl rfl rfl ⟨by decide, by decide⟩ hK hP hD hS hA 0 rfl rfl hl.1 rfl (Nat.le_of_ble_eq_true rfl) dL_law_482 (⟨hcs.1, hcs.2⟩) (fun v w H locs hv hP hD hz hS => ?_)
    obtain ⟨rfl, rfl⟩ := hv
    have hP := hP.sub (ws' := rs_L q t qo cI cL (n) (f) (g) (sf) (sg) (r) (fo) (1) (n) (f) (g)) [3, 4, 5, 6, 7, 8, 9, 0, 1, 2] rfl
    have hD := hD.sub (ws' := rs_L q t qo cI cL (n) (f) (g) (sf) (sg) (r) (fo) (1) (n) (f) (g)) [3, 4, 5, 6, 7, 8, 9, 0, 1, 2] (by decide) rfl
    refine lv_iload hx hb dL_law_485 (lv_at hl 1 rfl) ?_
    refine lv_icmp_eq hx hb dL_law_487 rfl (fun h => ?_) (fun h => absurd rfl h)
    refine lv_iload hx hb dL_law_492 (lv_at hl 1 rfl) ?_
    refine lv_if_ne hx hb dL_law_494 rfl (fun h => ?_) (fun h => absurd h (by decide))
    refine lv_goto hx hb dL_law_509 rfl ?_
    have hl : lv_has ls 7 [(4, .int (nI i)), (3, .ref qo), (2, .ref (t 0)), (1, .ref (q 0)), (0, .ref b)] := lv_sub hl [2, 3, 4, 5, 6] rfl
    exact kk (n) (f) (g) (sf) (sg) (r) (fo) (1) H locs ls (hn) hP hD hS hl
  · skip
    refine lv_aload_n hx hb dL_law_444 rfl (lv_at hl 3 rfl) ?_
    refine lv_aload_n hx hb dL_law_445 rfl (lv_at hl 4 rfl) ?_
    refine lv_iload hx hb dL_law_446 (lv_at hl 0 rfl) ?_
    refine lv_iconst (v := 1) hx hb dL_law_448 (by decide) ?_
    refine lv_iadd hx hb dL_law_449 ?_
    refine xr_top (nI_add i 1) ?_
    refine xr_sld C0 hX hbl hbA hS (j := i + 1) (by omega) (by omega) dL_law_450 ?_
    refine xr_top (e1) ?_
    refine lv_aload_n hx hb dL_law_451 rfl (lv_at hl 4 rfl) ?_
    refine lv_iload hx hb dL_law_452 (lv_at hl 0 rfl) ?_
    refine lv_iconst (v := 2) hx hb dL_law_454 (by decide) ?_
    refine lv_iadd hx hb dL_law_455 ?_
    refine xr_top (nI_add i 2) ?_
    refine xr_sld C0 hX hbl hbA hS (j := i + 2) (by omega) (by omega) dL_law_456 ?_
    refine lv_aload_n hx hb dL_law_457 rfl (lv_at hl 1 rfl) ?_
    refine xr_lcall (As := [.ref (q 0), .int (nI j), .int (xs (i + 2)), .ref qo]) (rest := []) (nA := 4) C0 (h_set0 l hl0 D q qo cI cL [] (rs_M t cI k n f g) _ n f g sf sg r fo j (xs (i + 2)) hj hn) (gH wM_L_L_set wS_L_set wN_L wC_L_set) (by decide +kernel) rfl ⟨by decide, by decide⟩ hK hP hD hS hA (hZ _ _ hS) hl.1 rfl (Nat.le_of_ble_eq_true rfl) dL_law_458 hcs (fun v w H locs hv hP hD hz hS => ?_)
    obtain ⟨rfl, rfl⟩ := hv
    refine lv_istore hx hb dL_law_461 hl (by decide) rfl (fun ls hl => ?_)
    have hl : lv_has ls 7 [(5, .int 0), (4, .int (nI i)), (3, .ref qo), (2, .ref (t 0)), (1, .ref (q 0)), (0, .ref b)] := hl
    refine lv_aload_n hx hb dL_law_463 rfl (lv_at hl 3 rfl) ?_
    refine lv_aload_n hx hb dL_law_464 rfl (lv_at hl 5 rfl) ?_
    refine lv_iload hx hb dL_law_465 (lv_at hl 1 rfl) ?_
    refine lv_iconst (v := 1) hx hb dL_law_467 (by decide) ?_
    refine lv_iadd hx hb dL_law_468 ?_
    refine xr_top (nI_add i 1) ?_
    refine xr_sld C0 hX hbl hbA hS (j := i + 1) (by omega) (by omega) dL_law_469 ?_
    refine xr_top (e1) ?_
    refine lv_aload_n hx hb dL_law_470 rfl (lv_at hl 5 rfl) ?_
    refine lv_iload hx hb dL_law_471 (lv_at hl 1 rfl) ?_
    refine lv_iconst (v := 2) hx hb dL_law_473 (by decide) ?_
    refine lv_iadd hx hb dL_law_474 ?_
    refine xr_top (nI_add i 2) ?_
    refine xr_sld C0 hX hbl hbA hS (j := i + 2) (by omega) (by omega) dL_law_475 ?_
    have hP := hP.sub (ws' := rs_LM q t qo cI cL (n) (upd f j (xs (i + 2))) (g) (sf) (sg) (r) (vp_updL fo 0 (f j).toInt64) (k) (n) (f) (g)) [7, 8, 9, 0, 1, 2, 3, 4, 5, 6] rfl
    have hD := hD.sub (ws' := rs_LM q t qo cI cL (n) (upd f j (xs (i + 2))) (g) (sf) (sg) (r) (vp_updL fo 0 (f j).toInt64) (k) (n) (f) (g)) [7, 8, 9, 0, 1, 2, 3, 4, 5, 6] (by decide) rfl
    refine xr_vcall (As := [.int (nI j), .int (xs (i + 2))]) (rest := []) (nA := 2) C0 (m_set0 l D t cI [(cL, .long)] (rs_X q cI (n) (upd f j (xs (i + 2))) (g) (sf) (sg) (r) ++ [(qo, .inl (cL, 1, .inr (.inl (vp_updL fo 0 (f j).toInt64))))]) _ (n) (k) (f) (g) j (xs (i + 2)) hj hn) (gV wM_L_X1_set wI_X1_set wV_X1_X1_set wN_X1 wC_X1_set) (by decide +kernel) rfl rfl rfl ⟨by decide, by decide⟩ hK hP hD hS hA 0 rfl rfl hl.1 rfl (Nat.le_of_ble_eq_true rfl) dL_law_476 (⟨hcs.1, hcs.2⟩) (fun v w H locs hv hP hD hz hS => ?_)
    obtain ⟨rfl, rfl⟩ := hv
    have hP := hP.sub (ws' := rs_L q t qo cI cL (n) (upd f j (xs (i + 2))) (g) (sf) (sg) (r) (vp_updL fo 0 (f j).toInt64) (0) (n) (upd f j (xs (i + 2))) (g)) [3, 4, 5, 6, 7, 8, 9, 0, 1, 2] rfl
    have hD := hD.sub (ws' := rs_L q t qo cI cL (n) (upd f j (xs (i + 2))) (g) (sf) (sg) (r) (vp_updL fo 0 (f j).toInt64) (0) (n) (upd f j (xs (i + 2))) (g)) [3, 4, 5, 6, 7, 8, 9, 0, 1, 2] (by decide) rfl
    refine lv_istore hx hb dL_law_479 hl (by decide) rfl (fun ls hl => ?_)
    have hl : lv_has ls 7 [(6, .int (f j)), (5, .int 0), (4, .int (nI i)), (3, .ref qo), (2, .ref (t 0)), (1, .ref (q 0)), (0, .ref b)] := hl
    refine lv_aload_n hx hb dL_law_481 rfl (lv_at hl 4 rfl) ?_
    have hP := hP.sub (ws' := rs_LM q t qo cI cL (n) (upd f j (xs (i + 2))) (g) (sf) (sg) (r) (vp_updL fo 0 (f j).toInt64) (0) (n) (upd f j (xs (i + 2))) (g)) [7, 8, 9, 0, 1, 2, 3, 4, 5, 6] rfl
    have hD := hD.sub (ws' := rs_LM q t qo cI cL (n) (upd f j (xs (i + 2))) (g) (sf) (sg) (r) (vp_updL fo 0 (f j).toInt64) (0) (n) (upd f j (xs (i + 2))) (g)) [7, 8, 9, 0, 1, 2, 3, 4, 5, 6] (by decide) rfl
    refine xr_vcall (As := []) (rest := []) (nA := 0) C0 (m_thrown l D t cI [(cL, .long)] (rs_X q cI (n) (upd f j (xs (i + 2))) (g) (sf) (sg) (r) ++ [(qo, .inl (cL, 1, .inr (.inl (vp_updL fo 0 (f j).toInt64))))]) _ (n) (0) (upd f j (xs (i + 2))) (g) ) (gV wM_L_X1_thrown wI_X1_thrown wV_X1_X1_thrown wN_X1 wC_X1_thrown) (by decide +kernel) rfl rfl rfl ⟨by decide, by decide⟩ hK hP hD hS hA 0 rfl rfl hl.1 rfl (Nat.le_of_ble_eq_true rfl) dL_law_482 (⟨hcs.1, hcs.2⟩) (fun v w H locs hv hP hD hz hS => ?_)
    obtain ⟨rfl, rfl⟩ := hv
    have hP := hP.sub (ws' := rs_L q t qo cI cL (n) (upd f j (xs (i + 2))) (g) (sf) (sg) (r) (vp_updL fo 0 (f j).toInt64) (0) (n) (upd f j (xs (i + 2))) (g)) [3, 4, 5, 6, 7, 8, 9, 0, 1, 2] rfl
    have hD := hD.sub (ws' := rs_L q t qo cI cL (n) (upd f j (xs (i + 2))) (g) (sf) (sg) (r) (vp_updL fo 0 (f j).toInt64) (0) (n) (upd f j (xs (i + 2))) (g)) [3, 4, 5, 6, 7, 8, 9, 0, 1, 2] (by decide) rfl
    refine lv_iload hx hb dL_law_485 (lv_at hl 1 rfl) ?_
    refine lv_icmp_eq hx hb dL_law_487 rfl (fun h => ?_) (fun h => absurd rfl h)
    refine lv_iload hx hb dL_law_492 (lv_at hl 1 rfl) ?_
    refine lv_if_ne hx hb dL_law_494 rfl (fun h => absurd rfl h) (fun h => ?_)
    refine lv_aload_n hx hb dL_law_497 rfl (lv_at hl 3 rfl) ?_
    refine lv_iconst (v := 0) hx hb dL_law_498 (by decide) ?_
    refine xr_lald0 C0 hK hP 6 rfl dL_law_499 ?_
    refine xr_topl pk_uLs ?_
    refine lv_iload hx hb dL_law_500 (lv_at hl 0 rfl) ?_
    refine lv_i2l hx hb dL_law_502 rfl ?_
    refine W.lcmp hx hb dL_law_503 ?_
    refine xr_top (rs_cmp _) ?_
    refine lv_if_eq hx hb dL_law_504 rfl (fun h => ?_) (fun h => absurd rfl h)
    refine lv_goto hx hb dL_law_509 rfl ?_
    have hl : lv_has ls 7 [(4, .int (nI i)), (3, .ref qo), (2, .ref (t 0)), (1, .ref (q 0)), (0, .ref b)] := lv_sub hl [2, 3, 4, 5, 6] rfl
    exact kk (n) (upd f j (xs (i + 2))) (g) (sf) (sg) (r) (vp_updL fo 0 (f j).toInt64) (0) H locs ls (hn) hP hD hS hl
set_option maxHeartbeats 4000000 in
set_option maxRecDepth 100000 in
/-- the law calls turn -/
theorem law_turn {p : Program} {l : Launch} {e : Env} {s : State} {m : MethodId} {args : Array Value} {below : List Frame} {meth : Method} {c : Code} {Q : State → Prop} {D : va_G} {A : Nat → Prop} {q t : Nat → Nat} {qo b L : Nat} {cI cL : ClassId} {xs : Nat → Int32} (hl0 : l.stackTraces = false) (C0 : CallFix p m c cL_law 7 s args lw_w RL) (hK : va_K D vwCl [(cI, .int), (cL, .long)] s) (hA : ∀ q, s.heap.size ≤ q → A q) (hX : va_X b L xs s s.heap) (hbl : b < s.heap.size) (hbA : ¬ A b) (hL : L ≤ 2048)
    (hZ : ∀ (H : Heap) (locs : List Loc), va_S A s.heap H locs → ∀ U : State, U.heap = H → s.WarmedH U.vm → xr_Zh U) {i n cells slots : Nat} {f g sf sg r : Nat → Int32} {fo : Nat → Int64} {k : Int32} {H : Heap} {locs : List Loc} {ls : Array Slot} (hi : i + 4 ≤ L) (hn : n ≤ 2000) (hcs : cells + 1 ≤ 1037 ∧ slots + 6 ≤ 22222)
    (hP : va_P D vwCl (rs_L q t qo cI cL n f g sf sg r fo k n f g) H) (hD : va_D A (rs_L q t qo cI cL n f g sf sg r fo k n f g)) (hS : va_S A s.heap H locs) (hl : lv_has ls 7 [(4, .int (nI i)), (3, .ref qo), (2, .ref (t 0)), (1, .ref (q 0)), (0, .ref b)])
    (kk : ∀ (n : Nat) (f g sf sg r : Nat → Int32) (fo : Nat → Int64) (k : Int32) (H : Heap) (locs : List Loc) (ls : Array Slot), n ≤ 2000 → va_P D vwCl (rs_L q t qo cI cL n f g sf sg r fo k n f g) H → va_D A (rs_L q t qo cI cL n f g sf sg r fo k n f g) → va_S A s.heap H locs → lv_has ls 7 [(4, .int (nI i)), (3, .ref qo), (2, .ref (t 0)), (1, .ref (q 0)), (0, .ref b)] → W p l e room_1 s m args below meth c H locs (cells + 1) (slots + 6) Q (F0 m 702 ls [])) : W p l e room_1 s m args below meth c H locs cells slots Q (F0 m 512 ls []) := by
  have hx := C0.1
  have hb := C0.2.1
  rcases rs_ab (xs (i + 1)) (xs (i + 2)) hn with hbad | ⟨a, d, had, hdn, e1, e2⟩
  · skip
    refine lv_aload_n hx hb dL_law_512 rfl (lv_at hl 3 rfl) ?_
    refine lv_aload_n hx hb dL_law_513 rfl (lv_at hl 4 rfl) ?_
    refine lv_iload hx hb dL_law_514 (lv_at hl 0 rfl) ?_
    refine lv_iconst (v := 1) hx hb dL_law_516 (by decide) ?_
    refine lv_iadd hx hb dL_law_517 ?_
    refine xr_top (nI_add i 1) ?_
    refine xr_sld C0 hX hbl hbA hS (j := i + 1) (by omega) (by omega) dL_law_518 ?_
    refine lv_aload_n hx hb dL_law_519 rfl (lv_at hl 4 rfl) ?_
    refine lv_iload hx hb dL_law_520 (lv_at hl 0 rfl) ?_
    refine lv_iconst (v := 2) hx hb dL_law_522 (by decide) ?_
    refine lv_iadd hx hb dL_law_523 ?_
    refine xr_top (nI_add i 2) ?_
    refine xr_sld C0 hX hbl hbA hS (j := i + 2) (by omega) (by omega) dL_law_524 ?_
    refine lv_aload_n hx hb dL_law_525 rfl (lv_at hl 1 rfl) ?_
    refine xr_lcall (As := [.ref (q 0), .int (xs (i + 1)), .int (xs (i + 2)), .ref qo]) (rest := []) (nA := 4) C0 (h_turn1 l hl0 D q qo cI cL [] (rs_M t cI k n f g) _ n f g sf sg r fo (xs (i + 1)) (xs (i + 2)) hbad) (gH wM_L_L_turn wS_L_turn wN_L wC_L_turn) (by decide +kernel) rfl ⟨by decide, by decide⟩ hK hP hD hS hA (hZ _ _ hS) hl.1 rfl (Nat.le_of_ble_eq_true rfl) dL_law_526 hcs (fun v w H locs hv hP hD hz hS => ?_)
    obtain ⟨rfl, rfl⟩ := hv
    refine lv_istore hx hb dL_law_529 hl (by decide) rfl (fun ls hl => ?_)
    have hl : lv_has ls 7 [(5, .int 1), (4, .int (nI i)), (3, .ref qo), (2, .ref (t 0)), (1, .ref (q 0)), (0, .ref b)] := hl
    refine lv_aload_n hx hb dL_law_531 rfl (lv_at hl 3 rfl) ?_
    refine lv_aload_n hx hb dL_law_532 rfl (lv_at hl 5 rfl) ?_
    refine lv_iload hx hb dL_law_533 (lv_at hl 1 rfl) ?_
    refine lv_iconst (v := 1) hx hb dL_law_535 (by decide) ?_
    refine lv_iadd hx hb dL_law_536 ?_
    refine xr_top (nI_add i 1) ?_
    refine xr_sld C0 hX hbl hbA hS (j := i + 1) (by omega) (by omega) dL_law_537 ?_
    refine lv_aload_n hx hb dL_law_538 rfl (lv_at hl 5 rfl) ?_
    refine lv_iload hx hb dL_law_539 (lv_at hl 1 rfl) ?_
    refine lv_iconst (v := 2) hx hb dL_law_541 (by decide) ?_
    refine lv_iadd hx hb dL_law_542 ?_
    refine xr_top (nI_add i 2) ?_
    refine xr_sld C0 hX hbl hbA hS (j := i + 2) (by omega) (by omega) dL_law_543 ?_
    have hP := hP.sub (ws' := rs_LM q t qo cI cL (n) (f) (g) (sf) (sg) (r) (fo) (k) (n) (f) (g)) [7, 8, 9, 0, 1, 2, 3, 4, 5, 6] rfl
    have hD := hD.sub (ws' := rs_LM q t qo cI cL (n) (f) (g) (sf) (sg) (r) (fo) (k) (n) (f) (g)) [7, 8, 9, 0, 1, 2, 3, 4, 5, 6] (by decide) rfl
    refine xr_vcall (As := [.int (xs (i + 1)), .int (xs (i + 2))]) (rest := []) (nA := 2) C0 (m_turn1 l D t cI [(cL, .long)] (rs_X q cI (n) (f) (g) (sf) (sg) (r) ++ [(qo, .inl (cL, 1, .inr (.inl (fo))))]) _ (n) (k) (f) (g) (xs (i + 1)) (xs (i + 2)) hn (rs_bad hn hbad)) (gV wM_L_X1_turn wI_X1_turn wV_X1_X1_turn wN_X1 wC_X1_turn) (by decide +kernel) rfl rfl rfl ⟨by decide, by decide⟩ hK hP hD hS hA 0 rfl rfl hl.1 rfl (Nat.le_of_ble_eq_true rfl) dL_law_544 (⟨hcs.1, hcs.2⟩) (fun v w H locs hv hP hD hz hS => ?_)
    obtain ⟨rfl, rfl⟩ := hv
    have hP := hP.sub (ws' := rs_L q t qo cI cL (n) (f) (g) (sf) (sg) (r) (fo) (1) (n) (f) (g)) [3, 4, 5, 6, 7, 8, 9, 0, 1, 2] rfl
    have hD := hD.sub (ws' := rs_L q t qo cI cL (n) (f) (g) (sf) (sg) (r) (fo) (1) (n) (f) (g)) [3, 4, 5, 6, 7, 8, 9, 0, 1, 2] (by decide) rfl
    refine lv_istore hx hb dL_law_547 hl (by decide) rfl (fun ls hl => ?_)
    have hl : lv_has ls 7 [(6, .int (0)), (5, .int 1), (4, .int (nI i)), (3, .ref qo), (2, .ref (t 0)), (1, .ref (q 0)), (0, .ref b)] := hl
    refine lv_aload_n hx hb dL_law_549 rfl (lv_at hl 4 rfl) ?_
    have hP := hP.sub (ws' := rs_LM q t qo cI cL (n) (f) (g) (sf) (sg) (r) (fo) (1) (n) (f) (g)) [7, 8, 9, 0, 1, 2, 3, 4, 5, 6] rfl
    have hD := hD.sub (ws' := rs_LM q t qo cI cL (n) (f) (g) (sf) (sg) (r) (fo) (1) (n) (f) (g)) [7, 8, 9, 0, 1, 2, 3, 4, 5, 6] (by decide) rfl
    refine xr_vcall (As := []) (rest := []) (nA := 0) C0 (m_thrown l D t cI [(cL, .long)] (rs_X q cI (n) (f) (g) (sf) (sg) (r) ++ [(qo, .inl (cL, 1, .inr (.inl (fo))))]) _ (n) (1) (f) (g) ) (gV wM_L_X1_thrown wI_X1_thrown wV_X1_X1_thrown wN_X1 wC_X1_thrown) (by decide +kernel) rfl rfl rfl ⟨by decide, by decide⟩ hK hP hD hS hA 0 rfl rfl hl.1 rfl (Nat.le_of_ble_eq_true rfl) dL_law_550 (⟨hcs.1, hcs.2⟩) (fun v w H locs hv hP hD hz hS => ?_)
    obtain ⟨rfl, rfl⟩ := hv
    have hP := hP.sub (ws' := rs_L q t qo cI cL (n) (f) (g) (sf) (sg) (r) (fo) (1) (n) (f) (g)) [3, 4, 5, 6, 7, 8, 9, 0, 1, 2] rfl
    have hD := hD.sub (ws' := rs_L q t qo cI cL (n) (f) (g) (sf) (sg) (r) (fo) (1) (n) (f) (g)) [3, 4, 5, 6, 7, 8, 9, 0, 1, 2] (by decide) rfl
    refine lv_iload hx hb dL_law_553 (lv_at hl 1 rfl) ?_
    refine lv_icmp_eq hx hb dL_law_555 rfl (fun h => ?_) (fun h => absurd rfl h)
    refine lv_iload hx hb dL_law_560 (lv_at hl 1 rfl) ?_
    refine lv_if_ne hx hb dL_law_562 rfl (fun h => ?_) (fun h => absurd h (by decide))
    refine lv_goto hx hb dL_law_577 rfl ?_
    have hl : lv_has ls 7 [(4, .int (nI i)), (3, .ref qo), (2, .ref (t 0)), (1, .ref (q 0)), (0, .ref b)] := lv_sub hl [2, 3, 4, 5, 6] rfl
    exact kk (n) (f) (g) (sf) (sg) (r) (fo) (1) H locs ls (hn) hP hD hS hl
  · skip
    refine lv_aload_n hx hb dL_law_512 rfl (lv_at hl 3 rfl) ?_
    refine lv_aload_n hx hb dL_law_513 rfl (lv_at hl 4 rfl) ?_
    refine lv_iload hx hb dL_law_514 (lv_at hl 0 rfl) ?_
    refine lv_iconst (v := 1) hx hb dL_law_516 (by decide) ?_
    refine lv_iadd hx hb dL_law_517 ?_
    refine xr_top (nI_add i 1) ?_
    refine xr_sld C0 hX hbl hbA hS (j := i + 1) (by omega) (by omega) dL_law_518 ?_
    refine xr_top (e1) ?_
    refine lv_aload_n hx hb dL_law_519 rfl (lv_at hl 4 rfl) ?_
    refine lv_iload hx hb dL_law_520 (lv_at hl 0 rfl) ?_
    refine lv_iconst (v := 2) hx hb dL_law_522 (by decide) ?_
    refine lv_iadd hx hb dL_law_523 ?_
    refine xr_top (nI_add i 2) ?_
    refine xr_sld C0 hX hbl hbA hS (j := i + 2) (by omega) (by omega) dL_law_524 ?_
    refine xr_top (e2) ?_
    refine lv_aload_n hx hb dL_law_525 rfl (lv_at hl 1 rfl) ?_
    refine xr_lcall (As := [.ref (q 0), .int (nI a), .int (nI d), .ref qo]) (rest := []) (nA := 4) C0 (h_turn0 l hl0 D q qo cI cL [] (rs_M t cI k n f g) _ n f g sf sg r fo a d had hdn hn) (gH wM_L_L_turn wS_L_turn wN_L wC_L_turn) (by decide +kernel) rfl ⟨by decide, by decide⟩ hK hP hD hS hA (hZ _ _ hS) hl.1 rfl (Nat.le_of_ble_eq_true rfl) dL_law_526 hcs (fun v w H locs hv hP hD hz hS => ?_)
    obtain ⟨rfl, rfl⟩ := hv
    refine lv_istore hx hb dL_law_529 hl (by decide) rfl (fun ls hl => ?_)
    have hl : lv_has ls 7 [(5, .int 0), (4, .int (nI i)), (3, .ref qo), (2, .ref (t 0)), (1, .ref (q 0)), (0, .ref b)] := hl
    refine lv_aload_n hx hb dL_law_531 rfl (lv_at hl 3 rfl) ?_
    refine lv_aload_n hx hb dL_law_532 rfl (lv_at hl 5 rfl) ?_
    refine lv_iload hx hb dL_law_533 (lv_at hl 1 rfl) ?_
    refine lv_iconst (v := 1) hx hb dL_law_535 (by decide) ?_
    refine lv_iadd hx hb dL_law_536 ?_
    refine xr_top (nI_add i 1) ?_
    refine xr_sld C0 hX hbl hbA hS (j := i + 1) (by omega) (by omega) dL_law_537 ?_
    refine xr_top (e1) ?_
    refine lv_aload_n hx hb dL_law_538 rfl (lv_at hl 5 rfl) ?_
    refine lv_iload hx hb dL_law_539 (lv_at hl 1 rfl) ?_
    refine lv_iconst (v := 2) hx hb dL_law_541 (by decide) ?_
    refine lv_iadd hx hb dL_law_542 ?_
    refine xr_top (nI_add i 2) ?_
    refine xr_sld C0 hX hbl hbA hS (j := i + 2) (by omega) (by omega) dL_law_543 ?_
    refine xr_top (e2) ?_
    have hP := hP.sub (ws' := rs_LM q t qo cI cL (n) (rs_tn f a d ((d - a) / 2)) (rs_tn g a d ((d - a) / 2)) (sf) (sg) (r) (vp_updL fo 0 (nI (d - a)).toInt64) (k) (n) (f) (g)) [7, 8, 9, 0, 1, 2, 3, 4, 5, 6] rfl
    have hD := hD.sub (ws' := rs_LM q t qo cI cL (n) (rs_tn f a d ((d - a) / 2)) (rs_tn g a d ((d - a) / 2)) (sf) (sg) (r) (vp_updL fo 0 (nI (d - a)).toInt64) (k) (n) (f) (g)) [7, 8, 9, 0, 1, 2, 3, 4, 5, 6] (by decide) rfl
    refine xr_vcall (As := [.int (nI a), .int (nI d)]) (rest := []) (nA := 2) C0 (m_turn0 l D t cI [(cL, .long)] (rs_X q cI (n) (rs_tn f a d ((d - a) / 2)) (rs_tn g a d ((d - a) / 2)) (sf) (sg) (r) ++ [(qo, .inl (cL, 1, .inr (.inl (vp_updL fo 0 (nI (d - a)).toInt64))))]) _ (n) (k) (f) (g) a d had hdn hn) (gV wM_L_X1_turn wI_X1_turn wV_X1_X1_turn wN_X1 wC_X1_turn) (by decide +kernel) rfl rfl rfl ⟨by decide, by decide⟩ hK hP hD hS hA 0 rfl rfl hl.1 rfl (Nat.le_of_ble_eq_true rfl) dL_law_544 (⟨hcs.1, hcs.2⟩) (fun v w H locs hv hP hD hz hS => ?_)
    obtain ⟨rfl, rfl⟩ := hv
    have hP := hP.sub (ws' := rs_L q t qo cI cL (n) (rs_tn f a d ((d - a) / 2)) (rs_tn g a d ((d - a) / 2)) (sf) (sg) (r) (vp_updL fo 0 (nI (d - a)).toInt64) (0) (n) (rs_tn f a d ((d - a) / 2)) (rs_tn g a d ((d - a) / 2))) [3, 4, 5, 6, 7, 8, 9, 0, 1, 2] rfl
    have hD := hD.sub (ws' := rs_L q t qo cI cL (n) (rs_tn f a d ((d - a) / 2)) (rs_tn g a d ((d - a) / 2)) (sf) (sg) (r) (vp_updL fo 0 (nI (d - a)).toInt64) (0) (n) (rs_tn f a d ((d - a) / 2)) (rs_tn g a d ((d - a) / 2))) [3, 4, 5, 6, 7, 8, 9, 0, 1, 2] (by decide) rfl
    refine lv_istore hx hb dL_law_547 hl (by decide) rfl (fun ls hl => ?_)
    have hl : lv_has ls 7 [(6, .int (nI (d - a))), (5, .int 0), (4, .int (nI i)), (3, .ref qo), (2, .ref (t 0)), (1, .ref (q 0)), (0, .ref b)] := hl
    refine lv_aload_n hx hb dL_law_549 rfl (lv_at hl 4 rfl) ?_
    have hP := hP.sub (ws' := rs_LM q t qo cI cL (n) (rs_tn f a d ((d - a) / 2)) (rs_tn g a d ((d - a) / 2)) (sf) (sg) (r) (vp_updL fo 0 (nI (d - a)).toInt64) (0) (n) (rs_tn f a d ((d - a) / 2)) (rs_tn g a d ((d - a) / 2))) [7, 8, 9, 0, 1, 2, 3, 4, 5, 6] rfl
    have hD := hD.sub (ws' := rs_LM q t qo cI cL (n) (rs_tn f a d ((d - a) / 2)) (rs_tn g a d ((d - a) / 2)) (sf) (sg) (r) (vp_updL fo 0 (nI (d - a)).toInt64) (0) (n) (rs_tn f a d ((d - a) / 2)) (rs_tn g a d ((d - a) / 2))) [7, 8, 9, 0, 1, 2, 3, 4, 5, 6] (by decide) rfl
    refine xr_vcall (As := []) (rest := []) (nA := 0) C0 (m_thrown l D t cI [(cL, .long)] (rs_X q cI (n) (rs_tn f a d ((d - a) / 2)) (rs_tn g a d ((d - a) / 2)) (sf) (sg) (r) ++ [(qo, .inl (cL, 1, .inr (.inl (vp_updL fo 0 (nI (d - a)).toInt64))))]) _ (n) (0) (rs_tn f a d ((d - a) / 2)) (rs_tn g a d ((d - a) / 2)) ) (gV wM_L_X1_thrown wI_X1_thrown wV_X1_X1_thrown wN_X1 wC_X1_thrown) (by decide +kernel) rfl rfl rfl ⟨by decide, by decide⟩ hK hP hD hS hA 0 rfl rfl hl.1 rfl (Nat.le_of_ble_eq_true rfl) dL_law_550 (⟨hcs.1, hcs.2⟩) (fun v w H locs hv hP hD hz hS => ?_)
    obtain ⟨rfl, rfl⟩ := hv
    have hP := hP.sub (ws' := rs_L q t qo cI cL (n) (rs_tn f a d ((d - a) / 2)) (rs_tn g a d ((d - a) / 2)) (sf) (sg) (r) (vp_updL fo 0 (nI (d - a)).toInt64) (0) (n) (rs_tn f a d ((d - a) / 2)) (rs_tn g a d ((d - a) / 2))) [3, 4, 5, 6, 7, 8, 9, 0, 1, 2] rfl
    have hD := hD.sub (ws' := rs_L q t qo cI cL (n) (rs_tn f a d ((d - a) / 2)) (rs_tn g a d ((d - a) / 2)) (sf) (sg) (r) (vp_updL fo 0 (nI (d - a)).toInt64) (0) (n) (rs_tn f a d ((d - a) / 2)) (rs_tn g a d ((d - a) / 2))) [3, 4, 5, 6, 7, 8, 9, 0, 1, 2] (by decide) rfl
    refine lv_iload hx hb dL_law_553 (lv_at hl 1 rfl) ?_
    refine lv_icmp_eq hx hb dL_law_555 rfl (fun h => ?_) (fun h => absurd rfl h)
    refine lv_iload hx hb dL_law_560 (lv_at hl 1 rfl) ?_
    refine lv_if_ne hx hb dL_law_562 rfl (fun h => absurd rfl h) (fun h => ?_)
    refine lv_aload_n hx hb dL_law_565 rfl (lv_at hl 3 rfl) ?_
    refine lv_iconst (v := 0) hx hb dL_law_566 (by decide) ?_
    refine xr_lald0 C0 hK hP 6 rfl dL_law_567 ?_
    refine xr_topl pk_uLs ?_
    refine lv_iload hx hb dL_law_568 (lv_at hl 0 rfl) ?_
    refine lv_i2l hx hb dL_law_570 rfl ?_
    refine W.lcmp hx hb dL_law_571 ?_
    refine xr_top (rs_cmp _) ?_
    refine lv_if_eq hx hb dL_law_572 rfl (fun h => ?_) (fun h => absurd rfl h)
    refine lv_goto hx hb dL_law_577 rfl ?_
    have hl : lv_has ls 7 [(4, .int (nI i)), (3, .ref qo), (2, .ref (t 0)), (1, .ref (q 0)), (0, .ref b)] := lv_sub hl [2, 3, 4, 5, 6] rfl
    exact kk (n) (rs_tn f a d ((d - a) / 2)) (rs_tn g a d ((d - a) / 2)) (sf) (sg) (r) (vp_updL fo 0 (nI (d - a)).toInt64) (0) H locs ls (hn) hP hD hS hl
set_option maxHeartbeats 4000000 in
set_option maxRecDepth 100000 in
/-- the law calls upTo -/
theorem law_upTo {p : Program} {l : Launch} {e : Env} {s : State} {m : MethodId} {args : Array Value} {below : List Frame} {meth : Method} {c : Code} {Q : State → Prop} {D : va_G} {A : Nat → Prop} {q t : Nat → Nat} {qo b L : Nat} {cI cL : ClassId} {xs : Nat → Int32} (hl0 : l.stackTraces = false) (C0 : CallFix p m c cL_law 7 s args lw_w RL) (hK : va_K D vwCl [(cI, .int), (cL, .long)] s) (hA : ∀ q, s.heap.size ≤ q → A q) (hX : va_X b L xs s s.heap) (hbl : b < s.heap.size) (hbA : ¬ A b) (hL : L ≤ 2048)
    (hZ : ∀ (H : Heap) (locs : List Loc), va_S A s.heap H locs → ∀ U : State, U.heap = H → s.WarmedH U.vm → xr_Zh U) {i n cells slots : Nat} {f g sf sg r : Nat → Int32} {fo : Nat → Int64} {k : Int32} {H : Heap} {locs : List Loc} {ls : Array Slot} (hi : i + 4 ≤ L) (hn : n ≤ 2000) (hcs : cells + 1 ≤ 1037 ∧ slots + 6 ≤ 22222)
    (hP : va_P D vwCl (rs_L q t qo cI cL n f g sf sg r fo k n f g) H) (hD : va_D A (rs_L q t qo cI cL n f g sf sg r fo k n f g)) (hS : va_S A s.heap H locs) (hl : lv_has ls 7 [(4, .int (nI i)), (3, .ref qo), (2, .ref (t 0)), (1, .ref (q 0)), (0, .ref b)])
    (kk : ∀ (n : Nat) (f g sf sg r : Nat → Int32) (fo : Nat → Int64) (k : Int32) (H : Heap) (locs : List Loc) (ls : Array Slot), n ≤ 2000 → va_P D vwCl (rs_L q t qo cI cL n f g sf sg r fo k n f g) H → va_D A (rs_L q t qo cI cL n f g sf sg r fo k n f g) → va_S A s.heap H locs → lv_has ls 7 [(4, .int (nI i)), (3, .ref qo), (2, .ref (t 0)), (1, .ref (q 0)), (0, .ref b)] → W p l e room_1 s m args below meth c H locs (cells + 1) (slots + 6) Q (F0 m 702 ls [])) : W p l e room_1 s m args below meth c H locs cells slots Q (F0 m 580 ls []) := by
  have hx := C0.1
  have hb := C0.2.1
  by_cases ho : (xs (i + 1)) < 0 ∨ 3 < (xs (i + 1))
  · skip
    by_cases hb0 : xs (i + 3) = 0
    · skip
      refine lv_aload_n hx hb dL_law_580 rfl (lv_at hl 3 rfl) ?_
      refine lv_aload_n hx hb dL_law_581 rfl (lv_at hl 4 rfl) ?_
      refine lv_iload hx hb dL_law_582 (lv_at hl 0 rfl) ?_
      refine lv_iconst (v := 1) hx hb dL_law_584 (by decide) ?_
      refine lv_iadd hx hb dL_law_585 ?_
      refine xr_top (nI_add i 1) ?_
      refine xr_sld C0 hX hbl hbA hS (j := i + 1) (by omega) (by omega) dL_law_586 ?_
      refine lv_aload_n hx hb dL_law_587 rfl (lv_at hl 4 rfl) ?_
      refine lv_iload hx hb dL_law_588 (lv_at hl 0 rfl) ?_
      refine lv_iconst (v := 2) hx hb dL_law_590 (by decide) ?_
      refine lv_iadd hx hb dL_law_591 ?_
      refine xr_top (nI_add i 2) ?_
      refine xr_sld C0 hX hbl hbA hS (j := i + 2) (by omega) (by omega) dL_law_592 ?_
      refine lv_aload_n hx hb dL_law_593 rfl (lv_at hl 4 rfl) ?_
      refine lv_iload hx hb dL_law_594 (lv_at hl 0 rfl) ?_
      refine lv_iconst (v := 3) hx hb dL_law_596 (by decide) ?_
      refine lv_iadd hx hb dL_law_597 ?_
      refine xr_top (nI_add i 3) ?_
      refine xr_sld C0 hX hbl hbA hS (j := i + 3) (by omega) (by omega) dL_law_598 ?_
      refine lv_if_eq hx hb dL_law_599 rfl (fun h => ?_) (fun h => absurd hb0 h)
      refine lv_iconst (v := 0) hx hb dL_law_606 (by decide) ?_
      refine lv_aload_n hx hb dL_law_607 rfl (lv_at hl 1 rfl) ?_
      refine xr_lcall (As := [.ref (q 0), .int (xs (i + 1)), .int (xs (i + 2)), .int 0, .ref qo]) (rest := []) (nA := 5) C0 (h_upTo1 l hl0 D q qo cI cL [] (rs_M t cI k n f g) _ n f g sf sg r fo (xs (i + 1)) (xs (i + 2)) 0 ho) (gH wM_L_L_upTo wS_L_upTo wN_L wC_L_upTo) (by decide +kernel) rfl ⟨by decide, by decide⟩ hK hP hD hS hA (hZ _ _ hS) hl.1 rfl (Nat.le_of_ble_eq_true rfl) dL_law_608 hcs (fun v w H locs hv hP hD hz hS => ?_)
      obtain ⟨rfl, rfl⟩ := hv
      refine lv_istore hx hb dL_law_611 hl (by decide) rfl (fun ls hl => ?_)
      have hl : lv_has ls 7 [(5, .int 1), (4, .int (nI i)), (3, .ref qo), (2, .ref (t 0)), (1, .ref (q 0)), (0, .ref b)] := hl
      refine lv_aload_n hx hb dL_law_613 rfl (lv_at hl 3 rfl) ?_
      refine lv_aload_n hx hb dL_law_614 rfl (lv_at hl 5 rfl) ?_
      refine lv_iload hx hb dL_law_615 (lv_at hl 1 rfl) ?_
      refine lv_iconst (v := 1) hx hb dL_law_617 (by decide) ?_
      refine lv_iadd hx hb dL_law_618 ?_
      refine xr_top (nI_add i 1) ?_
      refine xr_sld C0 hX hbl hbA hS (j := i + 1) (by omega) (by omega) dL_law_619 ?_
      refine lv_aload_n hx hb dL_law_620 rfl (lv_at hl 5 rfl) ?_
      refine lv_iload hx hb dL_law_621 (lv_at hl 1 rfl) ?_
      refine lv_iconst (v := 2) hx hb dL_law_623 (by decide) ?_
      refine lv_iadd hx hb dL_law_624 ?_
      refine xr_top (nI_add i 2) ?_
      refine xr_sld C0 hX hbl hbA hS (j := i + 2) (by omega) (by omega) dL_law_625 ?_
      refine lv_aload_n hx hb dL_law_626 rfl (lv_at hl 5 rfl) ?_
      refine lv_iload hx hb dL_law_627 (lv_at hl 1 rfl) ?_
      refine lv_iconst (v := 3) hx hb dL_law_629 (by decide) ?_
      refine lv_iadd hx hb dL_law_630 ?_
      refine xr_top (nI_add i 3) ?_
      refine xr_sld C0 hX hbl hbA hS (j := i + 3) (by omega) (by omega) dL_law_631 ?_
      refine lv_if_eq hx hb dL_law_632 rfl (fun h => ?_) (fun h => absurd hb0 h)
      refine lv_iconst (v := 0) hx hb dL_law_639 (by decide) ?_
      have hP := hP.sub (ws' := rs_LM q t qo cI cL (n) (f) (g) (sf) (sg) (r) (fo) (k) (n) (f) (g)) [7, 8, 9, 0, 1, 2, 3, 4, 5, 6] rfl
      have hD := hD.sub (ws' := rs_LM q t qo cI cL (n) (f) (g) (sf) (sg) (r) (fo) (k) (n) (f) (g)) [7, 8, 9, 0, 1, 2, 3, 4, 5, 6] (by decide) rfl
      refine xr_vcall (As := [.int (xs (i + 1)), .int (xs (i + 2)), .int 0]) (rest := []) (nA := 3) C0 (m_upTo1 l D t cI [(cL, .long)] (rs_X q cI (n) (f) (g) (sf) (sg) (r) ++ [(qo, .inl (cL, 1, .inr (.inl (fo))))]) _ (n) (k) (f) (g) (xs (i + 1)) (xs (i + 2)) 0 ho) (gV wM_L_X1_upTo wI_X1_upTo wV_X1_X1_upTo wN_X1 wC_X1_upTo) (by decide +kernel) rfl rfl rfl ⟨by decide, by decide⟩ hK hP hD hS hA 0 rfl rfl hl.1 rfl (Nat.le_of_ble_eq_true rfl) dL_law_640 (⟨hcs.1, hcs.2⟩) (fun v w H locs hv hP hD hz hS => ?_)
      obtain ⟨rfl, rfl⟩ := hv
      have hP := hP.sub (ws' := rs_L q t qo cI cL (n) (f) (g) (sf) (sg) (r) (fo) (1) (n) (f) (g)) [3, 4, 5, 6, 7, 8, 9, 0, 1, 2] rfl
      have hD := hD.sub (ws' := rs_L q t qo cI cL (n) (f) (g) (sf) (sg) (r) (fo) (1) (n) (f) (g)) [3, 4, 5, 6, 7, 8, 9, 0, 1, 2] (by decide) rfl
      refine lv_istore hx hb dL_law_643 hl (by decide) rfl (fun ls hl => ?_)
      have hl : lv_has ls 7 [(6, .int (0)), (5, .int 1), (4, .int (nI i)), (3, .ref qo), (2, .ref (t 0)), (1, .ref (q 0)), (0, .ref b)] := hl
      refine lv_aload_n hx hb dL_law_645 rfl (lv_at hl 4 rfl) ?_
      have hP := hP.sub (ws' := rs_LM q t qo cI cL (n) (f) (g) (sf) (sg) (r) (fo) (1) (n) (f) (g)) [7, 8, 9, 0, 1, 2, 3, 4, 5, 6] rfl
      have hD := hD.sub (ws' := rs_LM q t qo cI cL (n) (f) (g) (sf) (sg) (r) (fo) (1) (n) (f) (g)) [7, 8, 9, 0, 1, 2, 3, 4, 5, 6] (by decide) rfl
      refine xr_vcall (As := []) (rest := []) (nA := 0) C0 (m_thrown l D t cI [(cL, .long)] (rs_X q cI (n) (f) (g) (sf) (sg) (r) ++ [(qo, .inl (cL, 1, .inr (.inl (fo))))]) _ (n) (1) (f) (g) ) (gV wM_L_X1_thrown wI_X1_thrown wV_X1_X1_thrown wN_X1 wC_X1_thrown) (by decide +kernel) rfl rfl rfl ⟨by decide, by decide⟩ hK hP hD hS hA 0 rfl rfl hl.1 rfl (Nat.le_of_ble_eq_true rfl) dL_law_646 (⟨hcs.1, hcs.2⟩) (fun v w H locs hv hP hD hz hS => ?_)
      obtain ⟨rfl, rfl⟩ := hv
      have hP := hP.sub (ws' := rs_L q t qo cI cL (n) (f) (g) (sf) (sg) (r) (fo) (1) (n) (f) (g)) [3, 4, 5, 6, 7, 8, 9, 0, 1, 2] rfl
      have hD := hD.sub (ws' := rs_L q t qo cI cL (n) (f) (g) (sf) (sg) (r) (fo) (1) (n) (f) (g)) [3, 4, 5, 6, 7, 8, 9, 0, 1, 2] (by decide) rfl
      refine lv_iload hx hb dL_law_649 (lv_at hl 1 rfl) ?_
      refine lv_icmp_eq hx hb dL_law_651 rfl (fun h => ?_) (fun h => absurd rfl h)
      refine lv_iload hx hb dL_law_656 (lv_at hl 1 rfl) ?_
      refine lv_if_ne hx hb dL_law_658 rfl (fun h => ?_) (fun h => absurd h (by decide))
      refine lv_goto hx hb dL_law_673 rfl ?_
      have hl : lv_has ls 7 [(4, .int (nI i)), (3, .ref qo), (2, .ref (t 0)), (1, .ref (q 0)), (0, .ref b)] := lv_sub hl [2, 3, 4, 5, 6] rfl
      exact kk (n) (f) (g) (sf) (sg) (r) (fo) (1) H locs ls (hn) hP hD hS hl
    · skip
      refine lv_aload_n hx hb dL_law_580 rfl (lv_at hl 3 rfl) ?_
      refine lv_aload_n hx hb dL_law_581 rfl (lv_at hl 4 rfl) ?_
      refine lv_iload hx hb dL_law_582 (lv_at hl 0 rfl) ?_
      refine lv_iconst (v := 1) hx hb dL_law_584 (by decide) ?_
      refine lv_iadd hx hb dL_law_585 ?_
      refine xr_top (nI_add i 1) ?_
      refine xr_sld C0 hX hbl hbA hS (j := i + 1) (by omega) (by omega) dL_law_586 ?_
      refine lv_aload_n hx hb dL_law_587 rfl (lv_at hl 4 rfl) ?_
      refine lv_iload hx hb dL_law_588 (lv_at hl 0 rfl) ?_
      refine lv_iconst (v := 2) hx hb dL_law_590 (by decide) ?_
      refine lv_iadd hx hb dL_law_591 ?_
      refine xr_top (nI_add i 2) ?_
      refine xr_sld C0 hX hbl hbA hS (j := i + 2) (by omega) (by omega) dL_law_592 ?_
      refine lv_aload_n hx hb dL_law_593 rfl (lv_at hl 4 rfl) ?_
      refine lv_iload hx hb dL_law_594 (lv_at hl 0 rfl) ?_
      refine lv_iconst (v := 3) hx hb dL_law_596 (by decide) ?_
      refine lv_iadd hx hb dL_law_597 ?_
      refine xr_top (nI_add i 3) ?_
      refine xr_sld C0 hX hbl hbA hS (j := i + 3) (by omega) (by omega) dL_law_598 ?_
      refine lv_if_eq hx hb dL_law_599 rfl (fun h => absurd h hb0) (fun h => ?_)
      refine lv_iconst (v := 1) hx hb dL_law_602 (by decide) ?_
      refine lv_goto hx hb dL_law_603 rfl ?_
      refine lv_aload_n hx hb dL_law_607 rfl (lv_at hl 1 rfl) ?_
      refine xr_lcall (As := [.ref (q 0), .int (xs (i + 1)), .int (xs (i + 2)), .int 1, .ref qo]) (rest := []) (nA := 5) C0 (h_upTo1 l hl0 D q qo cI cL [] (rs_M t cI k n f g) _ n f g sf sg r fo (xs (i + 1)) (xs (i + 2)) 1 ho) (gH wM_L_L_upTo wS_L_upTo wN_L wC_L_upTo) (by decide +kernel) rfl ⟨by decide, by decide⟩ hK hP hD hS hA (hZ _ _ hS) hl.1 rfl (Nat.le_of_ble_eq_true rfl) dL_law_608 hcs (fun v w H locs hv hP hD hz hS => ?_)
      obtain ⟨rfl, rfl⟩ := hv
      refine lv_istore hx hb dL_law_611 hl (by decide) rfl (fun ls hl => ?_)
      have hl : lv_has ls 7 [(5, .int 1), (4, .int (nI i)), (3, .ref qo), (2, .ref (t 0)), (1, .ref (q 0)), (0, .ref b)] := hl
      refine lv_aload_n hx hb dL_law_613 rfl (lv_at hl 3 rfl) ?_
      refine lv_aload_n hx hb dL_law_614 rfl (lv_at hl 5 rfl) ?_
      refine lv_iload hx hb dL_law_615 (lv_at hl 1 rfl) ?_
      refine lv_iconst (v := 1) hx hb dL_law_617 (by decide) ?_
      refine lv_iadd hx hb dL_law_618 ?_
      refine xr_top (nI_add i 1) ?_
      refine xr_sld C0 hX hbl hbA hS (j := i + 1) (by omega) (by omega) dL_law_619 ?_
      refine lv_aload_n hx hb dL_law_620 rfl (lv_at hl 5 rfl) ?_
      refine lv_iload hx hb dL_law_621 (lv_at hl 1 rfl) ?_
      refine lv_iconst (v := 2) hx hb dL_law_623 (by decide) ?_
      refine lv_iadd hx hb dL_law_624 ?_
      refine xr_top (nI_add i 2) ?_
      refine xr_sld C0 hX hbl hbA hS (j := i + 2) (by omega) (by omega) dL_law_625 ?_
      refine lv_aload_n hx hb dL_law_626 rfl (lv_at hl 5 rfl) ?_
      refine lv_iload hx hb dL_law_627 (lv_at hl 1 rfl) ?_
      refine lv_iconst (v := 3) hx hb dL_law_629 (by decide) ?_
      refine lv_iadd hx hb dL_law_630 ?_
      refine xr_top (nI_add i 3) ?_
      refine xr_sld C0 hX hbl hbA hS (j := i + 3) (by omega) (by omega) dL_law_631 ?_
      refine lv_if_eq hx hb dL_law_632 rfl (fun h => absurd h hb0) (fun h => ?_)
      refine lv_iconst (v := 1) hx hb dL_law_635 (by decide) ?_
      refine lv_goto hx hb dL_law_636 rfl ?_
      have hP := hP.sub (ws' := rs_LM q t qo cI cL (n) (f) (g) (sf) (sg) (r) (fo) (k) (n) (f) (g)) [7, 8, 9, 0, 1, 2, 3, 4, 5, 6] rfl
      have hD := hD.sub (ws' := rs_LM q t qo cI cL (n) (f) (g) (sf) (sg) (r) (fo) (k) (n) (f) (g)) [7, 8, 9, 0, 1, 2, 3, 4, 5, 6] (by decide) rfl
      refine xr_vcall (As := [.int (xs (i + 1)), .int (xs (i + 2)), .int 1]) (rest := []) (nA := 3) C0 (m_upTo1 l D t cI [(cL, .long)] (rs_X q cI (n) (f) (g) (sf) (sg) (r) ++ [(qo, .inl (cL, 1, .inr (.inl (fo))))]) _ (n) (k) (f) (g) (xs (i + 1)) (xs (i + 2)) 1 ho) (gV wM_L_X1_upTo wI_X1_upTo wV_X1_X1_upTo wN_X1 wC_X1_upTo) (by decide +kernel) rfl rfl rfl ⟨by decide, by decide⟩ hK hP hD hS hA 0 rfl rfl hl.1 rfl (Nat.le_of_ble_eq_true rfl) dL_law_640 (⟨hcs.1, hcs.2⟩) (fun v w H locs hv hP hD hz hS => ?_)
      obtain ⟨rfl, rfl⟩ := hv
      have hP := hP.sub (ws' := rs_L q t qo cI cL (n) (f) (g) (sf) (sg) (r) (fo) (1) (n) (f) (g)) [3, 4, 5, 6, 7, 8, 9, 0, 1, 2] rfl
      have hD := hD.sub (ws' := rs_L q t qo cI cL (n) (f) (g) (sf) (sg) (r) (fo) (1) (n) (f) (g)) [3, 4, 5, 6, 7, 8, 9, 0, 1, 2] (by decide) rfl
      refine lv_istore hx hb dL_law_643 hl (by decide) rfl (fun ls hl => ?_)
      have hl : lv_has ls 7 [(6, .int (0)), (5, .int 1), (4, .int (nI i)), (3, .ref qo), (2, .ref (t 0)), (1, .ref (q 0)), (0, .ref b)] := hl
      refine lv_aload_n hx hb dL_law_645 rfl (lv_at hl 4 rfl) ?_
      have hP := hP.sub (ws' := rs_LM q t qo cI cL (n) (f) (g) (sf) (sg) (r) (fo) (1) (n) (f) (g)) [7, 8, 9, 0, 1, 2, 3, 4, 5, 6] rfl
      have hD := hD.sub (ws' := rs_LM q t qo cI cL (n) (f) (g) (sf) (sg) (r) (fo) (1) (n) (f) (g)) [7, 8, 9, 0, 1, 2, 3, 4, 5, 6] (by decide) rfl
      refine xr_vcall (As := []) (rest := []) (nA := 0) C0 (m_thrown l D t cI [(cL, .long)] (rs_X q cI (n) (f) (g) (sf) (sg) (r) ++ [(qo, .inl (cL, 1, .inr (.inl (fo))))]) _ (n) (1) (f) (g) ) (gV wM_L_X1_thrown wI_X1_thrown wV_X1_X1_thrown wN_X1 wC_X1_thrown) (by decide +kernel) rfl rfl rfl ⟨by decide, by decide⟩ hK hP hD hS hA 0 rfl rfl hl.1 rfl (Nat.le_of_ble_eq_true rfl) dL_law_646 (⟨hcs.1, hcs.2⟩) (fun v w H locs hv hP hD hz hS => ?_)
      obtain ⟨rfl, rfl⟩ := hv
      have hP := hP.sub (ws' := rs_L q t qo cI cL (n) (f) (g) (sf) (sg) (r) (fo) (1) (n) (f) (g)) [3, 4, 5, 6, 7, 8, 9, 0, 1, 2] rfl
      have hD := hD.sub (ws' := rs_L q t qo cI cL (n) (f) (g) (sf) (sg) (r) (fo) (1) (n) (f) (g)) [3, 4, 5, 6, 7, 8, 9, 0, 1, 2] (by decide) rfl
      refine lv_iload hx hb dL_law_649 (lv_at hl 1 rfl) ?_
      refine lv_icmp_eq hx hb dL_law_651 rfl (fun h => ?_) (fun h => absurd rfl h)
      refine lv_iload hx hb dL_law_656 (lv_at hl 1 rfl) ?_
      refine lv_if_ne hx hb dL_law_658 rfl (fun h => ?_) (fun h => absurd h (by decide))
      refine lv_goto hx hb dL_law_673 rfl ?_
      have hl : lv_has ls 7 [(4, .int (nI i)), (3, .ref qo), (2, .ref (t 0)), (1, .ref (q 0)), (0, .ref b)] := lv_sub hl [2, 3, 4, 5, 6] rfl
      exact kk (n) (f) (g) (sf) (sg) (r) (fo) (1) H locs ls (hn) hP hD hS hl
  · skip
    have h1 : ¬ xs (i + 1) < 0 := fun q => ho (Or.inl q)
    have h2 : xs (i + 1) ≤ 3 := rs_nlt (fun q => ho (Or.inr q))
    by_cases hb0 : xs (i + 3) = 0
    · skip
      refine lv_aload_n hx hb dL_law_580 rfl (lv_at hl 3 rfl) ?_
      refine lv_aload_n hx hb dL_law_581 rfl (lv_at hl 4 rfl) ?_
      refine lv_iload hx hb dL_law_582 (lv_at hl 0 rfl) ?_
      refine lv_iconst (v := 1) hx hb dL_law_584 (by decide) ?_
      refine lv_iadd hx hb dL_law_585 ?_
      refine xr_top (nI_add i 1) ?_
      refine xr_sld C0 hX hbl hbA hS (j := i + 1) (by omega) (by omega) dL_law_586 ?_
      refine lv_aload_n hx hb dL_law_587 rfl (lv_at hl 4 rfl) ?_
      refine lv_iload hx hb dL_law_588 (lv_at hl 0 rfl) ?_
      refine lv_iconst (v := 2) hx hb dL_law_590 (by decide) ?_
      refine lv_iadd hx hb dL_law_591 ?_
      refine xr_top (nI_add i 2) ?_
      refine xr_sld C0 hX hbl hbA hS (j := i + 2) (by omega) (by omega) dL_law_592 ?_
      refine lv_aload_n hx hb dL_law_593 rfl (lv_at hl 4 rfl) ?_
      refine lv_iload hx hb dL_law_594 (lv_at hl 0 rfl) ?_
      refine lv_iconst (v := 3) hx hb dL_law_596 (by decide) ?_
      refine lv_iadd hx hb dL_law_597 ?_
      refine xr_top (nI_add i 3) ?_
      refine xr_sld C0 hX hbl hbA hS (j := i + 3) (by omega) (by omega) dL_law_598 ?_
      refine lv_if_eq hx hb dL_law_599 rfl (fun h => ?_) (fun h => absurd hb0 h)
      refine lv_iconst (v := 0) hx hb dL_law_606 (by decide) ?_
      refine lv_aload_n hx hb dL_law_607 rfl (lv_at hl 1 rfl) ?_
      refine xr_lcall (As := [.ref (q 0), .int (xs (i + 1)), .int (xs (i + 2)), .int 0, .ref qo]) (rest := []) (nA := 5) C0 (h_upTo0 l hl0 D q qo cI cL [] (rs_M t cI k n f g) _ n f g sf sg r fo (xs (i + 1)) (xs (i + 2)) 0 h1 h2 hn) (gH wM_L_L_upTo wS_L_upTo wN_L wC_L_upTo) (by decide +kernel) rfl ⟨by decide, by decide⟩ hK hP hD hS hA (hZ _ _ hS) hl.1 rfl (Nat.le_of_ble_eq_true rfl) dL_law_608 hcs (fun v w H locs hv hP hD hz hS => ?_)
      obtain ⟨z1, rfl, rfl, hz1⟩ := hv
      refine lv_istore hx hb dL_law_611 hl (by decide) rfl (fun ls hl => ?_)
      have hl : lv_has ls 7 [(5, .int 0), (4, .int (nI i)), (3, .ref qo), (2, .ref (t 0)), (1, .ref (q 0)), (0, .ref b)] := hl
      refine lv_aload_n hx hb dL_law_613 rfl (lv_at hl 3 rfl) ?_
      refine lv_aload_n hx hb dL_law_614 rfl (lv_at hl 5 rfl) ?_
      refine lv_iload hx hb dL_law_615 (lv_at hl 1 rfl) ?_
      refine lv_iconst (v := 1) hx hb dL_law_617 (by decide) ?_
      refine lv_iadd hx hb dL_law_618 ?_
      refine xr_top (nI_add i 1) ?_
      refine xr_sld C0 hX hbl hbA hS (j := i + 1) (by omega) (by omega) dL_law_619 ?_
      refine lv_aload_n hx hb dL_law_620 rfl (lv_at hl 5 rfl) ?_
      refine lv_iload hx hb dL_law_621 (lv_at hl 1 rfl) ?_
      refine lv_iconst (v := 2) hx hb dL_law_623 (by decide) ?_
      refine lv_iadd hx hb dL_law_624 ?_
      refine xr_top (nI_add i 2) ?_
      refine xr_sld C0 hX hbl hbA hS (j := i + 2) (by omega) (by omega) dL_law_625 ?_
      refine lv_aload_n hx hb dL_law_626 rfl (lv_at hl 5 rfl) ?_
      refine lv_iload hx hb dL_law_627 (lv_at hl 1 rfl) ?_
      refine lv_iconst (v := 3) hx hb dL_law_629 (by decide) ?_
      refine lv_iadd hx hb dL_law_630 ?_
      refine xr_top (nI_add i 3) ?_
      refine xr_sld C0 hX hbl hbA hS (j := i + 3) (by omega) (by omega) dL_law_631 ?_
      refine lv_if_eq hx hb dL_law_632 rfl (fun h => ?_) (fun h => absurd hb0 h)
      refine lv_iconst (v := 0) hx hb dL_law_639 (by decide) ?_
      have hP := hP.sub (ws' := rs_LM q t qo cI cL (n) (f) (g) (sf) (sg) (r) (vp_updL fo 0 (nI z1).toInt64) (k) (n) (f) (g)) [7, 8, 9, 0, 1, 2, 3, 4, 5, 6] rfl
      have hD := hD.sub (ws' := rs_LM q t qo cI cL (n) (f) (g) (sf) (sg) (r) (vp_updL fo 0 (nI z1).toInt64) (k) (n) (f) (g)) [7, 8, 9, 0, 1, 2, 3, 4, 5, 6] (by decide) rfl
      refine xr_vcall (As := [.int (xs (i + 1)), .int (xs (i + 2)), .int 0]) (rest := []) (nA := 3) C0 (m_upTo0 l D t cI [(cL, .long)] (rs_X q cI (n) (f) (g) (sf) (sg) (r) ++ [(qo, .inl (cL, 1, .inr (.inl (vp_updL fo 0 (nI z1).toInt64))))]) _ (n) (k) (f) (g) (xs (i + 1)) (xs (i + 2)) 0 h1 h2 hn) (gV wM_L_X1_upTo wI_X1_upTo wV_X1_X1_upTo wN_X1 wC_X1_upTo) (by decide +kernel) rfl rfl rfl ⟨by decide, by decide⟩ hK hP hD hS hA 0 rfl rfl hl.1 rfl (Nat.le_of_ble_eq_true rfl) dL_law_640 (⟨hcs.1, hcs.2⟩) (fun v w H locs hv hP hD hz hS => ?_)
      obtain ⟨⟨z2, rfl, hz2⟩, rfl⟩ := hv
      obtain rfl := hz1.one hz2
      have hP := hP.sub (ws' := rs_L q t qo cI cL (n) (f) (g) (sf) (sg) (r) (vp_updL fo 0 (nI z1).toInt64) (0) (n) (f) (g)) [3, 4, 5, 6, 7, 8, 9, 0, 1, 2] rfl
      have hD := hD.sub (ws' := rs_L q t qo cI cL (n) (f) (g) (sf) (sg) (r) (vp_updL fo 0 (nI z1).toInt64) (0) (n) (f) (g)) [3, 4, 5, 6, 7, 8, 9, 0, 1, 2] (by decide) rfl
      refine lv_istore hx hb dL_law_643 hl (by decide) rfl (fun ls hl => ?_)
      have hl : lv_has ls 7 [(6, .int (nI z1)), (5, .int 0), (4, .int (nI i)), (3, .ref qo), (2, .ref (t 0)), (1, .ref (q 0)), (0, .ref b)] := hl
      refine lv_aload_n hx hb dL_law_645 rfl (lv_at hl 4 rfl) ?_
      have hP := hP.sub (ws' := rs_LM q t qo cI cL (n) (f) (g) (sf) (sg) (r) (vp_updL fo 0 (nI z1).toInt64) (0) (n) (f) (g)) [7, 8, 9, 0, 1, 2, 3, 4, 5, 6] rfl
      have hD := hD.sub (ws' := rs_LM q t qo cI cL (n) (f) (g) (sf) (sg) (r) (vp_updL fo 0 (nI z1).toInt64) (0) (n) (f) (g)) [7, 8, 9, 0, 1, 2, 3, 4, 5, 6] (by decide) rfl
      refine xr_vcall (As := []) (rest := []) (nA := 0) C0 (m_thrown l D t cI [(cL, .long)] (rs_X q cI (n) (f) (g) (sf) (sg) (r) ++ [(qo, .inl (cL, 1, .inr (.inl (vp_updL fo 0 (nI z1).toInt64))))]) _ (n) (0) (f) (g) ) (gV wM_L_X1_thrown wI_X1_thrown wV_X1_X1_thrown wN_X1 wC_X1_thrown) (by decide +kernel) rfl rfl rfl ⟨by decide, by decide⟩ hK hP hD hS hA 0 rfl rfl hl.1 rfl (Nat.le_of_ble_eq_true rfl) dL_law_646 (⟨hcs.1, hcs.2⟩) (fun v w H locs hv hP hD hz hS => ?_)
      obtain ⟨rfl, rfl⟩ := hv
      have hP := hP.sub (ws' := rs_L q t qo cI cL (n) (f) (g) (sf) (sg) (r) (vp_updL fo 0 (nI z1).toInt64) (0) (n) (f) (g)) [3, 4, 5, 6, 7, 8, 9, 0, 1, 2] rfl
      have hD := hD.sub (ws' := rs_L q t qo cI cL (n) (f) (g) (sf) (sg) (r) (vp_updL fo 0 (nI z1).toInt64) (0) (n) (f) (g)) [3, 4, 5, 6, 7, 8, 9, 0, 1, 2] (by decide) rfl
      refine lv_iload hx hb dL_law_649 (lv_at hl 1 rfl) ?_
      refine lv_icmp_eq hx hb dL_law_651 rfl (fun h => ?_) (fun h => absurd rfl h)
      refine lv_iload hx hb dL_law_656 (lv_at hl 1 rfl) ?_
      refine lv_if_ne hx hb dL_law_658 rfl (fun h => absurd rfl h) (fun h => ?_)
      refine lv_aload_n hx hb dL_law_661 rfl (lv_at hl 3 rfl) ?_
      refine lv_iconst (v := 0) hx hb dL_law_662 (by decide) ?_
      refine xr_lald0 C0 hK hP 6 rfl dL_law_663 ?_
      refine xr_topl pk_uLs ?_
      refine lv_iload hx hb dL_law_664 (lv_at hl 0 rfl) ?_
      refine lv_i2l hx hb dL_law_666 rfl ?_
      refine W.lcmp hx hb dL_law_667 ?_
      refine xr_top (rs_cmp _) ?_
      refine lv_if_eq hx hb dL_law_668 rfl (fun h => ?_) (fun h => absurd rfl h)
      refine lv_goto hx hb dL_law_673 rfl ?_
      have hl : lv_has ls 7 [(4, .int (nI i)), (3, .ref qo), (2, .ref (t 0)), (1, .ref (q 0)), (0, .ref b)] := lv_sub hl [2, 3, 4, 5, 6] rfl
      exact kk (n) (f) (g) (sf) (sg) (r) (vp_updL fo 0 (nI z1).toInt64) (0) H locs ls (hn) hP hD hS hl
    · skip
      refine lv_aload_n hx hb dL_law_580 rfl (lv_at hl 3 rfl) ?_
      refine lv_aload_n hx hb dL_law_581 rfl (lv_at hl 4 rfl) ?_
      refine lv_iload hx hb dL_law_582 (lv_at hl 0 rfl) ?_
      refine lv_iconst (v := 1) hx hb dL_law_584 (by decide) ?_
      refine lv_iadd hx hb dL_law_585 ?_
      refine xr_top (nI_add i 1) ?_
      refine xr_sld C0 hX hbl hbA hS (j := i + 1) (by omega) (by omega) dL_law_586 ?_
      refine lv_aload_n hx hb dL_law_587 rfl (lv_at hl 4 rfl) ?_
      refine lv_iload hx hb dL_law_588 (lv_at hl 0 rfl) ?_
      refine lv_iconst (v := 2) hx hb dL_law_590 (by decide) ?_
      refine lv_iadd hx hb dL_law_591 ?_
      refine xr_top (nI_add i 2) ?_
      refine xr_sld C0 hX hbl hbA hS (j := i + 2) (by omega) (by omega) dL_law_592 ?_
      refine lv_aload_n hx hb dL_law_593 rfl (lv_at hl 4 rfl) ?_
      refine lv_iload hx hb dL_law_594 (lv_at hl 0 rfl) ?_
      refine lv_iconst (v := 3) hx hb dL_law_596 (by decide) ?_
      refine lv_iadd hx hb dL_law_597 ?_
      refine xr_top (nI_add i 3) ?_
      refine xr_sld C0 hX hbl hbA hS (j := i + 3) (by omega) (by omega) dL_law_598 ?_
      refine lv_if_eq hx hb dL_law_599 rfl (fun h => absurd h hb0) (fun h => ?_)
      refine lv_iconst (v := 1) hx hb dL_law_602 (by decide) ?_
      refine lv_goto hx hb dL_law_603 rfl ?_
      refine lv_aload_n hx hb dL_law_607 rfl (lv_at hl 1 rfl) ?_
      refine xr_lcall (As := [.ref (q 0), .int (xs (i + 1)), .int (xs (i + 2)), .int 1, .ref qo]) (rest := []) (nA := 5) C0 (h_upTo0 l hl0 D q qo cI cL [] (rs_M t cI k n f g) _ n f g sf sg r fo (xs (i + 1)) (xs (i + 2)) 1 h1 h2 hn) (gH wM_L_L_upTo wS_L_upTo wN_L wC_L_upTo) (by decide +kernel) rfl ⟨by decide, by decide⟩ hK hP hD hS hA (hZ _ _ hS) hl.1 rfl (Nat.le_of_ble_eq_true rfl) dL_law_608 hcs (fun v w H locs hv hP hD hz hS => ?_)
      obtain ⟨z1, rfl, rfl, hz1⟩ := hv
      refine lv_istore hx hb dL_law_611 hl (by decide) rfl (fun ls hl => ?_)
      have hl : lv_has ls 7 [(5, .int 0), (4, .int (nI i)), (3, .ref qo), (2, .ref (t 0)), (1, .ref (q 0)), (0, .ref b)] := hl
      refine lv_aload_n hx hb dL_law_613 rfl (lv_at hl 3 rfl) ?_
      refine lv_aload_n hx hb dL_law_614 rfl (lv_at hl 5 rfl) ?_
      refine lv_iload hx hb dL_law_615 (lv_at hl 1 rfl) ?_
      refine lv_iconst (v := 1) hx hb dL_law_617 (by decide) ?_
      refine lv_iadd hx hb dL_law_618 ?_
      refine xr_top (nI_add i 1) ?_
      refine xr_sld C0 hX hbl hbA hS (j := i + 1) (by omega) (by omega) dL_law_619 ?_
      refine lv_aload_n hx hb dL_law_620 rfl (lv_at hl 5 rfl) ?_
      refine lv_iload hx hb dL_law_621 (lv_at hl 1 rfl) ?_
      refine lv_iconst (v := 2) hx hb dL_law_623 (by decide) ?_
      refine lv_iadd hx hb dL_law_624 ?_
      refine xr_top (nI_add i 2) ?_
      refine xr_sld C0 hX hbl hbA hS (j := i + 2) (by omega) (by omega) dL_law_625 ?_
      refine lv_aload_n hx hb dL_law_626 rfl (lv_at hl 5 rfl) ?_
      refine lv_iload hx hb dL_law_627 (lv_at hl 1 rfl) ?_
      refine lv_iconst (v := 3) hx hb dL_law_629 (by decide) ?_
      refine lv_iadd hx hb dL_law_630 ?_
      refine xr_top (nI_add i 3) ?_
      refine xr_sld C0 hX hbl hbA hS (j := i + 3) (by omega) (by omega) dL_law_631 ?_
      refine lv_if_eq hx hb dL_law_632 rfl (fun h => absurd h hb0) (fun h => ?_)
      refine lv_iconst (v := 1) hx hb dL_law_635 (by decide) ?_
      refine lv_goto hx hb dL_law_636 rfl ?_
      have hP := hP.sub (ws' := rs_LM q t qo cI cL (n) (f) (g) (sf) (sg) (r) (vp_updL fo 0 (nI z1).toInt64) (k) (n) (f) (g)) [7, 8, 9, 0, 1, 2, 3, 4, 5, 6] rfl
      have hD := hD.sub (ws' := rs_LM q t qo cI cL (n) (f) (g) (sf) (sg) (r) (vp_updL fo 0 (nI z1).toInt64) (k) (n) (f) (g)) [7, 8, 9, 0, 1, 2, 3, 4, 5, 6] (by decide) rfl
      refine xr_vcall (As := [.int (xs (i + 1)), .int (xs (i + 2)), .int 1]) (rest := []) (nA := 3) C0 (m_upTo0 l D t cI [(cL, .long)] (rs_X q cI (n) (f) (g) (sf) (sg) (r) ++ [(qo, .inl (cL, 1, .inr (.inl (vp_updL fo 0 (nI z1).toInt64))))]) _ (n) (k) (f) (g) (xs (i + 1)) (xs (i + 2)) 1 h1 h2 hn) (gV wM_L_X1_upTo wI_X1_upTo wV_X1_X1_upTo wN_X1 wC_X1_upTo) (by decide +kernel) rfl rfl rfl ⟨by decide, by decide⟩ hK hP hD hS hA 0 rfl rfl hl.1 rfl (Nat.le_of_ble_eq_true rfl) dL_law_640 (⟨hcs.1, hcs.2⟩) (fun v w H locs hv hP hD hz hS => ?_)
      obtain ⟨⟨z2, rfl, hz2⟩, rfl⟩ := hv
      obtain rfl := hz1.one hz2
      have hP := hP.sub (ws' := rs_L q t qo cI cL (n) (f) (g) (sf) (sg) (r) (vp_updL fo 0 (nI z1).toInt64) (0) (n) (f) (g)) [3, 4, 5, 6, 7, 8, 9, 0, 1, 2] rfl
      have hD := hD.sub (ws' := rs_L q t qo cI cL (n) (f) (g) (sf) (sg) (r) (vp_updL fo 0 (nI z1).toInt64) (0) (n) (f) (g)) [3, 4, 5, 6, 7, 8, 9, 0, 1, 2] (by decide) rfl
      refine lv_istore hx hb dL_law_643 hl (by decide) rfl (fun ls hl => ?_)
      have hl : lv_has ls 7 [(6, .int (nI z1)), (5, .int 0), (4, .int (nI i)), (3, .ref qo), (2, .ref (t 0)), (1, .ref (q 0)), (0, .ref b)] := hl
      refine lv_aload_n hx hb dL_law_645 rfl (lv_at hl 4 rfl) ?_
      have hP := hP.sub (ws' := rs_LM q t qo cI cL (n) (f) (g) (sf) (sg) (r) (vp_updL fo 0 (nI z1).toInt64) (0) (n) (f) (g)) [7, 8, 9, 0, 1, 2, 3, 4, 5, 6] rfl
      have hD := hD.sub (ws' := rs_LM q t qo cI cL (n) (f) (g) (sf) (sg) (r) (vp_updL fo 0 (nI z1).toInt64) (0) (n) (f) (g)) [7, 8, 9, 0, 1, 2, 3, 4, 5, 6] (by decide) rfl
      refine xr_vcall (As := []) (rest := []) (nA := 0) C0 (m_thrown l D t cI [(cL, .long)] (rs_X q cI (n) (f) (g) (sf) (sg) (r) ++ [(qo, .inl (cL, 1, .inr (.inl (vp_updL fo 0 (nI z1).toInt64))))]) _ (n) (0) (f) (g) ) (gV wM_L_X1_thrown wI_X1_thrown wV_X1_X1_thrown wN_X1 wC_X1_thrown) (by decide +kernel) rfl rfl rfl ⟨by decide, by decide⟩ hK hP hD hS hA 0 rfl rfl hl.1 rfl (Nat.le_of_ble_eq_true rfl) dL_law_646 (⟨hcs.1, hcs.2⟩) (fun v w H locs hv hP hD hz hS => ?_)
      obtain ⟨rfl, rfl⟩ := hv
      have hP := hP.sub (ws' := rs_L q t qo cI cL (n) (f) (g) (sf) (sg) (r) (vp_updL fo 0 (nI z1).toInt64) (0) (n) (f) (g)) [3, 4, 5, 6, 7, 8, 9, 0, 1, 2] rfl
      have hD := hD.sub (ws' := rs_L q t qo cI cL (n) (f) (g) (sf) (sg) (r) (vp_updL fo 0 (nI z1).toInt64) (0) (n) (f) (g)) [3, 4, 5, 6, 7, 8, 9, 0, 1, 2] (by decide) rfl
      refine lv_iload hx hb dL_law_649 (lv_at hl 1 rfl) ?_
      refine lv_icmp_eq hx hb dL_law_651 rfl (fun h => ?_) (fun h => absurd rfl h)
      refine lv_iload hx hb dL_law_656 (lv_at hl 1 rfl) ?_
      refine lv_if_ne hx hb dL_law_658 rfl (fun h => absurd rfl h) (fun h => ?_)
      refine lv_aload_n hx hb dL_law_661 rfl (lv_at hl 3 rfl) ?_
      refine lv_iconst (v := 0) hx hb dL_law_662 (by decide) ?_
      refine xr_lald0 C0 hK hP 6 rfl dL_law_663 ?_
      refine xr_topl pk_uLs ?_
      refine lv_iload hx hb dL_law_664 (lv_at hl 0 rfl) ?_
      refine lv_i2l hx hb dL_law_666 rfl ?_
      refine W.lcmp hx hb dL_law_667 ?_
      refine xr_top (rs_cmp _) ?_
      refine lv_if_eq hx hb dL_law_668 rfl (fun h => ?_) (fun h => absurd rfl h)
      refine lv_goto hx hb dL_law_673 rfl ?_
      have hl : lv_has ls 7 [(4, .int (nI i)), (3, .ref qo), (2, .ref (t 0)), (1, .ref (q 0)), (0, .ref b)] := lv_sub hl [2, 3, 4, 5, 6] rfl
      exact kk (n) (f) (g) (sf) (sg) (r) (vp_updL fo 0 (nI z1).toInt64) (0) H locs ls (hn) hP hD hS hl
set_option maxHeartbeats 4000000 in
set_option maxRecDepth 100000 in
/-- the law calls clear -/
theorem law_clear {p : Program} {l : Launch} {e : Env} {s : State} {m : MethodId} {args : Array Value} {below : List Frame} {meth : Method} {c : Code} {Q : State → Prop} {D : va_G} {A : Nat → Prop} {q t : Nat → Nat} {qo b L : Nat} {cI cL : ClassId} {xs : Nat → Int32} (hl0 : l.stackTraces = false) (C0 : CallFix p m c cL_law 7 s args lw_w RL) (hK : va_K D vwCl [(cI, .int), (cL, .long)] s) (hA : ∀ q, s.heap.size ≤ q → A q) (hX : va_X b L xs s s.heap) (hbl : b < s.heap.size) (hbA : ¬ A b) (hL : L ≤ 2048)
    (hZ : ∀ (H : Heap) (locs : List Loc), va_S A s.heap H locs → ∀ U : State, U.heap = H → s.WarmedH U.vm → xr_Zh U) {i n cells slots : Nat} {f g sf sg r : Nat → Int32} {fo : Nat → Int64} {k : Int32} {H : Heap} {locs : List Loc} {ls : Array Slot} (hi : i + 4 ≤ L) (hn : n ≤ 2000) (hcs : cells + 1 ≤ 1037 ∧ slots + 6 ≤ 22222)
    (hP : va_P D vwCl (rs_L q t qo cI cL n f g sf sg r fo k n f g) H) (hD : va_D A (rs_L q t qo cI cL n f g sf sg r fo k n f g)) (hS : va_S A s.heap H locs) (hl : lv_has ls 7 [(4, .int (nI i)), (3, .ref qo), (2, .ref (t 0)), (1, .ref (q 0)), (0, .ref b)])
    (kk : ∀ (n : Nat) (f g sf sg r : Nat → Int32) (fo : Nat → Int64) (k : Int32) (H : Heap) (locs : List Loc) (ls : Array Slot), n ≤ 2000 → va_P D vwCl (rs_L q t qo cI cL n f g sf sg r fo k n f g) H → va_D A (rs_L q t qo cI cL n f g sf sg r fo k n f g) → va_S A s.heap H locs → lv_has ls 7 [(4, .int (nI i)), (3, .ref qo), (2, .ref (t 0)), (1, .ref (q 0)), (0, .ref b)] → W p l e room_1 s m args below meth c H locs (cells + 1) (slots + 6) Q (F0 m 702 ls [])) : W p l e room_1 s m args below meth c H locs cells slots Q (F0 m 676 ls []) := by
  have hx := C0.1
  have hb := C0.2.1
  refine lv_aload_n hx hb dL_law_676 rfl (lv_at hl 3 rfl) ?_
  refine xr_vcall (As := []) (rest := []) (nA := 0) C0 (c_clear l D q cI [(cL, .long)] ((qo, .inl (cL, 1, .inr (.inl fo))) :: rs_M t cI k n f g) _ n f g sf sg r ) (gV wM_L_X0_clear wI_X0_clear wV_X0_X0_clear wN_X0 wC_X0_clear) (by decide +kernel) rfl rfl rfl ⟨by decide, by decide⟩ hK hP hD hS hA 0 rfl rfl hl.1 rfl (Nat.le_of_ble_eq_true rfl) dL_law_677 (⟨by have := hcs.1; show cells + 0 ≤ 1037; omega, by have := hcs.2; show slots + 0 ≤ 22222; omega⟩) (fun v w H locs hv hP hD hz hS => ?_)
  obtain ⟨rfl, rfl⟩ := hv
  refine lv_aload_n hx hb dL_law_680 rfl (lv_at hl 2 rfl) ?_
  have hP := hP.sub (ws' := rs_LM q t qo cI cL (0) (f) (g) (sf) (sg) (r) (fo) (k) (n) (f) (g)) [7, 8, 9, 0, 1, 2, 3, 4, 5, 6] rfl
  have hD := hD.sub (ws' := rs_LM q t qo cI cL (0) (f) (g) (sf) (sg) (r) (fo) (k) (n) (f) (g)) [7, 8, 9, 0, 1, 2, 3, 4, 5, 6] (by decide) rfl
  refine xr_vcall (As := []) (rest := [.int (nI n)]) (nA := 0) C0 (m_clear l D t cI [(cL, .long)] (rs_X q cI (0) (f) (g) (sf) (sg) (r) ++ [(qo, .inl (cL, 1, .inr (.inl (fo))))]) _ (n) (k) (f) (g) ) (gV wM_L_X1_clear wI_X1_clear wV_X1_X1_clear wN_X1 wC_X1_clear) (by decide +kernel) rfl rfl rfl ⟨by decide, by decide⟩ hK hP hD hS hA 0 rfl rfl hl.1 rfl (Nat.le_of_ble_eq_true rfl) dL_law_681 (⟨by have := hcs.1; show cells + 0 + 0 ≤ 1037; omega, by have := hcs.2; show slots + 0 + 0 ≤ 22222; omega⟩) (fun v w H locs hv hP hD hz hS => ?_)
  obtain ⟨rfl, rfl⟩ := hv
  have hP := hP.sub (ws' := rs_L q t qo cI cL (0) (f) (g) (sf) (sg) (r) (fo) (0) (0) (f) (g)) [3, 4, 5, 6, 7, 8, 9, 0, 1, 2] rfl
  have hD := hD.sub (ws' := rs_L q t qo cI cL (0) (f) (g) (sf) (sg) (r) (fo) (0) (0) (f) (g)) [3, 4, 5, 6, 7, 8, 9, 0, 1, 2] (by decide) rfl
  refine lv_icmp_eq hx hb dL_law_684 rfl (fun h => ?_) (fun h => absurd rfl h)
  refine W.widen (k := cells + 1) (n := slots + 6) (by omega) (by omega) ?_
  exact kk (0) (f) (g) (sf) (sg) (r) (fo) (0) H locs ls (Nat.zero_le _) hP hD hS hl
set_option maxHeartbeats 4000000 in
set_option maxRecDepth 100000 in
/-- the law calls hash -/
theorem law_hash {p : Program} {l : Launch} {e : Env} {s : State} {m : MethodId} {args : Array Value} {below : List Frame} {meth : Method} {c : Code} {Q : State → Prop} {D : va_G} {A : Nat → Prop} {q t : Nat → Nat} {qo b L : Nat} {cI cL : ClassId} {xs : Nat → Int32} (hl0 : l.stackTraces = false) (C0 : CallFix p m c cL_law 7 s args lw_w RL) (hK : va_K D vwCl [(cI, .int), (cL, .long)] s) (hA : ∀ q, s.heap.size ≤ q → A q) (hX : va_X b L xs s s.heap) (hbl : b < s.heap.size) (hbA : ¬ A b) (hL : L ≤ 2048)
    (hZ : ∀ (H : Heap) (locs : List Loc), va_S A s.heap H locs → ∀ U : State, U.heap = H → s.WarmedH U.vm → xr_Zh U) {i n cells slots : Nat} {f g sf sg r : Nat → Int32} {fo : Nat → Int64} {k : Int32} {H : Heap} {locs : List Loc} {ls : Array Slot} (hi : i + 4 ≤ L) (hn : n ≤ 2000) (hcs : cells + 1 ≤ 1037 ∧ slots + 6 ≤ 22222)
    (hP : va_P D vwCl (rs_L q t qo cI cL n f g sf sg r fo k n f g) H) (hD : va_D A (rs_L q t qo cI cL n f g sf sg r fo k n f g)) (hS : va_S A s.heap H locs) (hl : lv_has ls 7 [(4, .int (nI i)), (3, .ref qo), (2, .ref (t 0)), (1, .ref (q 0)), (0, .ref b)])
    (kk : ∀ (n : Nat) (f g sf sg r : Nat → Int32) (fo : Nat → Int64) (k : Int32) (H : Heap) (locs : List Loc) (ls : Array Slot), n ≤ 2000 → va_P D vwCl (rs_L q t qo cI cL n f g sf sg r fo k n f g) H → va_D A (rs_L q t qo cI cL n f g sf sg r fo k n f g) → va_S A s.heap H locs → lv_has ls 7 [(4, .int (nI i)), (3, .ref qo), (2, .ref (t 0)), (1, .ref (q 0)), (0, .ref b)] → W p l e room_1 s m args below meth c H locs (cells + 1) (slots + 6) Q (F0 m 702 ls [])) : W p l e room_1 s m args below meth c H locs cells slots Q (F0 m 689 ls []) := by
  have hx := C0.1
  have hb := C0.2.1
  refine lv_aload_n hx hb dL_law_689 rfl (lv_at hl 3 rfl) ?_
  refine xr_vcall (As := []) (rest := []) (nA := 0) C0 (c_hash l D q cI [(cL, .long)] ((qo, .inl (cL, 1, .inr (.inl fo))) :: rs_M t cI k n f g) _ n f g sf sg r hn) (gV wM_L_X0_hash wI_X0_hash wV_X0_X0_hash wN_X0 wC_X0_hash) (by decide +kernel) rfl rfl rfl ⟨by decide, by decide⟩ hK hP hD hS hA 0 rfl rfl hl.1 rfl (Nat.le_of_ble_eq_true rfl) dL_law_690 (⟨by have := hcs.1; show cells + 0 ≤ 1037; omega, by have := hcs.2; show slots + 0 ≤ 22222; omega⟩) (fun v w H locs hv hP hD hz hS => ?_)
  obtain ⟨rfl, rfl⟩ := hv
  refine lv_aload_n hx hb dL_law_693 rfl (lv_at hl 2 rfl) ?_
  have hP := hP.sub (ws' := rs_LM q t qo cI cL (n) (f) (g) (sf) (sg) (r) (fo) (k) (n) (f) (g)) [7, 8, 9, 0, 1, 2, 3, 4, 5, 6] rfl
  have hD := hD.sub (ws' := rs_LM q t qo cI cL (n) (f) (g) (sf) (sg) (r) (fo) (k) (n) (f) (g)) [7, 8, 9, 0, 1, 2, 3, 4, 5, 6] (by decide) rfl
  refine xr_vcall (As := []) (rest := [.int (rs_hs f g n)]) (nA := 0) C0 (m_hash l D t cI [(cL, .long)] (rs_X q cI (n) (f) (g) (sf) (sg) (r) ++ [(qo, .inl (cL, 1, .inr (.inl (fo))))]) _ (n) (k) (f) (g) hn) (gV wM_L_X1_hash wI_X1_hash wV_X1_X1_hash wN_X1 wC_X1_hash) (by decide +kernel) rfl rfl rfl ⟨by decide, by decide⟩ hK hP hD hS hA 0 rfl rfl hl.1 rfl (Nat.le_of_ble_eq_true rfl) dL_law_694 (⟨by have := hcs.1; show cells + 0 + 0 ≤ 1037; omega, by have := hcs.2; show slots + 0 + 0 ≤ 22222; omega⟩) (fun v w H locs hv hP hD hz hS => ?_)
  obtain ⟨rfl, rfl⟩ := hv
  have hP := hP.sub (ws' := rs_L q t qo cI cL (n) (f) (g) (sf) (sg) (r) (fo) (0) (n) (f) (g)) [3, 4, 5, 6, 7, 8, 9, 0, 1, 2] rfl
  have hD := hD.sub (ws' := rs_L q t qo cI cL (n) (f) (g) (sf) (sg) (r) (fo) (0) (n) (f) (g)) [3, 4, 5, 6, 7, 8, 9, 0, 1, 2] (by decide) rfl
  refine lv_icmp_eq hx hb dL_law_697 rfl (fun h => ?_) (fun h => absurd rfl h)
  refine W.widen (k := cells + 1) (n := slots + 6) (by omega) (by omega) ?_
  exact kk (n) (f) (g) (sf) (sg) (r) (fo) (0) H locs ls (hn) hP hD hS hl
