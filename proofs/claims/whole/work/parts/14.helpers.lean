/-! The law's helpers: each calls the class once, and catches what it throws (rows laid by wip/whole/p14.py). -/
def xr_Zh (U : State) : Prop := xr_Z U ∧ va_Nc eO eI U
theorem xr_Zh.to {s U : State} (h : xr_Zh s) (hU : U.heap = s.heap) (hW : s.WarmedH U.vm) : xr_Zh U := ⟨h.1.to hU hW, va_Nc.moved hW.alike h.2⟩
abbrev wH (y : MethodName) (cc : ByteArray) (n : Nat) (ret : Option FieldType) (hh : List (Nat × Nat × Nat × Nat)) : List Cond := Cond.codeWith y cc n ret hh :: lw_w
def xr_HPc (av : List Value) (D : va_G) (tys : List (ClassId × FieldType)) (ws : va_W) (sz : Nat) : Array Value → State → Prop := va_Pc av (fun U => U.heap.size = sz ∧ va_P D vwCl ws U.heap ∧ va_K D vwCl tys U ∧ va_D (fun _ => True) ws ∧ xr_Zh U)
abbrev xr_HM (l : Launch) (y : MethodName) (wsy : List Cond) (av : List Value) (D : va_G) (tys : List (ClassId × FieldType)) (ws : va_W) (sz : Nat) (post : Option Value → va_W → Prop) : Prop := Met l y wsy { frames := 9, cells := 1, slots := 6, locals := 160 } (xr_HPc av D tys ws sz) (xr_Q D (va_A ws sz) post) 1 6 (va_A ws sz)
theorem xr_Hblind {av : List Value} {D : va_G} {tys : List (ClassId × FieldType)} {ws : va_W} {sz : Nat} : FrameBlind (xr_HPc av D tys ws sz) := fun a U g mk q => by
  obtain ⟨q0, q1, qP, qK, qD, qZ⟩ := q
  exact ⟨q0, q1, qP, va_K.moved (u := U) (U := U.calling g mk a) (Vm.Alike.refl U.vm) qK, qD, qZ.to (U := U.calling g mk a) rfl (State.WarmedH.refl U)⟩
theorem xr_hstart {l : Launch} {y : MethodName} {cc : ByteArray} {maxL : Nat} {ret : Option FieldType} {hh : List (Nat × Nat × Nat × Nat)} {av : List Value} {D : va_G} {tys : List (ClassId × FieldType)} {ws : va_W} {sz : Nat} {post : Option Value → va_W → Prop} (hy : plainName y.cls = true) (hlen : (lg_sl av).length ≤ maxL)
    (body : ∀ (p : Program) (e : Env) (s : State) (m : MethodId) (args : Array Value) (below : List Frame) (meth : Method) (c : Code) (A : Nat → Prop) (ls : Array Slot), CallFix p m c cc maxL s args lw_w y.cls → meth.locks = false → meth.sig.returnType = ret → c.exceptionTable.toList = tableOf hh → va_P D vwCl ws s.heap → va_K D vwCl tys s → va_D A ws → (∀ q, s.heap.size ≤ q → A q) → xr_Zh s → lv_has ls maxL (lv_args 0 av) →
      W p l e { frames := 9, cells := 1, slots := 6, locals := 160 } s m args below meth c s.heap [] 0 0 (MQ below (xr_Q D A post) args s 1 6 A) (F0 m 0 ls [])) : xr_HM l y (wH y cc maxL ret hh) av D tys ws sz post := by
  refine MetFree.of_bodyS (code := cc) (maxLocals := maxL) (ret := ret) hy ?_ ?_
  · intro args s m h hn
    obtain ⟨m9, meth, c, hn9, h1, h2, h3, h4, -, h5, h6, -⟩ := Cond.codeWith_spec (atoms_spec (ws := wH y cc maxL ret hh) h _ List.mem_cons_self)
    cases hn.symm.trans hn9
    exact ⟨meth, c, h1, h2, h3, h4, h5, h6⟩
  · intro p e s m args below meth c s₁ B hml hv _
    obtain ⟨rfl, hsz, hP, hK, hD0, hZ⟩ := hv
    have hh0 : s₁.heap = s.heap := by rw [B.state]; rfl
    have hts := atoms_spec (ws := wH y cc maxL ret hh) B.pre
    have hown : s.vm.findClass y.cls = some m.cls := findClass_of_methodNamed B.named
    have htab : c.exceptionTable.toList = tableOf hh := vx_table (x := y) B (hts _ List.mem_cons_self)
    subst hsz
    have hD := hD0.self (sz := s.heap.size)
    have hl := lv_entry av (n := maxL) hlen
    have K := body p e s m _ below meth c _ _ ⟨B.exec, B.bytes, hml, hown, fun w hw => hts w (List.mem_cons_of_mem _ hw)⟩ B.notSynchronized B.returns htab hP hK hD (fun q h => Or.inr h) hZ hl
    rw [← lg_entry_eq] at K
    obtain ⟨t, a1, o, b1, b2, b3⟩ := K s₁ hh0 (Stand.of_body B)
    exact ⟨t, o, a1, b1, b2, ⟨b3.1, b3.2⟩⟩
section XH
variable {p : Program} {l : Launch} {e : Env} {R : Room} {s : State} {m : MethodId} {args : Array Value} {below : List Frame} {meth : Method} {c : Code} {H : Heap} {locs : List Loc} {cells slots : Nat} {Q : State → Prop}
variable {D : va_G} {tys : List (ClassId × FieldType)} {A : Nat → Prop} {ws : va_W} {cc : ByteArray} {nL pc : Nat} {own : String} {ls : Array Slot} {st0 rest : List Value}
theorem xr_last0 {cI cL : ClassId} {tyr : List (ClassId × FieldType)} {a : Nat} {fo : Nat → Int64} {x : Int64} (C0 : CallFix p m c cc nL s args lw_w own) (hK : va_K D vwCl ((cI, .int) :: (cL, .long) :: tyr) s) (hP : va_P D vwCl ws H) (hD : va_D A ws) (hS : va_S A s.heap H locs) (q0 : Nat) (ha : ws[q0]? = some (a, .inl (cL, 1, .inr (.inl fo)))) (hdg : decode cc pc = .ok (.lastore, 1))
    (kk : ∀ (H1 : Heap) (locs1 : List Loc), va_P D vwCl (ws.set q0 (a, .inl (cL, 1, .inr (.inl (vp_updL fo 0 x))))) H1 → va_D A (ws.set q0 (a, .inl (cL, 1, .inr (.inl (vp_updL fo 0 x))))) → va_S A s.heap H1 locs1 → W p l e R s m args below meth c H1 locs1 cells slots Q (F0 m (pc + 1) ls rest)) : W p l e R s m args below meth c H locs cells slots Q (F0 m pc ls (.long x :: .int 0 :: .ref a :: rest)) :=
  va_last C0.1 C0.2.1 hK hP hD hS q0 1 ha rfl (i := 0) (vp_in_nI (n := 0) (N := 1) (by decide) (by decide)) hdg kk
/-- the class throws in a helper -/
theorem xr_hthrow {ci idx maxL N b nA : Nat} {C : String} {T : u_T} {y : MethodName} {bytes : ByteArray} {ret : Option FieldType} {rm : Room} {As : List Value} {fs : List Value} {E : String}
    (C0 : CallFix p m c cc nL s args lw_w own) (hM : xr_TM l y (wU y bytes maxL ret) rm (.ref b :: As) D tys ws E) (hg : GoodIn lw_w (wsV own idx C y (wU y bytes maxL ret)))
    (hd : y.cls = C ∧ y.cls ≠ "java/lang/invoke/MethodHandle" ∧ y.cls ≠ "java/lang/invoke/VarHandle" ∧ (parseMethodDescriptor y.desc).map (fun d => d.parameters.length) = some nA) (hnA : As.length = nA)
    (hrc : rm.cells = 1) (hrs : rm.slots = 6) (hR : rm.frames + 1 ≤ R.frames ∧ 8 + (maxL + 11) + rm.locals ≤ R.locals)
    (hK : va_K D vwCl tys s) (hP : va_P D vwCl ws s.heap) (hZ : xr_Z s) (q0 : Nat) (he : ws[q0]? = some (b, .inr (ci, fs))) (hc : vwCl[ci]? = some (C, T, N)) (hls : ls.size = nL) (hst : st0 = As.reverse ++ .ref b :: rest) (hW : (rest.map fun v => v.category).sum ≤ 8) (hdg : decode cc pc = .ok (.invokevirtual idx, 3)) (hcs : 0 + 1 ≤ R.cells ∧ 0 + 6 ≤ R.slots)
    (kk : ∀ (qx : Nat) (H1 : Heap) (ce : Cell), s.heap.size ≤ H1.size → (∀ q : Nat, q < s.heap.size → H1[q]? = s.heap[q]?) → H1[qx]? = some ce → ce.vm = .none → s.vm.findClass E = some ce.cls → vx_W p l e R s m args below meth c H1 [] 1 6 Q (F0 m pc ls rest) qx) :
    W p l e R s m args below meth c s.heap [] 0 0 Q (F0 m pc ls st0) := by
  have hr := vx_runV (p := p) (e := e) (m := m) (below := below) (meth := meth) (H := s.heap) (locs := []) (cells := 0) (slots := 0) (g := F0 m pc ls st0) (rest := rest) (n := nA) C0 hM (cwV nA C0.2.2.2.2 hg rfl hrc hrs hd hR) ⟨xr_Tblind, va_recv hK hP hc he, fun U hU hW => ⟨rfl, by rw [hU]; exact hP, va_K.moved hW.alike hK, hZ.to hU hW⟩⟩ rfl hnA hls hst (lv_room hW) hdg hcs
  intro T hT X
  rcases hr T hT X with ⟨v, st₀, t, T', L, -, -, -, -, -, hq, -⟩ | ⟨q, st₀, t, T', L, E1, ce, h0, X', hL, e1, e2, ⟨rfl, hz, hk⟩, hc, hv, hcl, st⟩
  · exact hq.elim
  · have X2 := Stand.forget (locs := []) X' (fun z hz => (hL z hz).elim)
    obtain ⟨t2, a1, b1⟩ := kk q T'.heap ce (by rw [e1, ← h0]; exact hz) (fun x hx => by rw [e1, hk x (by rw [h0]; exact hx), h0]) (by rw [e1]; exact hc) hv hcl T' rfl X2
    exact ⟨t2, st.trans a1, b1⟩
end XH
set_option maxHeartbeats 4000000 in
set_option maxRecDepth 100000 in
/-- fill returns -/
theorem h_fill0 (l : Launch) (hl0 : l.stackTraces = false) (D : va_G) (q : Nat → Nat) (qo : Nat) (cI cL : ClassId) (tyr : List (ClassId × FieldType)) (wr : va_W) (sz n : Nat) (f g sf sg r : Nat → Int32) (fo : Nat → Int64) (x st : Int32) (k : Nat) (hn : n + k ≤ 2000) : xr_HM l yL_fill (wH yL_fill cL_fill 6 (some .int) [(0, 12, 15, 13), (0, 12, 19, 15)]) [.ref (q 0), .int x, .int st, .int (nI k), .ref qo] D (rs_ty cI ((cL, .long) :: tyr)) (rs_X q cI n f g sf sg r ++ ((qo, .inl (cL, 1, .inr (.inl fo))) :: wr)) sz (fun v w => v = some (.int 0) ∧ w = rs_X q cI (n + k) (rs_fi f n x st k) (rs_tg g n k) (sf) (sg) (r) ++ ((qo, .inl (cL, 1, .inr (.inl (vp_updL fo 0 (nI (n + k)).toInt64)))) :: wr)) := by
  refine xr_hstart (by decide) (Nat.le_of_ble_eq_true rfl) ?_
  intro p e s m args below meth c A ls C0 hlk hr htab hP hK hD hA hZ hl
  have hx := C0.1
  have hb := C0.2.1
  have hS : va_S A s.heap s.heap [] := va_S.rf
  have hl : lv_has ls 6 [(0, .ref (q 0)), (1, .int x), (2, .int st), (3, .int (nI k)), (4, .ref qo)] := hl
  refine lv_aload hx hb dL_fill_0 (lv_at hl 4 rfl) ?_
  refine lv_iconst (v := 0) hx hb dL_fill_2 (by decide) ?_
  refine lv_aload_n hx hb dL_fill_3 rfl (lv_at hl 0 rfl) ?_
  refine lv_iload_n hx hb dL_fill_4 rfl (lv_at hl 1 rfl) ?_
  refine lv_iload_n hx hb dL_fill_5 rfl (lv_at hl 2 rfl) ?_
  refine lv_iload_n hx hb dL_fill_6 rfl (lv_at hl 3 rfl) ?_
  refine xr_vcall (As := [.int x, .int st, .int (nI k)]) (rest := [.int 0, .ref qo]) (nA := 3) C0 (c_fill l D q cI ((cL, .long) :: tyr) ((qo, .inl (cL, 1, .inr (.inl (fo)))) :: wr) _ n f g sf sg r x st k hn) (gV wM_L_X0_fill wI_X0_fill wV_X0_X0_fill wN_X0 wC_X0_fill) (by decide +kernel) rfl rfl rfl ⟨by decide, by decide⟩ hK hP hD hS hA 0 rfl rfl hl.1 rfl (Nat.le_of_ble_eq_true rfl) dL_fill_7 ⟨Nat.le_of_ble_eq_true rfl, Nat.le_of_ble_eq_true rfl⟩ (fun v w H locs hv hP hD hz hS => ?_)
  obtain ⟨rfl, rfl⟩ := hv
  refine lv_i2l hx hb dL_fill_10 rfl ?_
  refine xr_last0 C0 hK hP hD hS 6 rfl dL_fill_11 (fun H locs hP hD hS => ?_)
  have hP : va_P D vwCl (rs_X q cI (n + k) (rs_fi f n x st k) (rs_tg g n k) (sf) (sg) (r) ++ ((qo, .inl (cL, 1, .inr (.inl (vp_updL fo 0 (nI (n + k)).toInt64)))) :: wr)) H := hP
  have hD : va_D A (rs_X q cI (n + k) (rs_fi f n x st k) (rs_tg g n k) (sf) (sg) (r) ++ ((qo, .inl (cL, 1, .inr (.inl (vp_updL fo 0 (nI (n + k)).toInt64)))) :: wr)) := hD
  refine lv_goto hx hb dL_fill_12 rfl ?_
  refine lv_iconst (v := 0) hx hb dL_fill_23 (by decide) ?_
  refine W.widen (k := 1) (n := 6) (by decide) (by decide) ?_
  exact xr_iret C0 hlk hr (⟨rfl, rfl⟩) hP hD hS dL_fill_24
set_option maxHeartbeats 4000000 in
set_option maxRecDepth 100000 in
/-- fill: a number out of range -/
theorem h_fill1 (l : Launch) (hl0 : l.stackTraces = false) (D : va_G) (q : Nat → Nat) (qo : Nat) (cI cL : ClassId) (tyr : List (ClassId × FieldType)) (wr : va_W) (sz n : Nat) (f g sf sg r : Nat → Int32) (fo : Nat → Int64) (x st y : Int32) (hbad : y < 0 ∨ 2000 < y) : xr_HM l yL_fill (wH yL_fill cL_fill 6 (some .int) [(0, 12, 15, 13), (0, 12, 19, 15)]) [.ref (q 0), .int x, .int st, .int y, .ref qo] D (rs_ty cI ((cL, .long) :: tyr)) (rs_X q cI n f g sf sg r ++ ((qo, .inl (cL, 1, .inr (.inl fo))) :: wr)) sz (fun v w => v = some (.int 1) ∧ w = rs_X q cI n f g sf sg r ++ ((qo, .inl (cL, 1, .inr (.inl (fo)))) :: wr)) := by
  refine xr_hstart (by decide) (Nat.le_of_ble_eq_true rfl) ?_
  intro p e s m args below meth c A ls C0 hlk hr htab hP hK hD hA hZ hl
  have hx := C0.1
  have hb := C0.2.1
  have hS : va_S A s.heap s.heap [] := va_S.rf
  have hl : lv_has ls 6 [(0, .ref (q 0)), (1, .int x), (2, .int st), (3, .int y), (4, .ref qo)] := hl
  refine lv_aload hx hb dL_fill_0 (lv_at hl 4 rfl) ?_
  refine lv_iconst (v := 0) hx hb dL_fill_2 (by decide) ?_
  refine lv_aload_n hx hb dL_fill_3 rfl (lv_at hl 0 rfl) ?_
  refine lv_iload_n hx hb dL_fill_4 rfl (lv_at hl 1 rfl) ?_
  refine lv_iload_n hx hb dL_fill_5 rfl (lv_at hl 2 rfl) ?_
  refine lv_iload_n hx hb dL_fill_6 rfl (lv_at hl 3 rfl) ?_
  refine xr_hthrow (As := [.int x, .int st, .int y]) (rest := [.int 0, .ref qo]) (nA := 3) C0 (t_fill1 l hl0 D q cI ((cL, .long) :: tyr) ((qo, .inl (cL, 1, .inr (.inl (fo)))) :: wr) n f g sf sg r x st y hbad) (gV wM_L_X0_fill wI_X0_fill wV_X0_X0_fill wN_X0 wC_X0_fill) (by decide +kernel) rfl rfl rfl ⟨by decide, by decide⟩ hK hP hZ.1 0 rfl rfl hl.1 rfl (Nat.le_of_ble_eq_true rfl) dL_fill_7 ⟨by decide, by decide⟩ (fun qx H ce hz hk hc hv hcl => ?_)
  refine vx_catch C0.2.2.2.1 [] ⟨0, 12, 15, 13⟩ [⟨0, 12, 19, 15⟩] htab (fun z hz => absurd hz List.not_mem_nil) (by decide) (by decide) (C0.2.2.2.2 _ wK_L_IllegalArgumentException) (va_Nw.use rfl hZ.1.2.2.2.2.2.1) hc hv hcl ?_
  have hP : va_P D vwCl (rs_X q cI (n) (f) (g) (sf) (sg) (r) ++ ((qo, .inl (cL, 1, .inr (.inl (fo)))) :: wr)) H := hP.kept (fun k x hx => hk x.1 ((hP k x hx).lt))
  have hS : va_S A s.heap H [] := ⟨hz, fun q h1 _ => hk q h1, fun q hq => by cases hq⟩
  refine lv_astore hx hb dL_fill_15 hl (by decide) rfl (fun ls hl => ?_)
  have hl : lv_has ls 6 [(5, .ref qx), (0, .ref (q 0)), (1, .int x), (2, .int st), (3, .int y), (4, .ref qo)] := hl
  refine lv_iconst (v := 1) hx hb dL_fill_17 (by decide) ?_
  exact xr_iret C0 hlk hr (⟨rfl, rfl⟩) hP hD hS dL_fill_18
set_option maxHeartbeats 4000000 in
set_option maxRecDepth 100000 in
/-- fill: no room -/
theorem h_fill2 (l : Launch) (hl0 : l.stackTraces = false) (D : va_G) (q : Nat → Nat) (qo : Nat) (cI cL : ClassId) (tyr : List (ClassId × FieldType)) (wr : va_W) (sz n : Nat) (f g sf sg r : Nat → Int32) (fo : Nat → Int64) (x st y : Int32) (h1 : ¬ y < 0) (h2 : y ≤ 2000) (hn : n ≤ 2000) (hbad : nI (2000 - n) < y) : xr_HM l yL_fill (wH yL_fill cL_fill 6 (some .int) [(0, 12, 15, 13), (0, 12, 19, 15)]) [.ref (q 0), .int x, .int st, .int y, .ref qo] D (rs_ty cI ((cL, .long) :: tyr)) (rs_X q cI n f g sf sg r ++ ((qo, .inl (cL, 1, .inr (.inl fo))) :: wr)) sz (fun v w => v = some (.int 2) ∧ w = rs_X q cI n f g sf sg r ++ ((qo, .inl (cL, 1, .inr (.inl (fo)))) :: wr)) := by
  refine xr_hstart (by decide) (Nat.le_of_ble_eq_true rfl) ?_
  intro p e s m args below meth c A ls C0 hlk hr htab hP hK hD hA hZ hl
  have hx := C0.1
  have hb := C0.2.1
  have hS : va_S A s.heap s.heap [] := va_S.rf
  have hl : lv_has ls 6 [(0, .ref (q 0)), (1, .int x), (2, .int st), (3, .int y), (4, .ref qo)] := hl
  refine lv_aload hx hb dL_fill_0 (lv_at hl 4 rfl) ?_
  refine lv_iconst (v := 0) hx hb dL_fill_2 (by decide) ?_
  refine lv_aload_n hx hb dL_fill_3 rfl (lv_at hl 0 rfl) ?_
  refine lv_iload_n hx hb dL_fill_4 rfl (lv_at hl 1 rfl) ?_
  refine lv_iload_n hx hb dL_fill_5 rfl (lv_at hl 2 rfl) ?_
  refine lv_iload_n hx hb dL_fill_6 rfl (lv_at hl 3 rfl) ?_
  refine xr_hthrow (As := [.int x, .int st, .int y]) (rest := [.int 0, .ref qo]) (nA := 3) C0 (t_fill2 l hl0 D q cI ((cL, .long) :: tyr) ((qo, .inl (cL, 1, .inr (.inl (fo)))) :: wr) n f g sf sg r x st y h1 h2 hn hbad) (gV wM_L_X0_fill wI_X0_fill wV_X0_X0_fill wN_X0 wC_X0_fill) (by decide +kernel) rfl rfl rfl ⟨by decide, by decide⟩ hK hP hZ.1 0 rfl rfl hl.1 rfl (Nat.le_of_ble_eq_true rfl) dL_fill_7 ⟨by decide, by decide⟩ (fun qx H ce hz hk hc hv hcl => ?_)
  refine vx_catch C0.2.2.2.1 [⟨0, 12, 15, 13⟩] ⟨0, 12, 19, 15⟩ [] htab (fun z hz => by rcases List.mem_singleton.mp hz with rfl; exact Or.inr ⟨by decide, eI, C0.2.2.2.2 _ wK_L_IllegalArgumentException, hZ.2⟩) (by decide) (by decide) (C0.2.2.2.2 _ wK_L_IndexOutOfBoundsException) (va_Nw.use rfl hZ.1.2.2.2.2.2.2.1) hc hv hcl ?_
  have hP : va_P D vwCl (rs_X q cI (n) (f) (g) (sf) (sg) (r) ++ ((qo, .inl (cL, 1, .inr (.inl (fo)))) :: wr)) H := hP.kept (fun k x hx => hk x.1 ((hP k x hx).lt))
  have hS : va_S A s.heap H [] := ⟨hz, fun q h1 _ => hk q h1, fun q hq => by cases hq⟩
  refine lv_astore hx hb dL_fill_19 hl (by decide) rfl (fun ls hl => ?_)
  have hl : lv_has ls 6 [(5, .ref qx), (0, .ref (q 0)), (1, .int x), (2, .int st), (3, .int y), (4, .ref qo)] := hl
  refine lv_iconst (v := 2) hx hb dL_fill_21 (by decide) ?_
  exact xr_iret C0 hlk hr (⟨rfl, rfl⟩) hP hD hS dL_fill_22
set_option maxHeartbeats 4000000 in
set_option maxRecDepth 100000 in
/-- scatter returns -/
theorem h_scatter0 (l : Launch) (hl0 : l.stackTraces = false) (D : va_G) (q : Nat → Nat) (qo : Nat) (cI cL : ClassId) (tyr : List (ClassId × FieldType)) (wr : va_W) (sz n : Nat) (f g sf sg r : Nat → Int32) (fo : Nat → Int64) (x b : Int32) (k : Nat) (hb1 : ¬ b < 1) (hb2 : b ≤ 16) (hn : n + k ≤ 2000) : xr_HM l yL_scatter (wH yL_scatter cL_scatter 6 (some .int) [(0, 12, 15, 13), (0, 12, 19, 15)]) [.ref (q 0), .int x, .int b, .int (nI k), .ref qo] D (rs_ty cI ((cL, .long) :: tyr)) (rs_X q cI n f g sf sg r ++ ((qo, .inl (cL, 1, .inr (.inl fo))) :: wr)) sz (fun v w => v = some (.int 0) ∧ w = rs_X q cI (n + k) (rs_sc f n x b k) (rs_tg g n k) (sf) (sg) (r) ++ ((qo, .inl (cL, 1, .inr (.inl (vp_updL fo 0 (nI (n + k)).toInt64)))) :: wr)) := by
  refine xr_hstart (by decide) (Nat.le_of_ble_eq_true rfl) ?_
  intro p e s m args below meth c A ls C0 hlk hr htab hP hK hD hA hZ hl
  have hx := C0.1
  have hb := C0.2.1
  have hS : va_S A s.heap s.heap [] := va_S.rf
  have hl : lv_has ls 6 [(0, .ref (q 0)), (1, .int x), (2, .int b), (3, .int (nI k)), (4, .ref qo)] := hl
  refine lv_aload hx hb dL_scatter_0 (lv_at hl 4 rfl) ?_
  refine lv_iconst (v := 0) hx hb dL_scatter_2 (by decide) ?_
  refine lv_aload_n hx hb dL_scatter_3 rfl (lv_at hl 0 rfl) ?_
  refine lv_iload_n hx hb dL_scatter_4 rfl (lv_at hl 1 rfl) ?_
  refine lv_iload_n hx hb dL_scatter_5 rfl (lv_at hl 2 rfl) ?_
  refine lv_iload_n hx hb dL_scatter_6 rfl (lv_at hl 3 rfl) ?_
  refine xr_vcall (As := [.int x, .int b, .int (nI k)]) (rest := [.int 0, .ref qo]) (nA := 3) C0 (c_scatter l D q cI ((cL, .long) :: tyr) ((qo, .inl (cL, 1, .inr (.inl (fo)))) :: wr) _ n f g sf sg r x b k hb1 hb2 hn) (gV wM_L_X0_scatter wI_X0_scatter wV_X0_X0_scatter wN_X0 wC_X0_scatter) (by decide +kernel) rfl rfl rfl ⟨by decide, by decide⟩ hK hP hD hS hA 0 rfl rfl hl.1 rfl (Nat.le_of_ble_eq_true rfl) dL_scatter_7 ⟨Nat.le_of_ble_eq_true rfl, Nat.le_of_ble_eq_true rfl⟩ (fun v w H locs hv hP hD hz hS => ?_)
  obtain ⟨rfl, rfl⟩ := hv
  refine lv_i2l hx hb dL_scatter_10 rfl ?_
  refine xr_last0 C0 hK hP hD hS 6 rfl dL_scatter_11 (fun H locs hP hD hS => ?_)
  have hP : va_P D vwCl (rs_X q cI (n + k) (rs_sc f n x b k) (rs_tg g n k) (sf) (sg) (r) ++ ((qo, .inl (cL, 1, .inr (.inl (vp_updL fo 0 (nI (n + k)).toInt64)))) :: wr)) H := hP
  have hD : va_D A (rs_X q cI (n + k) (rs_sc f n x b k) (rs_tg g n k) (sf) (sg) (r) ++ ((qo, .inl (cL, 1, .inr (.inl (vp_updL fo 0 (nI (n + k)).toInt64)))) :: wr)) := hD
  refine lv_goto hx hb dL_scatter_12 rfl ?_
  refine lv_iconst (v := 0) hx hb dL_scatter_23 (by decide) ?_
  refine W.widen (k := 1) (n := 6) (by decide) (by decide) ?_
  exact xr_iret C0 hlk hr (⟨rfl, rfl⟩) hP hD hS dL_scatter_24
set_option maxHeartbeats 4000000 in
set_option maxRecDepth 100000 in
/-- scatter: a number out of range -/
theorem h_scatter1 (l : Launch) (hl0 : l.stackTraces = false) (D : va_G) (q : Nat → Nat) (qo : Nat) (cI cL : ClassId) (tyr : List (ClassId × FieldType)) (wr : va_W) (sz n : Nat) (f g sf sg r : Nat → Int32) (fo : Nat → Int64) (x b y : Int32) (hbad : (y < 0 ∨ 2000 < y) ∨ b < 1 ∨ 16 < b) : xr_HM l yL_scatter (wH yL_scatter cL_scatter 6 (some .int) [(0, 12, 15, 13), (0, 12, 19, 15)]) [.ref (q 0), .int x, .int b, .int y, .ref qo] D (rs_ty cI ((cL, .long) :: tyr)) (rs_X q cI n f g sf sg r ++ ((qo, .inl (cL, 1, .inr (.inl fo))) :: wr)) sz (fun v w => v = some (.int 1) ∧ w = rs_X q cI n f g sf sg r ++ ((qo, .inl (cL, 1, .inr (.inl (fo)))) :: wr)) := by
  refine xr_hstart (by decide) (Nat.le_of_ble_eq_true rfl) ?_
  intro p e s m args below meth c A ls C0 hlk hr htab hP hK hD hA hZ hl
  have hx := C0.1
  have hb := C0.2.1
  have hS : va_S A s.heap s.heap [] := va_S.rf
  have hl : lv_has ls 6 [(0, .ref (q 0)), (1, .int x), (2, .int b), (3, .int y), (4, .ref qo)] := hl
  refine lv_aload hx hb dL_scatter_0 (lv_at hl 4 rfl) ?_
  refine lv_iconst (v := 0) hx hb dL_scatter_2 (by decide) ?_
  refine lv_aload_n hx hb dL_scatter_3 rfl (lv_at hl 0 rfl) ?_
  refine lv_iload_n hx hb dL_scatter_4 rfl (lv_at hl 1 rfl) ?_
  refine lv_iload_n hx hb dL_scatter_5 rfl (lv_at hl 2 rfl) ?_
  refine lv_iload_n hx hb dL_scatter_6 rfl (lv_at hl 3 rfl) ?_
  refine xr_hthrow (As := [.int x, .int b, .int y]) (rest := [.int 0, .ref qo]) (nA := 3) C0 (t_scatter1 l hl0 D q cI ((cL, .long) :: tyr) ((qo, .inl (cL, 1, .inr (.inl (fo)))) :: wr) n f g sf sg r x b y hbad) (gV wM_L_X0_scatter wI_X0_scatter wV_X0_X0_scatter wN_X0 wC_X0_scatter) (by decide +kernel) rfl rfl rfl ⟨by decide, by decide⟩ hK hP hZ.1 0 rfl rfl hl.1 rfl (Nat.le_of_ble_eq_true rfl) dL_scatter_7 ⟨by decide, by decide⟩ (fun qx H ce hz hk hc hv hcl => ?_)
  refine vx_catch C0.2.2.2.1 [] ⟨0, 12, 15, 13⟩ [⟨0, 12, 19, 15⟩] htab (fun z hz => absurd hz List.not_mem_nil) (by decide) (by decide) (C0.2.2.2.2 _ wK_L_IllegalArgumentException) (va_Nw.use rfl hZ.1.2.2.2.2.2.1) hc hv hcl ?_
  have hP : va_P D vwCl (rs_X q cI (n) (f) (g) (sf) (sg) (r) ++ ((qo, .inl (cL, 1, .inr (.inl (fo)))) :: wr)) H := hP.kept (fun k x hx => hk x.1 ((hP k x hx).lt))
  have hS : va_S A s.heap H [] := ⟨hz, fun q h1 _ => hk q h1, fun q hq => by cases hq⟩
  refine lv_astore hx hb dL_scatter_15 hl (by decide) rfl (fun ls hl => ?_)
  have hl : lv_has ls 6 [(5, .ref qx), (0, .ref (q 0)), (1, .int x), (2, .int b), (3, .int y), (4, .ref qo)] := hl
  refine lv_iconst (v := 1) hx hb dL_scatter_17 (by decide) ?_
  exact xr_iret C0 hlk hr (⟨rfl, rfl⟩) hP hD hS dL_scatter_18
set_option maxHeartbeats 4000000 in
set_option maxRecDepth 100000 in
/-- scatter: no room -/
theorem h_scatter2 (l : Launch) (hl0 : l.stackTraces = false) (D : va_G) (q : Nat → Nat) (qo : Nat) (cI cL : ClassId) (tyr : List (ClassId × FieldType)) (wr : va_W) (sz n : Nat) (f g sf sg r : Nat → Int32) (fo : Nat → Int64) (x b y : Int32) (h1 : ¬ y < 0) (h2 : y ≤ 2000) (h3 : ¬ b < 1) (h4 : b ≤ 16) (hn : n ≤ 2000) (hbad : nI (2000 - n) < y) : xr_HM l yL_scatter (wH yL_scatter cL_scatter 6 (some .int) [(0, 12, 15, 13), (0, 12, 19, 15)]) [.ref (q 0), .int x, .int b, .int y, .ref qo] D (rs_ty cI ((cL, .long) :: tyr)) (rs_X q cI n f g sf sg r ++ ((qo, .inl (cL, 1, .inr (.inl fo))) :: wr)) sz (fun v w => v = some (.int 2) ∧ w = rs_X q cI n f g sf sg r ++ ((qo, .inl (cL, 1, .inr (.inl (fo)))) :: wr)) := by
  refine xr_hstart (by decide) (Nat.le_of_ble_eq_true rfl) ?_
  intro p e s m args below meth c A ls C0 hlk hr htab hP hK hD hA hZ hl
  have hx := C0.1
  have hb := C0.2.1
  have hS : va_S A s.heap s.heap [] := va_S.rf
  have hl : lv_has ls 6 [(0, .ref (q 0)), (1, .int x), (2, .int b), (3, .int y), (4, .ref qo)] := hl
  refine lv_aload hx hb dL_scatter_0 (lv_at hl 4 rfl) ?_
  refine lv_iconst (v := 0) hx hb dL_scatter_2 (by decide) ?_
  refine lv_aload_n hx hb dL_scatter_3 rfl (lv_at hl 0 rfl) ?_
  refine lv_iload_n hx hb dL_scatter_4 rfl (lv_at hl 1 rfl) ?_
  refine lv_iload_n hx hb dL_scatter_5 rfl (lv_at hl 2 rfl) ?_
  refine lv_iload_n hx hb dL_scatter_6 rfl (lv_at hl 3 rfl) ?_
  refine xr_hthrow (As := [.int x, .int b, .int y]) (rest := [.int 0, .ref qo]) (nA := 3) C0 (t_scatter2 l hl0 D q cI ((cL, .long) :: tyr) ((qo, .inl (cL, 1, .inr (.inl (fo)))) :: wr) n f g sf sg r x b y h1 h2 h3 h4 hn hbad) (gV wM_L_X0_scatter wI_X0_scatter wV_X0_X0_scatter wN_X0 wC_X0_scatter) (by decide +kernel) rfl rfl rfl ⟨by decide, by decide⟩ hK hP hZ.1 0 rfl rfl hl.1 rfl (Nat.le_of_ble_eq_true rfl) dL_scatter_7 ⟨by decide, by decide⟩ (fun qx H ce hz hk hc hv hcl => ?_)
  refine vx_catch C0.2.2.2.1 [⟨0, 12, 15, 13⟩] ⟨0, 12, 19, 15⟩ [] htab (fun z hz => by rcases List.mem_singleton.mp hz with rfl; exact Or.inr ⟨by decide, eI, C0.2.2.2.2 _ wK_L_IllegalArgumentException, hZ.2⟩) (by decide) (by decide) (C0.2.2.2.2 _ wK_L_IndexOutOfBoundsException) (va_Nw.use rfl hZ.1.2.2.2.2.2.2.1) hc hv hcl ?_
  have hP : va_P D vwCl (rs_X q cI (n) (f) (g) (sf) (sg) (r) ++ ((qo, .inl (cL, 1, .inr (.inl (fo)))) :: wr)) H := hP.kept (fun k x hx => hk x.1 ((hP k x hx).lt))
  have hS : va_S A s.heap H [] := ⟨hz, fun q h1 _ => hk q h1, fun q hq => by cases hq⟩
  refine lv_astore hx hb dL_scatter_19 hl (by decide) rfl (fun ls hl => ?_)
  have hl : lv_has ls 6 [(5, .ref qx), (0, .ref (q 0)), (1, .int x), (2, .int b), (3, .int y), (4, .ref qo)] := hl
  refine lv_iconst (v := 2) hx hb dL_scatter_21 (by decide) ?_
  exact xr_iret C0 hlk hr (⟨rfl, rfl⟩) hP hD hS dL_scatter_22
set_option maxHeartbeats 4000000 in
set_option maxRecDepth 100000 in
/-- sort returns -/
theorem h_sort0 (l : Launch) (hl0 : l.stackTraces = false) (D : va_G) (q : Nat → Nat) (qo : Nat) (cI cL : ClassId) (tyr : List (ClassId × FieldType)) (wr : va_W) (sz n : Nat) (f g sf sg r : Nat → Int32) (fo : Nat → Int64) (o : Int32) (a b : Nat) (h1 : ¬ o < 0) (h2 : o ≤ 3) (hab : a ≤ b) (hbn : b ≤ n) (hn : n ≤ 2000) : xr_HM l yL_sort (wH yL_sort cL_sort 6 (some .int) [(0, 12, 15, 13)]) [.ref (q 0), .int o, .int (nI a), .int (nI b), .ref qo] D (rs_ty cI ((cL, .long) :: tyr)) (rs_X q cI n f g sf sg r ++ ((qo, .inl (cL, 1, .inr (.inl fo))) :: wr)) sz (fun v w => ∃ f' g' sf' sg' r' : Nat → Int32, v = some (.int 0) ∧ w = rs_X q cI (n) (f') (g') (sf') (sg') (r') ++ ((qo, .inl (cL, 1, .inr (.inl (vp_updL fo 0 (nI (b - a)).toInt64)))) :: wr) ∧ rs_St o a b f g f' g') := by
  refine xr_hstart (by decide) (Nat.le_of_ble_eq_true rfl) ?_
  intro p e s m args below meth c A ls C0 hlk hr htab hP hK hD hA hZ hl
  have hx := C0.1
  have hb := C0.2.1
  have hS : va_S A s.heap s.heap [] := va_S.rf
  have hl : lv_has ls 6 [(0, .ref (q 0)), (1, .int o), (2, .int (nI a)), (3, .int (nI b)), (4, .ref qo)] := hl
  refine lv_aload hx hb dL_sort_0 (lv_at hl 4 rfl) ?_
  refine lv_iconst (v := 0) hx hb dL_sort_2 (by decide) ?_
  refine lv_aload_n hx hb dL_sort_3 rfl (lv_at hl 0 rfl) ?_
  refine lv_iload_n hx hb dL_sort_4 rfl (lv_at hl 1 rfl) ?_
  refine lv_iload_n hx hb dL_sort_5 rfl (lv_at hl 2 rfl) ?_
  refine lv_iload_n hx hb dL_sort_6 rfl (lv_at hl 3 rfl) ?_
  refine xr_vcall (As := [.int o, .int (nI a), .int (nI b)]) (rest := [.int 0, .ref qo]) (nA := 3) C0 (c_sort l D q cI ((cL, .long) :: tyr) ((qo, .inl (cL, 1, .inr (.inl (fo)))) :: wr) _ n f g sf sg r o a b h1 h2 hab hbn hn) (gV wM_L_X0_sort wI_X0_sort wV_X0_X0_sort wN_X0 wC_X0_sort) (by decide +kernel) rfl rfl rfl ⟨by decide, by decide⟩ hK hP hD hS hA 0 rfl rfl hl.1 rfl (Nat.le_of_ble_eq_true rfl) dL_sort_7 ⟨Nat.le_of_ble_eq_true rfl, Nat.le_of_ble_eq_true rfl⟩ (fun v w H locs hv hP hD hz hS => ?_)
  obtain ⟨f', g', sf', sg', r', rfl, rfl, hSt⟩ := hv
  refine lv_i2l hx hb dL_sort_10 rfl ?_
  refine xr_last0 C0 hK hP hD hS 6 rfl dL_sort_11 (fun H locs hP hD hS => ?_)
  have hP : va_P D vwCl (rs_X q cI (n) (f') (g') (sf') (sg') (r') ++ ((qo, .inl (cL, 1, .inr (.inl (vp_updL fo 0 (nI (b - a)).toInt64)))) :: wr)) H := hP
  have hD : va_D A (rs_X q cI (n) (f') (g') (sf') (sg') (r') ++ ((qo, .inl (cL, 1, .inr (.inl (vp_updL fo 0 (nI (b - a)).toInt64)))) :: wr)) := hD
  refine lv_goto hx hb dL_sort_12 rfl ?_
  refine lv_iconst (v := 0) hx hb dL_sort_19 (by decide) ?_
  refine W.widen (k := 1) (n := 6) (by decide) (by decide) ?_
  exact xr_iret C0 hlk hr (⟨f', g', sf', sg', r', rfl, rfl, hSt⟩) hP hD hS dL_sort_20
set_option maxHeartbeats 4000000 in
set_option maxRecDepth 100000 in
/-- sort: a number out of range -/
theorem h_sort1 (l : Launch) (hl0 : l.stackTraces = false) (D : va_G) (q : Nat → Nat) (qo : Nat) (cI cL : ClassId) (tyr : List (ClassId × FieldType)) (wr : va_W) (sz n : Nat) (f g sf sg r : Nat → Int32) (fo : Nat → Int64) (o a b : Int32) (hbad : (o < 0 ∨ 3 < o) ∨ (b < 0 ∨ nI n < b) ∨ a < 0 ∨ b < a) : xr_HM l yL_sort (wH yL_sort cL_sort 6 (some .int) [(0, 12, 15, 13)]) [.ref (q 0), .int o, .int a, .int b, .ref qo] D (rs_ty cI ((cL, .long) :: tyr)) (rs_X q cI n f g sf sg r ++ ((qo, .inl (cL, 1, .inr (.inl fo))) :: wr)) sz (fun v w => v = some (.int 1) ∧ w = rs_X q cI n f g sf sg r ++ ((qo, .inl (cL, 1, .inr (.inl (fo)))) :: wr)) := by
  refine xr_hstart (by decide) (Nat.le_of_ble_eq_true rfl) ?_
  intro p e s m args below meth c A ls C0 hlk hr htab hP hK hD hA hZ hl
  have hx := C0.1
  have hb := C0.2.1
  have hS : va_S A s.heap s.heap [] := va_S.rf
  have hl : lv_has ls 6 [(0, .ref (q 0)), (1, .int o), (2, .int a), (3, .int b), (4, .ref qo)] := hl
  refine lv_aload hx hb dL_sort_0 (lv_at hl 4 rfl) ?_
  refine lv_iconst (v := 0) hx hb dL_sort_2 (by decide) ?_
  refine lv_aload_n hx hb dL_sort_3 rfl (lv_at hl 0 rfl) ?_
  refine lv_iload_n hx hb dL_sort_4 rfl (lv_at hl 1 rfl) ?_
  refine lv_iload_n hx hb dL_sort_5 rfl (lv_at hl 2 rfl) ?_
  refine lv_iload_n hx hb dL_sort_6 rfl (lv_at hl 3 rfl) ?_
  refine xr_hthrow (As := [.int o, .int a, .int b]) (rest := [.int 0, .ref qo]) (nA := 3) C0 (t_sort l hl0 D q cI ((cL, .long) :: tyr) ((qo, .inl (cL, 1, .inr (.inl (fo)))) :: wr) n f g sf sg r o a b hbad) (gV wM_L_X0_sort wI_X0_sort wV_X0_X0_sort wN_X0 wC_X0_sort) (by decide +kernel) rfl rfl rfl ⟨by decide, by decide⟩ hK hP hZ.1 0 rfl rfl hl.1 rfl (Nat.le_of_ble_eq_true rfl) dL_sort_7 ⟨by decide, by decide⟩ (fun qx H ce hz hk hc hv hcl => ?_)
  refine vx_catch C0.2.2.2.1 [] ⟨0, 12, 15, 13⟩ [] htab (fun z hz => absurd hz List.not_mem_nil) (by decide) (by decide) (C0.2.2.2.2 _ wK_L_IllegalArgumentException) (va_Nw.use rfl hZ.1.2.2.2.2.2.1) hc hv hcl ?_
  have hP : va_P D vwCl (rs_X q cI (n) (f) (g) (sf) (sg) (r) ++ ((qo, .inl (cL, 1, .inr (.inl (fo)))) :: wr)) H := hP.kept (fun k x hx => hk x.1 ((hP k x hx).lt))
  have hS : va_S A s.heap H [] := ⟨hz, fun q h1 _ => hk q h1, fun q hq => by cases hq⟩
  refine lv_astore hx hb dL_sort_15 hl (by decide) rfl (fun ls hl => ?_)
  have hl : lv_has ls 6 [(5, .ref qx), (0, .ref (q 0)), (1, .int o), (2, .int a), (3, .int b), (4, .ref qo)] := hl
  refine lv_iconst (v := 1) hx hb dL_sort_17 (by decide) ?_
  exact xr_iret C0 hlk hr (⟨rfl, rfl⟩) hP hD hS dL_sort_18
set_option maxHeartbeats 4000000 in
set_option maxRecDepth 100000 in
/-- get returns -/
theorem h_get0 (l : Launch) (hl0 : l.stackTraces = false) (D : va_G) (q : Nat → Nat) (qo : Nat) (cI cL : ClassId) (tyr : List (ClassId × FieldType)) (wr : va_W) (sz n : Nat) (f g sf sg r : Nat → Int32) (fo : Nat → Int64) (i : Nat) (hi : i < n) (hn : n ≤ 2000) : xr_HM l yL_get (wH yL_get cL_get 4 (some .int) [(0, 9, 12, 15)]) [.ref (q 0), .int (nI i), .ref qo] D (rs_ty cI ((cL, .long) :: tyr)) (rs_X q cI n f g sf sg r ++ ((qo, .inl (cL, 1, .inr (.inl fo))) :: wr)) sz (fun v w => v = some (.int 0) ∧ w = rs_X q cI (n) (f) (g) (sf) (sg) (r) ++ ((qo, .inl (cL, 1, .inr (.inl (vp_updL fo 0 (f i).toInt64)))) :: wr)) := by
  refine xr_hstart (by decide) (Nat.le_of_ble_eq_true rfl) ?_
  intro p e s m args below meth c A ls C0 hlk hr htab hP hK hD hA hZ hl
  have hx := C0.1
  have hb := C0.2.1
  have hS : va_S A s.heap s.heap [] := va_S.rf
  have hl : lv_has ls 4 [(0, .ref (q 0)), (1, .int (nI i)), (2, .ref qo)] := hl
  refine lv_aload_n hx hb dL_get_0 rfl (lv_at hl 2 rfl) ?_
  refine lv_iconst (v := 0) hx hb dL_get_1 (by decide) ?_
  refine lv_aload_n hx hb dL_get_2 rfl (lv_at hl 0 rfl) ?_
  refine lv_iload_n hx hb dL_get_3 rfl (lv_at hl 1 rfl) ?_
  refine xr_vcall (As := [.int (nI i)]) (rest := [.int 0, .ref qo]) (nA := 1) C0 (c_get l D q cI ((cL, .long) :: tyr) ((qo, .inl (cL, 1, .inr (.inl (fo)))) :: wr) _ n f g sf sg r i hi hn) (gV wM_L_X0_get wI_X0_get wV_X0_X0_get wN_X0 wC_X0_get) (by decide +kernel) rfl rfl rfl ⟨by decide, by decide⟩ hK hP hD hS hA 0 rfl rfl hl.1 rfl (Nat.le_of_ble_eq_true rfl) dL_get_4 ⟨Nat.le_of_ble_eq_true rfl, Nat.le_of_ble_eq_true rfl⟩ (fun v w H locs hv hP hD hz hS => ?_)
  obtain ⟨rfl, rfl⟩ := hv
  refine lv_i2l hx hb dL_get_7 rfl ?_
  refine xr_last0 C0 hK hP hD hS 6 rfl dL_get_8 (fun H locs hP hD hS => ?_)
  have hP : va_P D vwCl (rs_X q cI (n) (f) (g) (sf) (sg) (r) ++ ((qo, .inl (cL, 1, .inr (.inl (vp_updL fo 0 (f i).toInt64)))) :: wr)) H := hP
  have hD : va_D A (rs_X q cI (n) (f) (g) (sf) (sg) (r) ++ ((qo, .inl (cL, 1, .inr (.inl (vp_updL fo 0 (f i).toInt64)))) :: wr)) := hD
  refine lv_goto hx hb dL_get_9 rfl ?_
  refine lv_iconst (v := 0) hx hb dL_get_15 (by decide) ?_
  refine W.widen (k := 1) (n := 6) (by decide) (by decide) ?_
  exact xr_iret C0 hlk hr (⟨rfl, rfl⟩) hP hD hS dL_get_16
set_option maxHeartbeats 4000000 in
set_option maxRecDepth 100000 in
/-- get: no such index -/
theorem h_get1 (l : Launch) (hl0 : l.stackTraces = false) (D : va_G) (q : Nat → Nat) (qo : Nat) (cI cL : ClassId) (tyr : List (ClassId × FieldType)) (wr : va_W) (sz n : Nat) (f g sf sg r : Nat → Int32) (fo : Nat → Int64) (i : Int32) (hbad : i < 0 ∨ nI n ≤ i) : xr_HM l yL_get (wH yL_get cL_get 4 (some .int) [(0, 9, 12, 15)]) [.ref (q 0), .int i, .ref qo] D (rs_ty cI ((cL, .long) :: tyr)) (rs_X q cI n f g sf sg r ++ ((qo, .inl (cL, 1, .inr (.inl fo))) :: wr)) sz (fun v w => v = some (.int 1) ∧ w = rs_X q cI n f g sf sg r ++ ((qo, .inl (cL, 1, .inr (.inl (fo)))) :: wr)) := by
  refine xr_hstart (by decide) (Nat.le_of_ble_eq_true rfl) ?_
  intro p e s m args below meth c A ls C0 hlk hr htab hP hK hD hA hZ hl
  have hx := C0.1
  have hb := C0.2.1
  have hS : va_S A s.heap s.heap [] := va_S.rf
  have hl : lv_has ls 4 [(0, .ref (q 0)), (1, .int i), (2, .ref qo)] := hl
  refine lv_aload_n hx hb dL_get_0 rfl (lv_at hl 2 rfl) ?_
  refine lv_iconst (v := 0) hx hb dL_get_1 (by decide) ?_
  refine lv_aload_n hx hb dL_get_2 rfl (lv_at hl 0 rfl) ?_
  refine lv_iload_n hx hb dL_get_3 rfl (lv_at hl 1 rfl) ?_
  refine xr_hthrow (As := [.int i]) (rest := [.int 0, .ref qo]) (nA := 1) C0 (t_get l hl0 D q cI ((cL, .long) :: tyr) ((qo, .inl (cL, 1, .inr (.inl (fo)))) :: wr) n f g sf sg r i hbad) (gV wM_L_X0_get wI_X0_get wV_X0_X0_get wN_X0 wC_X0_get) (by decide +kernel) rfl rfl rfl ⟨by decide, by decide⟩ hK hP hZ.1 0 rfl rfl hl.1 rfl (Nat.le_of_ble_eq_true rfl) dL_get_4 ⟨by decide, by decide⟩ (fun qx H ce hz hk hc hv hcl => ?_)
  refine vx_catch C0.2.2.2.1 [] ⟨0, 9, 12, 15⟩ [] htab (fun z hz => absurd hz List.not_mem_nil) (by decide) (by decide) (C0.2.2.2.2 _ wK_L_IndexOutOfBoundsException) (va_Nw.use rfl hZ.1.2.2.2.2.2.2.1) hc hv hcl ?_
  have hP : va_P D vwCl (rs_X q cI (n) (f) (g) (sf) (sg) (r) ++ ((qo, .inl (cL, 1, .inr (.inl (fo)))) :: wr)) H := hP.kept (fun k x hx => hk x.1 ((hP k x hx).lt))
  have hS : va_S A s.heap H [] := ⟨hz, fun q h1 _ => hk q h1, fun q hq => by cases hq⟩
  refine lv_astore_n hx hb dL_get_12 rfl hl (by decide) rfl (fun ls hl => ?_)
  have hl : lv_has ls 4 [(3, .ref qx), (0, .ref (q 0)), (1, .int i), (2, .ref qo)] := hl
  refine lv_iconst (v := 1) hx hb dL_get_13 (by decide) ?_
  exact xr_iret C0 hlk hr (⟨rfl, rfl⟩) hP hD hS dL_get_14
set_option maxHeartbeats 4000000 in
set_option maxRecDepth 100000 in
/-- tag returns -/
theorem h_tag0 (l : Launch) (hl0 : l.stackTraces = false) (D : va_G) (q : Nat → Nat) (qo : Nat) (cI cL : ClassId) (tyr : List (ClassId × FieldType)) (wr : va_W) (sz n : Nat) (f g sf sg r : Nat → Int32) (fo : Nat → Int64) (i : Nat) (hi : i < n) (hn : n ≤ 2000) : xr_HM l yL_tag (wH yL_tag cL_tag 4 (some .int) [(0, 9, 12, 15)]) [.ref (q 0), .int (nI i), .ref qo] D (rs_ty cI ((cL, .long) :: tyr)) (rs_X q cI n f g sf sg r ++ ((qo, .inl (cL, 1, .inr (.inl fo))) :: wr)) sz (fun v w => v = some (.int 0) ∧ w = rs_X q cI (n) (f) (g) (sf) (sg) (r) ++ ((qo, .inl (cL, 1, .inr (.inl (vp_updL fo 0 (g i).toInt64)))) :: wr)) := by
  refine xr_hstart (by decide) (Nat.le_of_ble_eq_true rfl) ?_
  intro p e s m args below meth c A ls C0 hlk hr htab hP hK hD hA hZ hl
  have hx := C0.1
  have hb := C0.2.1
  have hS : va_S A s.heap s.heap [] := va_S.rf
  have hl : lv_has ls 4 [(0, .ref (q 0)), (1, .int (nI i)), (2, .ref qo)] := hl
  refine lv_aload_n hx hb dL_tag_0 rfl (lv_at hl 2 rfl) ?_
  refine lv_iconst (v := 0) hx hb dL_tag_1 (by decide) ?_
  refine lv_aload_n hx hb dL_tag_2 rfl (lv_at hl 0 rfl) ?_
  refine lv_iload_n hx hb dL_tag_3 rfl (lv_at hl 1 rfl) ?_
  refine xr_vcall (As := [.int (nI i)]) (rest := [.int 0, .ref qo]) (nA := 1) C0 (c_tag l D q cI ((cL, .long) :: tyr) ((qo, .inl (cL, 1, .inr (.inl (fo)))) :: wr) _ n f g sf sg r i hi hn) (gV wM_L_X0_tag wI_X0_tag wV_X0_X0_tag wN_X0 wC_X0_tag) (by decide +kernel) rfl rfl rfl ⟨by decide, by decide⟩ hK hP hD hS hA 0 rfl rfl hl.1 rfl (Nat.le_of_ble_eq_true rfl) dL_tag_4 ⟨Nat.le_of_ble_eq_true rfl, Nat.le_of_ble_eq_true rfl⟩ (fun v w H locs hv hP hD hz hS => ?_)
  obtain ⟨rfl, rfl⟩ := hv
  refine lv_i2l hx hb dL_tag_7 rfl ?_
  refine xr_last0 C0 hK hP hD hS 6 rfl dL_tag_8 (fun H locs hP hD hS => ?_)
  have hP : va_P D vwCl (rs_X q cI (n) (f) (g) (sf) (sg) (r) ++ ((qo, .inl (cL, 1, .inr (.inl (vp_updL fo 0 (g i).toInt64)))) :: wr)) H := hP
  have hD : va_D A (rs_X q cI (n) (f) (g) (sf) (sg) (r) ++ ((qo, .inl (cL, 1, .inr (.inl (vp_updL fo 0 (g i).toInt64)))) :: wr)) := hD
  refine lv_goto hx hb dL_tag_9 rfl ?_
  refine lv_iconst (v := 0) hx hb dL_tag_15 (by decide) ?_
  refine W.widen (k := 1) (n := 6) (by decide) (by decide) ?_
  exact xr_iret C0 hlk hr (⟨rfl, rfl⟩) hP hD hS dL_tag_16
set_option maxHeartbeats 4000000 in
set_option maxRecDepth 100000 in
/-- tag: no such index -/
theorem h_tag1 (l : Launch) (hl0 : l.stackTraces = false) (D : va_G) (q : Nat → Nat) (qo : Nat) (cI cL : ClassId) (tyr : List (ClassId × FieldType)) (wr : va_W) (sz n : Nat) (f g sf sg r : Nat → Int32) (fo : Nat → Int64) (i : Int32) (hbad : i < 0 ∨ nI n ≤ i) : xr_HM l yL_tag (wH yL_tag cL_tag 4 (some .int) [(0, 9, 12, 15)]) [.ref (q 0), .int i, .ref qo] D (rs_ty cI ((cL, .long) :: tyr)) (rs_X q cI n f g sf sg r ++ ((qo, .inl (cL, 1, .inr (.inl fo))) :: wr)) sz (fun v w => v = some (.int 1) ∧ w = rs_X q cI n f g sf sg r ++ ((qo, .inl (cL, 1, .inr (.inl (fo)))) :: wr)) := by
  refine xr_hstart (by decide) (Nat.le_of_ble_eq_true rfl) ?_
  intro p e s m args below meth c A ls C0 hlk hr htab hP hK hD hA hZ hl
  have hx := C0.1
  have hb := C0.2.1
  have hS : va_S A s.heap s.heap [] := va_S.rf
  have hl : lv_has ls 4 [(0, .ref (q 0)), (1, .int i), (2, .ref qo)] := hl
  refine lv_aload_n hx hb dL_tag_0 rfl (lv_at hl 2 rfl) ?_
  refine lv_iconst (v := 0) hx hb dL_tag_1 (by decide) ?_
  refine lv_aload_n hx hb dL_tag_2 rfl (lv_at hl 0 rfl) ?_
  refine lv_iload_n hx hb dL_tag_3 rfl (lv_at hl 1 rfl) ?_
  refine xr_hthrow (As := [.int i]) (rest := [.int 0, .ref qo]) (nA := 1) C0 (t_tag l hl0 D q cI ((cL, .long) :: tyr) ((qo, .inl (cL, 1, .inr (.inl (fo)))) :: wr) n f g sf sg r i hbad) (gV wM_L_X0_tag wI_X0_tag wV_X0_X0_tag wN_X0 wC_X0_tag) (by decide +kernel) rfl rfl rfl ⟨by decide, by decide⟩ hK hP hZ.1 0 rfl rfl hl.1 rfl (Nat.le_of_ble_eq_true rfl) dL_tag_4 ⟨by decide, by decide⟩ (fun qx H ce hz hk hc hv hcl => ?_)
  refine vx_catch C0.2.2.2.1 [] ⟨0, 9, 12, 15⟩ [] htab (fun z hz => absurd hz List.not_mem_nil) (by decide) (by decide) (C0.2.2.2.2 _ wK_L_IndexOutOfBoundsException) (va_Nw.use rfl hZ.1.2.2.2.2.2.2.1) hc hv hcl ?_
  have hP : va_P D vwCl (rs_X q cI (n) (f) (g) (sf) (sg) (r) ++ ((qo, .inl (cL, 1, .inr (.inl (fo)))) :: wr)) H := hP.kept (fun k x hx => hk x.1 ((hP k x hx).lt))
  have hS : va_S A s.heap H [] := ⟨hz, fun q h1 _ => hk q h1, fun q hq => by cases hq⟩
  refine lv_astore_n hx hb dL_tag_12 rfl hl (by decide) rfl (fun ls hl => ?_)
  have hl : lv_has ls 4 [(3, .ref qx), (0, .ref (q 0)), (1, .int i), (2, .ref qo)] := hl
  refine lv_iconst (v := 1) hx hb dL_tag_13 (by decide) ?_
  exact xr_iret C0 hlk hr (⟨rfl, rfl⟩) hP hD hS dL_tag_14
set_option maxHeartbeats 4000000 in
set_option maxRecDepth 100000 in
/-- set returns -/
theorem h_set0 (l : Launch) (hl0 : l.stackTraces = false) (D : va_G) (q : Nat → Nat) (qo : Nat) (cI cL : ClassId) (tyr : List (ClassId × FieldType)) (wr : va_W) (sz n : Nat) (f g sf sg r : Nat → Int32) (fo : Nat → Int64) (i : Nat) (x : Int32) (hi : i < n) (hn : n ≤ 2000) : xr_HM l yL_set (wH yL_set cL_set 5 (some .int) [(0, 10, 13, 15)]) [.ref (q 0), .int (nI i), .int x, .ref qo] D (rs_ty cI ((cL, .long) :: tyr)) (rs_X q cI n f g sf sg r ++ ((qo, .inl (cL, 1, .inr (.inl fo))) :: wr)) sz (fun v w => v = some (.int 0) ∧ w = rs_X q cI (n) (upd f i x) (g) (sf) (sg) (r) ++ ((qo, .inl (cL, 1, .inr (.inl (vp_updL fo 0 (f i).toInt64)))) :: wr)) := by
  refine xr_hstart (by decide) (Nat.le_of_ble_eq_true rfl) ?_
  intro p e s m args below meth c A ls C0 hlk hr htab hP hK hD hA hZ hl
  have hx := C0.1
  have hb := C0.2.1
  have hS : va_S A s.heap s.heap [] := va_S.rf
  have hl : lv_has ls 5 [(0, .ref (q 0)), (1, .int (nI i)), (2, .int x), (3, .ref qo)] := hl
  refine lv_aload_n hx hb dL_set_0 rfl (lv_at hl 3 rfl) ?_
  refine lv_iconst (v := 0) hx hb dL_set_1 (by decide) ?_
  refine lv_aload_n hx hb dL_set_2 rfl (lv_at hl 0 rfl) ?_
  refine lv_iload_n hx hb dL_set_3 rfl (lv_at hl 1 rfl) ?_
  refine lv_iload_n hx hb dL_set_4 rfl (lv_at hl 2 rfl) ?_
  refine xr_vcall (As := [.int (nI i), .int x]) (rest := [.int 0, .ref qo]) (nA := 2) C0 (c_set l D q cI ((cL, .long) :: tyr) ((qo, .inl (cL, 1, .inr (.inl (fo)))) :: wr) _ n f g sf sg r i x hi hn) (gV wM_L_X0_set wI_X0_set wV_X0_X0_set wN_X0 wC_X0_set) (by decide +kernel) rfl rfl rfl ⟨by decide, by decide⟩ hK hP hD hS hA 0 rfl rfl hl.1 rfl (Nat.le_of_ble_eq_true rfl) dL_set_5 ⟨Nat.le_of_ble_eq_true rfl, Nat.le_of_ble_eq_true rfl⟩ (fun v w H locs hv hP hD hz hS => ?_)
  obtain ⟨rfl, rfl⟩ := hv
  refine lv_i2l hx hb dL_set_8 rfl ?_
  refine xr_last0 C0 hK hP hD hS 6 rfl dL_set_9 (fun H locs hP hD hS => ?_)
  have hP : va_P D vwCl (rs_X q cI (n) (upd f i x) (g) (sf) (sg) (r) ++ ((qo, .inl (cL, 1, .inr (.inl (vp_updL fo 0 (f i).toInt64)))) :: wr)) H := hP
  have hD : va_D A (rs_X q cI (n) (upd f i x) (g) (sf) (sg) (r) ++ ((qo, .inl (cL, 1, .inr (.inl (vp_updL fo 0 (f i).toInt64)))) :: wr)) := hD
  refine lv_goto hx hb dL_set_10 rfl ?_
  refine lv_iconst (v := 0) hx hb dL_set_17 (by decide) ?_
  refine W.widen (k := 1) (n := 6) (by decide) (by decide) ?_
  exact xr_iret C0 hlk hr (⟨rfl, rfl⟩) hP hD hS dL_set_18
set_option maxHeartbeats 4000000 in
set_option maxRecDepth 100000 in
/-- set: no such index -/
theorem h_set1 (l : Launch) (hl0 : l.stackTraces = false) (D : va_G) (q : Nat → Nat) (qo : Nat) (cI cL : ClassId) (tyr : List (ClassId × FieldType)) (wr : va_W) (sz n : Nat) (f g sf sg r : Nat → Int32) (fo : Nat → Int64) (i x : Int32) (hbad : i < 0 ∨ nI n ≤ i) : xr_HM l yL_set (wH yL_set cL_set 5 (some .int) [(0, 10, 13, 15)]) [.ref (q 0), .int i, .int x, .ref qo] D (rs_ty cI ((cL, .long) :: tyr)) (rs_X q cI n f g sf sg r ++ ((qo, .inl (cL, 1, .inr (.inl fo))) :: wr)) sz (fun v w => v = some (.int 1) ∧ w = rs_X q cI n f g sf sg r ++ ((qo, .inl (cL, 1, .inr (.inl (fo)))) :: wr)) := by
  refine xr_hstart (by decide) (Nat.le_of_ble_eq_true rfl) ?_
  intro p e s m args below meth c A ls C0 hlk hr htab hP hK hD hA hZ hl
  have hx := C0.1
  have hb := C0.2.1
  have hS : va_S A s.heap s.heap [] := va_S.rf
  have hl : lv_has ls 5 [(0, .ref (q 0)), (1, .int i), (2, .int x), (3, .ref qo)] := hl
  refine lv_aload_n hx hb dL_set_0 rfl (lv_at hl 3 rfl) ?_
  refine lv_iconst (v := 0) hx hb dL_set_1 (by decide) ?_
  refine lv_aload_n hx hb dL_set_2 rfl (lv_at hl 0 rfl) ?_
  refine lv_iload_n hx hb dL_set_3 rfl (lv_at hl 1 rfl) ?_
  refine lv_iload_n hx hb dL_set_4 rfl (lv_at hl 2 rfl) ?_
  refine xr_hthrow (As := [.int i, .int x]) (rest := [.int 0, .ref qo]) (nA := 2) C0 (tx_set l hl0 D q cI ((cL, .long) :: tyr) ((qo, .inl (cL, 1, .inr (.inl (fo)))) :: wr) n f g sf sg r i x hbad) (gV wM_L_X0_set wI_X0_set wV_X0_X0_set wN_X0 wC_X0_set) (by decide +kernel) rfl rfl rfl ⟨by decide, by decide⟩ hK hP hZ.1 0 rfl rfl hl.1 rfl (Nat.le_of_ble_eq_true rfl) dL_set_5 ⟨by decide, by decide⟩ (fun qx H ce hz hk hc hv hcl => ?_)
  refine vx_catch C0.2.2.2.1 [] ⟨0, 10, 13, 15⟩ [] htab (fun z hz => absurd hz List.not_mem_nil) (by decide) (by decide) (C0.2.2.2.2 _ wK_L_IndexOutOfBoundsException) (va_Nw.use rfl hZ.1.2.2.2.2.2.2.1) hc hv hcl ?_
  have hP : va_P D vwCl (rs_X q cI (n) (f) (g) (sf) (sg) (r) ++ ((qo, .inl (cL, 1, .inr (.inl (fo)))) :: wr)) H := hP.kept (fun k x hx => hk x.1 ((hP k x hx).lt))
  have hS : va_S A s.heap H [] := ⟨hz, fun q h1 _ => hk q h1, fun q hq => by cases hq⟩
  refine lv_astore hx hb dL_set_13 hl (by decide) rfl (fun ls hl => ?_)
  have hl : lv_has ls 5 [(4, .ref qx), (0, .ref (q 0)), (1, .int i), (2, .int x), (3, .ref qo)] := hl
  refine lv_iconst (v := 1) hx hb dL_set_15 (by decide) ?_
  exact xr_iret C0 hlk hr (⟨rfl, rfl⟩) hP hD hS dL_set_16
set_option maxHeartbeats 4000000 in
set_option maxRecDepth 100000 in
/-- turn returns -/
theorem h_turn0 (l : Launch) (hl0 : l.stackTraces = false) (D : va_G) (q : Nat → Nat) (qo : Nat) (cI cL : ClassId) (tyr : List (ClassId × FieldType)) (wr : va_W) (sz n : Nat) (f g sf sg r : Nat → Int32) (fo : Nat → Int64) (a b : Nat) (h1 : a ≤ b) (h2 : b ≤ n) (hn : n ≤ 2000) : xr_HM l yL_turn (wH yL_turn cL_turn 5 (some .int) [(0, 10, 13, 13)]) [.ref (q 0), .int (nI a), .int (nI b), .ref qo] D (rs_ty cI ((cL, .long) :: tyr)) (rs_X q cI n f g sf sg r ++ ((qo, .inl (cL, 1, .inr (.inl fo))) :: wr)) sz (fun v w => v = some (.int 0) ∧ w = rs_X q cI (n) (rs_tn f a b ((b - a) / 2)) (rs_tn g a b ((b - a) / 2)) (sf) (sg) (r) ++ ((qo, .inl (cL, 1, .inr (.inl (vp_updL fo 0 (nI (b - a)).toInt64)))) :: wr)) := by
  refine xr_hstart (by decide) (Nat.le_of_ble_eq_true rfl) ?_
  intro p e s m args below meth c A ls C0 hlk hr htab hP hK hD hA hZ hl
  have hx := C0.1
  have hb := C0.2.1
  have hS : va_S A s.heap s.heap [] := va_S.rf
  have hl : lv_has ls 5 [(0, .ref (q 0)), (1, .int (nI a)), (2, .int (nI b)), (3, .ref qo)] := hl
  refine lv_aload_n hx hb dL_turn_0 rfl (lv_at hl 3 rfl) ?_
  refine lv_iconst (v := 0) hx hb dL_turn_1 (by decide) ?_
  refine lv_aload_n hx hb dL_turn_2 rfl (lv_at hl 0 rfl) ?_
  refine lv_iload_n hx hb dL_turn_3 rfl (lv_at hl 1 rfl) ?_
  refine lv_iload_n hx hb dL_turn_4 rfl (lv_at hl 2 rfl) ?_
  refine xr_vcall (As := [.int (nI a), .int (nI b)]) (rest := [.int 0, .ref qo]) (nA := 2) C0 (c_turn l D q cI ((cL, .long) :: tyr) ((qo, .inl (cL, 1, .inr (.inl (fo)))) :: wr) _ n f g sf sg r a b h1 h2 hn) (gV wM_L_X0_turn wI_X0_turn wV_X0_X0_turn wN_X0 wC_X0_turn) (by decide +kernel) rfl rfl rfl ⟨by decide, by decide⟩ hK hP hD hS hA 0 rfl rfl hl.1 rfl (Nat.le_of_ble_eq_true rfl) dL_turn_5 ⟨Nat.le_of_ble_eq_true rfl, Nat.le_of_ble_eq_true rfl⟩ (fun v w H locs hv hP hD hz hS => ?_)
  obtain ⟨rfl, rfl⟩ := hv
  refine lv_i2l hx hb dL_turn_8 rfl ?_
  refine xr_last0 C0 hK hP hD hS 6 rfl dL_turn_9 (fun H locs hP hD hS => ?_)
  have hP : va_P D vwCl (rs_X q cI (n) (rs_tn f a b ((b - a) / 2)) (rs_tn g a b ((b - a) / 2)) (sf) (sg) (r) ++ ((qo, .inl (cL, 1, .inr (.inl (vp_updL fo 0 (nI (b - a)).toInt64)))) :: wr)) H := hP
  have hD : va_D A (rs_X q cI (n) (rs_tn f a b ((b - a) / 2)) (rs_tn g a b ((b - a) / 2)) (sf) (sg) (r) ++ ((qo, .inl (cL, 1, .inr (.inl (vp_updL fo 0 (nI (b - a)).toInt64)))) :: wr)) := hD
  refine lv_goto hx hb dL_turn_10 rfl ?_
  refine lv_iconst (v := 0) hx hb dL_turn_17 (by decide) ?_
  refine W.widen (k := 1) (n := 6) (by decide) (by decide) ?_
  exact xr_iret C0 hlk hr (⟨rfl, rfl⟩) hP hD hS dL_turn_18
set_option maxHeartbeats 4000000 in
set_option maxRecDepth 100000 in
/-- turn: a number out of range -/
theorem h_turn1 (l : Launch) (hl0 : l.stackTraces = false) (D : va_G) (q : Nat → Nat) (qo : Nat) (cI cL : ClassId) (tyr : List (ClassId × FieldType)) (wr : va_W) (sz n : Nat) (f g sf sg r : Nat → Int32) (fo : Nat → Int64) (a b : Int32) (hbad : (b < 0 ∨ nI n < b) ∨ a < 0 ∨ b < a) : xr_HM l yL_turn (wH yL_turn cL_turn 5 (some .int) [(0, 10, 13, 13)]) [.ref (q 0), .int a, .int b, .ref qo] D (rs_ty cI ((cL, .long) :: tyr)) (rs_X q cI n f g sf sg r ++ ((qo, .inl (cL, 1, .inr (.inl fo))) :: wr)) sz (fun v w => v = some (.int 1) ∧ w = rs_X q cI n f g sf sg r ++ ((qo, .inl (cL, 1, .inr (.inl (fo)))) :: wr)) := by
  refine xr_hstart (by decide) (Nat.le_of_ble_eq_true rfl) ?_
  intro p e s m args below meth c A ls C0 hlk hr htab hP hK hD hA hZ hl
  have hx := C0.1
  have hb := C0.2.1
  have hS : va_S A s.heap s.heap [] := va_S.rf
  have hl : lv_has ls 5 [(0, .ref (q 0)), (1, .int a), (2, .int b), (3, .ref qo)] := hl
  refine lv_aload_n hx hb dL_turn_0 rfl (lv_at hl 3 rfl) ?_
  refine lv_iconst (v := 0) hx hb dL_turn_1 (by decide) ?_
  refine lv_aload_n hx hb dL_turn_2 rfl (lv_at hl 0 rfl) ?_
  refine lv_iload_n hx hb dL_turn_3 rfl (lv_at hl 1 rfl) ?_
  refine lv_iload_n hx hb dL_turn_4 rfl (lv_at hl 2 rfl) ?_
  refine xr_hthrow (As := [.int a, .int b]) (rest := [.int 0, .ref qo]) (nA := 2) C0 (t_turn l hl0 D q cI ((cL, .long) :: tyr) ((qo, .inl (cL, 1, .inr (.inl (fo)))) :: wr) n f g sf sg r a b hbad) (gV wM_L_X0_turn wI_X0_turn wV_X0_X0_turn wN_X0 wC_X0_turn) (by decide +kernel) rfl rfl rfl ⟨by decide, by decide⟩ hK hP hZ.1 0 rfl rfl hl.1 rfl (Nat.le_of_ble_eq_true rfl) dL_turn_5 ⟨by decide, by decide⟩ (fun qx H ce hz hk hc hv hcl => ?_)
  refine vx_catch C0.2.2.2.1 [] ⟨0, 10, 13, 13⟩ [] htab (fun z hz => absurd hz List.not_mem_nil) (by decide) (by decide) (C0.2.2.2.2 _ wK_L_IllegalArgumentException) (va_Nw.use rfl hZ.1.2.2.2.2.2.1) hc hv hcl ?_
  have hP : va_P D vwCl (rs_X q cI (n) (f) (g) (sf) (sg) (r) ++ ((qo, .inl (cL, 1, .inr (.inl (fo)))) :: wr)) H := hP.kept (fun k x hx => hk x.1 ((hP k x hx).lt))
  have hS : va_S A s.heap H [] := ⟨hz, fun q h1 _ => hk q h1, fun q hq => by cases hq⟩
  refine lv_astore hx hb dL_turn_13 hl (by decide) rfl (fun ls hl => ?_)
  have hl : lv_has ls 5 [(4, .ref qx), (0, .ref (q 0)), (1, .int a), (2, .int b), (3, .ref qo)] := hl
  refine lv_iconst (v := 1) hx hb dL_turn_15 (by decide) ?_
  exact xr_iret C0 hlk hr (⟨rfl, rfl⟩) hP hD hS dL_turn_16
set_option maxHeartbeats 4000000 in
set_option maxRecDepth 100000 in
/-- upTo returns -/
theorem h_upTo0 (l : Launch) (hl0 : l.stackTraces = false) (D : va_G) (q : Nat → Nat) (qo : Nat) (cI cL : ClassId) (tyr : List (ClassId × FieldType)) (wr : va_W) (sz n : Nat) (f g sf sg r : Nat → Int32) (fo : Nat → Int64) (o x b : Int32) (h1 : ¬ o < 0) (h2 : o ≤ 3) (hn : n ≤ 2000) : xr_HM l yL_upTo (wH yL_upTo cL_upTo 6 (some .int) [(0, 12, 15, 13)]) [.ref (q 0), .int o, .int x, .int b, .ref qo] D (rs_ty cI ((cL, .long) :: tyr)) (rs_X q cI n f g sf sg r ++ ((qo, .inl (cL, 1, .inr (.inl fo))) :: wr)) sz (fun v w => ∃ t, v = some (.int 0) ∧ w = rs_X q cI (n) (f) (g) (sf) (sg) (r) ++ ((qo, .inl (cL, 1, .inr (.inl (vp_updL fo 0 (nI t).toInt64)))) :: wr) ∧ rs_uT o x b f n t) := by
  refine xr_hstart (by decide) (Nat.le_of_ble_eq_true rfl) ?_
  intro p e s m args below meth c A ls C0 hlk hr htab hP hK hD hA hZ hl
  have hx := C0.1
  have hb := C0.2.1
  have hS : va_S A s.heap s.heap [] := va_S.rf
  have hl : lv_has ls 6 [(0, .ref (q 0)), (1, .int o), (2, .int x), (3, .int b), (4, .ref qo)] := hl
  refine lv_aload hx hb dL_upTo_0 (lv_at hl 4 rfl) ?_
  refine lv_iconst (v := 0) hx hb dL_upTo_2 (by decide) ?_
  refine lv_aload_n hx hb dL_upTo_3 rfl (lv_at hl 0 rfl) ?_
  refine lv_iload_n hx hb dL_upTo_4 rfl (lv_at hl 1 rfl) ?_
  refine lv_iload_n hx hb dL_upTo_5 rfl (lv_at hl 2 rfl) ?_
  refine lv_iload_n hx hb dL_upTo_6 rfl (lv_at hl 3 rfl) ?_
  refine xr_vcall (As := [.int o, .int x, .int b]) (rest := [.int 0, .ref qo]) (nA := 3) C0 (c_upTo l D q cI ((cL, .long) :: tyr) ((qo, .inl (cL, 1, .inr (.inl (fo)))) :: wr) _ n f g sf sg r o x b h1 h2 hn) (gV wM_L_X0_upTo wI_X0_upTo wV_X0_X0_upTo wN_X0 wC_X0_upTo) (by decide +kernel) rfl rfl rfl ⟨by decide, by decide⟩ hK hP hD hS hA 0 rfl rfl hl.1 rfl (Nat.le_of_ble_eq_true rfl) dL_upTo_7 ⟨Nat.le_of_ble_eq_true rfl, Nat.le_of_ble_eq_true rfl⟩ (fun v w H locs hv hP hD hz hS => ?_)
  obtain ⟨⟨t, rfl, hT⟩, rfl⟩ := hv
  refine lv_i2l hx hb dL_upTo_10 rfl ?_
  refine xr_last0 C0 hK hP hD hS 6 rfl dL_upTo_11 (fun H locs hP hD hS => ?_)
  have hP : va_P D vwCl (rs_X q cI (n) (f) (g) (sf) (sg) (r) ++ ((qo, .inl (cL, 1, .inr (.inl (vp_updL fo 0 (nI t).toInt64)))) :: wr)) H := hP
  have hD : va_D A (rs_X q cI (n) (f) (g) (sf) (sg) (r) ++ ((qo, .inl (cL, 1, .inr (.inl (vp_updL fo 0 (nI t).toInt64)))) :: wr)) := hD
  refine lv_goto hx hb dL_upTo_12 rfl ?_
  refine lv_iconst (v := 0) hx hb dL_upTo_19 (by decide) ?_
  refine W.widen (k := 1) (n := 6) (by decide) (by decide) ?_
  exact xr_iret C0 hlk hr (⟨t, rfl, rfl, hT⟩) hP hD hS dL_upTo_20
set_option maxHeartbeats 4000000 in
set_option maxRecDepth 100000 in
/-- upTo: no such order -/
theorem h_upTo1 (l : Launch) (hl0 : l.stackTraces = false) (D : va_G) (q : Nat → Nat) (qo : Nat) (cI cL : ClassId) (tyr : List (ClassId × FieldType)) (wr : va_W) (sz n : Nat) (f g sf sg r : Nat → Int32) (fo : Nat → Int64) (o x b : Int32) (hbad : o < 0 ∨ 3 < o) : xr_HM l yL_upTo (wH yL_upTo cL_upTo 6 (some .int) [(0, 12, 15, 13)]) [.ref (q 0), .int o, .int x, .int b, .ref qo] D (rs_ty cI ((cL, .long) :: tyr)) (rs_X q cI n f g sf sg r ++ ((qo, .inl (cL, 1, .inr (.inl fo))) :: wr)) sz (fun v w => v = some (.int 1) ∧ w = rs_X q cI n f g sf sg r ++ ((qo, .inl (cL, 1, .inr (.inl (fo)))) :: wr)) := by
  refine xr_hstart (by decide) (Nat.le_of_ble_eq_true rfl) ?_
  intro p e s m args below meth c A ls C0 hlk hr htab hP hK hD hA hZ hl
  have hx := C0.1
  have hb := C0.2.1
  have hS : va_S A s.heap s.heap [] := va_S.rf
  have hl : lv_has ls 6 [(0, .ref (q 0)), (1, .int o), (2, .int x), (3, .int b), (4, .ref qo)] := hl
  refine lv_aload hx hb dL_upTo_0 (lv_at hl 4 rfl) ?_
  refine lv_iconst (v := 0) hx hb dL_upTo_2 (by decide) ?_
  refine lv_aload_n hx hb dL_upTo_3 rfl (lv_at hl 0 rfl) ?_
  refine lv_iload_n hx hb dL_upTo_4 rfl (lv_at hl 1 rfl) ?_
  refine lv_iload_n hx hb dL_upTo_5 rfl (lv_at hl 2 rfl) ?_
  refine lv_iload_n hx hb dL_upTo_6 rfl (lv_at hl 3 rfl) ?_
  refine xr_hthrow (As := [.int o, .int x, .int b]) (rest := [.int 0, .ref qo]) (nA := 3) C0 (t_upTo l hl0 D q cI ((cL, .long) :: tyr) ((qo, .inl (cL, 1, .inr (.inl (fo)))) :: wr) n f g sf sg r o x b hbad) (gV wM_L_X0_upTo wI_X0_upTo wV_X0_X0_upTo wN_X0 wC_X0_upTo) (by decide +kernel) rfl rfl rfl ⟨by decide, by decide⟩ hK hP hZ.1 0 rfl rfl hl.1 rfl (Nat.le_of_ble_eq_true rfl) dL_upTo_7 ⟨by decide, by decide⟩ (fun qx H ce hz hk hc hv hcl => ?_)
  refine vx_catch C0.2.2.2.1 [] ⟨0, 12, 15, 13⟩ [] htab (fun z hz => absurd hz List.not_mem_nil) (by decide) (by decide) (C0.2.2.2.2 _ wK_L_IllegalArgumentException) (va_Nw.use rfl hZ.1.2.2.2.2.2.1) hc hv hcl ?_
  have hP : va_P D vwCl (rs_X q cI (n) (f) (g) (sf) (sg) (r) ++ ((qo, .inl (cL, 1, .inr (.inl (fo)))) :: wr)) H := hP.kept (fun k x hx => hk x.1 ((hP k x hx).lt))
  have hS : va_S A s.heap H [] := ⟨hz, fun q h1 _ => hk q h1, fun q hq => by cases hq⟩
  refine lv_astore hx hb dL_upTo_15 hl (by decide) rfl (fun ls hl => ?_)
  have hl : lv_has ls 6 [(5, .ref qx), (0, .ref (q 0)), (1, .int o), (2, .int x), (3, .int b), (4, .ref qo)] := hl
  refine lv_iconst (v := 1) hx hb dL_upTo_17 (by decide) ?_
  exact xr_iret C0 hlk hr (⟨rfl, rfl⟩) hP hD hS dL_upTo_18
