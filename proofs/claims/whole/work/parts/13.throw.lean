/-! The class, where it throws (rows laid by wip/whole/p13.py; they stand on the printed vx_ rows). -/
abbrev eI : String := "java/lang/IllegalArgumentException"
abbrev eO : String := "java/lang/IndexOutOfBoundsException"
abbrev eN : List String := ["java/lang/RuntimeException", "java/lang/Exception"]
abbrev yRT : MethodName := ⟨"java/lang/RuntimeException", "<init>", "(Ljava/lang/String;)V"⟩
abbrev yEX : MethodName := ⟨"java/lang/Exception", "<init>", "(Ljava/lang/String;)V"⟩
abbrev yTH : MethodName := ⟨"java/lang/Throwable", "<init>", "(Ljava/lang/String;)V"⟩
/-- what a throw needs beside the tables' words: Throwable's two statics, the class's three texts, five words of the tables that no callee's list may hold -/
def xr_Z (U : State) : Prop := vx_Zq Bundle.tN "UNASSIGNED_STACK" Bundle.steD (fun _ => False) U U.heap ∧ vx_Zq Bundle.tN "SUPPRESSED_SENTINEL" Bundle.listD (fun _ => False) U U.heap ∧ (∃ a, vk_R RX0 68 "a number is out of range" a U) ∧ (∃ a, vk_R RX0 75 "the row would be too long" a U) ∧ (∃ a, vk_R RX0 78 "there is no number at that index" a U) ∧ va_Nw (.castable eI eI) U ∧ va_Nw (.castable eO eO) U ∧ va_Nw (.declares yRT) U ∧ va_Nw (.declares yEX) U ∧ va_Nw (.declares yTH) U
theorem xr_Z.to {s U : State} (h : xr_Z s) (hU : U.heap = s.heap) (hW : s.WarmedH U.vm) : xr_Z U := by
  obtain ⟨h1, h2, ⟨a3, h3⟩, ⟨a4, h4⟩, ⟨a5, h5⟩, h6, h7, h8, h9, h10⟩ := h
  refine ⟨?_, ?_, ⟨a3, h3.warm hW⟩, ⟨a4, h4.warm hW⟩, ⟨a5, h5.warm hW⟩, va_Nw.warmC hW h6, va_Nw.warmC hW h7, va_Nw.warmD hW h8, va_Nw.warmD hW h9, va_Nw.warmD hW h10⟩
  · rw [hU]; exact vx_Zq.moved hW.alike h1
  · rw [hU]; exact vx_Zq.moved hW.alike h2
def xr_no : Array Value → State → Outcome → State → Prop := fun _ _ _ _ => False
/-- an E was thrown, and nothing that stood before has changed -/
def xr_X (E : String) : String → State → State → Prop := fun E1 st t => E1 = E ∧ st.heap.size ≤ t.heap.size ∧ ∀ q : Nat, q < st.heap.size → t.heap[q]? = st.heap[q]?
def xr_TPc (av : List Value) (D : va_G) (tys : List (ClassId × FieldType)) (ws : va_W) : Array Value → State → Prop := va_Pc av (fun U => va_P D vwCl ws U.heap ∧ va_K D vwCl tys U ∧ xr_Z U)
/-- a method throws an E -/
abbrev xr_TM (l : Launch) (y : MethodName) (wsy : List Cond) (rm : Room) (av : List Value) (D : va_G) (tys : List (ClassId × FieldType)) (ws : va_W) (E : String) : Prop := vx_Met l y wsy rm (xr_TPc av D tys ws) xr_no (xr_X E) 1 6 (fun _ => False)
/-- a method returns, and does nothing to the heap -/
abbrev xr_PM (l : Launch) (y : MethodName) (wsy : List Cond) (rm : Room) (av : List Value) : Prop := Met l y wsy rm (va_Pc av (fun _ => True)) (fun _ st o t => o = .returned none ∧ t.heap = st.heap) 0 0 (fun _ => False)
theorem xr_Tblind {av : List Value} {D : va_G} {tys : List (ClassId × FieldType)} {ws : va_W} : FrameBlind (xr_TPc av D tys ws) := fun a U g mk q => by
  obtain ⟨q0, qP, qK, qZ⟩ := q
  exact ⟨q0, qP, va_K.moved (u := U) (U := U.calling g mk a) (Vm.Alike.refl U.vm) qK, qZ.to (U := U.calling g mk a) rfl (State.WarmedH.refl U)⟩
theorem xr_tstart {l : Launch} {y : MethodName} {cc : ByteArray} {maxL : Nat} {ret : Option FieldType} {rm : Room} {av : List Value} {D : va_G} {tys : List (ClassId × FieldType)} {ws : va_W} {E : String} (hy : plainName y.cls = true) (hlen : (lg_sl av).length ≤ maxL)
    (body : ∀ (p : Program) (e : Env) (s : State) (m : MethodId) (args : Array Value) (below : List Frame) (meth : Method) (c : Code) (ls : Array Slot), CallFix p m c cc maxL s args lw_w y.cls → meth.locks = false → (∀ x ∈ c.exceptionTable.toList, False) → va_P D vwCl ws s.heap → va_K D vwCl tys s → xr_Z s → lv_has ls maxL (lv_args 0 av) →
      W p l e rm s m args below meth c s.heap [] 0 0 (vx_MQ below xr_no (xr_X E) args s 1 6 (fun _ => False)) (F0 m 0 ls [])) : xr_TM l y (wU y cc maxL ret) rm av D tys ws E := by
  refine vx_ofW (cc := cc) (maxL := maxL) (ret := ret) hy rfl ?_
  intro p e s m args below meth c s₁ B hml hout hv
  obtain ⟨rfl, hP, hK, hZ⟩ := hv
  have hts := atoms_spec (ws := wU y cc maxL ret) B.pre
  have hown : s.vm.findClass y.cls = some m.cls := findClass_of_methodNamed B.named
  have hl := lv_entry av (n := maxL) hlen
  rw [lg_entry_eq]
  exact body p e s m _ below meth c _ ⟨B.exec, B.bytes, hml, hown, fun w hw => hts w (List.mem_cons_of_mem _ hw)⟩ B.notSynchronized hout hP hK hZ hl
theorem xr_pstart {l : Launch} {y : MethodName} {cc : ByteArray} {maxL : Nat} {ret : Option FieldType} {rm : Room} {av : List Value} (hy : plainName y.cls = true) (hlen : (lg_sl av).length ≤ maxL)
    (body : ∀ (p : Program) (e : Env) (s : State) (m : MethodId) (args : Array Value) (below : List Frame) (meth : Method) (c : Code) (ls : Array Slot), CallFix p m c cc maxL s args lw_w y.cls → meth.locks = false → meth.sig.returnType = ret → lv_has ls maxL (lv_args 0 av) →
      W p l e rm s m args below meth c s.heap [] 0 0 (MQ below (fun _ st o t => o = .returned none ∧ t.heap = st.heap) args s 0 0 (fun _ => False)) (F0 m 0 ls [])) : xr_PM l y (wU y cc maxL ret) rm av := by
  refine Met.ofW (cc := cc) (maxL := maxL) (ret := ret) hy rfl ?_
  intro p e s m args below meth c s₁ B hml hv
  obtain ⟨rfl, -⟩ := hv
  have hts := atoms_spec (ws := wU y cc maxL ret) B.pre
  have hown : s.vm.findClass y.cls = some m.cls := findClass_of_methodNamed B.named
  have hl := lv_entry av (n := maxL) hlen
  rw [lg_entry_eq]
  exact body p e s m _ below meth c _ ⟨B.exec, B.bytes, hml, hown, fun w hw => hts w (List.mem_cons_of_mem _ hw)⟩ B.notSynchronized B.returns hl
theorem xr_eIg : ∀ w ∈ (vx_atS RX0 70 eI eN).filter goodWord, w ∈ lw_tbl := by decide +kernel
theorem xr_eIn : ∀ w ∈ (vx_atS RX0 70 eI eN).filter (fun w => !goodWord w), w ∈ [Cond.castable eI eI, Cond.declares yRT, Cond.declares yEX, Cond.declares yTH] := by decide +kernel
theorem xr_eIo : ∀ w ∈ Cond.classLink RX0 66 eI :: Cond.initialized eI :: vx_atS RX0 70 eI eN, vx_ot w = true := by decide +kernel
theorem xr_eOg : ∀ w ∈ (vx_atS RX0 77 eO eN).filter goodWord, w ∈ lw_tbl := by decide +kernel
theorem xr_eOn : ∀ w ∈ (vx_atS RX0 77 eO eN).filter (fun w => !goodWord w), w ∈ [Cond.castable eO eO, Cond.declares yRT, Cond.declares yEX, Cond.declares yTH] := by decide +kernel
theorem xr_eOo : ∀ w ∈ Cond.classLink RX0 73 eO :: Cond.initialized eO :: vx_atS RX0 77 eO eN, vx_ot w = true := by decide +kernel
section XT
variable {p : Program} {l : Launch} {e : Env} {R : Room} {s : State} {m : MethodId} {args : Array Value} {below : List Frame} {meth : Method} {c : Code} {H : Heap} {locs : List Loc} {cells slots : Nat} {Q : State → Prop}
variable {D : va_G} {tys : List (ClassId × FieldType)} {A : Nat → Prop} {ws : va_W} {cc : ByteArray} {nL pc : Nat} {own : String} {ls : Array Slot} {st0 rest : List Value}
theorem xr_atI (C0 : CallFix p m c cc nL s args lw_w own) (hZ : xr_Z s) : ∀ w ∈ vx_atS RX0 70 eI eN, w.before args s = true :=
  vx_hat (fun w hw => C0.2.2.2.2 w (List.mem_filter.mpr ⟨xr_eIg w hw, (List.mem_filter.mp hw).2⟩)) xr_eIn (vx_c (va_Nw.use rfl hZ.2.2.2.2.2.1) (vx_c (va_Nw.use rfl hZ.2.2.2.2.2.2.2.1) (vx_c (va_Nw.use rfl hZ.2.2.2.2.2.2.2.2.1) (vx_c (va_Nw.use rfl hZ.2.2.2.2.2.2.2.2.2) vx_n))))
theorem xr_atO (C0 : CallFix p m c cc nL s args lw_w own) (hZ : xr_Z s) : ∀ w ∈ vx_atS RX0 77 eO eN, w.before args s = true :=
  vx_hat (fun w hw => C0.2.2.2.2 w (List.mem_filter.mpr ⟨xr_eOg w hw, (List.mem_filter.mp hw).2⟩)) xr_eOn (vx_c (va_Nw.use rfl hZ.2.2.2.2.2.2.1) (vx_c (va_Nw.use rfl hZ.2.2.2.2.2.2.2.1) (vx_c (va_Nw.use rfl hZ.2.2.2.2.2.2.2.2.1) (vx_c (va_Nw.use rfl hZ.2.2.2.2.2.2.2.2.2) vx_n))))
theorem xr_throwI (hl0 : l.stackTraces = false) (C0 : CallFix p m c cc nL s args lw_w RX0) (hlk : meth.locks = false) (hout : ∀ x ∈ c.exceptionTable.toList, False) (hZ : xr_Z s) (hls : ls.size = nL)
    (d0 : decode cc pc = .ok (.new 66, 3)) (d3 : decode cc (pc + 3) = .ok (.dup, 1)) (d4 : decode cc (pc + 4) = .ok (.ldc 68, 2)) (d6 : decode cc (pc + 6) = .ok (.invokespecial 70, 3)) (d9 : decode cc (pc + 9) = .ok (.athrow, 1))
    (h1 : 5 < R.frames) (h2 : 82 ≤ R.locals) (h3 : 1 ≤ R.cells) (h4 : 6 ≤ R.slots) :
    W p l e R s m args below meth c s.heap [] 0 0 (vx_MQ below xr_no (xr_X eI) args s 1 6 (fun _ => False)) (F0 m pc ls []) := by
  obtain ⟨z1, z2, ⟨a3, z3⟩, -⟩ := id hZ
  exact vx_throwS C0.1 C0.2.1 hl0 C0.2.2.2.1 (by decide +kernel) (by decide +kernel) (C0.2.2.2.2 _ wK_X0_IllegalArgumentException) (C0.2.2.2.2 _ wN_IllegalArgumentException) z3 (xr_atI C0 hZ) xr_eIo z1 z2 va_S.rf (hls.trans C0.2.2.1.symm) d0 d3 d4 d6 d9 (fun x hx => (hout x hx).elim) h1 (by show 0 + (13 * 3 + 43) ≤ _; omega) (by omega) (by omega) hlk (fun t _ b1 b2 => ⟨rfl, b1, b2⟩) (fun z hz => by cases hz) (by decide) (by decide)
theorem xr_throwO (hl0 : l.stackTraces = false) {is : Nat} {tx : String} (hstr : ∃ a, vk_R RX0 is tx a s) (C0 : CallFix p m c cc nL s args lw_w RX0) (hlk : meth.locks = false) (hout : ∀ x ∈ c.exceptionTable.toList, False) (hZ : xr_Z s) (hls : ls.size = nL)
    (d0 : decode cc pc = .ok (.new 73, 3)) (d3 : decode cc (pc + 3) = .ok (.dup, 1)) (d4 : decode cc (pc + 4) = .ok (.ldc is, 2)) (d6 : decode cc (pc + 6) = .ok (.invokespecial 77, 3)) (d9 : decode cc (pc + 9) = .ok (.athrow, 1))
    (h1 : 5 < R.frames) (h2 : 82 ≤ R.locals) (h3 : 1 ≤ R.cells) (h4 : 6 ≤ R.slots) :
    W p l e R s m args below meth c s.heap [] 0 0 (vx_MQ below xr_no (xr_X eO) args s 1 6 (fun _ => False)) (F0 m pc ls []) := by
  obtain ⟨z1, z2, -⟩ := id hZ
  obtain ⟨a3, z3⟩ := hstr
  exact vx_throwS C0.1 C0.2.1 hl0 C0.2.2.2.1 (by decide +kernel) (by decide +kernel) (C0.2.2.2.2 _ wK_X0_IndexOutOfBoundsException) (C0.2.2.2.2 _ wN_IndexOutOfBoundsException) z3 (xr_atO C0 hZ) xr_eOo z1 z2 va_S.rf (hls.trans C0.2.2.1.symm) d0 d3 d4 d6 d9 (fun x hx => (hout x hx).elim) h1 (by show 0 + (13 * 3 + 43) ≤ _; omega) (by omega) (by omega) hlk (fun t _ b1 b2 => ⟨rfl, b1, b2⟩) (fun z hz => by cases hz) (by decide) (by decide)
/-- what the callee threw goes through -/
theorem xr_tleave {E : String} {a : Array Value} (hr : vx_Run p l e R s m args below meth c s.heap [] 0 0 1 6 (F0 m pc ls st0) rest (xr_no a) (xr_X E) (fun _ => False)) (hlk : meth.locks = false) (hout : ∀ x ∈ c.exceptionTable.toList, False) :
    W p l e R s m args below meth c s.heap [] 0 0 (vx_MQ below xr_no (xr_X E) args s 1 6 (fun _ => False)) (F0 m pc ls st0) := by
  intro T hT X
  rcases hr T hT X with ⟨v, st₀, t, T', L, -, -, -, -, -, hq, -⟩ | ⟨q, st₀, t, T', L, E1, ce, h0, X', hL, e1, e2, ⟨rfl, hz, hk⟩, hc, hv, hcl, st⟩
  · exact hq.elim
  · obtain ⟨t2, a1, b1⟩ := vx_out (rest := rest) (Qc := xr_no) (XC := xr_X E1) (free := fun _ => False) (mc := 1) (ms := 6) (pc := pc) (ls := ls) (fun x hx => (hout x hx).elim) hlk (H := T'.heap) (by rw [e1]; exact hc) hv hcl (fun u hu _ => ⟨rfl, by rw [hu, e1, ← h0]; exact hz, fun x hx => by rw [hu, e1, hk x (by rw [h0]; exact hx), h0]⟩) (fun z hz => hL z (by simpa using hz)) (by decide) (by decide) T' rfl X'
    exact ⟨t2, st.trans a1, b1⟩
theorem xr_tcallS {idx maxL nA : Nat} {y : MethodName} {bytes : ByteArray} {ret : Option FieldType} {rm : Room} {As : List Value} {E : String}
    (C0 : CallFix p m c cc nL s args lw_w own) (hM : xr_TM l y (wU y bytes maxL ret) rm As D tys ws E) (hg : GoodIn lw_w (va_wsS own idx y (wU y bytes maxL ret)))
    (hd : y.cls ≠ "java/lang/invoke/MethodHandle" ∧ y.cls ≠ "java/lang/invoke/VarHandle" ∧ (parseMethodDescriptor y.desc).map (fun d => d.parameters.length) = some nA) (hnA : As.length = nA)
    (hrc : rm.cells = 1) (hrs : rm.slots = 6) (hR : rm.frames + 1 ≤ R.frames ∧ 8 + (maxL + 11) + rm.locals ≤ R.locals) (hlk : meth.locks = false) (hout : ∀ x ∈ c.exceptionTable.toList, False)
    (hK : va_K D vwCl tys s) (hP : va_P D vwCl ws s.heap) (hZ : xr_Z s) (hls : ls.size = nL) (hst : st0 = As.reverse ++ rest) (hW : (rest.map fun v => v.category).sum ≤ 8) (hdg : decode cc pc = .ok (.invokestatic idx, 3)) (hcs : 0 + 1 ≤ R.cells ∧ 0 + 6 ≤ R.slots) :
    W p l e R s m args below meth c s.heap [] 0 0 (vx_MQ below xr_no (xr_X E) args s 1 6 (fun _ => False)) (F0 m pc ls st0) :=
  xr_tleave (rest := rest) (vx_runS (n := nA) C0 hM (va_cwS nA C0.2.2.2.2 hg rfl hrc hrs hd hR) ⟨xr_Tblind, fun U hU hW => ⟨rfl, by rw [hU]; exact hP, va_K.moved hW.alike hK, hZ.to hU hW⟩⟩ rfl hnA hls hst (lv_room hW) hdg hcs) hlk hout
theorem xr_tcallV {ci idx maxL N b nA : Nat} {C : String} {T : u_T} {y : MethodName} {bytes : ByteArray} {ret : Option FieldType} {rm : Room} {As : List Value} {fs : List Value} {E : String}
    (C0 : CallFix p m c cc nL s args lw_w own) (hM : xr_TM l y (wU y bytes maxL ret) rm (.ref b :: As) D tys ws E) (hg : GoodIn lw_w (wsV own idx C y (wU y bytes maxL ret)))
    (hd : y.cls = C ∧ y.cls ≠ "java/lang/invoke/MethodHandle" ∧ y.cls ≠ "java/lang/invoke/VarHandle" ∧ (parseMethodDescriptor y.desc).map (fun d => d.parameters.length) = some nA) (hnA : As.length = nA)
    (hrc : rm.cells = 1) (hrs : rm.slots = 6) (hR : rm.frames + 1 ≤ R.frames ∧ 8 + (maxL + 11) + rm.locals ≤ R.locals) (hlk : meth.locks = false) (hout : ∀ x ∈ c.exceptionTable.toList, False)
    (hK : va_K D vwCl tys s) (hP : va_P D vwCl ws s.heap) (hZ : xr_Z s) (q0 : Nat) (he : ws[q0]? = some (b, .inr (ci, fs))) (hc : vwCl[ci]? = some (C, T, N)) (hls : ls.size = nL) (hst : st0 = As.reverse ++ .ref b :: rest) (hW : (rest.map fun v => v.category).sum ≤ 8) (hdg : decode cc pc = .ok (.invokevirtual idx, 3)) (hcs : 0 + 1 ≤ R.cells ∧ 0 + 6 ≤ R.slots) :
    W p l e R s m args below meth c s.heap [] 0 0 (vx_MQ below xr_no (xr_X E) args s 1 6 (fun _ => False)) (F0 m pc ls st0) :=
  xr_tleave (rest := rest) (vx_runV (n := nA) C0 hM (cwV nA C0.2.2.2.2 hg rfl hrc hrs hd hR) ⟨xr_Tblind, va_recv hK hP hc he, fun U hU hW => ⟨rfl, by rw [hU]; exact hP, va_K.moved hW.alike hK, hZ.to hU hW⟩⟩ rfl hnA hls hst (lv_room hW) hdg hcs) hlk hout
/-- a call that returns and leaves the heap as it is -/
theorem xr_pcall {idx maxL nA : Nat} {y : MethodName} {bytes : ByteArray} {ret : Option FieldType} {rm : Room} {As : List Value}
    (C0 : CallFix p m c cc nL s args lw_w own) (hM : xr_PM l y (wU y bytes maxL ret) rm As) (hg : GoodIn lw_w (va_wsS own idx y (wU y bytes maxL ret)))
    (hd : y.cls ≠ "java/lang/invoke/MethodHandle" ∧ y.cls ≠ "java/lang/invoke/VarHandle" ∧ (parseMethodDescriptor y.desc).map (fun d => d.parameters.length) = some nA) (hnA : As.length = nA)
    (hrc : rm.cells = 0) (hrs : rm.slots = 0) (hR : rm.frames + 1 ≤ R.frames ∧ 8 + (maxL + 11) + rm.locals ≤ R.locals)
    (hls : ls.size = nL) (hst : st0 = As.reverse ++ rest) (hW : (rest.map fun v => v.category).sum ≤ 8) (hdg : decode cc pc = .ok (.invokestatic idx, 3)) (hcs : cells ≤ R.cells ∧ slots ≤ R.slots)
    (kk : W p l e R s m args below meth c H locs cells slots Q (F0 m (pc + 3) ls rest)) : W p l e R s m args below meth c H locs cells slots Q (F0 m pc ls st0) := by
  have hr := va_runS (p := p) (e := e) (m := m) (below := below) (meth := meth) (H := H) (locs := locs) (cells := cells) (slots := slots) (g := F0 m pc ls st0) (rest := rest) (n := nA) C0 hM (va_cwS nA C0.2.2.2.2 hg rfl hrc hrs hd hR) ⟨fun a U g mk q => q, fun U hU hW => ⟨rfl, trivial⟩⟩ rfl hnA hls hst (lv_room hW) hdg hcs
  intro T hT X
  obtain ⟨v, st₀, t, T', L, h0, X', hL, e1, e2, ⟨hv, hh⟩, st⟩ := hr T hT X
  cases hv
  obtain ⟨t2, a1, b1⟩ := kk T' (by rw [e1, hh, h0]) (Stand.forget X' (fun q h => (hL q h).elim))
  exact ⟨t2, st t2 a1, b1⟩
end XT
set_option maxHeartbeats 4000000 in
set_option maxRecDepth 100000 in
/-- requireWithin, in range, and the heap as it was -/
theorem p_within (l : Launch) (x a b : Int32) (h1 : ¬ x < a) (h2 : x ≤ b) : xr_PM l yX0_requireWithin (wU yX0_requireWithin cX0_requireWithin 3 none) ({ frames := 0, cells := 0, slots := 0, locals := 0 }) [.int x, .int a, .int b] := by
  refine xr_pstart (by decide) (Nat.le_of_ble_eq_true rfl) ?_
  intro p e s m args below meth c ls C0 hlk hr hl
  have hx := C0.1
  have hb := C0.2.1
  have hl : lv_has ls 3 [(0, .int x), (1, .int a), (2, .int b)] := hl
  refine lv_iload_n hx hb dX0_requireWithin_0 rfl (lv_at hl 0 rfl) ?_
  refine lv_iload_n hx hb dX0_requireWithin_1 rfl (lv_at hl 1 rfl) ?_
  refine lv_icmp_lt hx hb dX0_requireWithin_2 rfl (fun h => absurd h h1) (fun h => ?_)
  refine lv_iload_n hx hb dX0_requireWithin_5 rfl (lv_at hl 0 rfl) ?_
  refine lv_iload_n hx hb dX0_requireWithin_6 rfl (lv_at hl 2 rfl) ?_
  refine lv_icmp_le hx hb dX0_requireWithin_7 rfl (fun h => ?_) (fun h => absurd h2 h)
  exact W.vret hx hb hr (fun t ht hW => ⟨rfl, ht⟩) (fun q hq => by cases hq) dX0_requireWithin_20 hlk
set_option maxHeartbeats 4000000 in
set_option maxRecDepth 100000 in
/-- requireOrder, in range, and the heap as it was -/
theorem p_order (l : Launch) (o : Int32) (h1 : ¬ o < 0) (h2 : o ≤ 3) : xr_PM l yX0_requireOrder (wU yX0_requireOrder cX0_requireOrder 1 none) ({ frames := 1, cells := 0, slots := 0, locals := 22 }) [.int o] := by
  refine xr_pstart (by decide) (Nat.le_of_ble_eq_true rfl) ?_
  intro p e s m args below meth c ls C0 hlk hr hl
  have hx := C0.1
  have hb := C0.2.1
  have hl : lv_has ls 1 [(0, .int o)] := hl
  refine lv_iload_n hx hb dX0_requireOrder_0 rfl (lv_at hl 0 rfl) ?_
  refine lv_iconst (v := 0) hx hb dX0_requireOrder_1 (by decide) ?_
  refine lv_iconst (v := 3) hx hb dX0_requireOrder_2 (by decide) ?_
  refine xr_pcall (As := [.int o, .int 0, .int 3]) (rest := []) (nA := 3) C0 (p_within l o 0 3 h1 h2) (gS wM_X0_X0_requireWithin wS_X0_requireWithin wN_X0 wC_X0_requireWithin) (by decide +kernel) rfl rfl rfl ⟨by decide, by decide⟩ hl.1 rfl (Nat.le_of_ble_eq_true rfl) dX0_requireOrder_3 ⟨Nat.zero_le _, Nat.zero_le _⟩ ?_
  exact W.vret hx hb hr (fun t ht hW => ⟨rfl, ht⟩) (fun q hq => by cases hq) dX0_requireOrder_6 hlk
set_option maxHeartbeats 4000000 in
set_option maxRecDepth 100000 in
/-- requireWithin, out of range -/
theorem t_within (l : Launch) (hl0 : l.stackTraces = false) (D : va_G) (q : Nat → Nat) (cI : ClassId) (tyr : List (ClassId × FieldType)) (wr : va_W) (n : Nat) (f g sf sg r : Nat → Int32) (x a b : Int32) (hbad : x < a ∨ b < x) : xr_TM l yX0_requireWithin (wU yX0_requireWithin cX0_requireWithin 3 none) ({ frames := 6, cells := 1, slots := 6, locals := 82 }) [.int x, .int a, .int b] D (rs_ty cI tyr) (rs_X q cI n f g sf sg r ++ wr) eI := by
  refine xr_tstart (by decide) (Nat.le_of_ble_eq_true rfl) ?_
  intro p e s m args below meth c ls C0 hlk hout hP hK hZ hl
  have hx := C0.1
  have hb := C0.2.1
  have hl : lv_has ls 3 [(0, .int x), (1, .int a), (2, .int b)] := hl
  refine lv_iload_n hx hb dX0_requireWithin_0 rfl (lv_at hl 0 rfl) ?_
  refine lv_iload_n hx hb dX0_requireWithin_1 rfl (lv_at hl 1 rfl) ?_
  refine lv_icmp_lt hx hb dX0_requireWithin_2 rfl (fun h => ?_) (fun h => ?_)
  · skip
    exact xr_throwI hl0 C0 hlk hout hZ hl.1 dX0_requireWithin_10 dX0_requireWithin_13 dX0_requireWithin_14 dX0_requireWithin_16 dX0_requireWithin_19 (by decide) (by decide) (by decide) (by decide)
  · skip
    have n1 := h
    refine lv_iload_n hx hb dX0_requireWithin_5 rfl (lv_at hl 0 rfl) ?_
    refine lv_iload_n hx hb dX0_requireWithin_6 rfl (lv_at hl 2 rfl) ?_
    refine lv_icmp_le hx hb dX0_requireWithin_7 rfl (fun h => absurd h (rs_lt_nle (hbad.resolve_left n1))) (fun h => ?_)
    exact xr_throwI hl0 C0 hlk hout hZ hl.1 dX0_requireWithin_10 dX0_requireWithin_13 dX0_requireWithin_14 dX0_requireWithin_16 dX0_requireWithin_19 (by decide) (by decide) (by decide) (by decide)
set_option maxHeartbeats 4000000 in
set_option maxRecDepth 100000 in
/-- requireOrder, out of range -/
theorem t_order (l : Launch) (hl0 : l.stackTraces = false) (D : va_G) (q : Nat → Nat) (cI : ClassId) (tyr : List (ClassId × FieldType)) (wr : va_W) (n : Nat) (f g sf sg r : Nat → Int32) (o : Int32) (hbad : o < 0 ∨ 3 < o) : xr_TM l yX0_requireOrder (wU yX0_requireOrder cX0_requireOrder 1 none) ({ frames := 7, cells := 1, slots := 6, locals := 104 }) [.int o] D (rs_ty cI tyr) (rs_X q cI n f g sf sg r ++ wr) eI := by
  refine xr_tstart (by decide) (Nat.le_of_ble_eq_true rfl) ?_
  intro p e s m args below meth c ls C0 hlk hout hP hK hZ hl
  have hx := C0.1
  have hb := C0.2.1
  have hl : lv_has ls 1 [(0, .int o)] := hl
  refine lv_iload_n hx hb dX0_requireOrder_0 rfl (lv_at hl 0 rfl) ?_
  refine lv_iconst (v := 0) hx hb dX0_requireOrder_1 (by decide) ?_
  refine lv_iconst (v := 3) hx hb dX0_requireOrder_2 (by decide) ?_
  exact xr_tcallS (As := [.int o, .int 0, .int 3]) (rest := []) (nA := 3) C0 (t_within l hl0 D q cI tyr wr n f g sf sg r o 0 3 hbad) (gS wM_X0_X0_requireWithin wS_X0_requireWithin wN_X0 wC_X0_requireWithin) (by decide +kernel) rfl rfl rfl ⟨by decide, by decide⟩ hlk hout hK hP hZ hl.1 rfl (Nat.le_of_ble_eq_true rfl) dX0_requireOrder_3 ⟨by decide, by decide⟩
set_option maxHeartbeats 4000000 in
set_option maxRecDepth 100000 in
/-- requirePart, out of range -/
theorem t_part (l : Launch) (hl0 : l.stackTraces = false) (D : va_G) (q : Nat → Nat) (cI : ClassId) (tyr : List (ClassId × FieldType)) (wr : va_W) (n : Nat) (f g sf sg r : Nat → Int32) (a b : Int32) (hbad : (b < 0 ∨ nI n < b) ∨ a < 0 ∨ b < a) : xr_TM l yX0_requirePart (wU yX0_requirePart cX0_requirePart 3 none) ({ frames := 7, cells := 1, slots := 6, locals := 104 }) [.ref (q 0), .int a, .int b] D (rs_ty cI tyr) (rs_X q cI n f g sf sg r ++ wr) eI := by
  refine xr_tstart (by decide) (Nat.le_of_ble_eq_true rfl) ?_
  intro p e s m args below meth c ls C0 hlk hout hP hK hZ hl
  have hx := C0.1
  have hb := C0.2.1
  have hl : lv_has ls 3 [(0, .ref (q 0)), (1, .int a), (2, .int b)] := hl
  refine lv_iload_n hx hb dX0_requirePart_0 rfl (lv_at hl 2 rfl) ?_
  refine lv_iconst (v := 0) hx hb dX0_requirePart_1 (by decide) ?_
  refine lv_aload_n hx hb dX0_requirePart_2 rfl (lv_at hl 0 rfl) ?_
  refine x0_get_size C0 hK hP 0 rfl rfl dX0_requirePart_3 ?_
  by_cases hb1 : b < 0 ∨ nI n < b
  · skip
    exact xr_tcallS (As := [.int b, .int 0, .int (nI n)]) (rest := []) (nA := 3) C0 (t_within l hl0 D q cI tyr wr n f g sf sg r b 0 (nI n) hb1) (gS wM_X0_X0_requireWithin wS_X0_requireWithin wN_X0 wC_X0_requireWithin) (by decide +kernel) rfl rfl rfl ⟨by decide, by decide⟩ hlk hout hK hP hZ hl.1 rfl (Nat.le_of_ble_eq_true rfl) dX0_requirePart_6 ⟨by decide, by decide⟩
  · skip
    refine xr_pcall (As := [.int b, .int 0, .int (nI n)]) (rest := []) (nA := 3) C0 (p_within l b 0 (nI n) (fun q => hb1 (Or.inl q)) (rs_nlt (fun q => hb1 (Or.inr q)))) (gS wM_X0_X0_requireWithin wS_X0_requireWithin wN_X0 wC_X0_requireWithin) (by decide +kernel) rfl rfl rfl ⟨by decide, by decide⟩ hl.1 rfl (Nat.le_of_ble_eq_true rfl) dX0_requirePart_6 ⟨Nat.zero_le _, Nat.zero_le _⟩ ?_
    refine lv_iload_n hx hb dX0_requirePart_9 rfl (lv_at hl 1 rfl) ?_
    refine lv_iconst (v := 0) hx hb dX0_requirePart_10 (by decide) ?_
    refine lv_iload_n hx hb dX0_requirePart_11 rfl (lv_at hl 2 rfl) ?_
    exact xr_tcallS (As := [.int a, .int 0, .int b]) (rest := []) (nA := 3) C0 (t_within l hl0 D q cI tyr wr n f g sf sg r a 0 b (hbad.resolve_left hb1)) (gS wM_X0_X0_requireWithin wS_X0_requireWithin wN_X0 wC_X0_requireWithin) (by decide +kernel) rfl rfl rfl ⟨by decide, by decide⟩ hlk hout hK hP hZ hl.1 rfl (Nat.le_of_ble_eq_true rfl) dX0_requirePart_12 ⟨by decide, by decide⟩
set_option maxHeartbeats 4000000 in
set_option maxRecDepth 100000 in
/-- requireRoomFor, too many -/
theorem t_room (l : Launch) (hl0 : l.stackTraces = false) (D : va_G) (q : Nat → Nat) (cI : ClassId) (tyr : List (ClassId × FieldType)) (wr : va_W) (n : Nat) (f g sf sg r : Nat → Int32) (y : Int32) (hn : n ≤ 2000) (hbad : nI (2000 - n) < y) : xr_TM l yX0_requireRoomFor (wU yX0_requireRoomFor cX0_requireRoomFor 2 none) ({ frames := 6, cells := 1, slots := 6, locals := 82 }) [.ref (q 0), .int y] D (rs_ty cI tyr) (rs_X q cI n f g sf sg r ++ wr) eO := by
  refine xr_tstart (by decide) (Nat.le_of_ble_eq_true rfl) ?_
  intro p e s m args below meth c ls C0 hlk hout hP hK hZ hl
  have hx := C0.1
  have hb := C0.2.1
  have hl : lv_has ls 2 [(0, .ref (q 0)), (1, .int y)] := hl
  refine lv_iload_n hx hb dX0_requireRoomFor_0 rfl (lv_at hl 1 rfl) ?_
  refine lv_sipush (v := 2000) hx hb dX0_requireRoomFor_1 (by decide) ?_
  refine lv_aload_n hx hb dX0_requireRoomFor_4 rfl (lv_at hl 0 rfl) ?_
  refine x0_get_size C0 hK hP 0 rfl rfl dX0_requireRoomFor_5 ?_
  refine lv_isub hx hb dX0_requireRoomFor_8 ?_
  refine xr_top (pk_sub (a := 2000) (b := n) (by omega)) ?_
  refine lv_icmp_le hx hb dX0_requireRoomFor_9 rfl (fun h => absurd h (rs_lt_nle hbad)) (fun h => ?_)
  exact xr_throwO hl0 hZ.2.2.2.1 C0 hlk hout hZ hl.1 dX0_requireRoomFor_12 dX0_requireRoomFor_15 dX0_requireRoomFor_16 dX0_requireRoomFor_18 dX0_requireRoomFor_21 (by decide) (by decide) (by decide) (by decide)
set_option maxHeartbeats 4000000 in
set_option maxRecDepth 100000 in
/-- requireIndex, no such index -/
theorem t_index (l : Launch) (hl0 : l.stackTraces = false) (D : va_G) (q : Nat → Nat) (cI : ClassId) (tyr : List (ClassId × FieldType)) (wr : va_W) (n : Nat) (f g sf sg r : Nat → Int32) (i : Int32) (hbad : i < 0 ∨ nI n ≤ i) : xr_TM l yX0_requireIndex (wU yX0_requireIndex cX0_requireIndex 2 none) ({ frames := 6, cells := 1, slots := 6, locals := 82 }) [.ref (q 0), .int i] D (rs_ty cI tyr) (rs_X q cI n f g sf sg r ++ wr) eO := by
  refine xr_tstart (by decide) (Nat.le_of_ble_eq_true rfl) ?_
  intro p e s m args below meth c ls C0 hlk hout hP hK hZ hl
  have hx := C0.1
  have hb := C0.2.1
  have hl : lv_has ls 2 [(0, .ref (q 0)), (1, .int i)] := hl
  refine lv_iload_n hx hb dX0_requireIndex_0 rfl (lv_at hl 1 rfl) ?_
  refine lv_if_lt hx hb dX0_requireIndex_1 rfl (fun h => ?_) (fun h => ?_)
  · skip
    exact xr_throwO hl0 hZ.2.2.2.2.1 C0 hlk hout hZ hl.1 dX0_requireIndex_12 dX0_requireIndex_15 dX0_requireIndex_16 dX0_requireIndex_18 dX0_requireIndex_21 (by decide) (by decide) (by decide) (by decide)
  · skip
    have n1 := h
    refine lv_iload_n hx hb dX0_requireIndex_4 rfl (lv_at hl 1 rfl) ?_
    refine lv_aload_n hx hb dX0_requireIndex_5 rfl (lv_at hl 0 rfl) ?_
    refine x0_get_size C0 hK hP 0 rfl rfl dX0_requireIndex_6 ?_
    refine lv_icmp_lt hx hb dX0_requireIndex_9 rfl (fun h => absurd (hbad.resolve_left n1) (rs_lt_nle h)) (fun h => ?_)
    exact xr_throwO hl0 hZ.2.2.2.2.1 C0 hlk hout hZ hl.1 dX0_requireIndex_12 dX0_requireIndex_15 dX0_requireIndex_16 dX0_requireIndex_18 dX0_requireIndex_21 (by decide) (by decide) (by decide) (by decide)
set_option maxHeartbeats 4000000 in
set_option maxRecDepth 100000 in
/-- get, no such index -/
theorem t_get (l : Launch) (hl0 : l.stackTraces = false) (D : va_G) (q : Nat → Nat) (cI : ClassId) (tyr : List (ClassId × FieldType)) (wr : va_W) (n : Nat) (f g sf sg r : Nat → Int32) (i : Int32) (hbad : i < 0 ∨ nI n ≤ i) : xr_TM l yX0_get (wU yX0_get cX0_get 2 (some .int)) ({ frames := 7, cells := 1, slots := 6, locals := 103 }) [.ref (q 0), .int i] D (rs_ty cI tyr) (rs_X q cI n f g sf sg r ++ wr) eO := by
  refine xr_tstart (by decide) (Nat.le_of_ble_eq_true rfl) ?_
  intro p e s m args below meth c ls C0 hlk hout hP hK hZ hl
  have hx := C0.1
  have hb := C0.2.1
  have hl : lv_has ls 2 [(0, .ref (q 0)), (1, .int i)] := hl
  refine lv_aload_n hx hb dX0_get_0 rfl (lv_at hl 0 rfl) ?_
  refine lv_iload_n hx hb dX0_get_1 rfl (lv_at hl 1 rfl) ?_
  exact xr_tcallV (As := [.int i]) (rest := []) (nA := 1) C0 (t_index l hl0 D q cI tyr wr n f g sf sg r i hbad) (gV wM_X0_X0_requireIndex wI_X0_requireIndex wV_X0_X0_requireIndex wN_X0 wC_X0_requireIndex) (by decide +kernel) rfl rfl rfl ⟨by decide, by decide⟩ hlk hout hK hP hZ 0 rfl rfl hl.1 rfl (Nat.le_of_ble_eq_true rfl) dX0_get_2 ⟨by decide, by decide⟩
set_option maxHeartbeats 4000000 in
set_option maxRecDepth 100000 in
/-- tag, no such index -/
theorem t_tag (l : Launch) (hl0 : l.stackTraces = false) (D : va_G) (q : Nat → Nat) (cI : ClassId) (tyr : List (ClassId × FieldType)) (wr : va_W) (n : Nat) (f g sf sg r : Nat → Int32) (i : Int32) (hbad : i < 0 ∨ nI n ≤ i) : xr_TM l yX0_tag (wU yX0_tag cX0_tag 2 (some .int)) ({ frames := 7, cells := 1, slots := 6, locals := 103 }) [.ref (q 0), .int i] D (rs_ty cI tyr) (rs_X q cI n f g sf sg r ++ wr) eO := by
  refine xr_tstart (by decide) (Nat.le_of_ble_eq_true rfl) ?_
  intro p e s m args below meth c ls C0 hlk hout hP hK hZ hl
  have hx := C0.1
  have hb := C0.2.1
  have hl : lv_has ls 2 [(0, .ref (q 0)), (1, .int i)] := hl
  refine lv_aload_n hx hb dX0_tag_0 rfl (lv_at hl 0 rfl) ?_
  refine lv_iload_n hx hb dX0_tag_1 rfl (lv_at hl 1 rfl) ?_
  exact xr_tcallV (As := [.int i]) (rest := []) (nA := 1) C0 (t_index l hl0 D q cI tyr wr n f g sf sg r i hbad) (gV wM_X0_X0_requireIndex wI_X0_requireIndex wV_X0_X0_requireIndex wN_X0 wC_X0_requireIndex) (by decide +kernel) rfl rfl rfl ⟨by decide, by decide⟩ hlk hout hK hP hZ 0 rfl rfl hl.1 rfl (Nat.le_of_ble_eq_true rfl) dX0_tag_2 ⟨by decide, by decide⟩
set_option maxHeartbeats 4000000 in
set_option maxRecDepth 100000 in
/-- set, no such index -/
theorem tx_set (l : Launch) (hl0 : l.stackTraces = false) (D : va_G) (q : Nat → Nat) (cI : ClassId) (tyr : List (ClassId × FieldType)) (wr : va_W) (n : Nat) (f g sf sg r : Nat → Int32) (i x : Int32) (hbad : i < 0 ∨ nI n ≤ i) : xr_TM l yX0_set (wU yX0_set cX0_set 4 (some .int)) ({ frames := 7, cells := 1, slots := 6, locals := 103 }) [.ref (q 0), .int i, .int x] D (rs_ty cI tyr) (rs_X q cI n f g sf sg r ++ wr) eO := by
  refine xr_tstart (by decide) (Nat.le_of_ble_eq_true rfl) ?_
  intro p e s m args below meth c ls C0 hlk hout hP hK hZ hl
  have hx := C0.1
  have hb := C0.2.1
  have hl : lv_has ls 4 [(0, .ref (q 0)), (1, .int i), (2, .int x)] := hl
  refine lv_aload_n hx hb dX0_set_0 rfl (lv_at hl 0 rfl) ?_
  refine lv_iload_n hx hb dX0_set_1 rfl (lv_at hl 1 rfl) ?_
  exact xr_tcallV (As := [.int i]) (rest := []) (nA := 1) C0 (t_index l hl0 D q cI tyr wr n f g sf sg r i hbad) (gV wM_X0_X0_requireIndex wI_X0_requireIndex wV_X0_X0_requireIndex wN_X0 wC_X0_requireIndex) (by decide +kernel) rfl rfl rfl ⟨by decide, by decide⟩ hlk hout hK hP hZ 0 rfl rfl hl.1 rfl (Nat.le_of_ble_eq_true rfl) dX0_set_2 ⟨by decide, by decide⟩
set_option maxHeartbeats 4000000 in
set_option maxRecDepth 100000 in
/-- turn, out of range -/
theorem t_turn (l : Launch) (hl0 : l.stackTraces = false) (D : va_G) (q : Nat → Nat) (cI : ClassId) (tyr : List (ClassId × FieldType)) (wr : va_W) (n : Nat) (f g sf sg r : Nat → Int32) (a b : Int32) (hbad : (b < 0 ∨ nI n < b) ∨ a < 0 ∨ b < a) : xr_TM l yX0_turn (wU yX0_turn cX0_turn 5 (some .int)) ({ frames := 8, cells := 1, slots := 6, locals := 126 }) [.ref (q 0), .int a, .int b] D (rs_ty cI tyr) (rs_X q cI n f g sf sg r ++ wr) eI := by
  refine xr_tstart (by decide) (Nat.le_of_ble_eq_true rfl) ?_
  intro p e s m args below meth c ls C0 hlk hout hP hK hZ hl
  have hx := C0.1
  have hb := C0.2.1
  have hl : lv_has ls 5 [(0, .ref (q 0)), (1, .int a), (2, .int b)] := hl
  refine lv_aload_n hx hb dX0_turn_0 rfl (lv_at hl 0 rfl) ?_
  refine lv_iload_n hx hb dX0_turn_1 rfl (lv_at hl 1 rfl) ?_
  refine lv_iload_n hx hb dX0_turn_2 rfl (lv_at hl 2 rfl) ?_
  exact xr_tcallV (As := [.int a, .int b]) (rest := []) (nA := 2) C0 (t_part l hl0 D q cI tyr wr n f g sf sg r a b hbad) (gV wM_X0_X0_requirePart wI_X0_requirePart wV_X0_X0_requirePart wN_X0 wC_X0_requirePart) (by decide +kernel) rfl rfl rfl ⟨by decide, by decide⟩ hlk hout hK hP hZ 0 rfl rfl hl.1 rfl (Nat.le_of_ble_eq_true rfl) dX0_turn_3 ⟨by decide, by decide⟩
set_option maxHeartbeats 4000000 in
set_option maxRecDepth 100000 in
/-- upTo, no such order -/
theorem t_upTo (l : Launch) (hl0 : l.stackTraces = false) (D : va_G) (q : Nat → Nat) (cI : ClassId) (tyr : List (ClassId × FieldType)) (wr : va_W) (n : Nat) (f g sf sg r : Nat → Int32) (o x b : Int32) (hbad : o < 0 ∨ 3 < o) : xr_TM l yX0_upTo (wU yX0_upTo cX0_upTo 7 (some .int)) ({ frames := 8, cells := 1, slots := 6, locals := 124 }) [.ref (q 0), .int o, .int x, .int b] D (rs_ty cI tyr) (rs_X q cI n f g sf sg r ++ wr) eI := by
  refine xr_tstart (by decide) (Nat.le_of_ble_eq_true rfl) ?_
  intro p e s m args below meth c ls C0 hlk hout hP hK hZ hl
  have hx := C0.1
  have hb := C0.2.1
  have hl : lv_has ls 7 [(0, .ref (q 0)), (1, .int o), (2, .int x), (3, .int b)] := hl
  refine lv_iload_n hx hb dX0_upTo_0 rfl (lv_at hl 1 rfl) ?_
  exact xr_tcallS (As := [.int o]) (rest := []) (nA := 1) C0 (t_order l hl0 D q cI tyr wr n f g sf sg r o hbad) (gS wM_X0_X0_requireOrder wS_X0_requireOrder wN_X0 wC_X0_requireOrder) (by decide +kernel) rfl rfl rfl ⟨by decide, by decide⟩ hlk hout hK hP hZ hl.1 rfl (Nat.le_of_ble_eq_true rfl) dX0_upTo_1 ⟨by decide, by decide⟩
set_option maxHeartbeats 4000000 in
set_option maxRecDepth 100000 in
/-- sort, out of range -/
theorem t_sort (l : Launch) (hl0 : l.stackTraces = false) (D : va_G) (q : Nat → Nat) (cI : ClassId) (tyr : List (ClassId × FieldType)) (wr : va_W) (n : Nat) (f g sf sg r : Nat → Int32) (o a b : Int32) (hbad : (o < 0 ∨ 3 < o) ∨ (b < 0 ∨ nI n < b) ∨ a < 0 ∨ b < a) : xr_TM l yX0_sort (wU yX0_sort cX0_sort 5 (some .int)) ({ frames := 8, cells := 1, slots := 6, locals := 126 }) [.ref (q 0), .int o, .int a, .int b] D (rs_ty cI tyr) (rs_X q cI n f g sf sg r ++ wr) eI := by
  refine xr_tstart (by decide) (Nat.le_of_ble_eq_true rfl) ?_
  intro p e s m args below meth c ls C0 hlk hout hP hK hZ hl
  have hx := C0.1
  have hb := C0.2.1
  have hl : lv_has ls 5 [(0, .ref (q 0)), (1, .int o), (2, .int a), (3, .int b)] := hl
  refine lv_iload_n hx hb dX0_sort_0 rfl (lv_at hl 1 rfl) ?_
  by_cases ho : o < 0 ∨ 3 < o
  · skip
    exact xr_tcallS (As := [.int o]) (rest := []) (nA := 1) C0 (t_order l hl0 D q cI tyr wr n f g sf sg r o ho) (gS wM_X0_X0_requireOrder wS_X0_requireOrder wN_X0 wC_X0_requireOrder) (by decide +kernel) rfl rfl rfl ⟨by decide, by decide⟩ hlk hout hK hP hZ hl.1 rfl (Nat.le_of_ble_eq_true rfl) dX0_sort_1 ⟨by decide, by decide⟩
  · skip
    refine xr_pcall (As := [.int o]) (rest := []) (nA := 1) C0 (p_order l o (fun q => ho (Or.inl q)) (rs_nlt (fun q => ho (Or.inr q)))) (gS wM_X0_X0_requireOrder wS_X0_requireOrder wN_X0 wC_X0_requireOrder) (by decide +kernel) rfl rfl rfl ⟨by decide, by decide⟩ hl.1 rfl (Nat.le_of_ble_eq_true rfl) dX0_sort_1 ⟨Nat.zero_le _, Nat.zero_le _⟩ ?_
    refine lv_aload_n hx hb dX0_sort_4 rfl (lv_at hl 0 rfl) ?_
    refine lv_iload_n hx hb dX0_sort_5 rfl (lv_at hl 2 rfl) ?_
    refine lv_iload_n hx hb dX0_sort_6 rfl (lv_at hl 3 rfl) ?_
    exact xr_tcallV (As := [.int a, .int b]) (rest := []) (nA := 2) C0 (t_part l hl0 D q cI tyr wr n f g sf sg r a b (hbad.resolve_left ho)) (gV wM_X0_X0_requirePart wI_X0_requirePart wV_X0_X0_requirePart wN_X0 wC_X0_requirePart) (by decide +kernel) rfl rfl rfl ⟨by decide, by decide⟩ hlk hout hK hP hZ 0 rfl rfl hl.1 rfl (Nat.le_of_ble_eq_true rfl) dX0_sort_7 ⟨by decide, by decide⟩
set_option maxHeartbeats 4000000 in
set_option maxRecDepth 100000 in
/-- fill, n out of range -/
theorem t_fill1 (l : Launch) (hl0 : l.stackTraces = false) (D : va_G) (q : Nat → Nat) (cI : ClassId) (tyr : List (ClassId × FieldType)) (wr : va_W) (n : Nat) (f g sf sg r : Nat → Int32) (x st y : Int32) (hbad : y < 0 ∨ 2000 < y) : xr_TM l yX0_fill (wU yX0_fill cX0_fill 5 (some .int)) ({ frames := 7, cells := 1, slots := 6, locals := 104 }) [.ref (q 0), .int x, .int st, .int y] D (rs_ty cI tyr) (rs_X q cI n f g sf sg r ++ wr) eI := by
  refine xr_tstart (by decide) (Nat.le_of_ble_eq_true rfl) ?_
  intro p e s m args below meth c ls C0 hlk hout hP hK hZ hl
  have hx := C0.1
  have hb := C0.2.1
  have hl : lv_has ls 5 [(0, .ref (q 0)), (1, .int x), (2, .int st), (3, .int y)] := hl
  refine lv_iload_n hx hb dX0_fill_0 rfl (lv_at hl 3 rfl) ?_
  refine lv_iconst (v := 0) hx hb dX0_fill_1 (by decide) ?_
  refine lv_sipush (v := 2000) hx hb dX0_fill_2 (by decide) ?_
  exact xr_tcallS (As := [.int y, .int 0, .int 2000]) (rest := []) (nA := 3) C0 (t_within l hl0 D q cI tyr wr n f g sf sg r y 0 2000 hbad) (gS wM_X0_X0_requireWithin wS_X0_requireWithin wN_X0 wC_X0_requireWithin) (by decide +kernel) rfl rfl rfl ⟨by decide, by decide⟩ hlk hout hK hP hZ hl.1 rfl (Nat.le_of_ble_eq_true rfl) dX0_fill_5 ⟨by decide, by decide⟩
set_option maxHeartbeats 4000000 in
set_option maxRecDepth 100000 in
/-- fill, no room -/
theorem t_fill2 (l : Launch) (hl0 : l.stackTraces = false) (D : va_G) (q : Nat → Nat) (cI : ClassId) (tyr : List (ClassId × FieldType)) (wr : va_W) (n : Nat) (f g sf sg r : Nat → Int32) (x st y : Int32) (h1 : ¬ y < 0) (h2 : y ≤ 2000) (hn : n ≤ 2000) (hbad : nI (2000 - n) < y) : xr_TM l yX0_fill (wU yX0_fill cX0_fill 5 (some .int)) ({ frames := 7, cells := 1, slots := 6, locals := 103 }) [.ref (q 0), .int x, .int st, .int y] D (rs_ty cI tyr) (rs_X q cI n f g sf sg r ++ wr) eO := by
  refine xr_tstart (by decide) (Nat.le_of_ble_eq_true rfl) ?_
  intro p e s m args below meth c ls C0 hlk hout hP hK hZ hl
  have hx := C0.1
  have hb := C0.2.1
  have hl : lv_has ls 5 [(0, .ref (q 0)), (1, .int x), (2, .int st), (3, .int y)] := hl
  refine lv_iload_n hx hb dX0_fill_0 rfl (lv_at hl 3 rfl) ?_
  refine lv_iconst (v := 0) hx hb dX0_fill_1 (by decide) ?_
  refine lv_sipush (v := 2000) hx hb dX0_fill_2 (by decide) ?_
  refine xr_pcall (As := [.int y, .int 0, .int 2000]) (rest := []) (nA := 3) C0 (p_within l y 0 2000 h1 h2) (gS wM_X0_X0_requireWithin wS_X0_requireWithin wN_X0 wC_X0_requireWithin) (by decide +kernel) rfl rfl rfl ⟨by decide, by decide⟩ hl.1 rfl (Nat.le_of_ble_eq_true rfl) dX0_fill_5 ⟨Nat.zero_le _, Nat.zero_le _⟩ ?_
  refine lv_aload_n hx hb dX0_fill_8 rfl (lv_at hl 0 rfl) ?_
  refine lv_iload_n hx hb dX0_fill_9 rfl (lv_at hl 3 rfl) ?_
  exact xr_tcallV (As := [.int y]) (rest := []) (nA := 1) C0 (t_room l hl0 D q cI tyr wr n f g sf sg r y hn hbad) (gV wM_X0_X0_requireRoomFor wI_X0_requireRoomFor wV_X0_X0_requireRoomFor wN_X0 wC_X0_requireRoomFor) (by decide +kernel) rfl rfl rfl ⟨by decide, by decide⟩ hlk hout hK hP hZ 0 rfl rfl hl.1 rfl (Nat.le_of_ble_eq_true rfl) dX0_fill_10 ⟨by decide, by decide⟩
set_option maxHeartbeats 4000000 in
set_option maxRecDepth 100000 in
/-- scatter, a number out of range -/
theorem t_scatter1 (l : Launch) (hl0 : l.stackTraces = false) (D : va_G) (q : Nat → Nat) (cI : ClassId) (tyr : List (ClassId × FieldType)) (wr : va_W) (n : Nat) (f g sf sg r : Nat → Int32) (x b y : Int32) (hbad : (y < 0 ∨ 2000 < y) ∨ b < 1 ∨ 16 < b) : xr_TM l yX0_scatter (wU yX0_scatter cX0_scatter 7 (some .int)) ({ frames := 7, cells := 1, slots := 6, locals := 104 }) [.ref (q 0), .int x, .int b, .int y] D (rs_ty cI tyr) (rs_X q cI n f g sf sg r ++ wr) eI := by
  refine xr_tstart (by decide) (Nat.le_of_ble_eq_true rfl) ?_
  intro p e s m args below meth c ls C0 hlk hout hP hK hZ hl
  have hx := C0.1
  have hb := C0.2.1
  have hl : lv_has ls 7 [(0, .ref (q 0)), (1, .int x), (2, .int b), (3, .int y)] := hl
  refine lv_iload_n hx hb dX0_scatter_0 rfl (lv_at hl 3 rfl) ?_
  refine lv_iconst (v := 0) hx hb dX0_scatter_1 (by decide) ?_
  refine lv_sipush (v := 2000) hx hb dX0_scatter_2 (by decide) ?_
  by_cases hy : y < 0 ∨ 2000 < y
  · skip
    exact xr_tcallS (As := [.int y, .int 0, .int 2000]) (rest := []) (nA := 3) C0 (t_within l hl0 D q cI tyr wr n f g sf sg r y 0 2000 hy) (gS wM_X0_X0_requireWithin wS_X0_requireWithin wN_X0 wC_X0_requireWithin) (by decide +kernel) rfl rfl rfl ⟨by decide, by decide⟩ hlk hout hK hP hZ hl.1 rfl (Nat.le_of_ble_eq_true rfl) dX0_scatter_5 ⟨by decide, by decide⟩
  · skip
    refine xr_pcall (As := [.int y, .int 0, .int 2000]) (rest := []) (nA := 3) C0 (p_within l y 0 2000 (fun q => hy (Or.inl q)) (rs_nlt (fun q => hy (Or.inr q)))) (gS wM_X0_X0_requireWithin wS_X0_requireWithin wN_X0 wC_X0_requireWithin) (by decide +kernel) rfl rfl rfl ⟨by decide, by decide⟩ hl.1 rfl (Nat.le_of_ble_eq_true rfl) dX0_scatter_5 ⟨Nat.zero_le _, Nat.zero_le _⟩ ?_
    refine lv_iload_n hx hb dX0_scatter_8 rfl (lv_at hl 2 rfl) ?_
    refine lv_iconst (v := 1) hx hb dX0_scatter_9 (by decide) ?_
    refine lv_bipush (v := 16) hx hb dX0_scatter_10 (by decide) ?_
    exact xr_tcallS (As := [.int b, .int 1, .int 16]) (rest := []) (nA := 3) C0 (t_within l hl0 D q cI tyr wr n f g sf sg r b 1 16 (hbad.resolve_left hy)) (gS wM_X0_X0_requireWithin wS_X0_requireWithin wN_X0 wC_X0_requireWithin) (by decide +kernel) rfl rfl rfl ⟨by decide, by decide⟩ hlk hout hK hP hZ hl.1 rfl (Nat.le_of_ble_eq_true rfl) dX0_scatter_12 ⟨by decide, by decide⟩
set_option maxHeartbeats 4000000 in
set_option maxRecDepth 100000 in
/-- scatter, no room -/
theorem t_scatter2 (l : Launch) (hl0 : l.stackTraces = false) (D : va_G) (q : Nat → Nat) (cI : ClassId) (tyr : List (ClassId × FieldType)) (wr : va_W) (n : Nat) (f g sf sg r : Nat → Int32) (x b y : Int32) (h1 : ¬ y < 0) (h2 : y ≤ 2000) (h3 : ¬ b < 1) (h4 : b ≤ 16) (hn : n ≤ 2000) (hbad : nI (2000 - n) < y) : xr_TM l yX0_scatter (wU yX0_scatter cX0_scatter 7 (some .int)) ({ frames := 7, cells := 1, slots := 6, locals := 103 }) [.ref (q 0), .int x, .int b, .int y] D (rs_ty cI tyr) (rs_X q cI n f g sf sg r ++ wr) eO := by
  refine xr_tstart (by decide) (Nat.le_of_ble_eq_true rfl) ?_
  intro p e s m args below meth c ls C0 hlk hout hP hK hZ hl
  have hx := C0.1
  have hb := C0.2.1
  have hl : lv_has ls 7 [(0, .ref (q 0)), (1, .int x), (2, .int b), (3, .int y)] := hl
  refine lv_iload_n hx hb dX0_scatter_0 rfl (lv_at hl 3 rfl) ?_
  refine lv_iconst (v := 0) hx hb dX0_scatter_1 (by decide) ?_
  refine lv_sipush (v := 2000) hx hb dX0_scatter_2 (by decide) ?_
  refine xr_pcall (As := [.int y, .int 0, .int 2000]) (rest := []) (nA := 3) C0 (p_within l y 0 2000 h1 h2) (gS wM_X0_X0_requireWithin wS_X0_requireWithin wN_X0 wC_X0_requireWithin) (by decide +kernel) rfl rfl rfl ⟨by decide, by decide⟩ hl.1 rfl (Nat.le_of_ble_eq_true rfl) dX0_scatter_5 ⟨Nat.zero_le _, Nat.zero_le _⟩ ?_
  refine lv_iload_n hx hb dX0_scatter_8 rfl (lv_at hl 2 rfl) ?_
  refine lv_iconst (v := 1) hx hb dX0_scatter_9 (by decide) ?_
  refine lv_bipush (v := 16) hx hb dX0_scatter_10 (by decide) ?_
  refine xr_pcall (As := [.int b, .int 1, .int 16]) (rest := []) (nA := 3) C0 (p_within l b 1 16 h3 h4) (gS wM_X0_X0_requireWithin wS_X0_requireWithin wN_X0 wC_X0_requireWithin) (by decide +kernel) rfl rfl rfl ⟨by decide, by decide⟩ hl.1 rfl (Nat.le_of_ble_eq_true rfl) dX0_scatter_12 ⟨Nat.zero_le _, Nat.zero_le _⟩ ?_
  refine lv_aload_n hx hb dX0_scatter_15 rfl (lv_at hl 0 rfl) ?_
  refine lv_iload_n hx hb dX0_scatter_16 rfl (lv_at hl 3 rfl) ?_
  exact xr_tcallV (As := [.int y]) (rest := []) (nA := 1) C0 (t_room l hl0 D q cI tyr wr n f g sf sg r y hn hbad) (gV wM_X0_X0_requireRoomFor wI_X0_requireRoomFor wV_X0_X0_requireRoomFor wN_X0 wC_X0_requireRoomFor) (by decide +kernel) rfl rfl rfl ⟨by decide, by decide⟩ hlk hout hK hP hZ 0 rfl rfl hl.1 rfl (Nat.le_of_ble_eq_true rfl) dX0_scatter_17 ⟨by decide, by decide⟩
