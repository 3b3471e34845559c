/-! One world for all: a contract speaks of the cells that the method knows, and of whatever cells stand beside them. -/
def xr_Pc (av : List Value) (D : va_G) (tys : List (ClassId × FieldType)) (ws : va_W) (sz : Nat) : Array Value → State → Prop := va_Pc av (fun U => U.heap.size = sz ∧ va_P D vwCl ws U.heap ∧ va_K D vwCl tys U ∧ va_D (fun _ => True) ws)
def xr_Q (D : va_G) (A : Nat → Prop) (post : Option Value → va_W → Prop) : Array Value → State → Outcome → State → Prop := fun _ st o t => (∃ (v : Option Value) (w : va_W), o = .returned v ∧ post v w ∧ va_P D vwCl w t.heap ∧ va_D A w) ∧ va_F A st t
abbrev xr_Met (l : Launch) (y : MethodName) (wsy : List Cond) (rm : Room) (av : List Value) (D : va_G) (tys : List (ClassId × FieldType)) (ws : va_W) (sz : Nat) (post : Option Value → va_W → Prop) (mc ms : Nat) : Prop := Met l y wsy rm (xr_Pc av D tys ws sz) (xr_Q D (va_A ws sz) post) mc ms (va_A ws sz)
theorem xr_blind {av : List Value} {D : va_G} {tys : List (ClassId × FieldType)} {ws : va_W} {sz : Nat} : FrameBlind (xr_Pc av D tys ws sz) := fun a U g mk q => by
  obtain ⟨q0, q1, qP, qK, qD⟩ := q
  exact ⟨q0, q1, qP, va_K.moved (u := U) (U := U.calling g mk a) (Vm.Alike.refl U.vm) qK, qD⟩
section XR
variable {p : Program} {l : Launch} {e : Env} {R : Room} {s : State} {m : MethodId} {args : Array Value} {below : List Frame} {meth : Method} {c : Code} {H : Heap} {locs : List Loc} {cells slots : Nat} {Q : State → Prop}
variable {D : va_G} {tys : List (ClassId × FieldType)} {A : Nat → Prop} {H0 : Heap} {ws : va_W}
theorem xr_call {mc ms pc : Nat} {ls : Array Slot} {st0 rest : List Value} {wc : va_W} {post : Option Value → va_W → Prop} {a : Array Value} (hr : va_Run p l e R s m args below meth c H locs cells slots mc ms (F0 m pc ls st0) rest (xr_Q D (va_A wc H.size) post a) (va_A wc H.size)) (hS : va_S A H0 H locs) (hf : ∀ q, va_A wc H.size q → A q)
    (kk : ∀ (v : Option Value) (w : va_W) (H1 : Heap) (locs1 : List Loc), post v w → va_P D vwCl w H1 → va_D A w → H.size ≤ H1.size → va_S A H0 H1 locs1 → W p l e R s m args below meth c H1 locs1 (cells + mc) (slots + ms) Q (F0 m (pc + 3) ls (v.toList ++ rest))) : W p l e R s m args below meth c H locs cells slots Q (F0 m pc ls st0) := by
  intro T hT X
  obtain ⟨v, st₀, t, T', L, h0, X', hL, e1, e2, ⟨⟨v', w, hv, hp, hP, hD⟩, hz, hk⟩, st⟩ := hr T hT X
  cases hv
  rw [h0] at hz hk
  obtain ⟨t2, a1, b1⟩ := kk v w T'.heap (locs ++ L) hp (by rw [e1]; exact hP) (hD.weaken (fun _ _ _ h => hf _ h)) (by rw [e1]; exact hz)
    ⟨Nat.le_trans hS.1 (by rw [e1]; exact hz), fun q h1 h2 => by rw [e1, hk q (Nat.lt_of_lt_of_le h1 hS.1) (fun z => h2 (hf q z))]; exact hS.2.1 q h1 h2, fun q hq => by
      rcases List.mem_append.mp hq with h | h
      · exact hS.2.2 q h
      · exact hf _ (hL q h)⟩ T' rfl X'
  exact ⟨t2, st t2 a1, b1⟩
/-- what a call of a contract with the same world asks -/
theorem xr_pre {av : List Value} (hP : va_P D vwCl ws H) (hK : va_K D vwCl tys s) (hD : va_D A ws) : ∀ U : State, U.heap = H → s.WarmedH U.vm → xr_Pc av D tys ws H.size av.toArray U :=
  fun U hU hW => ⟨rfl, by rw [hU], by rw [hU]; exact hP, va_K.moved hW.alike hK, hD.weaken (fun _ _ _ _ => trivial)⟩
theorem xr_free (hD : va_D A ws) (hS : va_S A H0 H locs) (hA : ∀ q, H0.size ≤ q → A q) : ∀ q, va_A ws H.size q → A q := by
  intro q hq
  rcases hq with ⟨k, e1, hk⟩ | hq
  · exact hD.2 k (q, e1) hk
  · exact hA q (Nat.le_trans hS.1 hq)
end XR
/-- a method's words: its code, and the tables' good words -/
abbrev wU (y : MethodName) (cc : ByteArray) (n : Nat) (ret : Option FieldType) : List Cond := Cond.code y cc n ret :: lw_w
theorem gU {a : List Cond} (h : ∀ w ∈ a, w ∈ lw_w) : GoodIn lw_w a := fun w hw => ⟨h w hw, good_of_word (lw_w_good w (h w hw))⟩
theorem gC {y : MethodName} {cc : ByteArray} {n : Nat} {ret : Option FieldType} (h : Cond.code y cc n ret ∈ lw_w) : ∀ w ∈ wU y cc n ret, w ∈ lw_w := fun w hw => (List.mem_cons.mp hw).elim (fun e => e ▸ h) id
theorem gV {own C : String} {idx : Nat} {y : MethodName} {cc : ByteArray} {n : Nat} {ret : Option FieldType} (h1 : Cond.methodLink own idx y ∈ lw_w) (h2 : Cond.instanceMethod y ∈ lw_w) (h3 : Cond.selects C y y ∈ lw_w) (h4 : Cond.initialized C ∈ lw_w) (h5 : Cond.code y cc n ret ∈ lw_w) : GoodIn lw_w (wsV own idx C y (wU y cc n ret)) := gU (fun w hw => by
  unfold wsV at hw
  rcases List.mem_append.mp hw with h | h
  · simp only [List.mem_cons, List.not_mem_nil, or_false] at h
    rcases h with rfl | rfl | rfl | rfl
    · exact h1
    · exact h2
    · exact h3
    · exact h4
  · exact gC h5 w h)
theorem gS {own : String} {idx : Nat} {y : MethodName} {cc : ByteArray} {n : Nat} {ret : Option FieldType} (h1 : Cond.methodLink own idx y ∈ lw_w) (h2 : Cond.static y ∈ lw_w) (h4 : Cond.initialized y.cls ∈ lw_w) (h5 : Cond.code y cc n ret ∈ lw_w) : GoodIn lw_w (va_wsS own idx y (wU y cc n ret)) := gU (fun w hw => by
  unfold va_wsS at hw
  rcases List.mem_append.mp hw with h | h
  · simp only [List.mem_cons, List.not_mem_nil, or_false] at h
    rcases h with rfl | rfl | rfl
    · exact h1
    · exact h2
    · exact h4
  · exact gC h5 w h)
theorem xr_start {l : Launch} {y : MethodName} {cc : ByteArray} {maxL : Nat} {ret : Option FieldType} {rm : Room} {av : List Value} {D : va_G} {tys : List (ClassId × FieldType)} {ws : va_W} {sz : Nat} {post : Option Value → va_W → Prop} {mc ms : Nat} (hy : plainName y.cls = true) (hlen : (lg_sl av).length ≤ maxL)
    (body : ∀ (p : Program) (e : Env) (s : State) (m : MethodId) (args : Array Value) (below : List Frame) (meth : Method) (c : Code) (A : Nat → Prop) (ls : Array Slot), CallFix p m c cc maxL s args lw_w y.cls → meth.locks = false → meth.sig.returnType = ret → meth.name = y.name → va_P D vwCl ws s.heap → va_K D vwCl tys s → va_D A ws → (∀ q, s.heap.size ≤ q → A q) → lv_has ls maxL (lv_args 0 av) →
      W p l e rm s m args below meth c s.heap [] 0 0 (MQ below (xr_Q D A post) args s mc ms A) (F0 m 0 ls [])) : xr_Met l y (wU y cc maxL ret) rm av D tys ws sz post mc ms := by
  refine Met.ofW (cc := cc) (maxL := maxL) (ret := ret) hy rfl ?_
  intro p e s m args below meth c s₁ B hml hv
  obtain ⟨rfl, hsz, hP, hK, hD0⟩ := hv
  have hts := atoms_spec (ws := wU y cc maxL ret) B.pre
  have hown : s.vm.findClass y.cls = some m.cls := findClass_of_methodNamed B.named
  subst hsz
  have hD := hD0.self (sz := s.heap.size)
  have hl := lv_entry av (n := maxL) hlen
  rw [lg_entry_eq]
  exact body p e s m _ below meth c _ _ ⟨B.exec, B.bytes, hml, hown, fun w hw => hts w (List.mem_cons_of_mem _ hw)⟩ B.notSynchronized B.returns (name_of_methodNamed B.named B.method).1 hP hK hD (fun q h => Or.inr h) hl
theorem xr_startQ {l : Launch} {y : MethodName} {cc : ByteArray} {maxL : Nat} {ret : Option FieldType} {rm : Room} {av : List Value} {D : va_G} {tys : List (ClassId × FieldType)} {ws : va_W} {sz : Nat} {post : Option Value → va_W → Prop} {mc ms : Nat} (hy : plainName y.cls = true) (hlen : (lg_sl av).length ≤ maxL)
    (body : ∀ (p : Program) (e : Env) (s : State) (m : MethodId) (args : Array Value) (below : List Frame) (meth : Method) (c : Code) (A : Nat → Prop) (ls : Array Slot) (Q : State → Prop), Q = MQ below (xr_Q D A post) args s mc ms A → CallFix p m c cc maxL s args lw_w y.cls → meth.locks = false → meth.sig.returnType = ret → va_P D vwCl ws s.heap → va_K D vwCl tys s → va_D A ws → (∀ q, s.heap.size ≤ q → A q) → lv_has ls maxL (lv_args 0 av) →
      W p l e rm s m args below meth c s.heap [] 0 0 Q (F0 m 0 ls [])) : xr_Met l y (wU y cc maxL ret) rm av D tys ws sz post mc ms :=
  xr_start hy hlen (fun p e s m args below meth c A ls C0 hlk hr _ hP hK hD hA hl => body p e s m args below meth c A ls _ rfl C0 hlk hr hP hK hD hA hl)
section XR2
variable {p : Program} {l : Launch} {e : Env} {R : Room} {s : State} {m : MethodId} {args : Array Value} {below : List Frame} {meth : Method} {c : Code} {H : Heap} {locs : List Loc} {cells slots : Nat} {Q : State → Prop}
variable {D : va_G} {tys : List (ClassId × FieldType)} {A : Nat → Prop} {ws : va_W} {cc : ByteArray} {nL pc : Nat} {own : String} {ls : Array Slot} {st0 rest : List Value}
theorem xr_top {x y : Int32} (h : x = y) (k : W p l e R s m args below meth c H locs cells slots Q (F0 m pc ls (.int y :: rest))) : W p l e R s m args below meth c H locs cells slots Q (F0 m pc ls (.int x :: rest)) := h ▸ k
theorem xr_topl {x y : Int64} (h : x = y) (k : W p l e R s m args below meth c H locs cells slots Q (F0 m pc ls (.long y :: rest))) : W p l e R s m args below meth c H locs cells slots Q (F0 m pc ls (.long x :: rest)) := h ▸ k
theorem xr_iret {post : Option Value → va_W → Prop} (C0 : CallFix p m c cc nL s args lw_w own) (hlk : meth.locks = false) (hr : meth.sig.returnType = some .int) {v : Int32} {w : va_W} (hpost : post (some (.int v)) w) (hP : va_P D vwCl w H) (hD : va_D A w) (hS : va_S A s.heap H locs) (hdg : decode cc pc = .ok (.ireturn, 1)) :
    W p l e R s m args below meth c H locs cells slots (MQ below (xr_Q D A post) args s cells slots A) (F0 m pc ls [.int v]) :=
  W.iret C0.1 C0.2.1 hr (fun t ht hW => ⟨⟨_, w, rfl, hpost, by rw [ht]; exact hP, hD⟩, hS.F ht⟩) hS.2.2 hdg hlk
theorem xr_vret {post : Option Value → va_W → Prop} (C0 : CallFix p m c cc nL s args lw_w own) (hlk : meth.locks = false) (hr : meth.sig.returnType = none) {w : va_W} (hpost : post none w) (hP : va_P D vwCl w H) (hD : va_D A w) (hS : va_S A s.heap H locs) (hdg : decode cc pc = .ok (.return_, 1)) :
    W p l e R s m args below meth c H locs cells slots (MQ below (xr_Q D A post) args s cells slots A) (F0 m pc ls []) :=
  W.vret C0.1 C0.2.1 hr (fun t ht hW => ⟨⟨_, w, rfl, hpost, by rw [ht]; exact hP, hD⟩, hS.F ht⟩) hS.2.2 hdg hlk
theorem xr_ald {tyr : List (ClassId × FieldType)} {cA : ClassId} {n : Nat} {f : Nat → Int32} {a : Nat} (C0 : CallFix p m c cc nL s args lw_w own) (hK : va_K D vwCl ((cA, .int) :: tyr) s) (hP : va_P D vwCl ws H) (q0 : Nat) (ha : ws[q0]? = some (a, .inl (cA, n, .inl f))) {j : Nat} (hj : j < n) (hn : n < 2 ^ 31) (hdg : decode cc pc = .ok (.iaload, 1))
    (kk : W p l e R s m args below meth c H locs cells slots Q (F0 m (pc + 1) ls (.int (f j) :: rest))) : W p l e R s m args below meth c H locs cells slots Q (F0 m pc ls (.int (nI j) :: .ref a :: rest)) :=
  va_iald C0.1 C0.2.1 hK hP q0 0 ha rfl (vp_in_nI hj hn) hdg (by rw [nI_clamp (Nat.lt_trans hj hn)]; exact kk)
theorem xr_ast {tyr : List (ClassId × FieldType)} {cA : ClassId} {n : Nat} {f : Nat → Int32} {a : Nat} (C0 : CallFix p m c cc nL s args lw_w own) (hK : va_K D vwCl ((cA, .int) :: tyr) s) (hP : va_P D vwCl ws H) (hD : va_D A ws) (hS : va_S A s.heap H locs) (q0 : Nat) (ha : ws[q0]? = some (a, .inl (cA, n, .inl f))) {j : Nat} {x : Int32} (hj : j < n) (hn : n < 2 ^ 31) (hdg : decode cc pc = .ok (.iastore, 1))
    (kk : ∀ (H1 : Heap) (locs1 : List Loc), va_P D vwCl (ws.set q0 (a, .inl (cA, n, .inl (upd f j x)))) H1 → va_D A (ws.set q0 (a, .inl (cA, n, .inl (upd f j x)))) → va_S A s.heap H1 locs1 → W p l e R s m args below meth c H1 locs1 cells slots Q (F0 m (pc + 1) ls rest)) : W p l e R s m args below meth c H locs cells slots Q (F0 m pc ls (.int x :: .int (nI j) :: .ref a :: rest)) :=
  va_iast C0.1 C0.2.1 hK hP hD hS q0 0 ha rfl (vp_in_nI hj hn) hdg (by rw [nI_clamp (Nat.lt_trans hj hn)]; exact kk)
/-- a call of an instance method, its world the caller's own -/
theorem xr_vcall {ci idx maxL mc ms N b nA : Nat} {C : String} {T : u_T} {y : MethodName} {bytes : ByteArray} {ret : Option FieldType} {rm : Room} {As : List Value} {fs : List Value} {post : Option Value → va_W → Prop}
    (C0 : CallFix p m c cc nL s args lw_w own) (hM : xr_Met l y (wU y bytes maxL ret) rm (.ref b :: As) D tys ws H.size post mc ms)
    (hg : GoodIn lw_w (wsV own idx C y (wU y bytes maxL ret)))
    (hd : y.cls = C ∧ y.cls ≠ "java/lang/invoke/MethodHandle" ∧ y.cls ≠ "java/lang/invoke/VarHandle" ∧ (parseMethodDescriptor y.desc).map (fun d => d.parameters.length) = some nA) (hnA : As.length = nA)
    (hrc : rm.cells = mc) (hrs : rm.slots = ms) (hR : rm.frames + 1 ≤ R.frames ∧ 8 + (maxL + 11) + rm.locals ≤ R.locals)
    (hK : va_K D vwCl tys s) (hP : va_P D vwCl ws H) (hD : va_D A ws) (hS : va_S A s.heap H locs) (hA : ∀ q, s.heap.size ≤ q → A q) (q0 : Nat) (he : ws[q0]? = some (b, .inr (ci, fs))) (hc : vwCl[ci]? = some (C, T, N))
    (hls : ls.size = nL) (hst : st0 = As.reverse ++ .ref b :: rest) (hW : (rest.map fun v => v.category).sum ≤ 8) (hdg : decode cc pc = .ok (.invokevirtual idx, 3)) (hcs : cells + mc ≤ R.cells ∧ slots + ms ≤ R.slots)
    (kk : ∀ (v : Option Value) (w : va_W) (H1 : Heap) (locs1 : List Loc), post v w → va_P D vwCl w H1 → va_D A w → H.size ≤ H1.size → va_S A s.heap H1 locs1 → W p l e R s m args below meth c H1 locs1 (cells + mc) (slots + ms) Q (F0 m (pc + 3) ls (v.toList ++ rest))) : W p l e R s m args below meth c H locs cells slots Q (F0 m pc ls st0) :=
  xr_call (va_runV (n := nA) C0 hM (cwV nA C0.2.2.2.2 hg rfl hrc hrs hd hR) ⟨xr_blind, va_recv hK hP hc he, xr_pre (av := .ref b :: As) hP hK hD⟩ rfl hnA hls hst (lv_room hW) hdg hcs) hS (xr_free hD hS hA) kk
theorem xr_scall {idx maxL mc ms nA : Nat} {y : MethodName} {bytes : ByteArray} {ret : Option FieldType} {rm : Room} {As : List Value} {post : Option Value → va_W → Prop}
    (C0 : CallFix p m c cc nL s args lw_w own) (hM : xr_Met l y (wU y bytes maxL ret) rm As D tys ws H.size post mc ms)
    (hg : GoodIn lw_w (va_wsS own idx y (wU y bytes maxL ret)))
    (hd : y.cls ≠ "java/lang/invoke/MethodHandle" ∧ y.cls ≠ "java/lang/invoke/VarHandle" ∧ (parseMethodDescriptor y.desc).map (fun d => d.parameters.length) = some nA) (hnA : As.length = nA)
    (hrc : rm.cells = mc) (hrs : rm.slots = ms) (hR : rm.frames + 1 ≤ R.frames ∧ 8 + (maxL + 11) + rm.locals ≤ R.locals)
    (hK : va_K D vwCl tys s) (hP : va_P D vwCl ws H) (hD : va_D A ws) (hS : va_S A s.heap H locs) (hA : ∀ q, s.heap.size ≤ q → A q)
    (hls : ls.size = nL) (hst : st0 = As.reverse ++ rest) (hW : (rest.map fun v => v.category).sum ≤ 8) (hdg : decode cc pc = .ok (.invokestatic idx, 3)) (hcs : cells + mc ≤ R.cells ∧ slots + ms ≤ R.slots)
    (kk : ∀ (v : Option Value) (w : va_W) (H1 : Heap) (locs1 : List Loc), post v w → va_P D vwCl w H1 → va_D A w → H.size ≤ H1.size → va_S A s.heap H1 locs1 → W p l e R s m args below meth c H1 locs1 (cells + mc) (slots + ms) Q (F0 m (pc + 3) ls (v.toList ++ rest))) : W p l e R s m args below meth c H locs cells slots Q (F0 m pc ls st0) :=
  xr_call (va_runS (n := nA) C0 hM (va_cwS nA C0.2.2.2.2 hg rfl hrc hrs hd hR) ⟨xr_blind, xr_pre (av := As) hP hK hD⟩ rfl hnA hls hst (lv_room hW) hdg hcs) hS (xr_free hD hS hA) kk
end XR2
section XG
variable {p : Program} {l : Launch} {e : Env} {R : Room} {s : State} {m : MethodId} {args : Array Value} {below : List Frame} {meth : Method} {c : Code} {H : Heap} {locs : List Loc} {cells slots : Nat} {Q : State → Prop}
variable {D : va_G} {tys : List (ClassId × FieldType)} {A : Nat → Prop} {ws : va_W} {cc : ByteArray} {nL pc : Nat} {own : String} {ls : Array Slot} {st0 rest : List Value}
variable {a : Nat} {fs : List Value}
theorem x0_get_numbers (C0 : CallFix p m c cc nL s args lw_w RX0) (hK : va_K D vwCl tys s) (hP : va_P D vwCl ws H) (q0 : Nat) (he : ws[q0]? = some (a, .inr (0, fs))) {v : Value} (hv : fs[0]? = some v) (hdg : decode cc pc = .ok (.getfield 9, 3))
    (kk : W p l e R s m args below meth c H locs cells slots Q (F0 m (pc + 3) ls (v :: rest))) : W p l e R s m args below meth c H locs cells slots Q (F0 m pc ls (.ref a :: rest)) :=
  va_get (ci := 0) (C := RX0) (T := TX0) (N := 6) C0.1 C0.2.1 C0.2.2.2.2 in_X0 C0.2.2.2.1 hK hP q0 he rfl 0 (by decide) (C0.2.2.2.2 _ wF_X0_numbers) (fun _ h => h) hv hdg kk
theorem x0_putF_numbers (C0 : CallFix p m c cc nL s args lw_w RX0) (hin : meth.name = "<init>") (hK : va_K D vwCl tys s) (hP : va_P D vwCl ws H) (hD : va_D A ws) (hS : va_S A s.heap H locs) (q0 : Nat) (he : ws[q0]? = some (a, .inr (0, fs))) {v : Nat} (hl : 0 < fs.length) (hdg : decode cc pc = .ok (.putfield 9, 3))
    (kk : ∀ (H1 : Heap) (locs1 : List Loc), va_P D vwCl (ws.set q0 (a, .inr (0, fs.set 0 (.ref v)))) H1 → va_D A (ws.set q0 (a, .inr (0, fs.set 0 (.ref v)))) → va_S A s.heap H1 locs1 → W p l e R s m args below meth c H1 locs1 cells slots Q (F0 m (pc + 3) ls rest)) : W p l e R s m args below meth c H locs cells slots Q (F0 m pc ls (.ref v :: .ref a :: rest)) :=
  va_putF (ci := 0) (C := RX0) (T := TX0) (N := 6) C0.1 C0.2.1 C0.2.2.2.2 in_X0 tyX0 tyX0_ok nmX0 C0.2.2.2.1 hK hP hD hS q0 he rfl 0 (by decide) (C0.2.2.2.2 _ wF_X0_numbers) (fun _ h => h) rfl hin rfl (ty := .array .int) (by decide +kernel) rfl rfl hl hdg kk
theorem x0_get_tags (C0 : CallFix p m c cc nL s args lw_w RX0) (hK : va_K D vwCl tys s) (hP : va_P D vwCl ws H) (q0 : Nat) (he : ws[q0]? = some (a, .inr (0, fs))) {v : Value} (hv : fs[1]? = some v) (hdg : decode cc pc = .ok (.getfield 13, 3))
    (kk : W p l e R s m args below meth c H locs cells slots Q (F0 m (pc + 3) ls (v :: rest))) : W p l e R s m args below meth c H locs cells slots Q (F0 m pc ls (.ref a :: rest)) :=
  va_get (ci := 0) (C := RX0) (T := TX0) (N := 6) C0.1 C0.2.1 C0.2.2.2.2 in_X0 C0.2.2.2.1 hK hP q0 he rfl 1 (by decide) (C0.2.2.2.2 _ wF_X0_tags) (fun _ h => h) hv hdg kk
theorem x0_putF_tags (C0 : CallFix p m c cc nL s args lw_w RX0) (hin : meth.name = "<init>") (hK : va_K D vwCl tys s) (hP : va_P D vwCl ws H) (hD : va_D A ws) (hS : va_S A s.heap H locs) (q0 : Nat) (he : ws[q0]? = some (a, .inr (0, fs))) {v : Nat} (hl : 1 < fs.length) (hdg : decode cc pc = .ok (.putfield 13, 3))
    (kk : ∀ (H1 : Heap) (locs1 : List Loc), va_P D vwCl (ws.set q0 (a, .inr (0, fs.set 1 (.ref v)))) H1 → va_D A (ws.set q0 (a, .inr (0, fs.set 1 (.ref v)))) → va_S A s.heap H1 locs1 → W p l e R s m args below meth c H1 locs1 cells slots Q (F0 m (pc + 3) ls rest)) : W p l e R s m args below meth c H locs cells slots Q (F0 m pc ls (.ref v :: .ref a :: rest)) :=
  va_putF (ci := 0) (C := RX0) (T := TX0) (N := 6) C0.1 C0.2.1 C0.2.2.2.2 in_X0 tyX0 tyX0_ok nmX0 C0.2.2.2.1 hK hP hD hS q0 he rfl 1 (by decide) (C0.2.2.2.2 _ wF_X0_tags) (fun _ h => h) rfl hin rfl (ty := .array .int) (by decide +kernel) rfl rfl hl hdg kk
theorem x0_get_size (C0 : CallFix p m c cc nL s args lw_w RX0) (hK : va_K D vwCl tys s) (hP : va_P D vwCl ws H) (q0 : Nat) (he : ws[q0]? = some (a, .inr (0, fs))) {v : Value} (hv : fs[2]? = some v) (hdg : decode cc pc = .ok (.getfield 16, 3))
    (kk : W p l e R s m args below meth c H locs cells slots Q (F0 m (pc + 3) ls (v :: rest))) : W p l e R s m args below meth c H locs cells slots Q (F0 m pc ls (.ref a :: rest)) :=
  va_get (ci := 0) (C := RX0) (T := TX0) (N := 6) C0.1 C0.2.1 C0.2.2.2.2 in_X0 C0.2.2.2.1 hK hP q0 he rfl 2 (by decide) (C0.2.2.2.2 _ wF_X0_size) (fun _ h => h) hv hdg kk
theorem x0_put_size (C0 : CallFix p m c cc nL s args lw_w RX0) (hK : va_K D vwCl tys s) (hP : va_P D vwCl ws H) (hD : va_D A ws) (hS : va_S A s.heap H locs) (q0 : Nat) (he : ws[q0]? = some (a, .inr (0, fs))) {v : Int32} (hl : 2 < fs.length) (hdg : decode cc pc = .ok (.putfield 16, 3))
    (kk : ∀ (H1 : Heap) (locs1 : List Loc), va_P D vwCl (ws.set q0 (a, .inr (0, fs.set 2 (.int v)))) H1 → va_D A (ws.set q0 (a, .inr (0, fs.set 2 (.int v)))) → va_S A s.heap H1 locs1 → W p l e R s m args below meth c H1 locs1 cells slots Q (F0 m (pc + 3) ls rest)) : W p l e R s m args below meth c H locs cells slots Q (F0 m pc ls (.int v :: .ref a :: rest)) :=
  va_put (ci := 0) (C := RX0) (T := TX0) (N := 6) C0.1 C0.2.1 C0.2.2.2.2 in_X0 tyX0 tyX0_ok nmX0 C0.2.2.2.1 hK hP hD hS q0 he rfl 2 (by decide) (C0.2.2.2.2 _ wF_X0_size) (fun _ h => h) rfl (ty := .int) (by decide +kernel) rfl rfl hl hdg kk
theorem x0_get_spareNumbers (C0 : CallFix p m c cc nL s args lw_w RX0) (hK : va_K D vwCl tys s) (hP : va_P D vwCl ws H) (q0 : Nat) (he : ws[q0]? = some (a, .inr (0, fs))) {v : Value} (hv : fs[3]? = some v) (hdg : decode cc pc = .ok (.getfield 20, 3))
    (kk : W p l e R s m args below meth c H locs cells slots Q (F0 m (pc + 3) ls (v :: rest))) : W p l e R s m args below meth c H locs cells slots Q (F0 m pc ls (.ref a :: rest)) :=
  va_get (ci := 0) (C := RX0) (T := TX0) (N := 6) C0.1 C0.2.1 C0.2.2.2.2 in_X0 C0.2.2.2.1 hK hP q0 he rfl 3 (by decide) (C0.2.2.2.2 _ wF_X0_spareNumbers) (fun _ h => h) hv hdg kk
theorem x0_putF_spareNumbers (C0 : CallFix p m c cc nL s args lw_w RX0) (hin : meth.name = "<init>") (hK : va_K D vwCl tys s) (hP : va_P D vwCl ws H) (hD : va_D A ws) (hS : va_S A s.heap H locs) (q0 : Nat) (he : ws[q0]? = some (a, .inr (0, fs))) {v : Nat} (hl : 3 < fs.length) (hdg : decode cc pc = .ok (.putfield 20, 3))
    (kk : ∀ (H1 : Heap) (locs1 : List Loc), va_P D vwCl (ws.set q0 (a, .inr (0, fs.set 3 (.ref v)))) H1 → va_D A (ws.set q0 (a, .inr (0, fs.set 3 (.ref v)))) → va_S A s.heap H1 locs1 → W p l e R s m args below meth c H1 locs1 cells slots Q (F0 m (pc + 3) ls rest)) : W p l e R s m args below meth c H locs cells slots Q (F0 m pc ls (.ref v :: .ref a :: rest)) :=
  va_putF (ci := 0) (C := RX0) (T := TX0) (N := 6) C0.1 C0.2.1 C0.2.2.2.2 in_X0 tyX0 tyX0_ok nmX0 C0.2.2.2.1 hK hP hD hS q0 he rfl 3 (by decide) (C0.2.2.2.2 _ wF_X0_spareNumbers) (fun _ h => h) rfl hin rfl (ty := .array .int) (by decide +kernel) rfl rfl hl hdg kk
theorem x0_get_spareTags (C0 : CallFix p m c cc nL s args lw_w RX0) (hK : va_K D vwCl tys s) (hP : va_P D vwCl ws H) (q0 : Nat) (he : ws[q0]? = some (a, .inr (0, fs))) {v : Value} (hv : fs[4]? = some v) (hdg : decode cc pc = .ok (.getfield 23, 3))
    (kk : W p l e R s m args below meth c H locs cells slots Q (F0 m (pc + 3) ls (v :: rest))) : W p l e R s m args below meth c H locs cells slots Q (F0 m pc ls (.ref a :: rest)) :=
  va_get (ci := 0) (C := RX0) (T := TX0) (N := 6) C0.1 C0.2.1 C0.2.2.2.2 in_X0 C0.2.2.2.1 hK hP q0 he rfl 4 (by decide) (C0.2.2.2.2 _ wF_X0_spareTags) (fun _ h => h) hv hdg kk
theorem x0_putF_spareTags (C0 : CallFix p m c cc nL s args lw_w RX0) (hin : meth.name = "<init>") (hK : va_K D vwCl tys s) (hP : va_P D vwCl ws H) (hD : va_D A ws) (hS : va_S A s.heap H locs) (q0 : Nat) (he : ws[q0]? = some (a, .inr (0, fs))) {v : Nat} (hl : 4 < fs.length) (hdg : decode cc pc = .ok (.putfield 23, 3))
    (kk : ∀ (H1 : Heap) (locs1 : List Loc), va_P D vwCl (ws.set q0 (a, .inr (0, fs.set 4 (.ref v)))) H1 → va_D A (ws.set q0 (a, .inr (0, fs.set 4 (.ref v)))) → va_S A s.heap H1 locs1 → W p l e R s m args below meth c H1 locs1 cells slots Q (F0 m (pc + 3) ls rest)) : W p l e R s m args below meth c H locs cells slots Q (F0 m pc ls (.ref v :: .ref a :: rest)) :=
  va_putF (ci := 0) (C := RX0) (T := TX0) (N := 6) C0.1 C0.2.1 C0.2.2.2.2 in_X0 tyX0 tyX0_ok nmX0 C0.2.2.2.1 hK hP hD hS q0 he rfl 4 (by decide) (C0.2.2.2.2 _ wF_X0_spareTags) (fun _ h => h) rfl hin rfl (ty := .array .int) (by decide +kernel) rfl rfl hl hdg kk
theorem x0_get_runStarts (C0 : CallFix p m c cc nL s args lw_w RX0) (hK : va_K D vwCl tys s) (hP : va_P D vwCl ws H) (q0 : Nat) (he : ws[q0]? = some (a, .inr (0, fs))) {v : Value} (hv : fs[5]? = some v) (hdg : decode cc pc = .ok (.getfield 26, 3))
    (kk : W p l e R s m args below meth c H locs cells slots Q (F0 m (pc + 3) ls (v :: rest))) : W p l e R s m args below meth c H locs cells slots Q (F0 m pc ls (.ref a :: rest)) :=
  va_get (ci := 0) (C := RX0) (T := TX0) (N := 6) C0.1 C0.2.1 C0.2.2.2.2 in_X0 C0.2.2.2.1 hK hP q0 he rfl 5 (by decide) (C0.2.2.2.2 _ wF_X0_runStarts) (fun _ h => h) hv hdg kk
theorem x0_putF_runStarts (C0 : CallFix p m c cc nL s args lw_w RX0) (hin : meth.name = "<init>") (hK : va_K D vwCl tys s) (hP : va_P D vwCl ws H) (hD : va_D A ws) (hS : va_S A s.heap H locs) (q0 : Nat) (he : ws[q0]? = some (a, .inr (0, fs))) {v : Nat} (hl : 5 < fs.length) (hdg : decode cc pc = .ok (.putfield 26, 3))
    (kk : ∀ (H1 : Heap) (locs1 : List Loc), va_P D vwCl (ws.set q0 (a, .inr (0, fs.set 5 (.ref v)))) H1 → va_D A (ws.set q0 (a, .inr (0, fs.set 5 (.ref v)))) → va_S A s.heap H1 locs1 → W p l e R s m args below meth c H1 locs1 cells slots Q (F0 m (pc + 3) ls rest)) : W p l e R s m args below meth c H locs cells slots Q (F0 m pc ls (.ref v :: .ref a :: rest)) :=
  va_putF (ci := 0) (C := RX0) (T := TX0) (N := 6) C0.1 C0.2.1 C0.2.2.2.2 in_X0 tyX0 tyX0_ok nmX0 C0.2.2.2.1 hK hP hD hS q0 he rfl 5 (by decide) (C0.2.2.2.2 _ wF_X0_runStarts) (fun _ h => h) rfl hin rfl (ty := .array .int) (by decide +kernel) rfl rfl hl hdg kk
theorem x1_get_failed (C0 : CallFix p m c cc nL s args lw_w RX1) (hK : va_K D vwCl tys s) (hP : va_P D vwCl ws H) (q0 : Nat) (he : ws[q0]? = some (a, .inr (1, fs))) {v : Value} (hv : fs[0]? = some v) (hdg : decode cc pc = .ok (.getfield 16, 3))
    (kk : W p l e R s m args below meth c H locs cells slots Q (F0 m (pc + 3) ls (v :: rest))) : W p l e R s m args below meth c H locs cells slots Q (F0 m pc ls (.ref a :: rest)) :=
  va_get (ci := 1) (C := RX1) (T := TX1) (N := 4) C0.1 C0.2.1 C0.2.2.2.2 in_X1 C0.2.2.2.1 hK hP q0 he rfl 0 (by decide) (C0.2.2.2.2 _ wF_X1_failed) (fun _ h => h) hv hdg kk
theorem x1_put_failed (C0 : CallFix p m c cc nL s args lw_w RX1) (hK : va_K D vwCl tys s) (hP : va_P D vwCl ws H) (hD : va_D A ws) (hS : va_S A s.heap H locs) (q0 : Nat) (he : ws[q0]? = some (a, .inr (1, fs))) {v : Int32} (hl : 0 < fs.length) (hdg : decode cc pc = .ok (.putfield 16, 3))
    (kk : ∀ (H1 : Heap) (locs1 : List Loc), va_P D vwCl (ws.set q0 (a, .inr (1, fs.set 0 (.int v)))) H1 → va_D A (ws.set q0 (a, .inr (1, fs.set 0 (.int v)))) → va_S A s.heap H1 locs1 → W p l e R s m args below meth c H1 locs1 cells slots Q (F0 m (pc + 3) ls rest)) : W p l e R s m args below meth c H locs cells slots Q (F0 m pc ls (.int v :: .ref a :: rest)) :=
  va_put (ci := 1) (C := RX1) (T := TX1) (N := 4) C0.1 C0.2.1 C0.2.2.2.2 in_X1 tyX1 tyX1_ok nmX1 C0.2.2.2.1 hK hP hD hS q0 he rfl 0 (by decide) (C0.2.2.2.2 _ wF_X1_failed) (fun _ h => h) rfl (ty := .int) (by decide +kernel) rfl rfl hl hdg kk
theorem x1_get_size (C0 : CallFix p m c cc nL s args lw_w RX1) (hK : va_K D vwCl tys s) (hP : va_P D vwCl ws H) (q0 : Nat) (he : ws[q0]? = some (a, .inr (1, fs))) {v : Value} (hv : fs[1]? = some v) (hdg : decode cc pc = .ok (.getfield 21, 3))
    (kk : W p l e R s m args below meth c H locs cells slots Q (F0 m (pc + 3) ls (v :: rest))) : W p l e R s m args below meth c H locs cells slots Q (F0 m pc ls (.ref a :: rest)) :=
  va_get (ci := 1) (C := RX1) (T := TX1) (N := 4) C0.1 C0.2.1 C0.2.2.2.2 in_X1 C0.2.2.2.1 hK hP q0 he rfl 1 (by decide) (C0.2.2.2.2 _ wF_X1_size) (fun _ h => h) hv hdg kk
theorem x1_put_size (C0 : CallFix p m c cc nL s args lw_w RX1) (hK : va_K D vwCl tys s) (hP : va_P D vwCl ws H) (hD : va_D A ws) (hS : va_S A s.heap H locs) (q0 : Nat) (he : ws[q0]? = some (a, .inr (1, fs))) {v : Int32} (hl : 1 < fs.length) (hdg : decode cc pc = .ok (.putfield 21, 3))
    (kk : ∀ (H1 : Heap) (locs1 : List Loc), va_P D vwCl (ws.set q0 (a, .inr (1, fs.set 1 (.int v)))) H1 → va_D A (ws.set q0 (a, .inr (1, fs.set 1 (.int v)))) → va_S A s.heap H1 locs1 → W p l e R s m args below meth c H1 locs1 cells slots Q (F0 m (pc + 3) ls rest)) : W p l e R s m args below meth c H locs cells slots Q (F0 m pc ls (.int v :: .ref a :: rest)) :=
  va_put (ci := 1) (C := RX1) (T := TX1) (N := 4) C0.1 C0.2.1 C0.2.2.2.2 in_X1 tyX1 tyX1_ok nmX1 C0.2.2.2.1 hK hP hD hS q0 he rfl 1 (by decide) (C0.2.2.2.2 _ wF_X1_size) (fun _ h => h) rfl (ty := .int) (by decide +kernel) rfl rfl hl hdg kk
theorem x1_get_row (C0 : CallFix p m c cc nL s args lw_w RX1) (hK : va_K D vwCl tys s) (hP : va_P D vwCl ws H) (q0 : Nat) (he : ws[q0]? = some (a, .inr (1, fs))) {v : Value} (hv : fs[2]? = some v) (hdg : decode cc pc = .ok (.getfield 7, 3))
    (kk : W p l e R s m args below meth c H locs cells slots Q (F0 m (pc + 3) ls (v :: rest))) : W p l e R s m args below meth c H locs cells slots Q (F0 m pc ls (.ref a :: rest)) :=
  va_get (ci := 1) (C := RX1) (T := TX1) (N := 4) C0.1 C0.2.1 C0.2.2.2.2 in_X1 C0.2.2.2.1 hK hP q0 he rfl 2 (by decide) (C0.2.2.2.2 _ wF_X1_row) (fun _ h => h) hv hdg kk
theorem x1_putF_row (C0 : CallFix p m c cc nL s args lw_w RX1) (hin : meth.name = "<init>") (hK : va_K D vwCl tys s) (hP : va_P D vwCl ws H) (hD : va_D A ws) (hS : va_S A s.heap H locs) (q0 : Nat) (he : ws[q0]? = some (a, .inr (1, fs))) {v : Nat} (hl : 2 < fs.length) (hdg : decode cc pc = .ok (.putfield 7, 3))
    (kk : ∀ (H1 : Heap) (locs1 : List Loc), va_P D vwCl (ws.set q0 (a, .inr (1, fs.set 2 (.ref v)))) H1 → va_D A (ws.set q0 (a, .inr (1, fs.set 2 (.ref v)))) → va_S A s.heap H1 locs1 → W p l e R s m args below meth c H1 locs1 cells slots Q (F0 m (pc + 3) ls rest)) : W p l e R s m args below meth c H locs cells slots Q (F0 m pc ls (.ref v :: .ref a :: rest)) :=
  va_putF (ci := 1) (C := RX1) (T := TX1) (N := 4) C0.1 C0.2.1 C0.2.2.2.2 in_X1 tyX1 tyX1_ok nmX1 C0.2.2.2.1 hK hP hD hS q0 he rfl 2 (by decide) (C0.2.2.2.2 _ wF_X1_row) (fun _ h => h) rfl hin rfl (ty := .array .int) (by decide +kernel) rfl rfl hl hdg kk
theorem x1_get_tags (C0 : CallFix p m c cc nL s args lw_w RX1) (hK : va_K D vwCl tys s) (hP : va_P D vwCl ws H) (q0 : Nat) (he : ws[q0]? = some (a, .inr (1, fs))) {v : Value} (hv : fs[3]? = some v) (hdg : decode cc pc = .ok (.getfield 13, 3))
    (kk : W p l e R s m args below meth c H locs cells slots Q (F0 m (pc + 3) ls (v :: rest))) : W p l e R s m args below meth c H locs cells slots Q (F0 m pc ls (.ref a :: rest)) :=
  va_get (ci := 1) (C := RX1) (T := TX1) (N := 4) C0.1 C0.2.1 C0.2.2.2.2 in_X1 C0.2.2.2.1 hK hP q0 he rfl 3 (by decide) (C0.2.2.2.2 _ wF_X1_tags) (fun _ h => h) hv hdg kk
theorem x1_putF_tags (C0 : CallFix p m c cc nL s args lw_w RX1) (hin : meth.name = "<init>") (hK : va_K D vwCl tys s) (hP : va_P D vwCl ws H) (hD : va_D A ws) (hS : va_S A s.heap H locs) (q0 : Nat) (he : ws[q0]? = some (a, .inr (1, fs))) {v : Nat} (hl : 3 < fs.length) (hdg : decode cc pc = .ok (.putfield 13, 3))
    (kk : ∀ (H1 : Heap) (locs1 : List Loc), va_P D vwCl (ws.set q0 (a, .inr (1, fs.set 3 (.ref v)))) H1 → va_D A (ws.set q0 (a, .inr (1, fs.set 3 (.ref v)))) → va_S A s.heap H1 locs1 → W p l e R s m args below meth c H1 locs1 cells slots Q (F0 m (pc + 3) ls rest)) : W p l e R s m args below meth c H locs cells slots Q (F0 m pc ls (.ref v :: .ref a :: rest)) :=
  va_putF (ci := 1) (C := RX1) (T := TX1) (N := 4) C0.1 C0.2.1 C0.2.2.2.2 in_X1 tyX1 tyX1_ok nmX1 C0.2.2.2.1 hK hP hD hS q0 he rfl 3 (by decide) (C0.2.2.2.2 _ wF_X1_tags) (fun _ h => h) rfl hin rfl (ty := .array .int) (by decide +kernel) rfl rfl hl hdg kk
end XG
/-- the class's cells: the object, its five rows -/
abbrev rs_X (q : Nat → Nat) (cI : ClassId) (n : Nat) (f g sf sg r : Nat → Int32) : va_W :=
  [(q 0, .inr (0, [.ref (q 1), .ref (q 2), .int (nI n), .ref (q 3), .ref (q 4), .ref (q 5)])), (q 1, .inl (cI, 2000, .inl f)), (q 2, .inl (cI, 2000, .inl g)), (q 3, .inl (cI, 2000, .inl sf)), (q 4, .inl (cI, 2000, .inl sg)), (q 5, .inl (cI, 2001, .inl r))]
/-- the reference's cells: the object, its two rows -/
abbrev rs_M (q : Nat → Nat) (cI : ClassId) (k : Int32) (n : Nat) (f g : Nat → Int32) : va_W :=
  [(q 0, .inr (1, [.int k, .int (nI n), .ref (q 1), .ref (q 2)])), (q 1, .inl (cI, 2000, .inl f)), (q 2, .inl (cI, 2000, .inl g))]
abbrev rs_ty (cI : ClassId) (tyr : List (ClassId × FieldType)) : List (ClassId × FieldType) := (cI, .int) :: tyr
