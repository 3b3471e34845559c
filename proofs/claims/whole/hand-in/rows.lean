section
-- ===== PART A: goes FIRST, ahead of the names: the tables' words, and 'selects' of the private methods out of them =====
/-- a private method of a class that the tables say can be made, by its rows of tables_1 -/
def lw_okq (q : MethodName × Nat) : Prop := (q.1.cls ≠ "java/lang/invoke/MethodHandle" ∧ q.1.cls ≠ "java/lang/invoke/VarHandle") ∧ Cond.instantiable q.1.cls q.2 ∈ tables_1 ∧ Cond.privateMethod q.1 ∈ tables_1 ∧ Cond.instanceMethod q.1 ∈ tables_1
theorem lw_p0 : lw_okq (⟨"java/lang/Throwable", "fillInStackTrace", "(I)Ljava/lang/Throwable;"⟩, 6) := ⟨⟨by decide +kernel, by decide +kernel⟩, List.mem_of_getElem? (i := 96) (by decide +kernel), List.mem_of_getElem? (i := 94) (by decide +kernel), List.mem_of_getElem? (i := 95) (by decide +kernel)⟩
theorem lw_p1 : lw_okq (⟨"RunSorter", "requireRoomFor", "(I)V"⟩, 6) := ⟨⟨by decide +kernel, by decide +kernel⟩, List.mem_of_getElem? (i := 11) (by decide +kernel), List.mem_of_getElem? (i := 126) (by decide +kernel), List.mem_of_getElem? (i := 127) (by decide +kernel)⟩
theorem lw_p2 : lw_okq (⟨"RunSorter", "append", "(I)V"⟩, 6) := ⟨⟨by decide +kernel, by decide +kernel⟩, List.mem_of_getElem? (i := 11) (by decide +kernel), List.mem_of_getElem? (i := 146) (by decide +kernel), List.mem_of_getElem? (i := 147) (by decide +kernel)⟩
theorem lw_p3 : lw_okq (⟨"RunSorter", "requirePart", "(II)V"⟩, 6) := ⟨⟨by decide +kernel, by decide +kernel⟩, List.mem_of_getElem? (i := 11) (by decide +kernel), List.mem_of_getElem? (i := 169) (by decide +kernel), List.mem_of_getElem? (i := 170) (by decide +kernel)⟩
theorem lw_p4 : lw_okq (⟨"RunSorter", "findRuns", "(III)I"⟩, 6) := ⟨⟨by decide +kernel, by decide +kernel⟩, List.mem_of_getElem? (i := 11) (by decide +kernel), List.mem_of_getElem? (i := 173) (by decide +kernel), List.mem_of_getElem? (i := 174) (by decide +kernel)⟩
theorem lw_p5 : lw_okq (⟨"RunSorter", "mergePairsOfRuns", "(II)V"⟩, 6) := ⟨⟨by decide +kernel, by decide +kernel⟩, List.mem_of_getElem? (i := 11) (by decide +kernel), List.mem_of_getElem? (i := 181) (by decide +kernel), List.mem_of_getElem? (i := 182) (by decide +kernel)⟩
theorem lw_p6 : lw_okq (⟨"RunSorter", "merge", "(IIII)V"⟩, 6) := ⟨⟨by decide +kernel, by decide +kernel⟩, List.mem_of_getElem? (i := 11) (by decide +kernel), List.mem_of_getElem? (i := 185) (by decide +kernel), List.mem_of_getElem? (i := 186) (by decide +kernel)⟩
theorem lw_p7 : lw_okq (⟨"RunSorter", "requireIndex", "(I)V"⟩, 6) := ⟨⟨by decide +kernel, by decide +kernel⟩, List.mem_of_getElem? (i := 11) (by decide +kernel), List.mem_of_getElem? (i := 202) (by decide +kernel), List.mem_of_getElem? (i := 203) (by decide +kernel)⟩
theorem lw_p8 : lw_okq (⟨"RunSorter", "swap", "(II)V"⟩, 6) := ⟨⟨by decide +kernel, by decide +kernel⟩, List.mem_of_getElem? (i := 11) (by decide +kernel), List.mem_of_getElem? (i := 228) (by decide +kernel), List.mem_of_getElem? (i := 229) (by decide +kernel)⟩
theorem lw_p9 : lw_okq (⟨"RunSorterModel", "fail", "(I)I"⟩, 4) := ⟨⟨by decide +kernel, by decide +kernel⟩, List.mem_of_getElem? (i := 239) (by decide +kernel), List.mem_of_getElem? (i := 266) (by decide +kernel), List.mem_of_getElem? (i := 267) (by decide +kernel)⟩
theorem lw_p10 : lw_okq (⟨"RunSorterModel", "append", "(I)V"⟩, 4) := ⟨⟨by decide +kernel, by decide +kernel⟩, List.mem_of_getElem? (i := 239) (by decide +kernel), List.mem_of_getElem? (i := 270) (by decide +kernel), List.mem_of_getElem? (i := 271) (by decide +kernel)⟩
theorem lw_p11 : lw_okq (⟨"RunSorterModel", "bad", "(II)Z"⟩, 4) := ⟨⟨by decide +kernel, by decide +kernel⟩, List.mem_of_getElem? (i := 239) (by decide +kernel), List.mem_of_getElem? (i := 284) (by decide +kernel), List.mem_of_getElem? (i := 285) (by decide +kernel)⟩
theorem lw_p12 : lw_okq (⟨"RunSorterModel", "rank", "(II)I"⟩, 4) := ⟨⟨by decide +kernel, by decide +kernel⟩, List.mem_of_getElem? (i := 239) (by decide +kernel), List.mem_of_getElem? (i := 288) (by decide +kernel), List.mem_of_getElem? (i := 289) (by decide +kernel)⟩
def lw_privs_1 : List (MethodName × Nat) := [(⟨"java/lang/Throwable", "fillInStackTrace", "(I)Ljava/lang/Throwable;"⟩, 6), (⟨"RunSorter", "requireRoomFor", "(I)V"⟩, 6), (⟨"RunSorter", "append", "(I)V"⟩, 6), (⟨"RunSorter", "requirePart", "(II)V"⟩, 6), (⟨"RunSorter", "findRuns", "(III)I"⟩, 6), (⟨"RunSorter", "mergePairsOfRuns", "(II)V"⟩, 6), (⟨"RunSorter", "merge", "(IIII)V"⟩, 6), (⟨"RunSorter", "requireIndex", "(I)V"⟩, 6), (⟨"RunSorter", "swap", "(II)V"⟩, 6), (⟨"RunSorterModel", "fail", "(I)I"⟩, 4), (⟨"RunSorterModel", "append", "(I)V"⟩, 4), (⟨"RunSorterModel", "bad", "(II)Z"⟩, 4), (⟨"RunSorterModel", "rank", "(II)I"⟩, 4)]
theorem lw_r1 : ∀ q ∈ lw_privs_1, lw_okq q := List.forall_mem_cons.mpr ⟨lw_p0, List.forall_mem_cons.mpr ⟨lw_p1, List.forall_mem_cons.mpr ⟨lw_p2, List.forall_mem_cons.mpr ⟨lw_p3, List.forall_mem_cons.mpr ⟨lw_p4, List.forall_mem_cons.mpr ⟨lw_p5, List.forall_mem_cons.mpr ⟨lw_p6, List.forall_mem_cons.mpr ⟨lw_p7, List.forall_mem_cons.mpr ⟨lw_p8, List.forall_mem_cons.mpr ⟨lw_p9, List.forall_mem_cons.mpr ⟨lw_p10, List.forall_mem_cons.mpr ⟨lw_p11, List.forall_mem_cons.mpr ⟨lw_p12, fun _ h => absurd h List.not_mem_nil⟩⟩⟩⟩⟩⟩⟩⟩⟩⟩⟩⟩⟩
def lw_privs : List (MethodName × Nat) := lw_privs_1
def lw_tbl : List Cond := k2_sels lw_privs ++ tables_1
theorem lw_privs_ok : ∀ q ∈ lw_privs, lw_okq q := lw_r1
end
section
/-! ===== BEGIN words of one list among another's, by their places ===== -/
theorem goodIn_r {big : List Cond} (ws : List Cond) (ps : List Nat) (hp : ws = ps.filterMap (fun i => big[i]?)) (h : ws.all goodWord = true) : GoodIn big ws := by
  intro w hw
  have h1 := List.all_eq_true.mp h w hw
  rw [hp] at hw
  obtain ⟨i, -, hi⟩ := List.mem_filterMap.mp hw
  have hm : w ∈ big := by first | exact List.mem_of_getElem? hi | exact List.getElem?_mem hi
  exact ⟨hm, good_of_word h1⟩
theorem goodIn_app {big a b : List Cond} (ha : GoodIn big a) (hb : GoodIn big b) : GoodIn big (a ++ b) := fun w h => (List.mem_append.mp h).elim (ha w) (hb w)
theorem goodIn_ca {big a b : List Cond} {c : Cond} (ha : GoodIn big (c :: a)) (hb : GoodIn big b) : GoodIn big (c :: (a ++ b)) := fun w h => (List.mem_cons.mp h).elim (fun e => ha w (List.mem_cons.mpr (Or.inl e))) (fun h => (List.mem_append.mp h).elim (fun h => ha w (List.mem_cons.mpr (Or.inr h))) (hb w))
theorem goodIn_sub {big ws : List Cond} (hm : ∀ w ∈ ws, w ∈ big) (h : ws.all goodWord = true) : GoodIn big ws := fun w hw => ⟨hm w hw, good_of_word (List.all_eq_true.mp h w hw)⟩
/-! ===== END ===== -/

/-! ===== BEGIN exceptions that leave a method, and their catching by the caller (launches without stack traces) ===== -/
section VXA
/-! The laws vx_back, vx_callV, vx_callS, vx_callSW, vx_throw0, vx_throwS follow proofs of the library, with one case more: JvmDerived/Free/Laws.lean (Back.of_free), Shelf42/LK1.lean (callV, callS), Shelf/KitTraced.lean (throwNew0V, throwNewS). -/
/-- where a method has thrown q: the class by its name, the cell, what was written, the world -/
def vx_T (XC : String → State → State → Prop) (st : State) (q : Addr) (t : State) (mc ms : Nat) (free : Addr → Prop) : Prop :=
  ∃ (E : String) (ce : Cell) (L : List Loc), XC E st t ∧ t.heap[q]? = some ce ∧ ce.vm = .none ∧ st.vm.findClass E = some ce.cls ∧ st.WarmedH t.vm ∧ st.sameButNew ({ t with vm := st.vm } : State) L mc ms ∧ ∀ z ∈ L, free z.base
def vx_Q (Qc : Array Value → State → Outcome → State → Prop) (XC : String → State → State → Prop) (mc ms : Nat) (free : Addr → Prop) : Array Value → State → Outcome → State → Prop := fun a st o t =>
  (Qc a st o t ∧ ∃ L, FrameEnd st o t L mc ms ∧ ∀ q ∈ L, free q.base) ∨ ∃ q, o = .threw q ∧ vx_T XC st q t mc ms free
/-- a callee that returns or throws -/
def vx_Met (l : Launch) (y : MethodName) (ws : List Cond) (rm : Room) (Pc : Array Value → State → Prop) (Qc : Array Value → State → Outcome → State → Prop) (XC : String → State → State → Prop) (mc ms : Nat) (free : Addr → Prop) : Prop :=
  MetFree l y (headSpec ws rm) Pc (fun _ _ _ _ _ => True) (vx_Q Qc XC mc ms free)
def vx_Post (XC : String → State → State → Prop) (mc ms : Nat) (free : Addr → Prop) : Pt → Array Value → Addr → Pt → Prop := fun A a q B =>
  ∃ (g : JFrame) (mk : MethodId) (t : State) (L : List Loc) (E : String) (ce : Cell), B.U.heap = t.heap ∧ B.U.vm = t.vm ∧ XC E (A.U.calling g mk a) t ∧ t.heap[q]? = some ce ∧ ce.vm = .none ∧ A.U.vm.findClass E = some ce.cls ∧ B.locs = A.locs ++ L ∧ (∀ z ∈ L, free z.base) ∧ B.cells = A.cells + mc ∧ B.slots = A.slots + ms
def vx_Back (l : Launch) (R : Room) (p : Program) (e : Env) (below : List Frame) (s : State) (sargs : Array Value) (y : MethodName) (len W9 : Nat)
    (Pre : Pt → Array Value → Prop) (Post : Pt → Array Value → Option Value → Pt → Prop) (PostX : Pt → Array Value → Addr → Pt → Prop) : Prop :=
  ∀ (m : MethodId) (meth : Method) (c : Code) (A : Pt) (g : JFrame) (ig : Instr) (mk : MethodId) (a : Array Value),
    Stand p l e R s m sargs below meth c A.U A.locs A.cells A.slots → g.method = m → g.locals.size = c.maxLocals → decode c.code g.pc = .ok (ig, len) →
    2 * g.monitorRoom + (g.stack.map fun v => v.category).sum ≤ W9 → A.U.methodNamed? y = some mk → Pre A a →
    (∃ (v : Option Value) (B : Pt), Stand p l e R s m sargs below meth c B.U B.locs B.cells B.slots ∧ Post A a v B ∧
      Steps p.tables e below (doInvoke e (A.U.setTop g) [] mk a).1 (B.U.setTop { g with pc := g.pc + len, stack := v.toList ++ g.stack })) ∨
    (∃ (q : Addr) (B : Pt), Stand p l e R s m sargs below meth c B.U B.locs B.cells B.slots ∧ PostX A a q B ∧
      Steps p.tables e below (doInvoke e (A.U.setTop g) [] mk a).1 ((B.U.setTop g).pushFrame (.throwing q)))
section Payer
variable {l : Launch} {R : Room} {p : Program} {e : Env} {below : List Frame} {s : State} {sargs : Array Value} {y : MethodName} {len W9 : Nat}
theorem vx_back {ws : List Cond} {rm : Room} {Pc : Array Value → State → Prop} {Qc : Array Value → State → Outcome → State → Prop} {XC : String → State → State → Prop} {mc ms : Nat} {free : Addr → Prop} {bytes : ByteArray} {maxL : Nat} {ret : Option FieldType}
    (hM : vx_Met l y ws rm Pc Qc XC mc ms free) (hblind : FrameBlind Pc) (hrc : rm.cells = mc) (hrs : rm.slots = ms)
    (hframes : rm.frames + 1 ≤ R.frames) (hlocals : W9 + (maxL + 11) + rm.locals ≤ R.locals)
    (hws : ∀ w ∈ ws, ∀ a' U, s.WarmedH U.vm → w.before a' U = true) (hcode : Cond.code y bytes maxL ret ∈ ws) (hinit : ∀ a' U, s.WarmedH U.vm → (Cond.initialized y.cls).before a' U = true) :
    vx_Back l R p e below s sargs y len W9 (PreOf R mc ms Pc) (PostOf Qc mc ms free) (vx_Post XC mc ms free) := by
  intro m meth c A g ig mk a X hg hsize hdg hW hn hp
  have h1 : (headSpec ws rm).pre.before a A.U = true := atoms_intro fun w hw => hws w hw _ _ X.warmed
  have h2 : (Cond.code y bytes maxL ret).before a A.U = true := hws _ hcode _ _ X.warmed
  have h3 : (Cond.initialized y.cls).before a A.U = true := hinit _ _ X.warmed
  have h4 : A.cells + (headSpec ws rm).room.cells ≤ R.cells := by rw [show (headSpec ws rm).room.cells = mc from hrc]; exact hp.1
  have h5 : A.slots + (headSpec ws rm).room.slots ≤ R.slots := by rw [show (headSpec ws rm).room.slots = ms from hrs]; exact hp.2.1
  have hPc : Pc a (A.U.calling g mk a) := hblind _ _ _ _ hp.2.2
  obtain ⟨U, Ls, c0, s0⟩ := A
  dsimp only [Pt.U, Pt.locs, Pt.cells, Pt.slots] at h1 h2 h3 h4 h5 X hn hPc ⊢
  obtain ⟨methY, cY, hmY, hcY, -, hlY, -, -, -, -⟩ := Cond.code_spec hn h2
  obtain ⟨kY, hkY, -⟩ := className_of_methodNamed hn
  have hinitY : kY.init = .initialized := Cond.initialized_spec (findClass_of_methodNamed hn) hkY h3
  have h : At U g.method c below := by rw [hg]; exact X.here
  have hlocals9 : W9 + (maxL + 11) + (headSpec ws rm).room.locals ≤ R.locals := hlocals
  have happ : (headSpec ws rm).appliesLoose y e.platform (U.calling g mk a) = true :=
    Spec.appliesLoose_calling (g := g) h hdg hn hkY hinitY
      (X.room_calling (g := g) (R' := (headSpec ws rm).room) hsize hmY hcY hframes (by rw [hlY]; omega) h4 h5) h1
  obtain ⟨mid, hmid⟩ := h.above
  have hfr : (U.setTop g).frames = (.java g :: mid) ++ below := by rw [State.frames_setTop' g h.top, hmid]; rfl
  obtain ⟨o, s₂, hsteps, -, hend, hq⟩ := Steps.callFree hM p X.admits X.cas X.clock (acts := []) hfr happ hPc trivial
  have hq' : vx_Q Qc XC mc ms free a (U.calling g mk a) o s₂ := hq
  rw [State.frames_setTop' g h.top] at hend
  obtain ⟨g₀, hg0⟩ := Option.isSome_iff_exists.mp h.top
  obtain ⟨r, hr⟩ := State.topJava?_eq_some.mp hg0
  have hr' : (({ U with heap := s₂.heap, slotsUsed := s₂.slotsUsed } : State).setVm s₂.vm).frames = .java g₀ :: r := hr
  rcases hq' with ⟨hqc, L, hfe, hL⟩ | ⟨q, rfl, E, ce, L, hx, hce, hcv, hcl, hW₂, hsm, hL⟩
  · obtain ⟨⟨v, rfl⟩, hW₂, e2, q2, q3, q4, q5, q6⟩ := id hfe
    have e3 : s₂ = ({ (U.calling g mk a).setFrames s₂.frames with heap := s₂.heap, slotsUsed := s₂.slotsUsed } : State).setVm s₂.vm := by
      have : s₂ = ({ s₂ with vm := (U.calling g mk a).vm } : State).setVm s₂.vm := rfl
      rw [e2] at this
      exact this
    obtain ⟨c₂, i₂, len₂, hc₂, hd₂, hf₂⟩ := hend
    have hW' : U.WarmedH s₂.vm := hW₂
    have hcc : c₂ = c := by
      have h1 : s₂.code? g.method = U.code? g.method := by
        rw [State.code?_eq, State.code?_eq, hW'.alike.method?]
      exact Option.some.inj (hc₂.symm.trans (h1.trans h.code))
    subst hcc
    have hlen : len₂ = len := by rw [hdg] at hd₂; cases hd₂; rfl
    subst hlen
    have hs₂ : s₂ = (({ U with heap := s₂.heap, slotsUsed := s₂.slotsUsed } : State).setVm s₂.vm).setTop { g with pc := g.pc + len₂, stack := v.toList ++ g.stack } := by
      refine e3.trans ?_
      rw [hf₂, State.calling_eq h.top, State.setFrames_setFrames, State.setTop_of_frames _ hr', hr]
      rfl
    have hsame : U.sameButNew ({ U with heap := s₂.heap, slotsUsed := s₂.slotsUsed } : State) L mc ms := by
      refine ⟨?_, q2, q3, q4, q5, q6⟩
      obtain ⟨t, ht, -⟩ := State.frames_cons hr
      show ({ U with heap := s₂.heap, slotsUsed := s₂.slotsUsed } : State) = { U.setFrames U.frames with heap := s₂.heap, slotsUsed := s₂.slotsUsed }
      rw [State.setFrames_self ht]
    subst hg
    refine Or.inl ⟨v, ⟨(({ U with heap := s₂.heap, slotsUsed := s₂.slotsUsed } : State).setVm s₂.vm), Ls ++ L, c0 + mc, s0 + ms⟩,
      ⟨X.admits, X.cas, X.clock, X.frames, X.room, X.hears, X.method, X.code, (X.here.setHeapUsed s₂.heap s₂.slotsUsed).setVm hW'.alike, X.tail, State.WarmedH.trans X.warmed hW', X.limits, X.bytes, X.same.trans (hsame.setVm s.vm)⟩,
      ⟨g, mk, s₂, L, rfl, rfl, hqc, rfl, hL, rfl, rfl⟩, ?_⟩
    show Steps p.tables e below _ ((({ U with heap := s₂.heap, slotsUsed := s₂.slotsUsed } : State).setVm s₂.vm).setTop { g with pc := g.pc + len₂, stack := v.toList ++ g.stack })
    rw [← hs₂]
    exact hsteps
  · obtain ⟨e2, q2, q3, q4, q5, q6⟩ := id hsm
    have e3 : s₂ = ({ (U.calling g mk a).setFrames s₂.frames with heap := s₂.heap, slotsUsed := s₂.slotsUsed } : State).setVm s₂.vm := by
      have : s₂ = ({ s₂ with vm := (U.calling g mk a).vm } : State).setVm s₂.vm := rfl
      rw [e2] at this
      exact this
    have hf₂ : s₂.frames = .throwing q :: .java g :: U.frames.tail := hend
    have hW' : U.WarmedH s₂.vm := hW₂
    have hs₂ : s₂ = ((({ U with heap := s₂.heap, slotsUsed := s₂.slotsUsed } : State).setVm s₂.vm).setTop g).pushFrame (.throwing q) := by
      refine e3.trans ?_
      rw [hf₂, State.calling_eq h.top, State.setFrames_setFrames, State.pushFrame, State.frames_setTop _ hr', State.setTop_of_frames _ hr', State.setFrames_setFrames, hr]
      rfl
    have hsame : U.sameButNew ({ U with heap := s₂.heap, slotsUsed := s₂.slotsUsed } : State) L mc ms := by
      refine ⟨?_, q2, q3, q4, q5, q6⟩
      obtain ⟨t, ht, -⟩ := State.frames_cons hr
      show ({ U with heap := s₂.heap, slotsUsed := s₂.slotsUsed } : State) = { U.setFrames U.frames with heap := s₂.heap, slotsUsed := s₂.slotsUsed }
      rw [State.setFrames_self ht]
    subst hg
    refine Or.inr ⟨q, ⟨(({ U with heap := s₂.heap, slotsUsed := s₂.slotsUsed } : State).setVm s₂.vm), Ls ++ L, c0 + mc, s0 + ms⟩,
      ⟨X.admits, X.cas, X.clock, X.frames, X.room, X.hears, X.method, X.code, (X.here.setHeapUsed s₂.heap s₂.slotsUsed).setVm hW'.alike, X.tail, State.WarmedH.trans X.warmed hW', X.limits, X.bytes, X.same.trans (hsame.setVm s.vm)⟩,
      ⟨g, mk, s₂, L, E, ce, rfl, rfl, hx, hce, hcv, hcl, rfl, hL, rfl, rfl⟩, ?_⟩
    show Steps p.tables e below _ (((({ U with heap := s₂.heap, slotsUsed := s₂.slotsUsed } : State).setVm s₂.vm).setTop g).pushFrame (.throwing q))
    rw [← hs₂]
    exact hsteps
end Payer
section Calls
variable {p : Program} {l : Launch} {e : Env} {R : Room} {s : State} {m : MethodId} {args : Array Value} {below : List Frame} {meth : Method} {c : Code} {T : State} {locs : List Loc} {cells slots : Nat}
theorem vx_callV (X : Stand p l e R s m args below meth c T locs cells slots) (hexec : p.tables.exec = Jvm.exec) {own C : String} {index : Nat} {y : MethodName} {bytes : ByteArray} {maxL : Nat} {ret : Option FieldType}
    (hown : s.vm.findClass own = some m.cls) (hlink : (Cond.methodLink own index y).before args s = true) (hinst : (Cond.instanceMethod y).before args s = true) (hsel : (Cond.selects C y y).before args s = true)
    (hcode : (Cond.code y bytes maxL ret).before args s = true) (hy : y.cls ≠ "java/lang/invoke/MethodHandle" ∧ y.cls ≠ "java/lang/invoke/VarHandle")
    {W9 : Nat} {Pre : Pt → Array Value → Prop} {Post : Pt → Array Value → Option Value → Pt → Prop} {PostX : Pt → Array Value → Addr → Pt → Prop} (hK : vx_Back l R p e below s args y 3 W9 Pre Post PostX)
    {b : Addr} {cellB : Cell} (hcell : T.heap[b]? = some cellB) (hobj : cellB.vm.isStatics = false) (hcls : s.vm.findClass C = some cellB.cls)
    {g : JFrame} (hg : g.method = m) (hsize : g.locals.size = c.maxLocals) {argsL rest : List Value} (hlen : ∀ sig, parseMethodDescriptor y.desc = some sig → argsL.length = sig.parameters.length)
    (hstack : g.stack = argsL.reverse ++ .ref b :: rest) (hW : 2 * g.monitorRoom + (rest.map fun v => v.category).sum ≤ W9) (hdg : decode c.code g.pc = .ok (.invokevirtual index, 3))
    (hpre : ∀ vm₁, s.WarmedH vm₁ → Pre ⟨T.setVm vm₁, locs, cells, slots⟩ (Value.ref b :: argsL).toArray) :
    (∃ (v : Option Value) (vm₁ : Vm) (B : Pt), s.WarmedH vm₁ ∧ Stand p l e R s m args below meth c B.U B.locs B.cells B.slots ∧ Post ⟨T.setVm vm₁, locs, cells, slots⟩ (Value.ref b :: argsL).toArray v B ∧
      ∀ target, Steps p.tables e below (B.U.setTop { g with pc := g.pc + 3, stack := v.toList ++ rest }) target → Steps p.tables e below (T.setTop g) target) ∨
    (∃ (q : Addr) (vm₁ : Vm) (B : Pt), s.WarmedH vm₁ ∧ Stand p l e R s m args below meth c B.U B.locs B.cells B.slots ∧ PostX ⟨T.setVm vm₁, locs, cells, slots⟩ (Value.ref b :: argsL).toArray q B ∧
      Steps p.tables e below (T.setTop g) ((B.U.setTop { g with stack := rest }).pushFrame (.throwing q))) := by
  obtain ⟨mk, methM, hnamed, hmethM, hstM, habM⟩ := Cond.instanceMethod_spec hinst
  obtain ⟨methM', cM, hmethM', -, -, -, -, -, -, hsigM⟩ := Cond.code_spec hnamed hcode
  cases hmethM.symm.trans hmethM'
  obtain ⟨c2, r2, m2, q1, q2, q3, q4, kP, hkP, hkPi⟩ := Cond.selects_spec hsel
  cases hcls.symm.trans q1
  cases (State.methodFound?_of_named hnamed hy).symm.trans q2
  cases hnamed.symm.trans q3
  have hselP : selectMethod e.platform s.vm cellB.cls mk = .method mk := by rw [Launch.admits_selectMethod X.admits]; exact q4
  obtain ⟨vm₁, X₁, hstep₁⟩ := X.invokevirtual hexec hown hlink hnamed hmethM hstM hkP hkPi hy (a := b) (cell := cellB) hcell
    (fun z h => by rw [h] at hobj; cases hobj) hselP hmethM habM hkP hkPi (g := g) hg (argsL := argsL) (rest := rest) (hlen _ hsigM) hstack hdg
  rcases hK m meth c ⟨T.setVm vm₁, locs, cells, slots⟩ { g with stack := rest } (.invokevirtual index) mk (Value.ref b :: argsL).toArray X₁ hg hsize hdg hW (X₁.named hnamed) (hpre vm₁ X₁.warmed) with ⟨v, B, X', hpost, hsteps⟩ | ⟨q, B, X', hpost, hsteps⟩
  · exact Or.inl ⟨v, vm₁, B, X₁.warmed, X', hpost, fun target h => hstep₁ _ fun acts => by rw [doInvoke_state]; exact hsteps.trans h⟩
  · exact Or.inr ⟨q, vm₁, B, X₁.warmed, X', hpost, hstep₁ _ fun acts => by rw [doInvoke_state]; exact hsteps⟩
theorem vx_callS (X : Stand p l e R s m args below meth c T locs cells slots) (hexec : p.tables.exec = Jvm.exec) {own : String} {index : Nat} {y : MethodName} {bytes : ByteArray} {maxL : Nat} {ret : Option FieldType}
    (hown : s.vm.findClass own = some m.cls) (hlink : (Cond.methodLink own index y).before args s = true) (hstat : (Cond.static y).before args s = true) (hinit : (Cond.initialized y.cls).before args s = true)
    (hcode : (Cond.code y bytes maxL ret).before args s = true) (hy : y.cls ≠ "java/lang/invoke/MethodHandle" ∧ y.cls ≠ "java/lang/invoke/VarHandle")
    {W9 : Nat} {Pre : Pt → Array Value → Prop} {Post : Pt → Array Value → Option Value → Pt → Prop} {PostX : Pt → Array Value → Addr → Pt → Prop} (hK : vx_Back l R p e below s args y 3 W9 Pre Post PostX)
    {g : JFrame} (hg : g.method = m) (hsize : g.locals.size = c.maxLocals) {argsL rest : List Value} (hlen : ∀ sig, parseMethodDescriptor y.desc = some sig → argsL.length = sig.parameters.length)
    (hstack : g.stack = argsL.reverse ++ rest) (hW : 2 * g.monitorRoom + (rest.map fun v => v.category).sum ≤ W9) (hdg : decode c.code g.pc = .ok (.invokestatic index, 3))
    (hpre : ∀ vm₁, s.WarmedH vm₁ → Pre ⟨T.setVm vm₁, locs, cells, slots⟩ argsL.toArray) :
    (∃ (v : Option Value) (vm₁ : Vm) (B : Pt), s.WarmedH vm₁ ∧ Stand p l e R s m args below meth c B.U B.locs B.cells B.slots ∧ Post ⟨T.setVm vm₁, locs, cells, slots⟩ argsL.toArray v B ∧
      ∀ target, Steps p.tables e below (B.U.setTop { g with pc := g.pc + 3, stack := v.toList ++ rest }) target → Steps p.tables e below (T.setTop g) target) ∨
    (∃ (q : Addr) (vm₁ : Vm) (B : Pt), s.WarmedH vm₁ ∧ Stand p l e R s m args below meth c B.U B.locs B.cells B.slots ∧ PostX ⟨T.setVm vm₁, locs, cells, slots⟩ argsL.toArray q B ∧
      Steps p.tables e below (T.setTop g) ((B.U.setTop { g with stack := rest }).pushFrame (.throwing q))) := by
  obtain ⟨mk, hnamed⟩ := Cond.code_named hcode
  obtain ⟨methM, cM, hmethM, -, -, -, -, -, -, hsigM⟩ := Cond.code_spec hnamed hcode
  have hstatic : methM.isStatic = true := Cond.static_spec hnamed hmethM hstat
  obtain ⟨kP, hkP, -⟩ := className_of_methodNamed hnamed
  have hinitP : kP.init = .initialized := Cond.initialized_spec (findClass_of_methodNamed hnamed) hkP hinit
  obtain ⟨vm₁, X₁, hstep₁⟩ := X.invokestatic hexec hown hlink hnamed hmethM hstatic hkP hinitP hy (g := g) hg (argsL := argsL) (rest := rest) (hlen _ hsigM) hstack hdg
  rcases hK m meth c ⟨T.setVm vm₁, locs, cells, slots⟩ { g with stack := rest } (.invokestatic index) mk argsL.toArray X₁ hg hsize hdg hW (X₁.named hnamed) (hpre vm₁ X₁.warmed) with ⟨v, B, X', hpost, hsteps⟩ | ⟨q, B, X', hpost, hsteps⟩
  · exact Or.inl ⟨v, vm₁, B, X₁.warmed, X', hpost, fun target h => hstep₁ _ fun acts => by rw [doInvoke_state]; exact hsteps.trans h⟩
  · exact Or.inr ⟨q, vm₁, B, X₁.warmed, X', hpost, hstep₁ _ fun acts => by rw [doInvoke_state]; exact hsteps⟩
end Calls
theorem vx_cls {s : State} {T : State} {vm₁ : Vm} {E : String} {k : ClassId} (hW : s.WarmedH vm₁) (h : (T.setVm vm₁).vm.findClass E = some k) : s.vm.findClass E = some k := by
  have h1 : vm₁.findClass E = some k := h
  rw [hW.alike.findClass] at h1
  exact h1
/-- the method's frame g, with q thrown over it -/
def vx_W (p : Program) (l : Launch) (e : Env) (R : Room) (s : State) (m : MethodId) (args : Array Value) (below : List Frame) (meth : Method) (c : Code) (H : Heap) (locs : List Loc) (cells slots : Nat) (Q : State → Prop) (g : JFrame) (q : Addr) : Prop :=
  ∀ T : State, T.heap = H → Stand p l e R s m args below meth c T locs cells slots → ∃ t, Steps p.tables e below ((T.setTop g).pushFrame (.throwing q)) t ∧ Q t
def vx_Run (p : Program) (l : Launch) (e : Env) (R : Room) (s : State) (m : MethodId) (args : Array Value) (below : List Frame) (meth : Method) (c : Code) (H : Heap) (locs : List Loc) (cells slots mc ms : Nat) (g : JFrame) (rest : List Value) (Qa : State → Outcome → State → Prop) (XC : String → State → State → Prop) (free : Addr → Prop) : Prop :=
  ∀ T : State, T.heap = H → Stand p l e R s m args below meth c T locs cells slots →
    (∃ (v : Option Value) (st₀ t T' : State) (L : List Loc), st₀.heap = H ∧ Stand p l e R s m args below meth c T' (locs ++ L) (cells + mc) (slots + ms) ∧ (∀ q ∈ L, free q.base) ∧ T'.heap = t.heap ∧ T'.vm = t.vm ∧ Qa st₀ (.returned v) t ∧
      Goes p e below T g T' { g with pc := g.pc + 3, stack := v.toList ++ rest }) ∨
    (∃ (q : Addr) (st₀ t T' : State) (L : List Loc) (E : String) (ce : Cell), st₀.heap = H ∧ Stand p l e R s m args below meth c T' (locs ++ L) (cells + mc) (slots + ms) ∧ (∀ z ∈ L, free z.base) ∧ T'.heap = t.heap ∧ T'.vm = t.vm ∧ XC E st₀ t ∧ t.heap[q]? = some ce ∧ ce.vm = .none ∧ s.vm.findClass E = some ce.cls ∧
      Steps p.tables e below (T.setTop g) ((T'.setTop { g with stack := rest }).pushFrame (.throwing q)))
def vx_X {S : Type} (px : S → Prop) (B : String → S → State → Prop) (A : Nat → Prop) : String → State → State → Prop := fun E st t => ∃ u : S, px u ∧ B E u t ∧ va_F A st t
section Runs
variable {p : Program} {l : Launch} {e : Env} {R : Room} {s : State} {m : MethodId} {args : Array Value} {below : List Frame} {meth : Method} {c : Code} {H : Heap} {locs : List Loc} {cells slots : Nat}
variable {y : MethodName} {bytes cc : ByteArray} {maxL nL mc ms n index : Nat} {ret : Option FieldType} {ws : List Cond} {rm : Room} {Pc : Array Value → State → Prop} {Qc : Array Value → State → Outcome → State → Prop} {XC : String → State → State → Prop} {free : Addr → Prop} {Ts : List Cond} {own C : String} {b : Addr} {As rest : List Value} {g : JFrame}
theorem vx_callBack (cb : CallB R s args own index y bytes maxL ret ws rm mc ms n) (hM : vx_Met l y ws rm Pc Qc XC mc ms free) (hbl : FrameBlind Pc) : vx_Back l R p e below s args y 3 8 (PreOf R mc ms Pc) (PostOf Qc mc ms free) (vx_Post XC mc ms free) := by
  obtain ⟨hrc, hrs, hfr, hlo, hws, hcw, -, hini, -⟩ := cb
  exact vx_back (bytes := bytes) (maxL := maxL) (ret := ret) hM hbl hrc hrs hfr hlo hws hcw (fun a' U hW => word_at hW (Or.inl (by first | rfl | simp [Cond.onTables, Cond.keeps, Cond.steady])) hini)
theorem vx_runV (S : CallFix p m c cc nL s args Ts own) (hM : vx_Met l y ws rm Pc Qc XC mc ms free) (cw : CallW R s args own C index y bytes maxL ret ws rm mc ms n) (hp : PreV s H C b Pc As)
    (hg : g.method = m) (hn : As.length = n) (hsize : g.locals.size = nL) (hstack : g.stack = As.reverse ++ .ref b :: rest) (hW : 2 * g.monitorRoom + (rest.map fun v => v.category).sum ≤ 8) (hdg : decode cc g.pc = .ok (.invokevirtual index, 3)) (hf : cells + mc ≤ R.cells ∧ slots + ms ≤ R.slots) :
    vx_Run p l e R s m args below meth c H locs cells slots mc ms g rest (Qc (Value.ref b :: As).toArray) XC free := by
  have hK : vx_Back l R p e below s args y 3 8 (PreOf R mc ms Pc) (PostOf Qc mc ms free) (vx_Post XC mc ms free) := vx_callBack cw.1 hM hp.1
  obtain ⟨⟨-, -, -, -, -, -, hcode, -, hy, hlen, hl⟩, hin, hse⟩ := cw
  obtain ⟨hx, hb, hml, ho, -⟩ := S
  obtain ⟨-, ⟨cellB, hcB, hoB, hclB⟩, hPc⟩ := hp
  intro T hT X
  rcases vx_callV X hx (C := C) (bytes := bytes) (maxL := maxL) (ret := ret) ho hl hin hse hcode hy hK (by rw [hT]; exact hcB) hoB hclB hg (hsize.trans hml.symm) (argsL := As) (rest := rest) (fun sig h => hn.trans (hlen sig h)) hstack hW (by rw [hb]; exact hdg)
    (fun vm₁ hW₁ => ⟨hf.1, hf.2, hPc (T.setVm vm₁) hT hW₁⟩) with ⟨v, vm₁, ⟨U', l2, c2, s2⟩, hW₁, X', ⟨g', mk, t, L, e1, e2, hq, h1, hL, h2, h3⟩, st⟩ | ⟨q, vm₁, ⟨U', l2, c2, s2⟩, hW₁, X', ⟨g', mk, t, L, E, ce, e1, e2, hq, hce, hcv, hcl, h1, hL, h2, h3⟩, st⟩
  · dsimp only [Pt.U, Pt.locs, Pt.cells, Pt.slots] at X' e1 e2 h1 h2 h3 st
    subst h1; subst h2; subst h3
    exact Or.inl ⟨v, (T.setVm vm₁).calling g' mk (Value.ref b :: As).toArray, t, U', L, hT, X', hL, e1, e2, hq, st⟩
  · dsimp only [Pt.U, Pt.locs, Pt.cells, Pt.slots] at X' e1 e2 h1 h2 h3 st hcl
    subst h1; subst h2; subst h3
    exact Or.inr ⟨q, (T.setVm vm₁).calling g' mk (Value.ref b :: As).toArray, t, U', L, E, ce, hT, X', hL, e1, e2, hq, hce, hcv, vx_cls hW₁ hcl, st⟩
theorem vx_runS (S : CallFix p m c cc nL s args Ts own) (hM : vx_Met l y ws rm Pc Qc XC mc ms free) (cw : CallB R s args own index y bytes maxL ret ws rm mc ms n ∧ (Cond.static y).before args s = true) (hp : PreS s H Pc As)
    (hg : g.method = m) (hn : As.length = n) (hsize : g.locals.size = nL) (hstack : g.stack = As.reverse ++ rest) (hW : 2 * g.monitorRoom + (rest.map fun v => v.category).sum ≤ 8) (hdg : decode cc g.pc = .ok (.invokestatic index, 3)) (hf : cells + mc ≤ R.cells ∧ slots + ms ≤ R.slots) :
    vx_Run p l e R s m args below meth c H locs cells slots mc ms g rest (Qc As.toArray) XC free := by
  have hK : vx_Back l R p e below s args y 3 8 (PreOf R mc ms Pc) (PostOf Qc mc ms free) (vx_Post XC mc ms free) := vx_callBack cw.1 hM hp.1
  obtain ⟨⟨-, -, -, -, -, -, hcode, hini, hy, hlen, hl⟩, hstt⟩ := cw
  obtain ⟨hx, hb, hml, ho, -⟩ := S
  intro T hT X
  rcases vx_callS X hx (bytes := bytes) (maxL := maxL) (ret := ret) ho hl hstt hini hcode hy hK hg (hsize.trans hml.symm) (argsL := As) (rest := rest) (fun sig h => hn.trans (hlen sig h)) hstack hW (by rw [hb]; exact hdg)
    (fun vm₁ hW₁ => ⟨hf.1, hf.2, hp.2 (T.setVm vm₁) hT hW₁⟩) with ⟨v, vm₁, ⟨U', l2, c2, s2⟩, hW₁, X', ⟨g', mk, t, L, e1, e2, hq, h1, hL, h2, h3⟩, st⟩ | ⟨q, vm₁, ⟨U', l2, c2, s2⟩, hW₁, X', ⟨g', mk, t, L, E, ce, e1, e2, hq, hce, hcv, hcl, h1, hL, h2, h3⟩, st⟩
  · dsimp only [Pt.U, Pt.locs, Pt.cells, Pt.slots] at X' e1 e2 h1 h2 h3 st
    subst h1; subst h2; subst h3
    exact Or.inl ⟨v, (T.setVm vm₁).calling g' mk As.toArray, t, U', L, hT, X', hL, e1, e2, hq, st⟩
  · dsimp only [Pt.U, Pt.locs, Pt.cells, Pt.slots] at X' e1 e2 h1 h2 h3 st hcl
    subst h1; subst h2; subst h3
    exact Or.inr ⟨q, (T.setVm vm₁).calling g' mk As.toArray, t, U', L, E, ce, hT, X', hL, e1, e2, hq, hce, hcv, vx_cls hW₁ hcl, st⟩
end Runs
section Rows
variable {p : Program} {l : Launch} {e : Env} {R : Room} {s : State} {m : MethodId} {args : Array Value} {below : List Frame} {meth : Method} {c : Code} {H : Heap} {locs : List Loc} {cells slots : Nat} {Q : State → Prop}
variable {mc ms : Nat} {free : Addr → Prop} {A0 A1 : Nat → Prop} {H0 : Heap} {a : Array Value} {pc : Nat} {ls : Array Slot} {st0 rest : List Value}
theorem vx_keep {st₀ t T' : State} {L : List Loc} (h0 : st₀.heap = H) (e1 : T'.heap = t.heap) (hS : va_S A0 H0 H locs) (hA : ∀ q, q < H.size → A1 q → A0 q) (hf : ∀ q, free q → A0 q) (hL : ∀ q ∈ L, free q.base) (hF : va_F A1 st₀ t) :
    H.size ≤ T'.heap.size ∧ (∀ q : Nat, q < H.size → ¬ A1 q → T'.heap[q]? = H[q]?) ∧ va_S A0 H0 T'.heap (locs ++ L) := by
  obtain ⟨hz, hk⟩ := hF
  rw [h0] at hz hk
  exact ⟨by rw [e1]; exact hz, fun q h1 h2 => by rw [e1]; exact hk q h1 h2,
    ⟨Nat.le_trans hS.1 (by rw [e1]; exact hz), fun q h1 h2 => by rw [e1, hk q (Nat.lt_of_lt_of_le h1 hS.1) (fun z => h2 (hA q (Nat.lt_of_lt_of_le h1 hS.1) z))]; exact hS.2.1 q h1 h2, fun q hq => by
      rcases List.mem_append.mp hq with h | h
      · exact hS.2.2 q h
      · exact hf _ (hL q h)⟩⟩
theorem vx_calli {S SX : Type} {post : Int32 → S → Prop} {px : SX → Prop} {B : S → State → Prop} {BX : String → SX → State → Prop} {AX : Nat → Prop} (hr : vx_Run p l e R s m args below meth c H locs cells slots mc ms (F0 m pc ls st0) rest (va_Qi post B A1 a) (vx_X px BX AX) free) (hS : va_S A0 H0 H locs) (hA : ∀ q, q < H.size → A1 q → A0 q) (hf : ∀ q, free q → A0 q) (hAX : ∀ q, q < H.size → AX q → A0 q)
    (kx : ∀ (E : String) (ce : Cell) (q9 : Addr) (u : SX) (t : State) (H1 : Heap) (locs1 : List Loc), t.heap = H1 → s.vm.Alike t.vm → px u → BX E u t → H.size ≤ H1.size → (∀ q : Nat, q < H.size → ¬ AX q → H1[q]? = H[q]?) → va_S A0 H0 H1 locs1 → H1[q9]? = some ce → ce.vm = .none → s.vm.findClass E = some ce.cls → vx_W p l e R s m args below meth c H1 locs1 (cells + mc) (slots + ms) Q (F0 m pc ls rest) q9)
    (kk : ∀ (r : Int32) (u : S) (t : State) (H1 : Heap) (locs1 : List Loc), t.heap = H1 → s.vm.Alike t.vm → post r u → B u t → H.size ≤ H1.size → (∀ q : Nat, q < H.size → ¬ A1 q → H1[q]? = H[q]?) → va_S A0 H0 H1 locs1 → W p l e R s m args below meth c H1 locs1 (cells + mc) (slots + ms) Q (F0 m (pc + 3) ls (.int r :: rest))) : W p l e R s m args below meth c H locs cells slots Q (F0 m pc ls st0) := by
  intro T hT X
  rcases hr T hT X with ⟨v, st₀, t, T', L, h0, X', hL, e1, e2, ⟨⟨r, u, hv, hp, hb⟩, hF⟩, st⟩ | ⟨q, st₀, t, T', L, E, ce, h0, X', hL, e1, e2, ⟨u, hp, hb, hF⟩, hce, hcv, hcl, st⟩
  · cases hv
    obtain ⟨k1, k2, k3⟩ := vx_keep h0 e1 hS hA hf hL hF
    obtain ⟨t2, a1, b1⟩ := kk r u t T'.heap (locs ++ L) e1.symm (by rw [← e2]; exact X'.warmed.alike) hp hb k1 k2 k3 T' rfl X'
    exact ⟨t2, st t2 a1, b1⟩
  · obtain ⟨k1, k2, k3⟩ := vx_keep h0 e1 hS hAX hf hL hF
    obtain ⟨t2, a1, b1⟩ := kx E ce q u t T'.heap (locs ++ L) e1.symm (by rw [← e2]; exact X'.warmed.alike) hp hb k1 k2 k3 (by rw [e1]; exact hce) hcv hcl T' rfl X'
    exact ⟨t2, st.trans a1, b1⟩
theorem vx_calll {S SX : Type} {post : Int64 → S → Prop} {px : SX → Prop} {B : S → State → Prop} {BX : String → SX → State → Prop} {AX : Nat → Prop} (hr : vx_Run p l e R s m args below meth c H locs cells slots mc ms (F0 m pc ls st0) rest (va_Ql post B A1 a) (vx_X px BX AX) free) (hS : va_S A0 H0 H locs) (hA : ∀ q, q < H.size → A1 q → A0 q) (hf : ∀ q, free q → A0 q) (hAX : ∀ q, q < H.size → AX q → A0 q)
    (kx : ∀ (E : String) (ce : Cell) (q9 : Addr) (u : SX) (t : State) (H1 : Heap) (locs1 : List Loc), t.heap = H1 → s.vm.Alike t.vm → px u → BX E u t → H.size ≤ H1.size → (∀ q : Nat, q < H.size → ¬ AX q → H1[q]? = H[q]?) → va_S A0 H0 H1 locs1 → H1[q9]? = some ce → ce.vm = .none → s.vm.findClass E = some ce.cls → vx_W p l e R s m args below meth c H1 locs1 (cells + mc) (slots + ms) Q (F0 m pc ls rest) q9)
    (kk : ∀ (r : Int64) (u : S) (t : State) (H1 : Heap) (locs1 : List Loc), t.heap = H1 → s.vm.Alike t.vm → post r u → B u t → H.size ≤ H1.size → (∀ q : Nat, q < H.size → ¬ A1 q → H1[q]? = H[q]?) → va_S A0 H0 H1 locs1 → W p l e R s m args below meth c H1 locs1 (cells + mc) (slots + ms) Q (F0 m (pc + 3) ls (.long r :: rest))) : W p l e R s m args below meth c H locs cells slots Q (F0 m pc ls st0) := by
  intro T hT X
  rcases hr T hT X with ⟨v, st₀, t, T', L, h0, X', hL, e1, e2, ⟨⟨r, u, hv, hp, hb⟩, hF⟩, st⟩ | ⟨q, st₀, t, T', L, E, ce, h0, X', hL, e1, e2, ⟨u, hp, hb, hF⟩, hce, hcv, hcl, st⟩
  · cases hv
    obtain ⟨k1, k2, k3⟩ := vx_keep h0 e1 hS hA hf hL hF
    obtain ⟨t2, a1, b1⟩ := kk r u t T'.heap (locs ++ L) e1.symm (by rw [← e2]; exact X'.warmed.alike) hp hb k1 k2 k3 T' rfl X'
    exact ⟨t2, st t2 a1, b1⟩
  · obtain ⟨k1, k2, k3⟩ := vx_keep h0 e1 hS hAX hf hL hF
    obtain ⟨t2, a1, b1⟩ := kx E ce q u t T'.heap (locs ++ L) e1.symm (by rw [← e2]; exact X'.warmed.alike) hp hb k1 k2 k3 (by rw [e1]; exact hce) hcv hcl T' rfl X'
    exact ⟨t2, st.trans a1, b1⟩
theorem vx_callf {S SX : Type} {post : UInt32 → S → Prop} {px : SX → Prop} {B : S → State → Prop} {BX : String → SX → State → Prop} {AX : Nat → Prop} (hr : vx_Run p l e R s m args below meth c H locs cells slots mc ms (F0 m pc ls st0) rest (va_Qf post B A1 a) (vx_X px BX AX) free) (hS : va_S A0 H0 H locs) (hA : ∀ q, q < H.size → A1 q → A0 q) (hf : ∀ q, free q → A0 q) (hAX : ∀ q, q < H.size → AX q → A0 q)
    (kx : ∀ (E : String) (ce : Cell) (q9 : Addr) (u : SX) (t : State) (H1 : Heap) (locs1 : List Loc), t.heap = H1 → s.vm.Alike t.vm → px u → BX E u t → H.size ≤ H1.size → (∀ q : Nat, q < H.size → ¬ AX q → H1[q]? = H[q]?) → va_S A0 H0 H1 locs1 → H1[q9]? = some ce → ce.vm = .none → s.vm.findClass E = some ce.cls → vx_W p l e R s m args below meth c H1 locs1 (cells + mc) (slots + ms) Q (F0 m pc ls rest) q9)
    (kk : ∀ (r : UInt32) (u : S) (t : State) (H1 : Heap) (locs1 : List Loc), t.heap = H1 → s.vm.Alike t.vm → post r u → B u t → H.size ≤ H1.size → (∀ q : Nat, q < H.size → ¬ A1 q → H1[q]? = H[q]?) → va_S A0 H0 H1 locs1 → W p l e R s m args below meth c H1 locs1 (cells + mc) (slots + ms) Q (F0 m (pc + 3) ls (.float r :: rest))) : W p l e R s m args below meth c H locs cells slots Q (F0 m pc ls st0) := by
  intro T hT X
  rcases hr T hT X with ⟨v, st₀, t, T', L, h0, X', hL, e1, e2, ⟨⟨r, u, hv, hp, hb⟩, hF⟩, st⟩ | ⟨q, st₀, t, T', L, E, ce, h0, X', hL, e1, e2, ⟨u, hp, hb, hF⟩, hce, hcv, hcl, st⟩
  · cases hv
    obtain ⟨k1, k2, k3⟩ := vx_keep h0 e1 hS hA hf hL hF
    obtain ⟨t2, a1, b1⟩ := kk r u t T'.heap (locs ++ L) e1.symm (by rw [← e2]; exact X'.warmed.alike) hp hb k1 k2 k3 T' rfl X'
    exact ⟨t2, st t2 a1, b1⟩
  · obtain ⟨k1, k2, k3⟩ := vx_keep h0 e1 hS hAX hf hL hF
    obtain ⟨t2, a1, b1⟩ := kx E ce q u t T'.heap (locs ++ L) e1.symm (by rw [← e2]; exact X'.warmed.alike) hp hb k1 k2 k3 (by rw [e1]; exact hce) hcv hcl T' rfl X'
    exact ⟨t2, st.trans a1, b1⟩
theorem vx_calld {S SX : Type} {post : UInt64 → S → Prop} {px : SX → Prop} {B : S → State → Prop} {BX : String → SX → State → Prop} {AX : Nat → Prop} (hr : vx_Run p l e R s m args below meth c H locs cells slots mc ms (F0 m pc ls st0) rest (va_Qd post B A1 a) (vx_X px BX AX) free) (hS : va_S A0 H0 H locs) (hA : ∀ q, q < H.size → A1 q → A0 q) (hf : ∀ q, free q → A0 q) (hAX : ∀ q, q < H.size → AX q → A0 q)
    (kx : ∀ (E : String) (ce : Cell) (q9 : Addr) (u : SX) (t : State) (H1 : Heap) (locs1 : List Loc), t.heap = H1 → s.vm.Alike t.vm → px u → BX E u t → H.size ≤ H1.size → (∀ q : Nat, q < H.size → ¬ AX q → H1[q]? = H[q]?) → va_S A0 H0 H1 locs1 → H1[q9]? = some ce → ce.vm = .none → s.vm.findClass E = some ce.cls → vx_W p l e R s m args below meth c H1 locs1 (cells + mc) (slots + ms) Q (F0 m pc ls rest) q9)
    (kk : ∀ (r : UInt64) (u : S) (t : State) (H1 : Heap) (locs1 : List Loc), t.heap = H1 → s.vm.Alike t.vm → post r u → B u t → H.size ≤ H1.size → (∀ q : Nat, q < H.size → ¬ A1 q → H1[q]? = H[q]?) → va_S A0 H0 H1 locs1 → W p l e R s m args below meth c H1 locs1 (cells + mc) (slots + ms) Q (F0 m (pc + 3) ls (.double r :: rest))) : W p l e R s m args below meth c H locs cells slots Q (F0 m pc ls st0) := by
  intro T hT X
  rcases hr T hT X with ⟨v, st₀, t, T', L, h0, X', hL, e1, e2, ⟨⟨r, u, hv, hp, hb⟩, hF⟩, st⟩ | ⟨q, st₀, t, T', L, E, ce, h0, X', hL, e1, e2, ⟨u, hp, hb, hF⟩, hce, hcv, hcl, st⟩
  · cases hv
    obtain ⟨k1, k2, k3⟩ := vx_keep h0 e1 hS hA hf hL hF
    obtain ⟨t2, a1, b1⟩ := kk r u t T'.heap (locs ++ L) e1.symm (by rw [← e2]; exact X'.warmed.alike) hp hb k1 k2 k3 T' rfl X'
    exact ⟨t2, st t2 a1, b1⟩
  · obtain ⟨k1, k2, k3⟩ := vx_keep h0 e1 hS hAX hf hL hF
    obtain ⟨t2, a1, b1⟩ := kx E ce q u t T'.heap (locs ++ L) e1.symm (by rw [← e2]; exact X'.warmed.alike) hp hb k1 k2 k3 (by rw [e1]; exact hce) hcv hcl T' rfl X'
    exact ⟨t2, st.trans a1, b1⟩
theorem vx_callv {S SX : Type} {post : S → Prop} {px : SX → Prop} {B : S → State → Prop} {BX : String → SX → State → Prop} {AX : Nat → Prop} (hr : vx_Run p l e R s m args below meth c H locs cells slots mc ms (F0 m pc ls st0) rest (va_Qv post B A1 a) (vx_X px BX AX) free) (hS : va_S A0 H0 H locs) (hA : ∀ q, q < H.size → A1 q → A0 q) (hf : ∀ q, free q → A0 q) (hAX : ∀ q, q < H.size → AX q → A0 q)
    (kx : ∀ (E : String) (ce : Cell) (q9 : Addr) (u : SX) (t : State) (H1 : Heap) (locs1 : List Loc), t.heap = H1 → s.vm.Alike t.vm → px u → BX E u t → H.size ≤ H1.size → (∀ q : Nat, q < H.size → ¬ AX q → H1[q]? = H[q]?) → va_S A0 H0 H1 locs1 → H1[q9]? = some ce → ce.vm = .none → s.vm.findClass E = some ce.cls → vx_W p l e R s m args below meth c H1 locs1 (cells + mc) (slots + ms) Q (F0 m pc ls rest) q9)
    (kk : ∀ (u : S) (t : State) (H1 : Heap) (locs1 : List Loc), t.heap = H1 → s.vm.Alike t.vm → post u → B u t → H.size ≤ H1.size → (∀ q : Nat, q < H.size → ¬ A1 q → H1[q]? = H[q]?) → va_S A0 H0 H1 locs1 → W p l e R s m args below meth c H1 locs1 (cells + mc) (slots + ms) Q (F0 m (pc + 3) ls (rest))) : W p l e R s m args below meth c H locs cells slots Q (F0 m pc ls st0) := by
  intro T hT X
  rcases hr T hT X with ⟨v, st₀, t, T', L, h0, X', hL, e1, e2, ⟨⟨u, hv, hp, hb⟩, hF⟩, st⟩ | ⟨q, st₀, t, T', L, E, ce, h0, X', hL, e1, e2, ⟨u, hp, hb, hF⟩, hce, hcv, hcl, st⟩
  · cases hv
    obtain ⟨k1, k2, k3⟩ := vx_keep h0 e1 hS hA hf hL hF
    obtain ⟨t2, a1, b1⟩ := kk u t T'.heap (locs ++ L) e1.symm (by rw [← e2]; exact X'.warmed.alike) hp hb k1 k2 k3 T' rfl X'
    exact ⟨t2, st t2 a1, b1⟩
  · obtain ⟨k1, k2, k3⟩ := vx_keep h0 e1 hS hAX hf hL hF
    obtain ⟨t2, a1, b1⟩ := kx E ce q u t T'.heap (locs ++ L) e1.symm (by rw [← e2]; exact X'.warmed.alike) hp hb k1 k2 k3 (by rw [e1]; exact hce) hcv hcl T' rfl X'
    exact ⟨t2, st.trans a1, b1⟩
/-- caught by the row x of this method's table; the rows ahead don't take it -/
theorem vx_catch {own name : String} {E : String} {ce : Cell} {q : Addr} (hown : s.vm.findClass own = some m.cls) (pre : List ExceptionTableEntry) (x : ExceptionTableEntry) (suf : List ExceptionTableEntry) (hsplit : c.exceptionTable.toList = pre ++ x :: suf)
    (hpass : ∀ z ∈ pre, covers z pc = false ∨ (z.catchType ≠ 0 ∧ ∃ nm : String, (Cond.classLink own z.catchType nm).before args s = true ∧ va_Nc E nm s)) (hx : covers x pc = true) (h0 : x.catchType ≠ 0)
    (hlink : (Cond.classLink own x.catchType name).before args s = true) (hcast : (Cond.castable E name).before args s = true) (hcell : H[q]? = some ce) (hv : ce.vm = .none) (hcl : s.vm.findClass E = some ce.cls)
    (kk : W p l e R s m args below meth c H locs cells slots Q (F0 m x.handlerPc ls [.ref q])) : vx_W p l e R s m args below meth c H locs cells slots Q (F0 m pc ls rest) q := by
  intro T hT X
  have hpl : e.platform.magicAccessors = ({} : Platform).magicAccessors := by rw [X.admits.platform]
  obtain ⟨c3, c4, hc3, hc4, hasg⟩ := Cond.castable_spec hcast
  cases Option.some.inj (hc3.symm.trans hcl)
  obtain ⟨c5, hc5, hcl5⟩ := Cond.classLink_spec hown hlink e.platform hpl
  cases Option.some.inj (hc4.symm.trans hc5)
  obtain ⟨vm', X', st⟩ := X.thenCaughtThrough q (g := F0 m pc ls rest) rfl (Steps.refl _) (by rw [hT]; exact hcell) (by rw [hv]; rfl) (by obtain ⟨k9, h9, -⟩ := Vm.findClass_spec hcl; exact ⟨k9, h9⟩) pre x suf hsplit
    (fun z hz => by
      rcases hpass z hz with h | ⟨hz0, nm, hl1, hn1⟩
      · exact Or.inl h
      · obtain ⟨c6, hc6, hcl6⟩ := Cond.classLink_spec hown hl1 e.platform hpl
        obtain ⟨a8, b8, h1, h2, h3⟩ := hn1
        cases Option.some.inj (h1.symm.trans hcl)
        cases Option.some.inj (h2.symm.trans hc6)
        exact Or.inr ⟨hz0, _, hcl6, h3⟩) hx (Or.inr ⟨h0, c4, hcl5, hasg⟩)
  obtain ⟨t, a1, b1⟩ := kk (T.setVm vm') hT X'
  exact ⟨t, st.trans a1, b1⟩
end Rows
section Ends
variable {p : Program} {l : Launch} {e : Env} {R : Room} {s : State} {m : MethodId} {args : Array Value} {below : List Frame} {meth : Method} {c : Code} {H : Heap} {locs : List Loc} {cells slots : Nat} {Q : State → Prop}
variable {mc ms : Nat} {free : Addr → Prop} {A0 A1 : Nat → Prop} {H0 : Heap} {a : Array Value} {ls : Array Slot} {st0 rest : List Value}
variable {Qc : Array Value → State → Outcome → State → Prop} {XC : String → State → State → Prop}
/-- what a body that may throw owes at its end -/
def vx_MQ (below : List Frame) (Qc : Array Value → State → Outcome → State → Prop) (XC : String → State → State → Prop) (a : Array Value) (s : State) (mc ms : Nat) (free : Addr → Prop) : State → Prop := fun t =>
  ∃ o, t.status = .running ∧ Ended t below o ∧ vx_Q Qc XC mc ms free a s o t
theorem vx_ret {g : JFrame} {mc ms : Nat} (k : W p l e R s m args below meth c H locs cells slots (MQ below Qc args s mc ms free) g) : W p l e R s m args below meth c H locs cells slots (vx_MQ below Qc XC args s mc ms free) g := by
  intro T hT X
  obtain ⟨t, a1, o, b1, b2, b3, b4⟩ := k T hT X
  exact ⟨t, a1, o, b1, b2, Or.inl ⟨b3, b4⟩⟩
/-- not caught here: it goes on to the caller -/
theorem vx_widen {g : JFrame} {q : Addr} {k n : Nat} (h1 : cells ≤ k) (h2 : slots ≤ n) (kk : vx_W p l e R s m args below meth c H locs k n Q g q) : vx_W p l e R s m args below meth c H locs cells slots Q g q := fun T hT X => kk T hT (stand_widen X h1 h2)
theorem vx_out {pc : Nat} {E : String} {ce : Cell} {q : Addr} {mc ms : Nat} (hout : ∀ x ∈ c.exceptionTable.toList, covers x pc = false) (hlocks : meth.locks = false) (hcell : H[q]? = some ce) (hv : ce.vm = .none) (hcl : s.vm.findClass E = some ce.cls)
    (hx : ∀ t : State, t.heap = H → s.vm.Alike t.vm → XC E s t) (hf : ∀ z ∈ locs, free z.base) (hc : cells ≤ mc) (hs : slots ≤ ms) :
    vx_W p l e R s m args below meth c H locs cells slots (vx_MQ below Qc XC args s mc ms free) (F0 m pc ls rest) q := by
  intro T hT X
  obtain ⟨st1, hrun, hend, hW, hsm⟩ := X.leaveThrown q (g := F0 m pc ls rest) rfl rfl rfl hout hlocks
  have hcell9 : (T.setFrames (.throwing q :: below)).heap[q]? = some ce := by
    show T.heap[q]? = some ce
    rw [hT]; exact hcell
  exact ⟨_, st1, .threw q, hrun, hend, Or.inr ⟨q, rfl, E, ce, locs, hx _ hT hW.alike, hcell9, hv, hcl, hW, hsm.mono hc hs, hf⟩⟩
theorem vx_frame {U : State} {k n : Nat} (h : s.sameButNew ({ U with vm := s.vm } : State) locs k n) : s.heap.size ≤ U.heap.size ∧ ∀ q : Nat, q < s.heap.size → (∀ z ∈ locs, z.base ≠ q) → U.heap[q]? = s.heap[q]? := by
  obtain ⟨-, h2, -, -, -, h6⟩ := h
  refine ⟨h2, fun q hq hz => ?_⟩
  obtain ⟨c9, e1, e2, e3, e4⟩ := h6 q _ (Array.getElem?_eq_getElem hq)
  have hs : c9.slots = (s.heap[q]).slots := Array.ext_getElem? fun i => e4 i fun hm => hz _ hm rfl
  have h9 : c9 = s.heap[q] := by
    rw [hs] at e2
    exact e2
  have e5 : U.heap[q]? = some c9 := e1
  rw [e5, h9, Array.getElem?_eq_getElem hq]
/-- the words of a throw but the four that speak of the heap -/
def vx_no (w : Cond) : Bool := decide (w ≠ .isRef (.static Bundle.tN "UNASSIGNED_STACK" Bundle.steD)) && decide (w ≠ .isRef (.static Bundle.tN "SUPPRESSED_SENTINEL" Bundle.listD)) && decide (w ≠ .laysStatic Bundle.tN "UNASSIGNED_STACK" Bundle.steD) && decide (w ≠ .laysStatic Bundle.tN "SUPPRESSED_SENTINEL" Bundle.listD)
def vx_at0 (own : String) (ic : Nat) (X : String) (names : List String) : List Cond := (Bundle.ownAtoms0 own ic X names).filter vx_no
def vx_atS (own : String) (ic : Nat) (X : String) (names : List String) : List Cond := (Bundle.ownAtoms own ic X names).filter vx_no
/-- a word that the tables alone decide, or a good one -/
def vx_ot (w : Cond) : Bool := w.onTables || goodWord w
theorem vx_ot_at {args a' : Array Value} {s U : State} {w : Cond} (hW : s.WarmedH U.vm) (hvm : s.vm = U.vm) (hg : vx_ot w = true) (h : w.before args s = true) : w.before a' U = true := by
  simp only [vx_ot, Bool.or_eq_true] at hg
  rcases hg with hg | hg
  · exact va_tabs hg hvm h
  · exact word_at hW (good_of_word hg) h
/-- a list's words: the good ones out of the method's own list, the others by premises of their own -/
theorem vx_hat {args : Array Value} {s : State} {L B : List Cond} (h1 : ∀ w ∈ L.filter goodWord, w.before args s = true) (h2 : ∀ w ∈ L.filter (fun w => !goodWord w), w ∈ B) (h3 : ∀ w ∈ B, w.before args s = true) : ∀ w ∈ L, w.before args s = true := by
  intro w hw
  by_cases g : goodWord w = true
  · exact h1 w (List.mem_filter.mpr ⟨hw, g⟩)
  · refine h3 w (h2 w (List.mem_filter.mpr ⟨hw, ?_⟩))
    show (!goodWord w) = true
    cases hgw : goodWord w
    · rfl
    · exact absurd hgw g
theorem vx_c {args : Array Value} {s : State} {w : Cond} {B : List Cond} (h : w.before args s = true) (t : ∀ w ∈ B, w.before args s = true) : ∀ w' ∈ w :: B, w'.before args s = true := fun w' h' => (List.mem_cons.mp h').elim (fun e => by rw [e]; exact h) (t w')
theorem vx_n {args : Array Value} {s : State} : ∀ w ∈ ([] : List Cond), w.before args s = true := fun _ h => nomatch h
theorem vx_own {args : Array Value} {s : State} {L : List Cond} (h1 : ∀ w ∈ L.filter vx_no, w.before args s = true)
    (hU : (Cond.isRef (.static Bundle.tN "UNASSIGNED_STACK" Bundle.steD)).before args s = true) (hN : (Cond.isRef (.static Bundle.tN "SUPPRESSED_SENTINEL" Bundle.listD)).before args s = true)
    (lU : (Cond.laysStatic Bundle.tN "UNASSIGNED_STACK" Bundle.steD).before args s = true) (lN : (Cond.laysStatic Bundle.tN "SUPPRESSED_SENTINEL" Bundle.listD).before args s = true) : ∀ w ∈ L, w.before args s = true := by
  intro w hw
  by_cases e1 : w = .isRef (.static Bundle.tN "UNASSIGNED_STACK" Bundle.steD)
  · rw [e1]; exact hU
  · by_cases e2 : w = .isRef (.static Bundle.tN "SUPPRESSED_SENTINEL" Bundle.listD)
    · rw [e2]; exact hN
    · by_cases e3 : w = .laysStatic Bundle.tN "UNASSIGNED_STACK" Bundle.steD
      · rw [e3]; exact lU
      · by_cases e4 : w = .laysStatic Bundle.tN "SUPPRESSED_SENTINEL" Bundle.listD
        · rw [e4]; exact lN
        · exact h1 w (List.mem_filter.mpr ⟨hw, by unfold vx_no; rw [decide_eq_true e1, decide_eq_true e2, decide_eq_true e3, decide_eq_true e4]; rfl⟩)
/-- where a static field lies, its class's statics cell in H -/
def vx_L (C n d : String) (A : Nat → Prop) (U : State) (H : Heap) : Prop := ∃ (c : ClassId) (k : Class) (i : Nat) (f : Field) (a : Nat) (cell : Cell), U.vm.findClass C = some c ∧ U.fieldFound? C n d = some (c, k, i, f) ∧ f.isStatic = true ∧ k.statics = some a ∧ H[a]? = some cell ∧ cell.vm.isStatics = true ∧ cell.cls = c ∧ f.slot < cell.slots.size ∧ k.staticTypes[f.slot]? = some f.type ∧ ¬ A a
theorem vx_L.moved {C n d : String} {A : Nat → Prop} {u U : State} {H : Heap} (hvm : u.vm.Alike U.vm) (h : vx_L C n d A u H) : vx_L C n d A U H := by
  obtain ⟨c, k, i, f, a, cell, h1, h2, h3, h4, h5, h6, h7, h8, h9, h10⟩ := h
  obtain ⟨k', hi', he⟩ := State.fieldFound?_setVm hvm h2
  exact ⟨c, k', i, f, a, cell, by rw [hvm.findClass]; exact h1, hi', h3, by rw [he]; exact h4, h5, h6, h7, h8, by rw [he]; exact h9, h10⟩
theorem vx_L.kept {C n d : String} {A : Nat → Prop} {U : State} {H H1 : Heap} (h : vx_L C n d A U H) (hq : ∀ a : Nat, a < H.size → ¬ A a → H1[a]? = H[a]?) : vx_L C n d A U H1 := by
  obtain ⟨c, k, i, f, a, cell, h1, h2, h3, h4, h5, h6, h7, h8, h9, h10⟩ := h
  exact ⟨c, k, i, f, a, cell, h1, h2, h3, h4, by rw [hq a (Array.getElem?_eq_some_iff.mp h5).1 h10]; exact h5, h6, h7, h8, h9, h10⟩
theorem vx_L.narrow {C n d : String} {A B : Nat → Prop} {U : State} {H : Heap} (h : vx_L C n d A U H) (hAB : ∀ q, B q → A q) : vx_L C n d B U H := by
  obtain ⟨c, k, i, f, a, cell, h1, h2, h3, h4, h5, h6, h7, h8, h9, h10⟩ := h
  exact ⟨c, k, i, f, a, cell, h1, h2, h3, h4, h5, h6, h7, h8, h9, fun z => h10 (hAB _ z)⟩
theorem vx_L.word {C n d : String} {A : Nat → Prop} {s : State} {args : Array Value} (h : vx_L C n d A s s.heap) : (Cond.laysStatic C n d).before args s = true := by
  obtain ⟨c, k, i, f, a, cell, h1, h2, h3, h4, h5, h6, h7, h8, h9, -⟩ := h
  show (Cond.laysStatic C n d).holds args s none s [] = true
  exact Cond.laysStatic_of h1 h2 h3 h4 h5 h6 h7 h8 h9
/-- .. and what it holds: null or some reference -/
def vx_Zq (C n d : String) (A : Nat → Prop) (U : State) (H : Heap) : Prop := va_Zq C n d A U H ∧ vx_L C n d A U H
theorem vx_Zq.moved {C n d : String} {A : Nat → Prop} {u U : State} {H : Heap} (hvm : u.vm.Alike U.vm) (h : vx_Zq C n d A u H) : vx_Zq C n d A U H := ⟨va_Zq.moved hvm h.1, vx_L.moved hvm h.2⟩
theorem vx_Zq.kept {C n d : String} {A : Nat → Prop} {U : State} {H H1 : Heap} (h : vx_Zq C n d A U H) (hq : ∀ a : Nat, a < H.size → ¬ A a → H1[a]? = H[a]?) : vx_Zq C n d A U H1 := ⟨va_Zq.kept h.1 hq, vx_L.kept h.2 hq⟩
theorem vx_Zq.narrow {C n d : String} {A B : Nat → Prop} {U : State} {H : Heap} (h : vx_Zq C n d A U H) (hAB : ∀ q, B q → A q) : vx_Zq C n d B U H := ⟨va_Zq.narrow h.1 hAB, vx_L.narrow h.2 hAB⟩
theorem vx_Zqof {args : Array Value} {s : State} {C n d : String} {A : Nat → Prop} (hl : (Cond.laysStatic C n d).before args s = true) (hini : (Cond.initialized C).before args s = true) (h : (Cond.isRef (.static C n d)).before args s = true) (hA : ∀ a : Nat, a < s.heap.size → ¬ A a) : vx_Zq C n d A s s.heap := by
  refine ⟨va_Zqof hl hini h hA, ?_⟩
  obtain ⟨c, k, i, f, a, cell, h1, h2, h3, h4, h5, h6, h7, h8, h9⟩ := Cond.laysStatic_spec hl
  exact ⟨c, k, i, f, a, cell, h1, h2, h3, h4, h5, h6, h7, h8, h9, hA a (Array.getElem?_eq_some_iff.mp h5).1⟩
theorem vx_isRef {C n d : String} {v : Value} {A : Nat → Prop} {s : State} {args : Array Value} (h : va_Z C n d v A s s.heap) (hv : v.isRef = true) : (Cond.isRef (.static C n d)).before args s = true := by
  obtain ⟨cf, kf, fi, f, a, cell, h1, h2, h3, h4, h5, h6, h7, -⟩ := h
  have he : (Term.static C n d).eval args s none [] s = some v := by
    simp [Term.eval, State.fieldNamed?, h1, h2, h4, h5, h6, h7]
  simp only [Cond.before, Cond.holds, Cond.value, he]
  cases v <;> simp_all [Value.isRef]
theorem vx_isRefq {C n d : String} {A : Nat → Prop} {s : State} {args : Array Value} (h : va_Zq C n d A s s.heap) : (Cond.isRef (.static C n d)).before args s = true := by
  rcases h with h | ⟨t, h⟩
  · exact vx_isRef h rfl
  · exact vx_isRef h rfl
/-- the same frame, seen from here: as if the method were called anew in this heap -/
theorem vx_rebase {T : State} (X : Stand p l e R s m args below meth c T locs cells slots) {R' : Room} (hf : R'.frames ≤ R.frames) (hl : R'.locals ≤ R.locals) (hc : cells + R'.cells ≤ R.cells) (hs : slots + R'.slots ≤ R.slots) :
    Stand p l e R' ((T.setVm s.vm).setFrames (.invoking m args :: below)) m args below meth c T [] 0 0 := by
  have htop : (T.setVm s.vm).topJava?.isSome := X.here.top
  have hF : ((T.setVm s.vm).setFrames (.invoking m args :: below)).frames = .invoking m args :: below := State.frames_setFrames _ (State.cur_lt_of_top htop)
  obtain ⟨g₀, hg0⟩ := Option.isSome_iff_exists.mp htop
  obtain ⟨r, hr⟩ := State.topJava?_eq_some.mp hg0
  have hl9 : e.platform.stackLimits (T.setVm s.vm).me = e.platform.stackLimits s.me := X.limits
  have hb9 : (T.setVm s.vm).me.stackBytes = s.me.stackBytes := X.bytes
  refine ⟨X.admits, X.cas, X.clock, hF, ?_, X.hears, X.method, X.code, X.here, X.tail, X.warmed, ?_, ?_, ?_⟩
  · have h := X.room
    have hU : ((T.setVm s.vm).setFrames (.invoking m args :: below)).localsInUse = s.localsInUse := by
      rw [State.localsInUse_invoking hF (meth := meth) (c := c) X.method X.code, State.localsInUse_invoking X.frames X.method X.code]
    simp only [State.hasRoom, Bool.and_eq_true, decide_eq_true_eq] at h ⊢
    obtain ⟨⟨⟨⟨h1, h2, h3, h4, h5, h6⟩, h7⟩, h8⟩, h9⟩ := h
    rw [X.frames, List.length_cons] at h2 h3
    have q1 := X.heapSize
    have q2 := X.used
    simp only [hF, hU, List.length_cons, State.stackLimits_setFrames, State.stackBytes_setFrames, hl9, hb9]
    refine ⟨⟨⟨⟨by omega, by omega, by omega, by omega, by omega, h6⟩, ?_⟩, ?_⟩, X.book⟩
    · show T.heap.size + R'.cells ≤ e.platform.maxCells
      omega
    · show T.slotsUsed + R'.slots ≤ e.platform.maxSlots
      omega
  · rw [State.stackLimits_setFrames]; rfl
  · rw [State.stackBytes_setFrames]; rfl
  · refine ⟨?_, Nat.le_refl _, Nat.le_refl _, ?_, ?_, fun a c9 h9 => ⟨c9, h9, rfl, rfl, fun _ _ => rfl⟩⟩
    · obtain ⟨t, ht, -⟩ := State.frames_cons hr
      show T.setVm s.vm = { ((T.setVm s.vm).setFrames (.invoking m args :: below)).setFrames (T.setVm s.vm).frames with heap := T.heap, slotsUsed := T.slotsUsed }
      rw [State.setFrames_setFrames, State.setFrames_self ht]
      rfl
    · show T.slotsUsed = T.slotsUsed + ((T.heap.toList.drop T.heap.size).map (·.slots.size)).sum
      rw [List.drop_eq_nil_of_le (Nat.le_of_eq Array.length_toList)]
      rfl
    · show ((T.heap.toList.drop T.heap.size).map (·.slots.size)).sum ≤ 0
      rw [List.drop_eq_nil_of_le (Nat.le_of_eq Array.length_toList)]
      exact Nat.le_refl _
/-- 'throw new E()': new; dup; invokespecial; athrow -/
theorem vx_throw0 {cc : ByteArray} {pc : Nat} (hexec : p.tables.exec = Jvm.exec) (hb : c.code = cc) (hl : l.stackTraces = false) {own cls : String} {names : List String} {ik ic mc ms : Nat} {A : Nat → Prop}
    (hown : s.vm.findClass own = some m.cls) (hcls : Bundle.fit cls = true) (hnames : ∀ n ∈ names, Bundle.fit n = true)
    (hk : (Cond.classLink own ik cls).before args s = true) (hini : (Cond.initialized cls).before args s = true) (hat : ∀ w ∈ vx_at0 own ic cls names, w.before args s = true)
    (hgood : ∀ w ∈ Cond.classLink own ik cls :: Cond.initialized cls :: vx_at0 own ic cls names, vx_ot w = true)
    (hU : vx_Zq Bundle.tN "UNASSIGNED_STACK" Bundle.steD A s s.heap) (hN : vx_Zq Bundle.tN "SUPPRESSED_SENTINEL" Bundle.listD A s s.heap) (hS : va_S A s.heap H locs) (hsize : ls.size = c.maxLocals)
    (d0 : decode cc pc = .ok (.new ik, 3)) (d3 : decode cc (pc + 3) = .ok (.dup, 1)) (d4 : decode cc (pc + 4) = .ok (.invokespecial ic, 3)) (d7 : decode cc (pc + 7) = .ok (.athrow, 1))
    (hout : ∀ x ∈ c.exceptionTable.toList, covers x (pc + 7) = false)
    (hRframes : names.length + 3 < R.frames) (hRlocals : (rest.map fun v => v.category).sum + (13 * (names.length + 1) + 42) ≤ R.locals) (hRcells : cells + 1 ≤ R.cells) (hRslots : slots + 6 ≤ R.slots) (hlocks : meth.locks = false)
    (hx : ∀ t : State, s.vm.Alike t.vm → H.size ≤ t.heap.size → (∀ q : Nat, q < H.size → t.heap[q]? = H[q]?) → XC cls s t)
    (hf : ∀ z ∈ locs, free z.base) (hc : cells + 1 ≤ mc) (hs : slots + 6 ≤ ms) :
    W p l e R s m args below meth c H locs cells slots (vx_MQ below Qc XC args s mc ms free) (F0 m pc ls rest) := by
  intro T hT X
  have htr : e.platform.stackTraces = false := (show e.platform.stackTraces = l.stackTraces by rw [X.admits.platform]).trans hl
  have Y := vx_rebase X (R' := { frames := R.frames, locals := R.locals, cells := 1, slots := 6 }) (Nat.le_refl _) (Nat.le_refl _) hRcells hRslots
  obtain ⟨s', hA⟩ : ∃ z, z = (T.setVm s.vm).setFrames (.invoking m args :: below) := ⟨_, rfl⟩
  rw [← hA] at Y
  have hvm : s'.vm = s.vm := by rw [hA]; rfl
  have hhp : s'.heap = H := by rw [hA]; exact hT
  have hW0 : s.WarmedH s'.vm := by rw [hvm]; exact State.WarmedH.refl s
  have hat' : ∀ w ∈ vx_at0 own ic cls names, w.before args s' = true := fun w hw => vx_ot_at hW0 hvm.symm (hgood w (List.mem_cons_of_mem _ (List.mem_cons_of_mem _ hw))) (hat w hw)
  have hk' : (Cond.classLink own ik cls).before args s' = true := vx_ot_at hW0 hvm.symm (hgood _ List.mem_cons_self) hk
  have hini' : (Cond.initialized cls).before args s' = true := vx_ot_at hW0 hvm.symm (hgood _ (List.mem_cons_of_mem _ List.mem_cons_self)) hini
  have hU' : vx_Zq Bundle.tN "UNASSIGNED_STACK" Bundle.steD A s' s'.heap := by rw [hhp]; exact vx_Zq.moved hW0.alike (hU.kept hS.2.1)
  have hN' : vx_Zq Bundle.tN "SUPPRESSED_SENTINEL" Bundle.listD A s' s'.heap := by rw [hhp]; exact vx_Zq.moved hW0.alike (hN.kept hS.2.1)
  have h : ∀ w ∈ Bundle.ownAtoms0 own ic cls names, w.before args s' = true := vx_own hat' (vx_isRefq hU'.1) (vx_isRefq hN'.1) hU'.2.word hN'.2.word
  have hown' : s'.vm.findClass own = some m.cls := by rw [hvm]; exact hown
  have hins : (Cond.instantiable cls 6).before args s' = true := h _ (by simp [Bundle.ownAtoms0])
  obtain ⟨vm₁, cX, kX, hfX, hkX, -, -, X₁, st1⟩ := Y.newCold hexec (own := own) (C := cls) (index := ik) (n := 6) hown' hk' hins hini'
    (g := F0 m pc ls rest) rfl (by rw [hb]; exact d0) (Nat.le_refl _) (Nat.le_refl _)
  generalize hT1 : (T.setVm vm₁).pushCell { cls := cX, slots := kX.instanceTypes.map defaultValue, vm := .none } = T1 at X₁ st1
  have hcat : (Value.ref T.heap.size).category = 1 := rfl
  have hcellA : T1.heap[T.heap.size]? = some (freshCell cX kX) := by rw [← hT1]; exact State.heap_pushCell_size _ _
  have d3' : decode c.code (pc + 3) = .ok (.dup, 1) := by rw [hb]; exact d3
  obtain ⟨U, hsteps, hrun, hend, hW, hsame, ce, hce, hO⟩ := X₁.ctorThrow0 hexec htr (own := own) (cls := cls) (names := names) (ic := ic) hown' hcls hnames h (fun x hx => nomatch hx) hfX hkX hcellA (by rw [hhp, hT]; exact Nat.le_refl _)
    (g := { method := m, pc := pc + 4, locals := ls, stack := .ref T.heap.size :: .ref T.heap.size :: rest, locked := none }) rfl hsize rfl rfl (rest := rest) rfl
    (by rw [hb]; exact d4) (by rw [hb]; exact d7) hout hRframes (by simp only [List.map_cons, List.sum_cons, hcat]; omega) hlocks
  obtain ⟨f1, f2⟩ := vx_frame hsame
  rw [hhp] at f1 f2
  have hWs : s.WarmedH U.vm := State.WarmedH.trans hW0 hW
  have hcl : s.vm.findClass cls = some ce.cls := by
    have h9 := hO.cls
    rw [hvm] at h9
    exact h9
  have hall : s.sameButNew ({ U with vm := s.vm } : State) locs mc ms := by
    subst hA
    obtain ⟨e1, e2⟩ := hsame
    rw [State.setFrames_setFrames] at e1
    have h2 : (T.setVm s.vm).sameButNew ({ U with vm := s.vm } : State) [] (0 + 1) (0 + 6) := ⟨e1, e2⟩
    have h3 := X.same.trans h2
    rw [List.append_nil] at h3
    exact h3.mono hc hs
  refine ⟨U, ?_, .threw T.heap.size, hrun, hend, Or.inr ⟨T.heap.size, rfl, cls, ce, locs, hx U hWs.alike f1 (fun q hq => f2 q hq (fun z hz => nomatch hz)), hce, hO.vm, hcl, hWs, hall, hf⟩⟩
  refine st1 _ ?_
  show Steps p.tables e below (T1.setTop { method := m, pc := pc + 3, locals := ls, stack := .ref T.heap.size :: rest, locked := none }) _
  jvm_step X₁.here [X₁.here.top, hexec, d3', Value.category]
  exact hsteps
/-- 'throw new E("text")': new; dup; ldc; invokespecial; athrow -/
theorem vx_throwS {cc : ByteArray} {pc : Nat} (hexec : p.tables.exec = Jvm.exec) (hb : c.code = cc) (hl : l.stackTraces = false) {own cls text : String} {names : List String} {ik is ic mc ms sa : Nat} {A : Nat → Prop}
    (hown : s.vm.findClass own = some m.cls) (hcls : Bundle.fit cls = true) (hnames : ∀ n ∈ names, Bundle.fit n = true)
    (hk : (Cond.classLink own ik cls).before args s = true) (hini : (Cond.initialized cls).before args s = true) (hstr : vk_R own is text sa s) (hat : ∀ w ∈ vx_atS own ic cls names, w.before args s = true)
    (hgood : ∀ w ∈ Cond.classLink own ik cls :: Cond.initialized cls :: vx_atS own ic cls names, vx_ot w = true)
    (hU : vx_Zq Bundle.tN "UNASSIGNED_STACK" Bundle.steD A s s.heap) (hN : vx_Zq Bundle.tN "SUPPRESSED_SENTINEL" Bundle.listD A s s.heap) (hS : va_S A s.heap H locs) (hsize : ls.size = c.maxLocals)
    (d0 : decode cc pc = .ok (.new ik, 3)) (d3 : decode cc (pc + 3) = .ok (.dup, 1)) (d4 : decode cc (pc + 4) = .ok (.ldc is, 2)) (d6 : decode cc (pc + 6) = .ok (.invokespecial ic, 3)) (d9 : decode cc (pc + 9) = .ok (.athrow, 1))
    (hout : ∀ x ∈ c.exceptionTable.toList, covers x (pc + 9) = false)
    (hRframes : names.length + 3 < R.frames) (hRlocals : (rest.map fun v => v.category).sum + (13 * (names.length + 1) + 43) ≤ R.locals) (hRcells : cells + 1 ≤ R.cells) (hRslots : slots + 6 ≤ R.slots) (hlocks : meth.locks = false)
    (hx : ∀ t : State, s.vm.Alike t.vm → H.size ≤ t.heap.size → (∀ q : Nat, q < H.size → t.heap[q]? = H[q]?) → XC cls s t)
    (hf : ∀ z ∈ locs, free z.base) (hc : cells + 1 ≤ mc) (hs : slots + 6 ≤ ms) :
    W p l e R s m args below meth c H locs cells slots (vx_MQ below Qc XC args s mc ms free) (F0 m pc ls rest) := by
  intro T hT X
  have htr : e.platform.stackTraces = false := (show e.platform.stackTraces = l.stackTraces by rw [X.admits.platform]).trans hl
  have Y := vx_rebase X (R' := { frames := R.frames, locals := R.locals, cells := 1, slots := 6 }) (Nat.le_refl _) (Nat.le_refl _) hRcells hRslots
  obtain ⟨s', hA⟩ : ∃ z, z = (T.setVm s.vm).setFrames (.invoking m args :: below) := ⟨_, rfl⟩
  rw [← hA] at Y
  have hvm : s'.vm = s.vm := by rw [hA]; rfl
  have hhp : s'.heap = H := by rw [hA]; exact hT
  have hW0 : s.WarmedH s'.vm := by rw [hvm]; exact State.WarmedH.refl s
  have hat' : ∀ w ∈ vx_atS own ic cls names, w.before args s' = true := fun w hw => vx_ot_at hW0 hvm.symm (hgood w (List.mem_cons_of_mem _ (List.mem_cons_of_mem _ hw))) (hat w hw)
  have hk' : (Cond.classLink own ik cls).before args s' = true := vx_ot_at hW0 hvm.symm (hgood _ List.mem_cons_self) hk
  have hini' : (Cond.initialized cls).before args s' = true := vx_ot_at hW0 hvm.symm (hgood _ (List.mem_cons_of_mem _ List.mem_cons_self)) hini
  have hU' : vx_Zq Bundle.tN "UNASSIGNED_STACK" Bundle.steD A s' s'.heap := by rw [hhp]; exact vx_Zq.moved hW0.alike (hU.kept hS.2.1)
  have hN' : vx_Zq Bundle.tN "SUPPRESSED_SENTINEL" Bundle.listD A s' s'.heap := by rw [hhp]; exact vx_Zq.moved hW0.alike (hN.kept hS.2.1)
  have h : ∀ w ∈ Bundle.ownAtoms own ic cls names, w.before args s' = true := vx_own hat' (vx_isRefq hU'.1) (vx_isRefq hN'.1) hU'.2.word hN'.2.word
  have hown' : s'.vm.findClass own = some m.cls := by rw [hvm]; exact hown
  have hins : (Cond.instantiable cls 6).before args s' = true := h _ (by simp [Bundle.ownAtoms])
  obtain ⟨vm₁, cX, kX, hfX, hkX, -, -, X₁, st1⟩ := Y.newCold hexec (own := own) (C := cls) (index := ik) (n := 6) hown' hk' hins hini'
    (g := F0 m pc ls rest) rfl (by rw [hb]; exact d0) (Nat.le_refl _) (Nat.le_refl _)
  generalize hT1 : (T.setVm vm₁).pushCell { cls := cX, slots := kX.instanceTypes.map defaultValue, vm := .none } = T1 at X₁ st1
  have hcat : (Value.ref T.heap.size).category = 1 := rfl
  have hcellA : T1.heap[T.heap.size]? = some (freshCell cX kX) := by rw [← hT1]; exact State.heap_pushCell_size _ _
  have d3' : decode c.code (pc + 3) = .ok (.dup, 1) := by rw [hb]; exact d3
  have d4' : decode c.code (pc + 4) = .ok (.ldc is, 2) := by rw [hb]; exact d4
  have hstr' : vk_R own is text sa s' := vk_R.warm hW0 hstr
  obtain ⟨U, hsteps, hrun, hend, hW, hsame, ce, hce, hO⟩ := X₁.ctorThrowS hexec htr (own := own) (cls := cls) (names := names) (ic := ic) hown' hcls hnames h (fun x hx => nomatch hx) hfX hkX hcellA (by rw [hhp, hT]; exact Nat.le_refl _) (msg := .ref sa) rfl
    (g := { method := m, pc := pc + 6, locals := ls, stack := .ref sa :: .ref T.heap.size :: .ref T.heap.size :: rest, locked := none }) rfl hsize rfl rfl (rest := rest) rfl
    (by rw [hb]; exact d6) (by rw [hb]; exact d9) hout hRframes (by simp only [List.map_cons, List.sum_cons, hcat]; omega) hlocks
  obtain ⟨f1, f2⟩ := vx_frame hsame
  rw [hhp] at f1 f2
  have hWs : s.WarmedH U.vm := State.WarmedH.trans hW0 hW
  have hcl : s.vm.findClass cls = some ce.cls := by
    have h9 := hO.cls
    rw [hvm] at h9
    exact h9
  have hall : s.sameButNew ({ U with vm := s.vm } : State) locs mc ms := by
    subst hA
    obtain ⟨e1, e2⟩ := hsame
    rw [State.setFrames_setFrames] at e1
    have h2 : (T.setVm s.vm).sameButNew ({ U with vm := s.vm } : State) [] (0 + 1) (0 + 6) := ⟨e1, e2⟩
    have h3 := X.same.trans h2
    rw [List.append_nil] at h3
    exact h3.mono hc hs
  refine ⟨U, ?_, .threw T.heap.size, hrun, hend, Or.inr ⟨T.heap.size, rfl, cls, ce, locs, hx U hWs.alike f1 (fun q hq => f2 q hq (fun z hz => nomatch hz)), hce, hO.vm, hcl, hWs, hall, hf⟩⟩
  refine st1 _ ?_
  show Steps p.tables e below (T1.setTop { method := m, pc := pc + 3, locals := ls, stack := .ref T.heap.size :: rest, locked := none }) _
  jvm_step X₁.here [X₁.here.top, hexec, d3', Value.category]
  exact X₁.ldcString hexec (own := own) (text := text) (index := is) (a := sa) hown' hstr'.1 hstr'.2
    (g := { method := m, pc := pc + 4, locals := ls, stack := .ref T.heap.size :: .ref T.heap.size :: rest, locked := none }) rfl d4' _ hsteps
/-- 'throw new E("text")', the text by a wide index -/
theorem vx_throwSW {cc : ByteArray} {pc : Nat} (hexec : p.tables.exec = Jvm.exec) (hb : c.code = cc) (hl : l.stackTraces = false) {own cls text : String} {names : List String} {ik is ic mc ms sa : Nat} {A : Nat → Prop}
    (hown : s.vm.findClass own = some m.cls) (hcls : Bundle.fit cls = true) (hnames : ∀ n ∈ names, Bundle.fit n = true)
    (hk : (Cond.classLink own ik cls).before args s = true) (hini : (Cond.initialized cls).before args s = true) (hstr : vk_R own is text sa s) (hat : ∀ w ∈ vx_atS own ic cls names, w.before args s = true)
    (hgood : ∀ w ∈ Cond.classLink own ik cls :: Cond.initialized cls :: vx_atS own ic cls names, vx_ot w = true)
    (hU : vx_Zq Bundle.tN "UNASSIGNED_STACK" Bundle.steD A s s.heap) (hN : vx_Zq Bundle.tN "SUPPRESSED_SENTINEL" Bundle.listD A s s.heap) (hS : va_S A s.heap H locs) (hsize : ls.size = c.maxLocals)
    (d0 : decode cc pc = .ok (.new ik, 3)) (d3 : decode cc (pc + 3) = .ok (.dup, 1)) (d4 : decode cc (pc + 4) = .ok (.ldc_w is, 3)) (d7 : decode cc (pc + 7) = .ok (.invokespecial ic, 3)) (d10 : decode cc (pc + 10) = .ok (.athrow, 1))
    (hout : ∀ x ∈ c.exceptionTable.toList, covers x (pc + 10) = false)
    (hRframes : names.length + 3 < R.frames) (hRlocals : (rest.map fun v => v.category).sum + (13 * (names.length + 1) + 43) ≤ R.locals) (hRcells : cells + 1 ≤ R.cells) (hRslots : slots + 6 ≤ R.slots) (hlocks : meth.locks = false)
    (hx : ∀ t : State, s.vm.Alike t.vm → H.size ≤ t.heap.size → (∀ q : Nat, q < H.size → t.heap[q]? = H[q]?) → XC cls s t)
    (hf : ∀ z ∈ locs, free z.base) (hc : cells + 1 ≤ mc) (hs : slots + 6 ≤ ms) :
    W p l e R s m args below meth c H locs cells slots (vx_MQ below Qc XC args s mc ms free) (F0 m pc ls rest) := by
  intro T hT X
  have htr : e.platform.stackTraces = false := (show e.platform.stackTraces = l.stackTraces by rw [X.admits.platform]).trans hl
  have Y := vx_rebase X (R' := { frames := R.frames, locals := R.locals, cells := 1, slots := 6 }) (Nat.le_refl _) (Nat.le_refl _) hRcells hRslots
  obtain ⟨s', hA⟩ : ∃ z, z = (T.setVm s.vm).setFrames (.invoking m args :: below) := ⟨_, rfl⟩
  rw [← hA] at Y
  have hvm : s'.vm = s.vm := by rw [hA]; rfl
  have hhp : s'.heap = H := by rw [hA]; exact hT
  have hW0 : s.WarmedH s'.vm := by rw [hvm]; exact State.WarmedH.refl s
  have hat' : ∀ w ∈ vx_atS own ic cls names, w.before args s' = true := fun w hw => vx_ot_at hW0 hvm.symm (hgood w (List.mem_cons_of_mem _ (List.mem_cons_of_mem _ hw))) (hat w hw)
  have hk' : (Cond.classLink own ik cls).before args s' = true := vx_ot_at hW0 hvm.symm (hgood _ List.mem_cons_self) hk
  have hini' : (Cond.initialized cls).before args s' = true := vx_ot_at hW0 hvm.symm (hgood _ (List.mem_cons_of_mem _ List.mem_cons_self)) hini
  have hU' : vx_Zq Bundle.tN "UNASSIGNED_STACK" Bundle.steD A s' s'.heap := by rw [hhp]; exact vx_Zq.moved hW0.alike (hU.kept hS.2.1)
  have hN' : vx_Zq Bundle.tN "SUPPRESSED_SENTINEL" Bundle.listD A s' s'.heap := by rw [hhp]; exact vx_Zq.moved hW0.alike (hN.kept hS.2.1)
  have h : ∀ w ∈ Bundle.ownAtoms own ic cls names, w.before args s' = true := vx_own hat' (vx_isRefq hU'.1) (vx_isRefq hN'.1) hU'.2.word hN'.2.word
  have hown' : s'.vm.findClass own = some m.cls := by rw [hvm]; exact hown
  have hins : (Cond.instantiable cls 6).before args s' = true := h _ (by simp [Bundle.ownAtoms])
  obtain ⟨vm₁, cX, kX, hfX, hkX, -, -, X₁, st1⟩ := Y.newCold hexec (own := own) (C := cls) (index := ik) (n := 6) hown' hk' hins hini'
    (g := F0 m pc ls rest) rfl (by rw [hb]; exact d0) (Nat.le_refl _) (Nat.le_refl _)
  generalize hT1 : (T.setVm vm₁).pushCell { cls := cX, slots := kX.instanceTypes.map defaultValue, vm := .none } = T1 at X₁ st1
  have hcat : (Value.ref T.heap.size).category = 1 := rfl
  have hcellA : T1.heap[T.heap.size]? = some (freshCell cX kX) := by rw [← hT1]; exact State.heap_pushCell_size _ _
  have d3' : decode c.code (pc + 3) = .ok (.dup, 1) := by rw [hb]; exact d3
  have d4' : decode c.code (pc + 4) = .ok (.ldc_w is, 3) := by rw [hb]; exact d4
  have hstr' : vk_R own is text sa s' := vk_R.warm hW0 hstr
  obtain ⟨U, hsteps, hrun, hend, hW, hsame, ce, hce, hO⟩ := X₁.ctorThrowS hexec htr (own := own) (cls := cls) (names := names) (ic := ic) hown' hcls hnames h (fun x hx => nomatch hx) hfX hkX hcellA (by rw [hhp, hT]; exact Nat.le_refl _) (msg := .ref sa) rfl
    (g := { method := m, pc := pc + 7, locals := ls, stack := .ref sa :: .ref T.heap.size :: .ref T.heap.size :: rest, locked := none }) rfl hsize rfl rfl (rest := rest) rfl
    (by rw [hb]; exact d7) (by rw [hb]; exact d10) hout hRframes (by simp only [List.map_cons, List.sum_cons, hcat]; omega) hlocks
  obtain ⟨f1, f2⟩ := vx_frame hsame
  rw [hhp] at f1 f2
  have hWs : s.WarmedH U.vm := State.WarmedH.trans hW0 hW
  have hcl : s.vm.findClass cls = some ce.cls := by
    have h9 := hO.cls
    rw [hvm] at h9
    exact h9
  have hall : s.sameButNew ({ U with vm := s.vm } : State) locs mc ms := by
    subst hA
    obtain ⟨e1, e2⟩ := hsame
    rw [State.setFrames_setFrames] at e1
    have h2 : (T.setVm s.vm).sameButNew ({ U with vm := s.vm } : State) [] (0 + 1) (0 + 6) := ⟨e1, e2⟩
    have h3 := X.same.trans h2
    rw [List.append_nil] at h3
    exact h3.mono hc hs
  refine ⟨U, ?_, .threw T.heap.size, hrun, hend, Or.inr ⟨T.heap.size, rfl, cls, ce, locs, hx U hWs.alike f1 (fun q hq => f2 q hq (fun z hz => nomatch hz)), hce, hO.vm, hcl, hWs, hall, hf⟩⟩
  refine st1 _ ?_
  show Steps p.tables e below (T1.setTop { method := m, pc := pc + 3, locals := ls, stack := .ref T.heap.size :: rest, locked := none }) _
  jvm_step X₁.here [X₁.here.top, hexec, d3', Value.category]
  exact X₁.ldcStringW hexec (own := own) (text := text) (index := is) (a := sa) hown' hstr'.1 hstr'.2
    (g := { method := m, pc := pc + 4, locals := ls, stack := .ref T.heap.size :: .ref T.heap.size :: rest, locked := none }) rfl d4' _ hsteps
end Ends
section Bodies
variable {l : Launch}
theorem vx_ofW {y : MethodName} {ws ws' : List Cond} {rm : Room} {Pc : Array Value → State → Prop} {Qc : Array Value → State → Outcome → State → Prop} {XC : String → State → State → Prop} {mc ms : Nat} {free : Addr → Prop} {cc : ByteArray} {maxL : Nat} {ret : Option FieldType}
    (hy : plainName y.cls = true) (hw : ws = Cond.code y cc maxL ret :: ws')
    (body : ∀ p e s m args below meth c s₁, BodyLoose p l y (headSpec ws rm) cc maxL ret e s m args below meth c s₁ → c.maxLocals = maxL → (∀ x ∈ c.exceptionTable.toList, False) → Pc args s →
      W p l e (headSpec ws rm).room s m args below meth c s.heap [] 0 0 (vx_MQ below Qc XC args s mc ms free) (entryFrame m args maxL)) : vx_Met l y ws rm Pc Qc XC mc ms free := by
  refine MetFree.of_bodyS (code := cc) (maxLocals := maxL) (ret := ret) hy ?_ ?_
  · intro args s m h hn
    obtain ⟨meth, c, h1, h2, h3, h4, h5, h6, -, -⟩ := Cond.code_spec hn (atoms_spec (ws := ws) h _ (by rw [hw]; exact List.mem_cons_self))
    exact ⟨meth, c, h1, h2, h3, h4, h5, h6⟩
  · intro p e s m args below meth c s₁ B hml hP _
    have hh0 : s₁.heap = s.heap := by rw [B.state]; rfl
    have ht : ∀ x ∈ c.exceptionTable.toList, False := by
      obtain ⟨meth9, c9, h1, h2, -, -, -, -, h7, -⟩ := Cond.code_spec B.named (atoms_spec (ws := ws) B.pre _ (by rw [hw]; exact List.mem_cons_self))
      cases Option.some.inj (h1.symm.trans B.method)
      cases Option.some.inj (h2.symm.trans (Stand.of_body B).code)
      intro x hx
      rw [Array.isEmpty_iff.mp h7] at hx
      cases hx
    obtain ⟨t, a1, o, b1, b2, b3⟩ := body p e s m args below meth c s₁ B hml ht hP s₁ hh0 (Stand.of_body B)
    exact ⟨t, o, a1, b1, b2, b3⟩
/-- the table of a body with handlers -/
theorem vx_table {p : Program} {x y : MethodName} {S : Spec} {cc bytes : ByteArray} {maxL maxL' : Nat} {ret ret' : Option FieldType} {e : Env} {s s₁ : State} {m : MethodId} {args : Array Value} {below : List Frame} {meth : Method} {c : Code} {hh : List (Nat × Nat × Nat × Nat)}
    (B : BodyLoose p l y S cc maxL ret e s m args below meth c s₁) (h : (Cond.codeWith y bytes maxL' ret' hh).before args s = true) : c.exceptionTable.toList = tableOf hh := by
  obtain ⟨m9, meth9, c9, hn9, h1, h2, -, -, h6, -⟩ := Cond.codeWith_spec h
  cases Option.some.inj (hn9.symm.trans B.named)
  cases Option.some.inj (h1.symm.trans B.method)
  cases Option.some.inj (h2.symm.trans (Stand.of_body B).code)
  rw [← h6, table_eq]
end Bodies
end VXA
/-! ===== END ===== -/
/-! ===== BEGIN a static call of a method with an exception table ===== -/
section VXS
variable {p : Program} {l : Launch} {e : Env} {R : Room} {s : State} {m : MethodId} {args : Array Value} {below : List Frame} {meth : Method} {c : Code} {T : State} {H : Heap} {locs : List Loc} {cells slots : Nat}
abbrev vx_CSW (R : Room) (s : State) (args : Array Value) (own : String) (index : Nat) (y : MethodName) (bytes : ByteArray) (maxL : Nat) (ret : Option FieldType) (hh : List (Nat × Nat × Nat × Nat)) (ws : List Cond) (rm : Room) (mc ms n : Nat) : Prop :=
  (rm.cells = mc ∧ rm.slots = ms ∧ rm.frames + 1 ≤ R.frames ∧ 8 + (maxL + 11) + rm.locals ≤ R.locals ∧ (∀ w ∈ ws, ∀ (a' : Array Value) (U : State), s.WarmedH U.vm → w.before a' U = true) ∧ Cond.codeWith y bytes maxL ret hh ∈ ws) ∧
  (Cond.codeWith y bytes maxL ret hh).before args s = true ∧ (Cond.initialized y.cls).before args s = true ∧ (y.cls ≠ "java/lang/invoke/MethodHandle" ∧ y.cls ≠ "java/lang/invoke/VarHandle") ∧
  (∀ sig, parseMethodDescriptor y.desc = some sig → n = sig.parameters.length) ∧ (Cond.methodLink own index y).before args s = true ∧ (Cond.static y).before args s = true
theorem vx_cwSW {own : String} {index maxL mc ms : Nat} {y : MethodName} {bytes : ByteArray} {ret : Option FieldType} {hh : List (Nat × Nat × Nat × Nat)} {Ts ws ws' : List Cond} {rm : Room} (n : Nat) (ht : ∀ w ∈ Ts, w.before args s = true) (hT : GoodIn Ts (va_wsS own index y ws)) (hw : ws = Cond.codeWith y bytes maxL ret hh :: ws') (hrc : rm.cells = mc) (hrs : rm.slots = ms)
    (hd : y.cls ≠ "java/lang/invoke/MethodHandle" ∧ y.cls ≠ "java/lang/invoke/VarHandle" ∧ (parseMethodDescriptor y.desc).map (fun d => d.parameters.length) = some n) (hR : rm.frames + 1 ≤ R.frames ∧ 8 + (maxL + 11) + rm.locals ≤ R.locals) :
    vx_CSW R s args own index y bytes maxL ret hh ws rm mc ms n := by
  have ok : ∀ w ∈ va_wsS own index y ws, w.before args s = true := fun w h => ht w (hT w h).1
  have hG : GoodIn Ts ws := fun w h => hT w (by unfold va_wsS; exact List.mem_append_right _ h)
  have hc : Cond.codeWith y bytes maxL ret hh ∈ ws := by rw [hw]; exact List.mem_cons_self
  refine ⟨⟨hrc, hrs, hR.1, hR.2, pay_in ht hG, hc⟩, ht _ (hG _ hc).1, ok _ (by simp [va_wsS]), ⟨hd.1, hd.2.1⟩, fun sig h => ?_, ok _ (by simp [va_wsS]), ok _ (by simp [va_wsS])⟩
  have h2 := hd.2.2
  rw [h] at h2
  exact (Option.some.inj h2).symm
theorem vx_callSW (X : Stand p l e R s m args below meth c T locs cells slots) (hexec : p.tables.exec = Jvm.exec) {own : String} {index : Nat} {y : MethodName} {bytes : ByteArray} {maxL : Nat} {ret : Option FieldType} {hh : List (Nat × Nat × Nat × Nat)}
    (hown : s.vm.findClass own = some m.cls) (hlink : (Cond.methodLink own index y).before args s = true) (hstat : (Cond.static y).before args s = true) (hinit : (Cond.initialized y.cls).before args s = true)
    (hcode : (Cond.codeWith y bytes maxL ret hh).before args s = true) (hy : y.cls ≠ "java/lang/invoke/MethodHandle" ∧ y.cls ≠ "java/lang/invoke/VarHandle")
    {W9 : Nat} {Pre : Pt → Array Value → Prop} {Post : Pt → Array Value → Option Value → Pt → Prop} (hK : Back l R p e below s args y 3 W9 Pre Post)
    {g : JFrame} (hg : g.method = m) (hsize : g.locals.size = c.maxLocals) {argsL rest : List Value} (hlen : ∀ sig, parseMethodDescriptor y.desc = some sig → argsL.length = sig.parameters.length)
    (hstack : g.stack = argsL.reverse ++ rest) (hW : 2 * g.monitorRoom + (rest.map fun v => v.category).sum ≤ W9) (hdg : decode c.code g.pc = .ok (.invokestatic index, 3))
    (hpre : ∀ vm₁, s.WarmedH vm₁ → Pre ⟨T.setVm vm₁, locs, cells, slots⟩ argsL.toArray) :
    ∃ (v : Option Value) (vm₁ : Vm) (B : Pt), s.WarmedH vm₁ ∧ Stand p l e R s m args below meth c B.U B.locs B.cells B.slots ∧ Post ⟨T.setVm vm₁, locs, cells, slots⟩ argsL.toArray v B ∧
      ∀ target, Steps p.tables e below (B.U.setTop { g with pc := g.pc + 3, stack := v.toList ++ rest }) target → Steps p.tables e below (T.setTop g) target := by
  obtain ⟨mk, methM, cM, hnamed, hmethM, -, -, -, -, -, -, hsigM⟩ := Cond.codeWith_spec hcode
  have hstatic : methM.isStatic = true := Cond.static_spec hnamed hmethM hstat
  obtain ⟨kP, hkP, -⟩ := className_of_methodNamed hnamed
  have hinitP : kP.init = .initialized := Cond.initialized_spec (findClass_of_methodNamed hnamed) hkP hinit
  obtain ⟨vm₁, X₁, hstep₁⟩ := X.invokestatic hexec hown hlink hnamed hmethM hstatic hkP hinitP hy (g := g) hg (argsL := argsL) (rest := rest) (hlen _ hsigM) hstack hdg
  obtain ⟨v, B, X', hpost, hsteps⟩ := hK m meth c ⟨T.setVm vm₁, locs, cells, slots⟩ { g with stack := rest } (.invokestatic index) mk argsL.toArray X₁ hg hsize hdg hW (X₁.named hnamed) (hpre vm₁ X₁.warmed)
  exact ⟨v, vm₁, B, X₁.warmed, X', hpost, fun target h => hstep₁ _ fun acts => by rw [doInvoke_state]; exact hsteps.trans h⟩
theorem vx_runSW {y : MethodName} {bytes cc : ByteArray} {maxL nL mc ms n index : Nat} {ret : Option FieldType} {hh : List (Nat × Nat × Nat × Nat)} {ws : List Cond} {rm : Room} {Pc : Array Value → State → Prop} {Qc : Array Value → State → Outcome → State → Prop} {free : Addr → Prop} {Ts : List Cond} {own : String} {As rest : List Value} {g : JFrame}
    (S : CallFix p m c cc nL s args Ts own) (hM : Met l y ws rm Pc Qc mc ms free) (cw : vx_CSW R s args own index y bytes maxL ret hh ws rm mc ms n) (hp : PreS s H Pc As)
    (hg : g.method = m) (hn : As.length = n) (hsize : g.locals.size = nL) (hstack : g.stack = As.reverse ++ rest) (hW : 2 * g.monitorRoom + (rest.map fun v => v.category).sum ≤ 8) (hdg : decode cc g.pc = .ok (.invokestatic index, 3)) (hf : cells + mc ≤ R.cells ∧ slots + ms ≤ R.slots) :
    va_Run p l e R s m args below meth c H locs cells slots mc ms g rest (Qc As.toArray) (free) := by
  obtain ⟨⟨hrc, hrs, hfr, hlo, hws, hcw⟩, hcode, hini, hy, hlen, hl, hstt⟩ := cw
  have hK : Back l R p e below s args y 3 8 (PreOf R mc ms Pc) (PostOf Qc mc ms free) := va_backW (hh := hh) (bytes := bytes) (maxL := maxL) (ret := ret) hM hp.1 hrc hrs hfr hlo hws hcw (fun a' U hW => word_at hW (Or.inl (by first | rfl | simp [Cond.onTables, Cond.keeps, Cond.steady])) hini)
  obtain ⟨hx, hb, hml, ho, -⟩ := S
  intro T hT X
  obtain ⟨v, vm₁, ⟨U', l2, c2, s2⟩, hW₁, X', ⟨g', mk, t, L, e1, e2, hq, h1, hL, h2, h3⟩, st⟩ := vx_callSW X hx (hh := hh) (bytes := bytes) (maxL := maxL) (ret := ret) ho hl hstt hini hcode hy hK hg (hsize.trans hml.symm) (argsL := As) (rest := rest) (fun sig h => hn.trans (hlen sig h)) hstack hW (by rw [hb]; exact hdg)
    (fun vm₁ hW₁ => ⟨hf.1, hf.2, hp.2 (T.setVm vm₁) hT hW₁⟩)
  dsimp only [Pt.U, Pt.locs, Pt.cells, Pt.slots] at X' e1 e2 h1 h2 h3 st
  subst h1; subst h2; subst h3
  exact ⟨v, (T.setVm vm₁).calling g' mk As.toArray, t, U', L, hT, X', hL, e1, e2, hq, st⟩
/-- not caught here, past rows that name other classes: it goes on to the caller -/
theorem vx_outP {p : Program} {l : Launch} {e : Env} {R : Room} {s : State} {m : MethodId} {args : Array Value} {below : List Frame} {meth : Method} {c : Code} {H : Heap} {locs : List Loc} {cells slots : Nat} {free : Addr → Prop} {ls : Array Slot} {rest : List Value} {Qc : Array Value → State → Outcome → State → Prop} {XC : String → State → State → Prop}
    {pc : Nat} {own E : String} {ce : Cell} {q : Addr} {mc ms : Nat} (hown : s.vm.findClass own = some m.cls) (hlocks : meth.locks = false)
    (hpass : ∀ z ∈ c.exceptionTable.toList, covers z pc = false ∨ (z.catchType ≠ 0 ∧ ∃ nm : String, (Cond.classLink own z.catchType nm).before args s = true ∧ va_Nc E nm s)) (hcell : H[q]? = some ce) (hv : ce.vm = .none) (hcl : s.vm.findClass E = some ce.cls)
    (hx : ∀ t : State, t.heap = H → s.vm.Alike t.vm → XC E s t) (hf : ∀ z ∈ locs, free z.base) (hc : cells ≤ mc) (hs : slots ≤ ms) :
    vx_W p l e R s m args below meth c H locs cells slots (vx_MQ below Qc XC args s mc ms free) (F0 m pc ls rest) q := by
  intro T hT X
  have hpl : e.platform.magicAccessors = ({} : Platform).magicAccessors := by rw [X.admits.platform]
  obtain ⟨vm', hW', X', st⟩ := X.outThrough hlocks q (g := F0 m pc ls rest) rfl rfl rfl (cell := ce) (by rw [hT]; exact hcell) (by rw [hv]; rfl)
    (by obtain ⟨k9, h9, -⟩ := Vm.findClass_spec hcl; exact ⟨k9, h9⟩) (fun z hz => by
      rcases hpass z hz with h | ⟨hz0, nm, hl1, hn1⟩
      · exact Or.inl h
      · obtain ⟨c6, hc6, hcl6⟩ := Cond.classLink_spec hown hl1 e.platform hpl
        obtain ⟨a8, b8, h1, h2, h3⟩ := hn1
        cases Option.some.inj (h1.symm.trans hcl)
        cases Option.some.inj (h2.symm.trans hc6)
        exact Or.inr ⟨hz0, _, hcl6, h3⟩)
  obtain ⟨g₀, hfr⟩ := X'.frames_eq
  have hcell9 : ((T.setVm vm').setFrames (.throwing q :: below)).heap[q]? = some ce := by
    show T.heap[q]? = some ce
    rw [hT]; exact hcell
  have hend : Ended ((T.setVm vm').setFrames (.throwing q :: below)) below (.threw q) := State.frames_setFrames _ (State.cur_lt_of_frames hfr)
  refine ⟨(T.setVm vm').setFrames (.throwing q :: below), ?_, .threw q, X'.here.running, hend, Or.inr ⟨q, rfl, E, ce, locs, hx _ hT (X'.ends _).1.alike, hcell9, hv, hcl, (X'.ends _).1, (X'.ends _).2.mono hc hs, hf⟩⟩
  rw [X.pushThrowing_eq]
  exact st
/-- a thing of a world lies in the heap -/
theorem vx_lt {D : va_G} {cl : List vw_C} {ws : va_W} {H1 : Heap} (h : va_P D cl ws H1) {k : Nat} {q : Nat × va_E} (hk : ws[k]? = some q) : q.1 < H1.size := (h k q hk).lt
end VXS
/-! ===== END ===== -/
/-! ===== BEGIN methods with a table of their own: called by a name, returning or throwing ===== -/
section VXH
/-! vx_backW, vx_callVX, vx_callSX, vx_callVW, vx_runVW, vx_runVX, vx_runSX, vx_ofWH follow the same proofs as their sisters above (Free/Laws.lean, Shelf42/LK1.lean); vx_outP calls Shelf42/NT130.lean (outThrough). -/
section
variable {l : Launch} {R : Room} {p : Program} {e : Env} {below : List Frame} {s : State} {sargs : Array Value} {y : MethodName} {len W9 : Nat}
theorem vx_backW {ws : List Cond} {rm : Room} {Pc : Array Value → State → Prop} {Qc : Array Value → State → Outcome → State → Prop} {XC : String → State → State → Prop} {mc ms : Nat} {free : Addr → Prop} {bytes : ByteArray} {maxL : Nat} {ret : Option FieldType} {hh : List (Nat × Nat × Nat × Nat)}
    (hM : vx_Met l y ws rm Pc Qc XC mc ms free) (hblind : FrameBlind Pc) (hrc : rm.cells = mc) (hrs : rm.slots = ms)
    (hframes : rm.frames + 1 ≤ R.frames) (hlocals : W9 + (maxL + 11) + rm.locals ≤ R.locals)
    (hws : ∀ w ∈ ws, ∀ a' U, s.WarmedH U.vm → w.before a' U = true) (hcode : Cond.codeWith y bytes maxL ret hh ∈ ws) (hinit : ∀ a' U, s.WarmedH U.vm → (Cond.initialized y.cls).before a' U = true) :
    vx_Back l R p e below s sargs y len W9 (PreOf R mc ms Pc) (PostOf Qc mc ms free) (vx_Post XC mc ms free) := by
  intro m meth c A g ig mk a X hg hsize hdg hW hn hp
  have h1 : (headSpec ws rm).pre.before a A.U = true := atoms_intro fun w hw => hws w hw _ _ X.warmed
  have h2 : (Cond.codeWith y bytes maxL ret hh).before a A.U = true := hws _ hcode _ _ X.warmed
  have h3 : (Cond.initialized y.cls).before a A.U = true := hinit _ _ X.warmed
  have h4 : A.cells + (headSpec ws rm).room.cells ≤ R.cells := by rw [show (headSpec ws rm).room.cells = mc from hrc]; exact hp.1
  have h5 : A.slots + (headSpec ws rm).room.slots ≤ R.slots := by rw [show (headSpec ws rm).room.slots = ms from hrs]; exact hp.2.1
  have hPc : Pc a (A.U.calling g mk a) := hblind _ _ _ _ hp.2.2
  obtain ⟨U, Ls, c0, s0⟩ := A
  dsimp only [Pt.U, Pt.locs, Pt.cells, Pt.slots] at h1 h2 h3 h4 h5 X hn hPc ⊢
  obtain ⟨m9, methY, cY, hn9, hmY, hcY, -, hlY, -⟩ := Cond.codeWith_spec h2
  cases Option.some.inj (hn9.symm.trans hn)
  obtain ⟨kY, hkY, -⟩ := className_of_methodNamed hn
  have hinitY : kY.init = .initialized := Cond.initialized_spec (findClass_of_methodNamed hn) hkY h3
  have h : At U g.method c below := by rw [hg]; exact X.here
  have hlocals9 : W9 + (maxL + 11) + (headSpec ws rm).room.locals ≤ R.locals := hlocals
  have happ : (headSpec ws rm).appliesLoose y e.platform (U.calling g mk a) = true :=
    Spec.appliesLoose_calling (g := g) h hdg hn hkY hinitY
      (X.room_calling (g := g) (R' := (headSpec ws rm).room) hsize hmY hcY hframes (by rw [hlY]; omega) h4 h5) h1
  obtain ⟨mid, hmid⟩ := h.above
  have hfr : (U.setTop g).frames = (.java g :: mid) ++ below := by rw [State.frames_setTop' g h.top, hmid]; rfl
  obtain ⟨o, s₂, hsteps, -, hend, hq⟩ := Steps.callFree hM p X.admits X.cas X.clock (acts := []) hfr happ hPc trivial
  have hq' : vx_Q Qc XC mc ms free a (U.calling g mk a) o s₂ := hq
  rw [State.frames_setTop' g h.top] at hend
  obtain ⟨g₀, hg0⟩ := Option.isSome_iff_exists.mp h.top
  obtain ⟨r, hr⟩ := State.topJava?_eq_some.mp hg0
  have hr' : (({ U with heap := s₂.heap, slotsUsed := s₂.slotsUsed } : State).setVm s₂.vm).frames = .java g₀ :: r := hr
  rcases hq' with ⟨hqc, L, hfe, hL⟩ | ⟨q, rfl, E, ce, L, hx, hce, hcv, hcl, hW₂, hsm, hL⟩
  · obtain ⟨⟨v, rfl⟩, hW₂, e2, q2, q3, q4, q5, q6⟩ := id hfe
    have e3 : s₂ = ({ (U.calling g mk a).setFrames s₂.frames with heap := s₂.heap, slotsUsed := s₂.slotsUsed } : State).setVm s₂.vm := by
      have : s₂ = ({ s₂ with vm := (U.calling g mk a).vm } : State).setVm s₂.vm := rfl
      rw [e2] at this
      exact this
    obtain ⟨c₂, i₂, len₂, hc₂, hd₂, hf₂⟩ := hend
    have hW' : U.WarmedH s₂.vm := hW₂
    have hcc : c₂ = c := by
      have h1 : s₂.code? g.method = U.code? g.method := by
        rw [State.code?_eq, State.code?_eq, hW'.alike.method?]
      exact Option.some.inj (hc₂.symm.trans (h1.trans h.code))
    subst hcc
    have hlen : len₂ = len := by rw [hdg] at hd₂; cases hd₂; rfl
    subst hlen
    have hs₂ : s₂ = (({ U with heap := s₂.heap, slotsUsed := s₂.slotsUsed } : State).setVm s₂.vm).setTop { g with pc := g.pc + len₂, stack := v.toList ++ g.stack } := by
      refine e3.trans ?_
      rw [hf₂, State.calling_eq h.top, State.setFrames_setFrames, State.setTop_of_frames _ hr', hr]
      rfl
    have hsame : U.sameButNew ({ U with heap := s₂.heap, slotsUsed := s₂.slotsUsed } : State) L mc ms := by
      refine ⟨?_, q2, q3, q4, q5, q6⟩
      obtain ⟨t, ht, -⟩ := State.frames_cons hr
      show ({ U with heap := s₂.heap, slotsUsed := s₂.slotsUsed } : State) = { U.setFrames U.frames with heap := s₂.heap, slotsUsed := s₂.slotsUsed }
      rw [State.setFrames_self ht]
    subst hg
    refine Or.inl ⟨v, ⟨(({ U with heap := s₂.heap, slotsUsed := s₂.slotsUsed } : State).setVm s₂.vm), Ls ++ L, c0 + mc, s0 + ms⟩,
      ⟨X.admits, X.cas, X.clock, X.frames, X.room, X.hears, X.method, X.code, (X.here.setHeapUsed s₂.heap s₂.slotsUsed).setVm hW'.alike, X.tail, State.WarmedH.trans X.warmed hW', X.limits, X.bytes, X.same.trans (hsame.setVm s.vm)⟩,
      ⟨g, mk, s₂, L, rfl, rfl, hqc, rfl, hL, rfl, rfl⟩, ?_⟩
    show Steps p.tables e below _ ((({ U with heap := s₂.heap, slotsUsed := s₂.slotsUsed } : State).setVm s₂.vm).setTop { g with pc := g.pc + len₂, stack := v.toList ++ g.stack })
    rw [← hs₂]
    exact hsteps
  · obtain ⟨e2, q2, q3, q4, q5, q6⟩ := id hsm
    have e3 : s₂ = ({ (U.calling g mk a).setFrames s₂.frames with heap := s₂.heap, slotsUsed := s₂.slotsUsed } : State).setVm s₂.vm := by
      have : s₂ = ({ s₂ with vm := (U.calling g mk a).vm } : State).setVm s₂.vm := rfl
      rw [e2] at this
      exact this
    have hf₂ : s₂.frames = .throwing q :: .java g :: U.frames.tail := hend
    have hW' : U.WarmedH s₂.vm := hW₂
    have hs₂ : s₂ = ((({ U with heap := s₂.heap, slotsUsed := s₂.slotsUsed } : State).setVm s₂.vm).setTop g).pushFrame (.throwing q) := by
      refine e3.trans ?_
      rw [hf₂, State.calling_eq h.top, State.setFrames_setFrames, State.pushFrame, State.frames_setTop _ hr', State.setTop_of_frames _ hr', State.setFrames_setFrames, hr]
      rfl
    have hsame : U.sameButNew ({ U with heap := s₂.heap, slotsUsed := s₂.slotsUsed } : State) L mc ms := by
      refine ⟨?_, q2, q3, q4, q5, q6⟩
      obtain ⟨t, ht, -⟩ := State.frames_cons hr
      show ({ U with heap := s₂.heap, slotsUsed := s₂.slotsUsed } : State) = { U.setFrames U.frames with heap := s₂.heap, slotsUsed := s₂.slotsUsed }
      rw [State.setFrames_self ht]
    subst hg
    refine Or.inr ⟨q, ⟨(({ U with heap := s₂.heap, slotsUsed := s₂.slotsUsed } : State).setVm s₂.vm), Ls ++ L, c0 + mc, s0 + ms⟩,
      ⟨X.admits, X.cas, X.clock, X.frames, X.room, X.hears, X.method, X.code, (X.here.setHeapUsed s₂.heap s₂.slotsUsed).setVm hW'.alike, X.tail, State.WarmedH.trans X.warmed hW', X.limits, X.bytes, X.same.trans (hsame.setVm s.vm)⟩,
      ⟨g, mk, s₂, L, E, ce, rfl, rfl, hx, hce, hcv, hcl, rfl, hL, rfl, rfl⟩, ?_⟩
    show Steps p.tables e below _ (((({ U with heap := s₂.heap, slotsUsed := s₂.slotsUsed } : State).setVm s₂.vm).setTop g).pushFrame (.throwing q))
    rw [← hs₂]
    exact hsteps
end
variable {p : Program} {l : Launch} {e : Env} {R : Room} {s : State} {m : MethodId} {args : Array Value} {below : List Frame} {meth : Method} {c : Code} {T : State} {H : Heap} {locs : List Loc} {cells slots : Nat}
theorem vx_callVX (X : Stand p l e R s m args below meth c T locs cells slots) (hexec : p.tables.exec = Jvm.exec) {own C : String} {index : Nat} {y : MethodName} {bytes : ByteArray} {maxL : Nat} {ret : Option FieldType} {hh : List (Nat × Nat × Nat × Nat)}
    (hown : s.vm.findClass own = some m.cls) (hlink : (Cond.methodLink own index y).before args s = true) (hinst : (Cond.instanceMethod y).before args s = true) (hsel : (Cond.selects C y y).before args s = true)
    (hcode : (Cond.codeWith y bytes maxL ret hh).before args s = true) (hy : y.cls ≠ "java/lang/invoke/MethodHandle" ∧ y.cls ≠ "java/lang/invoke/VarHandle")
    {W9 : Nat} {Pre : Pt → Array Value → Prop} {Post : Pt → Array Value → Option Value → Pt → Prop} {PostX : Pt → Array Value → Addr → Pt → Prop} (hK : vx_Back l R p e below s args y 3 W9 Pre Post PostX)
    {b : Addr} {cellB : Cell} (hcell : T.heap[b]? = some cellB) (hobj : cellB.vm.isStatics = false) (hcls : s.vm.findClass C = some cellB.cls)
    {g : JFrame} (hg : g.method = m) (hsize : g.locals.size = c.maxLocals) {argsL rest : List Value} (hlen : ∀ sig, parseMethodDescriptor y.desc = some sig → argsL.length = sig.parameters.length)
    (hstack : g.stack = argsL.reverse ++ .ref b :: rest) (hW : 2 * g.monitorRoom + (rest.map fun v => v.category).sum ≤ W9) (hdg : decode c.code g.pc = .ok (.invokevirtual index, 3))
    (hpre : ∀ vm₁, s.WarmedH vm₁ → Pre ⟨T.setVm vm₁, locs, cells, slots⟩ (Value.ref b :: argsL).toArray) :
    (∃ (v : Option Value) (vm₁ : Vm) (B : Pt), s.WarmedH vm₁ ∧ Stand p l e R s m args below meth c B.U B.locs B.cells B.slots ∧ Post ⟨T.setVm vm₁, locs, cells, slots⟩ (Value.ref b :: argsL).toArray v B ∧
      ∀ target, Steps p.tables e below (B.U.setTop { g with pc := g.pc + 3, stack := v.toList ++ rest }) target → Steps p.tables e below (T.setTop g) target) ∨
    (∃ (q : Addr) (vm₁ : Vm) (B : Pt), s.WarmedH vm₁ ∧ Stand p l e R s m args below meth c B.U B.locs B.cells B.slots ∧ PostX ⟨T.setVm vm₁, locs, cells, slots⟩ (Value.ref b :: argsL).toArray q B ∧
      Steps p.tables e below (T.setTop g) ((B.U.setTop { g with stack := rest }).pushFrame (.throwing q))) := by
  obtain ⟨mk, methM, hnamed, hmethM, hstM, habM⟩ := Cond.instanceMethod_spec hinst
  obtain ⟨m8, methM', cM, hn8, hmethM', -, -, -, -, -, -, hsigM⟩ := Cond.codeWith_spec hcode
  cases Option.some.inj (hn8.symm.trans hnamed)
  cases hmethM.symm.trans hmethM'
  obtain ⟨c2, r2, m2, q1, q2, q3, q4, kP, hkP, hkPi⟩ := Cond.selects_spec hsel
  cases hcls.symm.trans q1
  cases (State.methodFound?_of_named hnamed hy).symm.trans q2
  cases hnamed.symm.trans q3
  have hselP : selectMethod e.platform s.vm cellB.cls mk = .method mk := by rw [Launch.admits_selectMethod X.admits]; exact q4
  obtain ⟨vm₁, X₁, hstep₁⟩ := X.invokevirtual hexec hown hlink hnamed hmethM hstM hkP hkPi hy (a := b) (cell := cellB) hcell
    (fun z h => by rw [h] at hobj; cases hobj) hselP hmethM habM hkP hkPi (g := g) hg (argsL := argsL) (rest := rest) (hlen _ hsigM) hstack hdg
  rcases hK m meth c ⟨T.setVm vm₁, locs, cells, slots⟩ { g with stack := rest } (.invokevirtual index) mk (Value.ref b :: argsL).toArray X₁ hg hsize hdg hW (X₁.named hnamed) (hpre vm₁ X₁.warmed) with ⟨v, B, X', hpost, hsteps⟩ | ⟨q, B, X', hpost, hsteps⟩
  · exact Or.inl ⟨v, vm₁, B, X₁.warmed, X', hpost, fun target h => hstep₁ _ fun acts => by rw [doInvoke_state]; exact hsteps.trans h⟩
  · exact Or.inr ⟨q, vm₁, B, X₁.warmed, X', hpost, hstep₁ _ fun acts => by rw [doInvoke_state]; exact hsteps⟩
theorem vx_callSX (X : Stand p l e R s m args below meth c T locs cells slots) (hexec : p.tables.exec = Jvm.exec) {own : String} {index : Nat} {y : MethodName} {bytes : ByteArray} {maxL : Nat} {ret : Option FieldType} {hh : List (Nat × Nat × Nat × Nat)}
    (hown : s.vm.findClass own = some m.cls) (hlink : (Cond.methodLink own index y).before args s = true) (hstat : (Cond.static y).before args s = true) (hinit : (Cond.initialized y.cls).before args s = true)
    (hcode : (Cond.codeWith y bytes maxL ret hh).before args s = true) (hy : y.cls ≠ "java/lang/invoke/MethodHandle" ∧ y.cls ≠ "java/lang/invoke/VarHandle")
    {W9 : Nat} {Pre : Pt → Array Value → Prop} {Post : Pt → Array Value → Option Value → Pt → Prop} {PostX : Pt → Array Value → Addr → Pt → Prop} (hK : vx_Back l R p e below s args y 3 W9 Pre Post PostX)
    {g : JFrame} (hg : g.method = m) (hsize : g.locals.size = c.maxLocals) {argsL rest : List Value} (hlen : ∀ sig, parseMethodDescriptor y.desc = some sig → argsL.length = sig.parameters.length)
    (hstack : g.stack = argsL.reverse ++ rest) (hW : 2 * g.monitorRoom + (rest.map fun v => v.category).sum ≤ W9) (hdg : decode c.code g.pc = .ok (.invokestatic index, 3))
    (hpre : ∀ vm₁, s.WarmedH vm₁ → Pre ⟨T.setVm vm₁, locs, cells, slots⟩ argsL.toArray) :
    (∃ (v : Option Value) (vm₁ : Vm) (B : Pt), s.WarmedH vm₁ ∧ Stand p l e R s m args below meth c B.U B.locs B.cells B.slots ∧ Post ⟨T.setVm vm₁, locs, cells, slots⟩ argsL.toArray v B ∧
      ∀ target, Steps p.tables e below (B.U.setTop { g with pc := g.pc + 3, stack := v.toList ++ rest }) target → Steps p.tables e below (T.setTop g) target) ∨
    (∃ (q : Addr) (vm₁ : Vm) (B : Pt), s.WarmedH vm₁ ∧ Stand p l e R s m args below meth c B.U B.locs B.cells B.slots ∧ PostX ⟨T.setVm vm₁, locs, cells, slots⟩ argsL.toArray q B ∧
      Steps p.tables e below (T.setTop g) ((B.U.setTop { g with stack := rest }).pushFrame (.throwing q))) := by
  obtain ⟨mk, methM, cM, hnamed, hmethM, -, -, -, -, -, -, hsigM⟩ := Cond.codeWith_spec hcode
  have hstatic : methM.isStatic = true := Cond.static_spec hnamed hmethM hstat
  obtain ⟨kP, hkP, -⟩ := className_of_methodNamed hnamed
  have hinitP : kP.init = .initialized := Cond.initialized_spec (findClass_of_methodNamed hnamed) hkP hinit
  obtain ⟨vm₁, X₁, hstep₁⟩ := X.invokestatic hexec hown hlink hnamed hmethM hstatic hkP hinitP hy (g := g) hg (argsL := argsL) (rest := rest) (hlen _ hsigM) hstack hdg
  rcases hK m meth c ⟨T.setVm vm₁, locs, cells, slots⟩ { g with stack := rest } (.invokestatic index) mk argsL.toArray X₁ hg hsize hdg hW (X₁.named hnamed) (hpre vm₁ X₁.warmed) with ⟨v, B, X', hpost, hsteps⟩ | ⟨q, B, X', hpost, hsteps⟩
  · exact Or.inl ⟨v, vm₁, B, X₁.warmed, X', hpost, fun target h => hstep₁ _ fun acts => by rw [doInvoke_state]; exact hsteps.trans h⟩
  · exact Or.inr ⟨q, vm₁, B, X₁.warmed, X', hpost, hstep₁ _ fun acts => by rw [doInvoke_state]; exact hsteps⟩
theorem vx_callVW (X : Stand p l e R s m args below meth c T locs cells slots) (hexec : p.tables.exec = Jvm.exec) {own C : String} {index : Nat} {y : MethodName} {bytes : ByteArray} {maxL : Nat} {ret : Option FieldType} {hh : List (Nat × Nat × Nat × Nat)}
    (hown : s.vm.findClass own = some m.cls) (hlink : (Cond.methodLink own index y).before args s = true) (hinst : (Cond.instanceMethod y).before args s = true) (hsel : (Cond.selects C y y).before args s = true)
    (hcode : (Cond.codeWith y bytes maxL ret hh).before args s = true) (hy : y.cls ≠ "java/lang/invoke/MethodHandle" ∧ y.cls ≠ "java/lang/invoke/VarHandle")
    {W9 : Nat} {Pre : Pt → Array Value → Prop} {Post : Pt → Array Value → Option Value → Pt → Prop} (hK : Back l R p e below s args y 3 W9 Pre Post)
    {b : Addr} {cellB : Cell} (hcell : T.heap[b]? = some cellB) (hobj : cellB.vm.isStatics = false) (hcls : s.vm.findClass C = some cellB.cls)
    {g : JFrame} (hg : g.method = m) (hsize : g.locals.size = c.maxLocals) {argsL rest : List Value} (hlen : ∀ sig, parseMethodDescriptor y.desc = some sig → argsL.length = sig.parameters.length)
    (hstack : g.stack = argsL.reverse ++ .ref b :: rest) (hW : 2 * g.monitorRoom + (rest.map fun v => v.category).sum ≤ W9) (hdg : decode c.code g.pc = .ok (.invokevirtual index, 3))
    (hpre : ∀ vm₁, s.WarmedH vm₁ → Pre ⟨T.setVm vm₁, locs, cells, slots⟩ (Value.ref b :: argsL).toArray) :
    ∃ (v : Option Value) (vm₁ : Vm) (B : Pt), s.WarmedH vm₁ ∧ Stand p l e R s m args below meth c B.U B.locs B.cells B.slots ∧ Post ⟨T.setVm vm₁, locs, cells, slots⟩ (Value.ref b :: argsL).toArray v B ∧
      ∀ target, Steps p.tables e below (B.U.setTop { g with pc := g.pc + 3, stack := v.toList ++ rest }) target → Steps p.tables e below (T.setTop g) target := by
  obtain ⟨mk, methM, hnamed, hmethM, hstM, habM⟩ := Cond.instanceMethod_spec hinst
  obtain ⟨m8, methM', cM, hn8, hmethM', -, -, -, -, -, -, hsigM⟩ := Cond.codeWith_spec hcode
  cases Option.some.inj (hn8.symm.trans hnamed)
  cases hmethM.symm.trans hmethM'
  obtain ⟨c2, r2, m2, q1, q2, q3, q4, kP, hkP, hkPi⟩ := Cond.selects_spec hsel
  cases hcls.symm.trans q1
  cases (State.methodFound?_of_named hnamed hy).symm.trans q2
  cases hnamed.symm.trans q3
  have hselP : selectMethod e.platform s.vm cellB.cls mk = .method mk := by rw [Launch.admits_selectMethod X.admits]; exact q4
  obtain ⟨vm₁, X₁, hstep₁⟩ := X.invokevirtual hexec hown hlink hnamed hmethM hstM hkP hkPi hy (a := b) (cell := cellB) hcell
    (fun z h => by rw [h] at hobj; cases hobj) hselP hmethM habM hkP hkPi (g := g) hg (argsL := argsL) (rest := rest) (hlen _ hsigM) hstack hdg
  obtain ⟨v, B, X', hpost, hsteps⟩ := hK m meth c ⟨T.setVm vm₁, locs, cells, slots⟩ { g with stack := rest } (.invokevirtual index) mk (Value.ref b :: argsL).toArray X₁ hg hsize hdg hW (X₁.named hnamed) (hpre vm₁ X₁.warmed)
  exact ⟨v, vm₁, B, X₁.warmed, X', hpost, fun target h => hstep₁ _ fun acts => by rw [doInvoke_state]; exact hsteps.trans h⟩
abbrev vx_CVW (R : Room) (s : State) (args : Array Value) (own C : String) (index : Nat) (y : MethodName) (bytes : ByteArray) (maxL : Nat) (ret : Option FieldType) (hh : List (Nat × Nat × Nat × Nat)) (ws : List Cond) (rm : Room) (mc ms n : Nat) : Prop :=
  (rm.cells = mc ∧ rm.slots = ms ∧ rm.frames + 1 ≤ R.frames ∧ 8 + (maxL + 11) + rm.locals ≤ R.locals ∧ (∀ w ∈ ws, ∀ (a' : Array Value) (U : State), s.WarmedH U.vm → w.before a' U = true) ∧ Cond.codeWith y bytes maxL ret hh ∈ ws) ∧
  (Cond.codeWith y bytes maxL ret hh).before args s = true ∧ (Cond.initialized y.cls).before args s = true ∧ (y.cls ≠ "java/lang/invoke/MethodHandle" ∧ y.cls ≠ "java/lang/invoke/VarHandle") ∧
  (∀ sig, parseMethodDescriptor y.desc = some sig → n = sig.parameters.length) ∧ (Cond.methodLink own index y).before args s = true ∧ (Cond.instanceMethod y).before args s = true ∧ (Cond.selects C y y).before args s = true
theorem vx_cwVW {own C : String} {index maxL mc ms : Nat} {y : MethodName} {bytes : ByteArray} {ret : Option FieldType} {hh : List (Nat × Nat × Nat × Nat)} {Ts ws ws' : List Cond} {rm : Room} (n : Nat) (ht : ∀ w ∈ Ts, w.before args s = true) (hT : GoodIn Ts (wsV own index C y ws)) (hw : ws = Cond.codeWith y bytes maxL ret hh :: ws') (hrc : rm.cells = mc) (hrs : rm.slots = ms)
    (hd : y.cls = C ∧ y.cls ≠ "java/lang/invoke/MethodHandle" ∧ y.cls ≠ "java/lang/invoke/VarHandle" ∧ (parseMethodDescriptor y.desc).map (fun d => d.parameters.length) = some n) (hR : rm.frames + 1 ≤ R.frames ∧ 8 + (maxL + 11) + rm.locals ≤ R.locals) :
    vx_CVW R s args own C index y bytes maxL ret hh ws rm mc ms n := by
  obtain ⟨hC, hd⟩ := hd
  subst hC
  have ok : ∀ w ∈ wsV own index y.cls y ws, w.before args s = true := fun w h => ht w (hT w h).1
  have hG : GoodIn Ts ws := fun w h => hT w (by unfold wsV; exact List.mem_append_right _ h)
  have hc : Cond.codeWith y bytes maxL ret hh ∈ ws := by rw [hw]; exact List.mem_cons_self
  refine ⟨⟨hrc, hrs, hR.1, hR.2, pay_in ht hG, hc⟩, ht _ (hG _ hc).1, ok _ (by simp [wsV]), ⟨hd.1, hd.2.1⟩, fun sig h => ?_, ok _ (by simp [wsV]), ok _ (by simp [wsV]), ok _ (by simp [wsV])⟩
  have h2 := hd.2.2
  rw [h] at h2
  exact (Option.some.inj h2).symm
theorem vx_runVW {y : MethodName} {bytes cc : ByteArray} {maxL nL mc ms n index : Nat} {ret : Option FieldType} {hh : List (Nat × Nat × Nat × Nat)} {ws : List Cond} {rm : Room} {Pc : Array Value → State → Prop} {Qc : Array Value → State → Outcome → State → Prop} {free : Addr → Prop} {Ts : List Cond} {own C : String} {b : Addr} {As rest : List Value} {g : JFrame}
    (S : CallFix p m c cc nL s args Ts own) (hM : Met l y ws rm Pc Qc mc ms free) (cw : vx_CVW R s args own C index y bytes maxL ret hh ws rm mc ms n) (hp : PreV s H C b Pc As)
    (hg : g.method = m) (hn : As.length = n) (hsize : g.locals.size = nL) (hstack : g.stack = As.reverse ++ .ref b :: rest) (hW : 2 * g.monitorRoom + (rest.map fun v => v.category).sum ≤ 8) (hdg : decode cc g.pc = .ok (.invokevirtual index, 3)) (hf : cells + mc ≤ R.cells ∧ slots + ms ≤ R.slots) :
    va_Run p l e R s m args below meth c H locs cells slots mc ms g rest (Qc (Value.ref b :: As).toArray) free := by
  obtain ⟨⟨hrc, hrs, hfr, hlo, hws, hcw⟩, hcode, hini, hy, hlen, hl, hin, hse⟩ := cw
  have hK : Back l R p e below s args y 3 8 (PreOf R mc ms Pc) (PostOf Qc mc ms free) := va_backW (hh := hh) (bytes := bytes) (maxL := maxL) (ret := ret) hM hp.1 hrc hrs hfr hlo hws hcw (fun a' U hW => word_at hW (Or.inl (by first | rfl | simp [Cond.onTables, Cond.keeps, Cond.steady])) hini)
  obtain ⟨hx, hb, hml, ho, -⟩ := S
  obtain ⟨-, ⟨cellB, hcB, hoB, hclB⟩, hPc⟩ := hp
  intro T hT X
  obtain ⟨v, vm₁, ⟨U', l2, c2, s2⟩, hW₁, X', ⟨g', mk, t, L, e1, e2, hq, h1, hL, h2, h3⟩, st⟩ := vx_callVW X hx (C := C) (hh := hh) (bytes := bytes) (maxL := maxL) (ret := ret) ho hl hin hse hcode hy hK (by rw [hT]; exact hcB) hoB hclB hg (hsize.trans hml.symm) (argsL := As) (rest := rest) (fun sig h => hn.trans (hlen sig h)) hstack hW (by rw [hb]; exact hdg)
    (fun vm₁ hW₁ => ⟨hf.1, hf.2, hPc (T.setVm vm₁) hT hW₁⟩)
  dsimp only [Pt.U, Pt.locs, Pt.cells, Pt.slots] at X' e1 e2 h1 h2 h3 st
  subst h1; subst h2; subst h3
  exact ⟨v, (T.setVm vm₁).calling g' mk (Value.ref b :: As).toArray, t, U', L, hT, X', hL, e1, e2, hq, st⟩
section
variable {y : MethodName} {bytes cc : ByteArray} {maxL nL mc ms n index : Nat} {ret : Option FieldType} {ws : List Cond} {rm : Room} {Pc : Array Value → State → Prop} {Qc : Array Value → State → Outcome → State → Prop} {XC : String → State → State → Prop} {free : Addr → Prop} {Ts : List Cond} {own C : String} {b : Addr} {As rest : List Value} {g : JFrame}
theorem vx_runVX {hh : List (Nat × Nat × Nat × Nat)} (S : CallFix p m c cc nL s args Ts own) (hM : vx_Met l y ws rm Pc Qc XC mc ms free) (cw : vx_CVW R s args own C index y bytes maxL ret hh ws rm mc ms n) (hp : PreV s H C b Pc As)
    (hg : g.method = m) (hn : As.length = n) (hsize : g.locals.size = nL) (hstack : g.stack = As.reverse ++ .ref b :: rest) (hW : 2 * g.monitorRoom + (rest.map fun v => v.category).sum ≤ 8) (hdg : decode cc g.pc = .ok (.invokevirtual index, 3)) (hf : cells + mc ≤ R.cells ∧ slots + ms ≤ R.slots) :
    vx_Run p l e R s m args below meth c H locs cells slots mc ms g rest (Qc (Value.ref b :: As).toArray) XC free := by
  obtain ⟨⟨hrc, hrs, hfr, hlo, hws, hcw⟩, hcode, hini, hy, hlen, hl, hin, hse⟩ := cw
  have hK : vx_Back l R p e below s args y 3 8 (PreOf R mc ms Pc) (PostOf Qc mc ms free) (vx_Post XC mc ms free) := vx_backW (hh := hh) (bytes := bytes) (maxL := maxL) (ret := ret) hM hp.1 hrc hrs hfr hlo hws hcw (fun a' U hW => word_at hW (Or.inl (by first | rfl | simp [Cond.onTables, Cond.keeps, Cond.steady])) hini)
  obtain ⟨hx, hb, hml, ho, -⟩ := S
  obtain ⟨-, ⟨cellB, hcB, hoB, hclB⟩, hPc⟩ := hp
  intro T hT X
  rcases vx_callVX X hx (C := C) (hh := hh) (bytes := bytes) (maxL := maxL) (ret := ret) ho hl hin hse hcode hy hK (by rw [hT]; exact hcB) hoB hclB hg (hsize.trans hml.symm) (argsL := As) (rest := rest) (fun sig h => hn.trans (hlen sig h)) hstack hW (by rw [hb]; exact hdg)
    (fun vm₁ hW₁ => ⟨hf.1, hf.2, hPc (T.setVm vm₁) hT hW₁⟩) with ⟨v, vm₁, ⟨U', l2, c2, s2⟩, hW₁, X', ⟨g', mk, t, L, e1, e2, hq, h1, hL, h2, h3⟩, st⟩ | ⟨q, vm₁, ⟨U', l2, c2, s2⟩, hW₁, X', ⟨g', mk, t, L, E, ce, e1, e2, hq, hce, hcv, hcl, h1, hL, h2, h3⟩, st⟩
  · dsimp only [Pt.U, Pt.locs, Pt.cells, Pt.slots] at X' e1 e2 h1 h2 h3 st
    subst h1; subst h2; subst h3
    exact Or.inl ⟨v, (T.setVm vm₁).calling g' mk (Value.ref b :: As).toArray, t, U', L, hT, X', hL, e1, e2, hq, st⟩
  · dsimp only [Pt.U, Pt.locs, Pt.cells, Pt.slots] at X' e1 e2 h1 h2 h3 st hcl
    subst h1; subst h2; subst h3
    exact Or.inr ⟨q, (T.setVm vm₁).calling g' mk (Value.ref b :: As).toArray, t, U', L, E, ce, hT, X', hL, e1, e2, hq, hce, hcv, vx_cls hW₁ hcl, st⟩
theorem vx_runSX {hh : List (Nat × Nat × Nat × Nat)} (S : CallFix p m c cc nL s args Ts own) (hM : vx_Met l y ws rm Pc Qc XC mc ms free) (cw : vx_CSW R s args own index y bytes maxL ret hh ws rm mc ms n) (hp : PreS s H Pc As)
    (hg : g.method = m) (hn : As.length = n) (hsize : g.locals.size = nL) (hstack : g.stack = As.reverse ++ rest) (hW : 2 * g.monitorRoom + (rest.map fun v => v.category).sum ≤ 8) (hdg : decode cc g.pc = .ok (.invokestatic index, 3)) (hf : cells + mc ≤ R.cells ∧ slots + ms ≤ R.slots) :
    vx_Run p l e R s m args below meth c H locs cells slots mc ms g rest (Qc As.toArray) XC free := by
  obtain ⟨⟨hrc, hrs, hfr, hlo, hws, hcw⟩, hcode, hini, hy, hlen, hl, hstt⟩ := cw
  have hK : vx_Back l R p e below s args y 3 8 (PreOf R mc ms Pc) (PostOf Qc mc ms free) (vx_Post XC mc ms free) := vx_backW (hh := hh) (bytes := bytes) (maxL := maxL) (ret := ret) hM hp.1 hrc hrs hfr hlo hws hcw (fun a' U hW => word_at hW (Or.inl (by first | rfl | simp [Cond.onTables, Cond.keeps, Cond.steady])) hini)
  obtain ⟨hx, hb, hml, ho, -⟩ := S
  intro T hT X
  rcases vx_callSX X hx (hh := hh) (bytes := bytes) (maxL := maxL) (ret := ret) ho hl hstt hini hcode hy hK hg (hsize.trans hml.symm) (argsL := As) (rest := rest) (fun sig h => hn.trans (hlen sig h)) hstack hW (by rw [hb]; exact hdg)
    (fun vm₁ hW₁ => ⟨hf.1, hf.2, hp.2 (T.setVm vm₁) hT hW₁⟩) with ⟨v, vm₁, ⟨U', l2, c2, s2⟩, hW₁, X', ⟨g', mk, t, L, e1, e2, hq, h1, hL, h2, h3⟩, st⟩ | ⟨q, vm₁, ⟨U', l2, c2, s2⟩, hW₁, X', ⟨g', mk, t, L, E, ce, e1, e2, hq, hce, hcv, hcl, h1, hL, h2, h3⟩, st⟩
  · dsimp only [Pt.U, Pt.locs, Pt.cells, Pt.slots] at X' e1 e2 h1 h2 h3 st
    subst h1; subst h2; subst h3
    exact Or.inl ⟨v, (T.setVm vm₁).calling g' mk As.toArray, t, U', L, hT, X', hL, e1, e2, hq, st⟩
  · dsimp only [Pt.U, Pt.locs, Pt.cells, Pt.slots] at X' e1 e2 h1 h2 h3 st hcl
    subst h1; subst h2; subst h3
    exact Or.inr ⟨q, (T.setVm vm₁).calling g' mk As.toArray, t, U', L, E, ce, hT, X', hL, e1, e2, hq, hce, hcv, vx_cls hW₁ hcl, st⟩
end
end VXH
theorem vx_ofWH {l : Launch} {y : MethodName} {ws ws' : List Cond} {rm : Room} {Pc : Array Value → State → Prop} {Qc : Array Value → State → Outcome → State → Prop} {XC : String → State → State → Prop} {mc ms : Nat} {free : Addr → Prop} {cc : ByteArray} {maxL : Nat} {ret : Option FieldType} {hh : List (Nat × Nat × Nat × Nat)}
    (hy : plainName y.cls = true) (hw : ws = Cond.codeWith y cc maxL ret hh :: ws')
    (body : ∀ p e s m args below meth c s₁, BodyLoose p l y (headSpec ws rm) cc maxL ret e s m args below meth c s₁ → c.maxLocals = maxL → Pc args s →
      W p l e (headSpec ws rm).room s m args below meth c s.heap [] 0 0 (vx_MQ below Qc XC args s mc ms free) (entryFrame m args maxL)) : vx_Met l y ws rm Pc Qc XC mc ms free := by
  refine MetFree.of_bodyS (code := cc) (maxLocals := maxL) (ret := ret) hy ?_ ?_
  · intro args s m h hn
    obtain ⟨m9, meth, c, hn9, h1, h2, h3, h4, -, h5, h6, -⟩ := Cond.codeWith_spec (atoms_spec (ws := ws) h _ (by rw [hw]; exact List.mem_cons_self))
    cases hn.symm.trans hn9
    exact ⟨meth, c, h1, h2, h3, h4, h5, h6⟩
  · intro p e s m args below meth c s₁ B hml hP _
    have hh0 : s₁.heap = s.heap := by rw [B.state]; rfl
    obtain ⟨t, a1, o, b1, b2, b3⟩ := body p e s m args below meth c s₁ B hml hP s₁ hh0 (Stand.of_body B)
    exact ⟨t, o, a1, b1, b2, b3⟩
/-! ===== END ===== -/

def RX0 : String := "RunSorter"
def TX0 : u_T := fun k => match k with
  | 0 => ("RunSorter", "numbers", "[I", true)
  | 1 => ("RunSorter", "tags", "[I", true)
  | 2 => ("RunSorter", "size", "I", false)
  | 3 => ("RunSorter", "spareNumbers", "[I", true)
  | 4 => ("RunSorter", "spareTags", "[I", true)
  | _ => ("RunSorter", "runStarts", "[I", true)
def tyX0 : Nat → FieldType := fun k => match k with
  | 0 => .array .int
  | 1 => .array .int
  | 2 => .int
  | 3 => .array .int
  | 4 => .array .int
  | _ => .array .int
abbrev wsX00 : List Cond := u_ws RX0 TX0 6
theorem nmX0 : ∀ a, a < 6 → ∀ b, b < 6 → a ≠ b → (TX0 a).2.1 ≠ (TX0 b).2.1 := by decide +kernel
theorem tyX0_ok : ∀ k, k < 6 → parseFieldDescriptor (TX0 k).2.2.1 = some (tyX0 k) := by decide +kernel
abbrev cX0_init : ByteArray := prog_1_method_1_code
def yX0_init : MethodName := ⟨RX0, "<init>", "()V"⟩
abbrev cX0_fill : ByteArray := prog_1_method_2_code
def yX0_fill : MethodName := ⟨RX0, "fill", "(III)I"⟩
abbrev cX0_scatter : ByteArray := prog_1_method_3_code
def yX0_scatter : MethodName := ⟨RX0, "scatter", "(III)I"⟩
abbrev cX0_sort : ByteArray := prog_1_method_4_code
def yX0_sort : MethodName := ⟨RX0, "sort", "(III)I"⟩
abbrev cX0_get : ByteArray := prog_1_method_5_code
def yX0_get : MethodName := ⟨RX0, "get", "(I)I"⟩
abbrev cX0_tag : ByteArray := prog_1_method_6_code
def yX0_tag : MethodName := ⟨RX0, "tag", "(I)I"⟩
abbrev cX0_set : ByteArray := prog_1_method_7_code
def yX0_set : MethodName := ⟨RX0, "set", "(II)I"⟩
abbrev cX0_turn : ByteArray := prog_1_method_8_code
def yX0_turn : MethodName := ⟨RX0, "turn", "(II)I"⟩
abbrev cX0_upTo : ByteArray := prog_1_method_9_code
def yX0_upTo : MethodName := ⟨RX0, "upTo", "(IIZ)I"⟩
abbrev cX0_clear : ByteArray := prog_1_method_10_code
def yX0_clear : MethodName := ⟨RX0, "clear", "()I"⟩
abbrev cX0_hash : ByteArray := prog_1_method_11_code
def yX0_hash : MethodName := ⟨RX0, "hash", "()I"⟩
abbrev cX0_requireWithin : ByteArray := prog_1_method_12_code
def yX0_requireWithin : MethodName := ⟨RX0, "requireWithin", "(III)V"⟩
abbrev cX0_requireOrder : ByteArray := prog_1_method_13_code
def yX0_requireOrder : MethodName := ⟨RX0, "requireOrder", "(I)V"⟩
abbrev cX0_requirePart : ByteArray := prog_1_method_14_code
def yX0_requirePart : MethodName := ⟨RX0, "requirePart", "(II)V"⟩
abbrev cX0_requireRoomFor : ByteArray := prog_1_method_15_code
def yX0_requireRoomFor : MethodName := ⟨RX0, "requireRoomFor", "(I)V"⟩
abbrev cX0_requireIndex : ByteArray := prog_1_method_16_code
def yX0_requireIndex : MethodName := ⟨RX0, "requireIndex", "(I)V"⟩
abbrev cX0_append : ByteArray := prog_1_method_17_code
def yX0_append : MethodName := ⟨RX0, "append", "(I)V"⟩
abbrev cX0_swap : ByteArray := prog_1_method_18_code
def yX0_swap : MethodName := ⟨RX0, "swap", "(II)V"⟩
abbrev cX0_rank : ByteArray := prog_1_method_19_code
def yX0_rank : MethodName := ⟨RX0, "rank", "(II)I"⟩
abbrev cX0_findRuns : ByteArray := prog_1_method_20_code
def yX0_findRuns : MethodName := ⟨RX0, "findRuns", "(III)I"⟩
abbrev cX0_mergePairsOfRuns : ByteArray := prog_1_method_21_code
def yX0_mergePairsOfRuns : MethodName := ⟨RX0, "mergePairsOfRuns", "(II)V"⟩
abbrev cX0_merge : ByteArray := prog_1_method_22_code
def yX0_merge : MethodName := ⟨RX0, "merge", "(IIII)V"⟩
def RL : String := "RunSorterLaw"
abbrev cL_fill : ByteArray := method_3_code
def yL_fill : MethodName := ⟨RL, "fill", "(LRunSorter;III[J)I"⟩
abbrev cL_scatter : ByteArray := method_4_code
def yL_scatter : MethodName := ⟨RL, "scatter", "(LRunSorter;III[J)I"⟩
abbrev cL_sort : ByteArray := method_5_code
def yL_sort : MethodName := ⟨RL, "sort", "(LRunSorter;III[J)I"⟩
abbrev cL_get : ByteArray := method_6_code
def yL_get : MethodName := ⟨RL, "get", "(LRunSorter;I[J)I"⟩
abbrev cL_tag : ByteArray := method_7_code
def yL_tag : MethodName := ⟨RL, "tag", "(LRunSorter;I[J)I"⟩
abbrev cL_set : ByteArray := method_8_code
def yL_set : MethodName := ⟨RL, "set", "(LRunSorter;II[J)I"⟩
abbrev cL_turn : ByteArray := method_9_code
def yL_turn : MethodName := ⟨RL, "turn", "(LRunSorter;II[J)I"⟩
abbrev cL_upTo : ByteArray := method_10_code
def yL_upTo : MethodName := ⟨RL, "upTo", "(LRunSorter;IIZ[J)I"⟩
abbrev cL_law : ByteArray := code
def yL_law : MethodName := ⟨RL, "law", "([I)Z"⟩
theorem dX0_init_0 : decode cX0_init 0 = .ok (.aload_n 0, 1) := by decide +kernel
theorem dX0_init_1 : decode cX0_init 1 = .ok (.invokespecial 1, 3) := by decide +kernel
theorem dX0_init_4 : decode cX0_init 4 = .ok (.aload_n 0, 1) := by decide +kernel
theorem dX0_init_5 : decode cX0_init 5 = .ok (.sipush 2000, 3) := by decide +kernel
theorem dX0_init_8 : decode cX0_init 8 = .ok (.newarray .int, 2) := by decide +kernel
theorem dX0_init_10 : decode cX0_init 10 = .ok (.putfield 9, 3) := by decide +kernel
theorem dX0_init_13 : decode cX0_init 13 = .ok (.aload_n 0, 1) := by decide +kernel
theorem dX0_init_14 : decode cX0_init 14 = .ok (.sipush 2000, 3) := by decide +kernel
theorem dX0_init_17 : decode cX0_init 17 = .ok (.newarray .int, 2) := by decide +kernel
theorem dX0_init_19 : decode cX0_init 19 = .ok (.putfield 13, 3) := by decide +kernel
theorem dX0_init_22 : decode cX0_init 22 = .ok (.aload_n 0, 1) := by decide +kernel
theorem dX0_init_23 : decode cX0_init 23 = .ok (.iconst 0, 1) := by decide +kernel
theorem dX0_init_24 : decode cX0_init 24 = .ok (.putfield 16, 3) := by decide +kernel
theorem dX0_init_27 : decode cX0_init 27 = .ok (.aload_n 0, 1) := by decide +kernel
theorem dX0_init_28 : decode cX0_init 28 = .ok (.sipush 2000, 3) := by decide +kernel
theorem dX0_init_31 : decode cX0_init 31 = .ok (.newarray .int, 2) := by decide +kernel
theorem dX0_init_33 : decode cX0_init 33 = .ok (.putfield 20, 3) := by decide +kernel
theorem dX0_init_36 : decode cX0_init 36 = .ok (.aload_n 0, 1) := by decide +kernel
theorem dX0_init_37 : decode cX0_init 37 = .ok (.sipush 2000, 3) := by decide +kernel
theorem dX0_init_40 : decode cX0_init 40 = .ok (.newarray .int, 2) := by decide +kernel
theorem dX0_init_42 : decode cX0_init 42 = .ok (.putfield 23, 3) := by decide +kernel
theorem dX0_init_45 : decode cX0_init 45 = .ok (.aload_n 0, 1) := by decide +kernel
theorem dX0_init_46 : decode cX0_init 46 = .ok (.sipush 2001, 3) := by decide +kernel
theorem dX0_init_49 : decode cX0_init 49 = .ok (.newarray .int, 2) := by decide +kernel
theorem dX0_init_51 : decode cX0_init 51 = .ok (.putfield 26, 3) := by decide +kernel
theorem dX0_init_54 : decode cX0_init 54 = .ok (.return_, 1) := by decide +kernel
theorem dX0_fill_0 : decode cX0_fill 0 = .ok (.iload_n 3, 1) := by decide +kernel
theorem dX0_fill_1 : decode cX0_fill 1 = .ok (.iconst 0, 1) := by decide +kernel
theorem dX0_fill_2 : decode cX0_fill 2 = .ok (.sipush 2000, 3) := by decide +kernel
theorem dX0_fill_5 : decode cX0_fill 5 = .ok (.invokestatic 29, 3) := by decide +kernel
theorem dX0_fill_8 : decode cX0_fill 8 = .ok (.aload_n 0, 1) := by decide +kernel
theorem dX0_fill_9 : decode cX0_fill 9 = .ok (.iload_n 3, 1) := by decide +kernel
theorem dX0_fill_10 : decode cX0_fill 10 = .ok (.invokevirtual 33, 3) := by decide +kernel
theorem dX0_fill_13 : decode cX0_fill 13 = .ok (.iconst 0, 1) := by decide +kernel
theorem dX0_fill_14 : decode cX0_fill 14 = .ok (.istore 4, 2) := by decide +kernel
theorem dX0_fill_16 : decode cX0_fill 16 = .ok (.iload 4, 2) := by decide +kernel
theorem dX0_fill_18 : decode cX0_fill 18 = .ok (.iload_n 3, 1) := by decide +kernel
theorem dX0_fill_19 : decode cX0_fill 19 = .ok (.if_icmp .ge 19, 3) := by decide +kernel
theorem dX0_fill_22 : decode cX0_fill 22 = .ok (.aload_n 0, 1) := by decide +kernel
theorem dX0_fill_23 : decode cX0_fill 23 = .ok (.iload_n 1, 1) := by decide +kernel
theorem dX0_fill_24 : decode cX0_fill 24 = .ok (.iload 4, 2) := by decide +kernel
theorem dX0_fill_26 : decode cX0_fill 26 = .ok (.iload_n 2, 1) := by decide +kernel
theorem dX0_fill_27 : decode cX0_fill 27 = .ok (.imul, 1) := by decide +kernel
theorem dX0_fill_28 : decode cX0_fill 28 = .ok (.iadd, 1) := by decide +kernel
theorem dX0_fill_29 : decode cX0_fill 29 = .ok (.invokevirtual 37, 3) := by decide +kernel
theorem dX0_fill_32 : decode cX0_fill 32 = .ok (.iinc 4 1, 3) := by decide +kernel
theorem dX0_fill_35 : decode cX0_fill 35 = .ok (.goto (-19), 3) := by decide +kernel
theorem dX0_fill_38 : decode cX0_fill 38 = .ok (.aload_n 0, 1) := by decide +kernel
theorem dX0_fill_39 : decode cX0_fill 39 = .ok (.getfield 16, 3) := by decide +kernel
theorem dX0_fill_42 : decode cX0_fill 42 = .ok (.ireturn, 1) := by decide +kernel
theorem dX0_scatter_0 : decode cX0_scatter 0 = .ok (.iload_n 3, 1) := by decide +kernel
theorem dX0_scatter_1 : decode cX0_scatter 1 = .ok (.iconst 0, 1) := by decide +kernel
theorem dX0_scatter_2 : decode cX0_scatter 2 = .ok (.sipush 2000, 3) := by decide +kernel
theorem dX0_scatter_5 : decode cX0_scatter 5 = .ok (.invokestatic 29, 3) := by decide +kernel
theorem dX0_scatter_8 : decode cX0_scatter 8 = .ok (.iload_n 2, 1) := by decide +kernel
theorem dX0_scatter_9 : decode cX0_scatter 9 = .ok (.iconst 1, 1) := by decide +kernel
theorem dX0_scatter_10 : decode cX0_scatter 10 = .ok (.bipush 16, 2) := by decide +kernel
theorem dX0_scatter_12 : decode cX0_scatter 12 = .ok (.invokestatic 29, 3) := by decide +kernel
theorem dX0_scatter_15 : decode cX0_scatter 15 = .ok (.aload_n 0, 1) := by decide +kernel
theorem dX0_scatter_16 : decode cX0_scatter 16 = .ok (.iload_n 3, 1) := by decide +kernel
theorem dX0_scatter_17 : decode cX0_scatter 17 = .ok (.invokevirtual 33, 3) := by decide +kernel
theorem dX0_scatter_20 : decode cX0_scatter 20 = .ok (.iconst 1, 1) := by decide +kernel
theorem dX0_scatter_21 : decode cX0_scatter 21 = .ok (.iload_n 2, 1) := by decide +kernel
theorem dX0_scatter_22 : decode cX0_scatter 22 = .ok (.ishl, 1) := by decide +kernel
theorem dX0_scatter_23 : decode cX0_scatter 23 = .ok (.iconst 1, 1) := by decide +kernel
theorem dX0_scatter_24 : decode cX0_scatter 24 = .ok (.isub, 1) := by decide +kernel
theorem dX0_scatter_25 : decode cX0_scatter 25 = .ok (.istore 4, 2) := by decide +kernel
theorem dX0_scatter_27 : decode cX0_scatter 27 = .ok (.iload_n 1, 1) := by decide +kernel
theorem dX0_scatter_28 : decode cX0_scatter 28 = .ok (.istore 5, 2) := by decide +kernel
theorem dX0_scatter_30 : decode cX0_scatter 30 = .ok (.iconst 0, 1) := by decide +kernel
theorem dX0_scatter_31 : decode cX0_scatter 31 = .ok (.istore 6, 2) := by decide +kernel
theorem dX0_scatter_33 : decode cX0_scatter 33 = .ok (.iload 6, 2) := by decide +kernel
theorem dX0_scatter_35 : decode cX0_scatter 35 = .ok (.iload_n 3, 1) := by decide +kernel
theorem dX0_scatter_36 : decode cX0_scatter 36 = .ok (.if_icmp .ge 31, 3) := by decide +kernel
theorem dX0_scatter_39 : decode cX0_scatter 39 = .ok (.ldc 40, 2) := by decide +kernel
theorem dX0_scatter_41 : decode cX0_scatter 41 = .ok (.iload 5, 2) := by decide +kernel
theorem dX0_scatter_43 : decode cX0_scatter 43 = .ok (.imul, 1) := by decide +kernel
theorem dX0_scatter_44 : decode cX0_scatter 44 = .ok (.ldc 41, 2) := by decide +kernel
theorem dX0_scatter_46 : decode cX0_scatter 46 = .ok (.iadd, 1) := by decide +kernel
theorem dX0_scatter_47 : decode cX0_scatter 47 = .ok (.istore 5, 2) := by decide +kernel
theorem dX0_scatter_49 : decode cX0_scatter 49 = .ok (.aload_n 0, 1) := by decide +kernel
theorem dX0_scatter_50 : decode cX0_scatter 50 = .ok (.iload 5, 2) := by decide +kernel
theorem dX0_scatter_52 : decode cX0_scatter 52 = .ok (.bipush 16, 2) := by decide +kernel
theorem dX0_scatter_54 : decode cX0_scatter 54 = .ok (.iushr, 1) := by decide +kernel
theorem dX0_scatter_55 : decode cX0_scatter 55 = .ok (.iload 4, 2) := by decide +kernel
theorem dX0_scatter_57 : decode cX0_scatter 57 = .ok (.iand, 1) := by decide +kernel
theorem dX0_scatter_58 : decode cX0_scatter 58 = .ok (.invokevirtual 37, 3) := by decide +kernel
theorem dX0_scatter_61 : decode cX0_scatter 61 = .ok (.iinc 6 1, 3) := by decide +kernel
theorem dX0_scatter_64 : decode cX0_scatter 64 = .ok (.goto (-31), 3) := by decide +kernel
theorem dX0_scatter_67 : decode cX0_scatter 67 = .ok (.aload_n 0, 1) := by decide +kernel
theorem dX0_scatter_68 : decode cX0_scatter 68 = .ok (.getfield 16, 3) := by decide +kernel
theorem dX0_scatter_71 : decode cX0_scatter 71 = .ok (.ireturn, 1) := by decide +kernel
theorem dX0_sort_0 : decode cX0_sort 0 = .ok (.iload_n 1, 1) := by decide +kernel
theorem dX0_sort_1 : decode cX0_sort 1 = .ok (.invokestatic 42, 3) := by decide +kernel
theorem dX0_sort_4 : decode cX0_sort 4 = .ok (.aload_n 0, 1) := by decide +kernel
theorem dX0_sort_5 : decode cX0_sort 5 = .ok (.iload_n 2, 1) := by decide +kernel
theorem dX0_sort_6 : decode cX0_sort 6 = .ok (.iload_n 3, 1) := by decide +kernel
theorem dX0_sort_7 : decode cX0_sort 7 = .ok (.invokevirtual 45, 3) := by decide +kernel
theorem dX0_sort_10 : decode cX0_sort 10 = .ok (.aload_n 0, 1) := by decide +kernel
theorem dX0_sort_11 : decode cX0_sort 11 = .ok (.iload_n 1, 1) := by decide +kernel
theorem dX0_sort_12 : decode cX0_sort 12 = .ok (.iload_n 2, 1) := by decide +kernel
theorem dX0_sort_13 : decode cX0_sort 13 = .ok (.iload_n 3, 1) := by decide +kernel
theorem dX0_sort_14 : decode cX0_sort 14 = .ok (.invokevirtual 49, 3) := by decide +kernel
theorem dX0_sort_17 : decode cX0_sort 17 = .ok (.istore 4, 2) := by decide +kernel
theorem dX0_sort_19 : decode cX0_sort 19 = .ok (.iload 4, 2) := by decide +kernel
theorem dX0_sort_21 : decode cX0_sort 21 = .ok (.iconst 1, 1) := by decide +kernel
theorem dX0_sort_22 : decode cX0_sort 22 = .ok (.if_icmp .le 21, 3) := by decide +kernel
theorem dX0_sort_25 : decode cX0_sort 25 = .ok (.aload_n 0, 1) := by decide +kernel
theorem dX0_sort_26 : decode cX0_sort 26 = .ok (.iload_n 1, 1) := by decide +kernel
theorem dX0_sort_27 : decode cX0_sort 27 = .ok (.iload 4, 2) := by decide +kernel
theorem dX0_sort_29 : decode cX0_sort 29 = .ok (.invokevirtual 53, 3) := by decide +kernel
theorem dX0_sort_32 : decode cX0_sort 32 = .ok (.iload 4, 2) := by decide +kernel
theorem dX0_sort_34 : decode cX0_sort 34 = .ok (.iconst 1, 1) := by decide +kernel
theorem dX0_sort_35 : decode cX0_sort 35 = .ok (.iadd, 1) := by decide +kernel
theorem dX0_sort_36 : decode cX0_sort 36 = .ok (.iconst 2, 1) := by decide +kernel
theorem dX0_sort_37 : decode cX0_sort 37 = .ok (.idiv, 1) := by decide +kernel
theorem dX0_sort_38 : decode cX0_sort 38 = .ok (.istore 4, 2) := by decide +kernel
theorem dX0_sort_40 : decode cX0_sort 40 = .ok (.goto (-21), 3) := by decide +kernel
theorem dX0_sort_43 : decode cX0_sort 43 = .ok (.iload_n 3, 1) := by decide +kernel
theorem dX0_sort_44 : decode cX0_sort 44 = .ok (.iload_n 2, 1) := by decide +kernel
theorem dX0_sort_45 : decode cX0_sort 45 = .ok (.isub, 1) := by decide +kernel
theorem dX0_sort_46 : decode cX0_sort 46 = .ok (.ireturn, 1) := by decide +kernel
theorem dX0_get_0 : decode cX0_get 0 = .ok (.aload_n 0, 1) := by decide +kernel
theorem dX0_get_1 : decode cX0_get 1 = .ok (.iload_n 1, 1) := by decide +kernel
theorem dX0_get_2 : decode cX0_get 2 = .ok (.invokevirtual 56, 3) := by decide +kernel
theorem dX0_get_5 : decode cX0_get 5 = .ok (.aload_n 0, 1) := by decide +kernel
theorem dX0_get_6 : decode cX0_get 6 = .ok (.getfield 9, 3) := by decide +kernel
theorem dX0_get_9 : decode cX0_get 9 = .ok (.iload_n 1, 1) := by decide +kernel
theorem dX0_get_10 : decode cX0_get 10 = .ok (.iaload, 1) := by decide +kernel
theorem dX0_get_11 : decode cX0_get 11 = .ok (.ireturn, 1) := by decide +kernel
theorem dX0_tag_0 : decode cX0_tag 0 = .ok (.aload_n 0, 1) := by decide +kernel
theorem dX0_tag_1 : decode cX0_tag 1 = .ok (.iload_n 1, 1) := by decide +kernel
theorem dX0_tag_2 : decode cX0_tag 2 = .ok (.invokevirtual 56, 3) := by decide +kernel
theorem dX0_tag_5 : decode cX0_tag 5 = .ok (.aload_n 0, 1) := by decide +kernel
theorem dX0_tag_6 : decode cX0_tag 6 = .ok (.getfield 13, 3) := by decide +kernel
theorem dX0_tag_9 : decode cX0_tag 9 = .ok (.iload_n 1, 1) := by decide +kernel
theorem dX0_tag_10 : decode cX0_tag 10 = .ok (.iaload, 1) := by decide +kernel
theorem dX0_tag_11 : decode cX0_tag 11 = .ok (.ireturn, 1) := by decide +kernel
theorem dX0_set_0 : decode cX0_set 0 = .ok (.aload_n 0, 1) := by decide +kernel
theorem dX0_set_1 : decode cX0_set 1 = .ok (.iload_n 1, 1) := by decide +kernel
theorem dX0_set_2 : decode cX0_set 2 = .ok (.invokevirtual 56, 3) := by decide +kernel
theorem dX0_set_5 : decode cX0_set 5 = .ok (.aload_n 0, 1) := by decide +kernel
theorem dX0_set_6 : decode cX0_set 6 = .ok (.getfield 9, 3) := by decide +kernel
theorem dX0_set_9 : decode cX0_set 9 = .ok (.iload_n 1, 1) := by decide +kernel
theorem dX0_set_10 : decode cX0_set 10 = .ok (.iaload, 1) := by decide +kernel
theorem dX0_set_11 : decode cX0_set 11 = .ok (.istore_n 3, 1) := by decide +kernel
theorem dX0_set_12 : decode cX0_set 12 = .ok (.aload_n 0, 1) := by decide +kernel
theorem dX0_set_13 : decode cX0_set 13 = .ok (.getfield 9, 3) := by decide +kernel
theorem dX0_set_16 : decode cX0_set 16 = .ok (.iload_n 1, 1) := by decide +kernel
theorem dX0_set_17 : decode cX0_set 17 = .ok (.iload_n 2, 1) := by decide +kernel
theorem dX0_set_18 : decode cX0_set 18 = .ok (.iastore, 1) := by decide +kernel
theorem dX0_set_19 : decode cX0_set 19 = .ok (.iload_n 3, 1) := by decide +kernel
theorem dX0_set_20 : decode cX0_set 20 = .ok (.ireturn, 1) := by decide +kernel
theorem dX0_turn_0 : decode cX0_turn 0 = .ok (.aload_n 0, 1) := by decide +kernel
theorem dX0_turn_1 : decode cX0_turn 1 = .ok (.iload_n 1, 1) := by decide +kernel
theorem dX0_turn_2 : decode cX0_turn 2 = .ok (.iload_n 2, 1) := by decide +kernel
theorem dX0_turn_3 : decode cX0_turn 3 = .ok (.invokevirtual 45, 3) := by decide +kernel
theorem dX0_turn_6 : decode cX0_turn 6 = .ok (.iload_n 2, 1) := by decide +kernel
theorem dX0_turn_7 : decode cX0_turn 7 = .ok (.iload_n 1, 1) := by decide +kernel
theorem dX0_turn_8 : decode cX0_turn 8 = .ok (.isub, 1) := by decide +kernel
theorem dX0_turn_9 : decode cX0_turn 9 = .ok (.istore_n 3, 1) := by decide +kernel
theorem dX0_turn_10 : decode cX0_turn 10 = .ok (.iconst 0, 1) := by decide +kernel
theorem dX0_turn_11 : decode cX0_turn 11 = .ok (.istore 4, 2) := by decide +kernel
theorem dX0_turn_13 : decode cX0_turn 13 = .ok (.iload 4, 2) := by decide +kernel
theorem dX0_turn_15 : decode cX0_turn 15 = .ok (.iload_n 3, 1) := by decide +kernel
theorem dX0_turn_16 : decode cX0_turn 16 = .ok (.iconst 2, 1) := by decide +kernel
theorem dX0_turn_17 : decode cX0_turn 17 = .ok (.idiv, 1) := by decide +kernel
theorem dX0_turn_18 : decode cX0_turn 18 = .ok (.if_icmp .ge 23, 3) := by decide +kernel
theorem dX0_turn_21 : decode cX0_turn 21 = .ok (.aload_n 0, 1) := by decide +kernel
theorem dX0_turn_22 : decode cX0_turn 22 = .ok (.iload_n 1, 1) := by decide +kernel
theorem dX0_turn_23 : decode cX0_turn 23 = .ok (.iload 4, 2) := by decide +kernel
theorem dX0_turn_25 : decode cX0_turn 25 = .ok (.iadd, 1) := by decide +kernel
theorem dX0_turn_26 : decode cX0_turn 26 = .ok (.iload_n 2, 1) := by decide +kernel
theorem dX0_turn_27 : decode cX0_turn 27 = .ok (.iconst 1, 1) := by decide +kernel
theorem dX0_turn_28 : decode cX0_turn 28 = .ok (.isub, 1) := by decide +kernel
theorem dX0_turn_29 : decode cX0_turn 29 = .ok (.iload 4, 2) := by decide +kernel
theorem dX0_turn_31 : decode cX0_turn 31 = .ok (.isub, 1) := by decide +kernel
theorem dX0_turn_32 : decode cX0_turn 32 = .ok (.invokevirtual 59, 3) := by decide +kernel
theorem dX0_turn_35 : decode cX0_turn 35 = .ok (.iinc 4 1, 3) := by decide +kernel
theorem dX0_turn_38 : decode cX0_turn 38 = .ok (.goto (-25), 3) := by decide +kernel
theorem dX0_turn_41 : decode cX0_turn 41 = .ok (.iload_n 3, 1) := by decide +kernel
theorem dX0_turn_42 : decode cX0_turn 42 = .ok (.ireturn, 1) := by decide +kernel
theorem dX0_upTo_0 : decode cX0_upTo 0 = .ok (.iload_n 1, 1) := by decide +kernel
theorem dX0_upTo_1 : decode cX0_upTo 1 = .ok (.invokestatic 42, 3) := by decide +kernel
theorem dX0_upTo_4 : decode cX0_upTo 4 = .ok (.iload_n 1, 1) := by decide +kernel
theorem dX0_upTo_5 : decode cX0_upTo 5 = .ok (.iload_n 2, 1) := by decide +kernel
theorem dX0_upTo_6 : decode cX0_upTo 6 = .ok (.invokestatic 62, 3) := by decide +kernel
theorem dX0_upTo_9 : decode cX0_upTo 9 = .ok (.istore 4, 2) := by decide +kernel
theorem dX0_upTo_11 : decode cX0_upTo 11 = .ok (.iconst 0, 1) := by decide +kernel
theorem dX0_upTo_12 : decode cX0_upTo 12 = .ok (.istore 5, 2) := by decide +kernel
theorem dX0_upTo_14 : decode cX0_upTo 14 = .ok (.iload 5, 2) := by decide +kernel
theorem dX0_upTo_16 : decode cX0_upTo 16 = .ok (.aload_n 0, 1) := by decide +kernel
theorem dX0_upTo_17 : decode cX0_upTo 17 = .ok (.getfield 16, 3) := by decide +kernel
theorem dX0_upTo_20 : decode cX0_upTo 20 = .ok (.if_icmp .ge 43, 3) := by decide +kernel
theorem dX0_upTo_23 : decode cX0_upTo 23 = .ok (.iload_n 1, 1) := by decide +kernel
theorem dX0_upTo_24 : decode cX0_upTo 24 = .ok (.aload_n 0, 1) := by decide +kernel
theorem dX0_upTo_25 : decode cX0_upTo 25 = .ok (.getfield 9, 3) := by decide +kernel
theorem dX0_upTo_28 : decode cX0_upTo 28 = .ok (.iload 5, 2) := by decide +kernel
theorem dX0_upTo_30 : decode cX0_upTo 30 = .ok (.iaload, 1) := by decide +kernel
theorem dX0_upTo_31 : decode cX0_upTo 31 = .ok (.invokestatic 62, 3) := by decide +kernel
theorem dX0_upTo_34 : decode cX0_upTo 34 = .ok (.istore 6, 2) := by decide +kernel
theorem dX0_upTo_36 : decode cX0_upTo 36 = .ok (.iload 6, 2) := by decide +kernel
theorem dX0_upTo_38 : decode cX0_upTo 38 = .ok (.iload 4, 2) := by decide +kernel
theorem dX0_upTo_40 : decode cX0_upTo 40 = .ok (.if_icmp .gt 14, 3) := by decide +kernel
theorem dX0_upTo_43 : decode cX0_upTo 43 = .ok (.iload 6, 2) := by decide +kernel
theorem dX0_upTo_45 : decode cX0_upTo 45 = .ok (.iload 4, 2) := by decide +kernel
theorem dX0_upTo_47 : decode cX0_upTo 47 = .ok (.if_icmp .ne 10, 3) := by decide +kernel
theorem dX0_upTo_50 : decode cX0_upTo 50 = .ok (.iload_n 3, 1) := by decide +kernel
theorem dX0_upTo_51 : decode cX0_upTo 51 = .ok (.ifCond .ne 6, 3) := by decide +kernel
theorem dX0_upTo_54 : decode cX0_upTo 54 = .ok (.iload 5, 2) := by decide +kernel
theorem dX0_upTo_56 : decode cX0_upTo 56 = .ok (.ireturn, 1) := by decide +kernel
theorem dX0_upTo_57 : decode cX0_upTo 57 = .ok (.iinc 5 1, 3) := by decide +kernel
theorem dX0_upTo_60 : decode cX0_upTo 60 = .ok (.goto (-46), 3) := by decide +kernel
theorem dX0_upTo_63 : decode cX0_upTo 63 = .ok (.aload_n 0, 1) := by decide +kernel
theorem dX0_upTo_64 : decode cX0_upTo 64 = .ok (.getfield 16, 3) := by decide +kernel
theorem dX0_upTo_67 : decode cX0_upTo 67 = .ok (.ireturn, 1) := by decide +kernel
theorem dX0_clear_0 : decode cX0_clear 0 = .ok (.aload_n 0, 1) := by decide +kernel
theorem dX0_clear_1 : decode cX0_clear 1 = .ok (.getfield 16, 3) := by decide +kernel
theorem dX0_clear_4 : decode cX0_clear 4 = .ok (.istore_n 1, 1) := by decide +kernel
theorem dX0_clear_5 : decode cX0_clear 5 = .ok (.aload_n 0, 1) := by decide +kernel
theorem dX0_clear_6 : decode cX0_clear 6 = .ok (.iconst 0, 1) := by decide +kernel
theorem dX0_clear_7 : decode cX0_clear 7 = .ok (.putfield 16, 3) := by decide +kernel
theorem dX0_clear_10 : decode cX0_clear 10 = .ok (.iload_n 1, 1) := by decide +kernel
theorem dX0_clear_11 : decode cX0_clear 11 = .ok (.ireturn, 1) := by decide +kernel
theorem dX0_hash_0 : decode cX0_hash 0 = .ok (.iconst 1, 1) := by decide +kernel
theorem dX0_hash_1 : decode cX0_hash 1 = .ok (.istore_n 1, 1) := by decide +kernel
theorem dX0_hash_2 : decode cX0_hash 2 = .ok (.iconst 0, 1) := by decide +kernel
theorem dX0_hash_3 : decode cX0_hash 3 = .ok (.istore_n 2, 1) := by decide +kernel
theorem dX0_hash_4 : decode cX0_hash 4 = .ok (.iload_n 2, 1) := by decide +kernel
theorem dX0_hash_5 : decode cX0_hash 5 = .ok (.aload_n 0, 1) := by decide +kernel
theorem dX0_hash_6 : decode cX0_hash 6 = .ok (.getfield 16, 3) := by decide +kernel
theorem dX0_hash_9 : decode cX0_hash 9 = .ok (.if_icmp .ge 33, 3) := by decide +kernel
theorem dX0_hash_12 : decode cX0_hash 12 = .ok (.bipush 31, 2) := by decide +kernel
theorem dX0_hash_14 : decode cX0_hash 14 = .ok (.iload_n 1, 1) := by decide +kernel
theorem dX0_hash_15 : decode cX0_hash 15 = .ok (.imul, 1) := by decide +kernel
theorem dX0_hash_16 : decode cX0_hash 16 = .ok (.aload_n 0, 1) := by decide +kernel
theorem dX0_hash_17 : decode cX0_hash 17 = .ok (.getfield 9, 3) := by decide +kernel
theorem dX0_hash_20 : decode cX0_hash 20 = .ok (.iload_n 2, 1) := by decide +kernel
theorem dX0_hash_21 : decode cX0_hash 21 = .ok (.iaload, 1) := by decide +kernel
theorem dX0_hash_22 : decode cX0_hash 22 = .ok (.iadd, 1) := by decide +kernel
theorem dX0_hash_23 : decode cX0_hash 23 = .ok (.istore_n 1, 1) := by decide +kernel
theorem dX0_hash_24 : decode cX0_hash 24 = .ok (.bipush 31, 2) := by decide +kernel
theorem dX0_hash_26 : decode cX0_hash 26 = .ok (.iload_n 1, 1) := by decide +kernel
theorem dX0_hash_27 : decode cX0_hash 27 = .ok (.imul, 1) := by decide +kernel
theorem dX0_hash_28 : decode cX0_hash 28 = .ok (.aload_n 0, 1) := by decide +kernel
theorem dX0_hash_29 : decode cX0_hash 29 = .ok (.getfield 13, 3) := by decide +kernel
theorem dX0_hash_32 : decode cX0_hash 32 = .ok (.iload_n 2, 1) := by decide +kernel
theorem dX0_hash_33 : decode cX0_hash 33 = .ok (.iaload, 1) := by decide +kernel
theorem dX0_hash_34 : decode cX0_hash 34 = .ok (.iadd, 1) := by decide +kernel
theorem dX0_hash_35 : decode cX0_hash 35 = .ok (.istore_n 1, 1) := by decide +kernel
theorem dX0_hash_36 : decode cX0_hash 36 = .ok (.iinc 2 1, 3) := by decide +kernel
theorem dX0_hash_39 : decode cX0_hash 39 = .ok (.goto (-35), 3) := by decide +kernel
theorem dX0_hash_42 : decode cX0_hash 42 = .ok (.iload_n 1, 1) := by decide +kernel
theorem dX0_hash_43 : decode cX0_hash 43 = .ok (.ireturn, 1) := by decide +kernel
theorem dX0_requireWithin_0 : decode cX0_requireWithin 0 = .ok (.iload_n 0, 1) := by decide +kernel
theorem dX0_requireWithin_1 : decode cX0_requireWithin 1 = .ok (.iload_n 1, 1) := by decide +kernel
theorem dX0_requireWithin_2 : decode cX0_requireWithin 2 = .ok (.if_icmp .lt 8, 3) := by decide +kernel
theorem dX0_requireWithin_5 : decode cX0_requireWithin 5 = .ok (.iload_n 0, 1) := by decide +kernel
theorem dX0_requireWithin_6 : decode cX0_requireWithin 6 = .ok (.iload_n 2, 1) := by decide +kernel
theorem dX0_requireWithin_7 : decode cX0_requireWithin 7 = .ok (.if_icmp .le 13, 3) := by decide +kernel
theorem dX0_requireWithin_10 : decode cX0_requireWithin 10 = .ok (.new 66, 3) := by decide +kernel
theorem dX0_requireWithin_13 : decode cX0_requireWithin 13 = .ok (.dup, 1) := by decide +kernel
theorem dX0_requireWithin_14 : decode cX0_requireWithin 14 = .ok (.ldc 68, 2) := by decide +kernel
theorem dX0_requireWithin_16 : decode cX0_requireWithin 16 = .ok (.invokespecial 70, 3) := by decide +kernel
theorem dX0_requireWithin_19 : decode cX0_requireWithin 19 = .ok (.athrow, 1) := by decide +kernel
theorem dX0_requireWithin_20 : decode cX0_requireWithin 20 = .ok (.return_, 1) := by decide +kernel
theorem dX0_requireOrder_0 : decode cX0_requireOrder 0 = .ok (.iload_n 0, 1) := by decide +kernel
theorem dX0_requireOrder_1 : decode cX0_requireOrder 1 = .ok (.iconst 0, 1) := by decide +kernel
theorem dX0_requireOrder_2 : decode cX0_requireOrder 2 = .ok (.iconst 3, 1) := by decide +kernel
theorem dX0_requireOrder_3 : decode cX0_requireOrder 3 = .ok (.invokestatic 29, 3) := by decide +kernel
theorem dX0_requireOrder_6 : decode cX0_requireOrder 6 = .ok (.return_, 1) := by decide +kernel
theorem dX0_requirePart_0 : decode cX0_requirePart 0 = .ok (.iload_n 2, 1) := by decide +kernel
theorem dX0_requirePart_1 : decode cX0_requirePart 1 = .ok (.iconst 0, 1) := by decide +kernel
theorem dX0_requirePart_2 : decode cX0_requirePart 2 = .ok (.aload_n 0, 1) := by decide +kernel
theorem dX0_requirePart_3 : decode cX0_requirePart 3 = .ok (.getfield 16, 3) := by decide +kernel
theorem dX0_requirePart_6 : decode cX0_requirePart 6 = .ok (.invokestatic 29, 3) := by decide +kernel
theorem dX0_requirePart_9 : decode cX0_requirePart 9 = .ok (.iload_n 1, 1) := by decide +kernel
theorem dX0_requirePart_10 : decode cX0_requirePart 10 = .ok (.iconst 0, 1) := by decide +kernel
theorem dX0_requirePart_11 : decode cX0_requirePart 11 = .ok (.iload_n 2, 1) := by decide +kernel
theorem dX0_requirePart_12 : decode cX0_requirePart 12 = .ok (.invokestatic 29, 3) := by decide +kernel
theorem dX0_requirePart_15 : decode cX0_requirePart 15 = .ok (.return_, 1) := by decide +kernel
theorem dX0_requireRoomFor_0 : decode cX0_requireRoomFor 0 = .ok (.iload_n 1, 1) := by decide +kernel
theorem dX0_requireRoomFor_1 : decode cX0_requireRoomFor 1 = .ok (.sipush 2000, 3) := by decide +kernel
theorem dX0_requireRoomFor_4 : decode cX0_requireRoomFor 4 = .ok (.aload_n 0, 1) := by decide +kernel
theorem dX0_requireRoomFor_5 : decode cX0_requireRoomFor 5 = .ok (.getfield 16, 3) := by decide +kernel
theorem dX0_requireRoomFor_8 : decode cX0_requireRoomFor 8 = .ok (.isub, 1) := by decide +kernel
theorem dX0_requireRoomFor_9 : decode cX0_requireRoomFor 9 = .ok (.if_icmp .le 13, 3) := by decide +kernel
theorem dX0_requireRoomFor_12 : decode cX0_requireRoomFor 12 = .ok (.new 73, 3) := by decide +kernel
theorem dX0_requireRoomFor_15 : decode cX0_requireRoomFor 15 = .ok (.dup, 1) := by decide +kernel
theorem dX0_requireRoomFor_16 : decode cX0_requireRoomFor 16 = .ok (.ldc 75, 2) := by decide +kernel
theorem dX0_requireRoomFor_18 : decode cX0_requireRoomFor 18 = .ok (.invokespecial 77, 3) := by decide +kernel
theorem dX0_requireRoomFor_21 : decode cX0_requireRoomFor 21 = .ok (.athrow, 1) := by decide +kernel
theorem dX0_requireRoomFor_22 : decode cX0_requireRoomFor 22 = .ok (.return_, 1) := by decide +kernel
theorem dX0_requireIndex_0 : decode cX0_requireIndex 0 = .ok (.iload_n 1, 1) := by decide +kernel
theorem dX0_requireIndex_1 : decode cX0_requireIndex 1 = .ok (.ifCond .lt 11, 3) := by decide +kernel
theorem dX0_requireIndex_4 : decode cX0_requireIndex 4 = .ok (.iload_n 1, 1) := by decide +kernel
theorem dX0_requireIndex_5 : decode cX0_requireIndex 5 = .ok (.aload_n 0, 1) := by decide +kernel
theorem dX0_requireIndex_6 : decode cX0_requireIndex 6 = .ok (.getfield 16, 3) := by decide +kernel
theorem dX0_requireIndex_9 : decode cX0_requireIndex 9 = .ok (.if_icmp .lt 13, 3) := by decide +kernel
theorem dX0_requireIndex_12 : decode cX0_requireIndex 12 = .ok (.new 73, 3) := by decide +kernel
theorem dX0_requireIndex_15 : decode cX0_requireIndex 15 = .ok (.dup, 1) := by decide +kernel
theorem dX0_requireIndex_16 : decode cX0_requireIndex 16 = .ok (.ldc 78, 2) := by decide +kernel
theorem dX0_requireIndex_18 : decode cX0_requireIndex 18 = .ok (.invokespecial 77, 3) := by decide +kernel
theorem dX0_requireIndex_21 : decode cX0_requireIndex 21 = .ok (.athrow, 1) := by decide +kernel
theorem dX0_requireIndex_22 : decode cX0_requireIndex 22 = .ok (.return_, 1) := by decide +kernel
theorem dX0_append_0 : decode cX0_append 0 = .ok (.aload_n 0, 1) := by decide +kernel
theorem dX0_append_1 : decode cX0_append 1 = .ok (.getfield 9, 3) := by decide +kernel
theorem dX0_append_4 : decode cX0_append 4 = .ok (.aload_n 0, 1) := by decide +kernel
theorem dX0_append_5 : decode cX0_append 5 = .ok (.getfield 16, 3) := by decide +kernel
theorem dX0_append_8 : decode cX0_append 8 = .ok (.iload_n 1, 1) := by decide +kernel
theorem dX0_append_9 : decode cX0_append 9 = .ok (.iastore, 1) := by decide +kernel
theorem dX0_append_10 : decode cX0_append 10 = .ok (.aload_n 0, 1) := by decide +kernel
theorem dX0_append_11 : decode cX0_append 11 = .ok (.getfield 13, 3) := by decide +kernel
theorem dX0_append_14 : decode cX0_append 14 = .ok (.aload_n 0, 1) := by decide +kernel
theorem dX0_append_15 : decode cX0_append 15 = .ok (.getfield 16, 3) := by decide +kernel
theorem dX0_append_18 : decode cX0_append 18 = .ok (.aload_n 0, 1) := by decide +kernel
theorem dX0_append_19 : decode cX0_append 19 = .ok (.getfield 16, 3) := by decide +kernel
theorem dX0_append_22 : decode cX0_append 22 = .ok (.iastore, 1) := by decide +kernel
theorem dX0_append_23 : decode cX0_append 23 = .ok (.aload_n 0, 1) := by decide +kernel
theorem dX0_append_24 : decode cX0_append 24 = .ok (.dup, 1) := by decide +kernel
theorem dX0_append_25 : decode cX0_append 25 = .ok (.getfield 16, 3) := by decide +kernel
theorem dX0_append_28 : decode cX0_append 28 = .ok (.iconst 1, 1) := by decide +kernel
theorem dX0_append_29 : decode cX0_append 29 = .ok (.iadd, 1) := by decide +kernel
theorem dX0_append_30 : decode cX0_append 30 = .ok (.putfield 16, 3) := by decide +kernel
theorem dX0_append_33 : decode cX0_append 33 = .ok (.return_, 1) := by decide +kernel
theorem dX0_swap_0 : decode cX0_swap 0 = .ok (.aload_n 0, 1) := by decide +kernel
theorem dX0_swap_1 : decode cX0_swap 1 = .ok (.getfield 9, 3) := by decide +kernel
theorem dX0_swap_4 : decode cX0_swap 4 = .ok (.iload_n 1, 1) := by decide +kernel
theorem dX0_swap_5 : decode cX0_swap 5 = .ok (.iaload, 1) := by decide +kernel
theorem dX0_swap_6 : decode cX0_swap 6 = .ok (.istore_n 3, 1) := by decide +kernel
theorem dX0_swap_7 : decode cX0_swap 7 = .ok (.aload_n 0, 1) := by decide +kernel
theorem dX0_swap_8 : decode cX0_swap 8 = .ok (.getfield 13, 3) := by decide +kernel
theorem dX0_swap_11 : decode cX0_swap 11 = .ok (.iload_n 1, 1) := by decide +kernel
theorem dX0_swap_12 : decode cX0_swap 12 = .ok (.iaload, 1) := by decide +kernel
theorem dX0_swap_13 : decode cX0_swap 13 = .ok (.istore 4, 2) := by decide +kernel
theorem dX0_swap_15 : decode cX0_swap 15 = .ok (.aload_n 0, 1) := by decide +kernel
theorem dX0_swap_16 : decode cX0_swap 16 = .ok (.getfield 9, 3) := by decide +kernel
theorem dX0_swap_19 : decode cX0_swap 19 = .ok (.iload_n 1, 1) := by decide +kernel
theorem dX0_swap_20 : decode cX0_swap 20 = .ok (.aload_n 0, 1) := by decide +kernel
theorem dX0_swap_21 : decode cX0_swap 21 = .ok (.getfield 9, 3) := by decide +kernel
theorem dX0_swap_24 : decode cX0_swap 24 = .ok (.iload_n 2, 1) := by decide +kernel
theorem dX0_swap_25 : decode cX0_swap 25 = .ok (.iaload, 1) := by decide +kernel
theorem dX0_swap_26 : decode cX0_swap 26 = .ok (.iastore, 1) := by decide +kernel
theorem dX0_swap_27 : decode cX0_swap 27 = .ok (.aload_n 0, 1) := by decide +kernel
theorem dX0_swap_28 : decode cX0_swap 28 = .ok (.getfield 13, 3) := by decide +kernel
theorem dX0_swap_31 : decode cX0_swap 31 = .ok (.iload_n 1, 1) := by decide +kernel
theorem dX0_swap_32 : decode cX0_swap 32 = .ok (.aload_n 0, 1) := by decide +kernel
theorem dX0_swap_33 : decode cX0_swap 33 = .ok (.getfield 13, 3) := by decide +kernel
theorem dX0_swap_36 : decode cX0_swap 36 = .ok (.iload_n 2, 1) := by decide +kernel
theorem dX0_swap_37 : decode cX0_swap 37 = .ok (.iaload, 1) := by decide +kernel
theorem dX0_swap_38 : decode cX0_swap 38 = .ok (.iastore, 1) := by decide +kernel
theorem dX0_swap_39 : decode cX0_swap 39 = .ok (.aload_n 0, 1) := by decide +kernel
theorem dX0_swap_40 : decode cX0_swap 40 = .ok (.getfield 9, 3) := by decide +kernel
theorem dX0_swap_43 : decode cX0_swap 43 = .ok (.iload_n 2, 1) := by decide +kernel
theorem dX0_swap_44 : decode cX0_swap 44 = .ok (.iload_n 3, 1) := by decide +kernel
theorem dX0_swap_45 : decode cX0_swap 45 = .ok (.iastore, 1) := by decide +kernel
theorem dX0_swap_46 : decode cX0_swap 46 = .ok (.aload_n 0, 1) := by decide +kernel
theorem dX0_swap_47 : decode cX0_swap 47 = .ok (.getfield 13, 3) := by decide +kernel
theorem dX0_swap_50 : decode cX0_swap 50 = .ok (.iload_n 2, 1) := by decide +kernel
theorem dX0_swap_51 : decode cX0_swap 51 = .ok (.iload 4, 2) := by decide +kernel
theorem dX0_swap_53 : decode cX0_swap 53 = .ok (.iastore, 1) := by decide +kernel
theorem dX0_swap_54 : decode cX0_swap 54 = .ok (.return_, 1) := by decide +kernel
theorem dX0_rank_0 : decode cX0_rank 0 = .ok (.iload_n 0, 1) := by decide +kernel
theorem dX0_rank_1 : decode cX0_rank 1 = .ok (.tableswitch 41 1 3 #[27, 31, 36], 27) := by decide +kernel
theorem dX0_rank_28 : decode cX0_rank 28 = .ok (.iload_n 1, 1) := by decide +kernel
theorem dX0_rank_29 : decode cX0_rank 29 = .ok (.iconst (-1), 1) := by decide +kernel
theorem dX0_rank_30 : decode cX0_rank 30 = .ok (.ixor, 1) := by decide +kernel
theorem dX0_rank_31 : decode cX0_rank 31 = .ok (.ireturn, 1) := by decide +kernel
theorem dX0_rank_32 : decode cX0_rank 32 = .ok (.iload_n 1, 1) := by decide +kernel
theorem dX0_rank_33 : decode cX0_rank 33 = .ok (.bipush 15, 2) := by decide +kernel
theorem dX0_rank_35 : decode cX0_rank 35 = .ok (.iand, 1) := by decide +kernel
theorem dX0_rank_36 : decode cX0_rank 36 = .ok (.ireturn, 1) := by decide +kernel
theorem dX0_rank_37 : decode cX0_rank 37 = .ok (.iload_n 1, 1) := by decide +kernel
theorem dX0_rank_38 : decode cX0_rank 38 = .ok (.ldc 80, 2) := by decide +kernel
theorem dX0_rank_40 : decode cX0_rank 40 = .ok (.ixor, 1) := by decide +kernel
theorem dX0_rank_41 : decode cX0_rank 41 = .ok (.ireturn, 1) := by decide +kernel
theorem dX0_rank_42 : decode cX0_rank 42 = .ok (.iload_n 1, 1) := by decide +kernel
theorem dX0_rank_43 : decode cX0_rank 43 = .ok (.ireturn, 1) := by decide +kernel
theorem dX0_findRuns_0 : decode cX0_findRuns 0 = .ok (.iconst 0, 1) := by decide +kernel
theorem dX0_findRuns_1 : decode cX0_findRuns 1 = .ok (.istore 4, 2) := by decide +kernel
theorem dX0_findRuns_3 : decode cX0_findRuns 3 = .ok (.iload_n 2, 1) := by decide +kernel
theorem dX0_findRuns_4 : decode cX0_findRuns 4 = .ok (.istore 5, 2) := by decide +kernel
theorem dX0_findRuns_6 : decode cX0_findRuns 6 = .ok (.iload 5, 2) := by decide +kernel
theorem dX0_findRuns_8 : decode cX0_findRuns 8 = .ok (.iload_n 3, 1) := by decide +kernel
theorem dX0_findRuns_9 : decode cX0_findRuns 9 = .ok (.if_icmp .ge 54, 3) := by decide +kernel
theorem dX0_findRuns_12 : decode cX0_findRuns 12 = .ok (.iload 5, 2) := by decide +kernel
theorem dX0_findRuns_14 : decode cX0_findRuns 14 = .ok (.iload_n 2, 1) := by decide +kernel
theorem dX0_findRuns_15 : decode cX0_findRuns 15 = .ok (.if_icmp .eq 30, 3) := by decide +kernel
theorem dX0_findRuns_18 : decode cX0_findRuns 18 = .ok (.iload_n 1, 1) := by decide +kernel
theorem dX0_findRuns_19 : decode cX0_findRuns 19 = .ok (.aload_n 0, 1) := by decide +kernel
theorem dX0_findRuns_20 : decode cX0_findRuns 20 = .ok (.getfield 9, 3) := by decide +kernel
theorem dX0_findRuns_23 : decode cX0_findRuns 23 = .ok (.iload 5, 2) := by decide +kernel
theorem dX0_findRuns_25 : decode cX0_findRuns 25 = .ok (.iaload, 1) := by decide +kernel
theorem dX0_findRuns_26 : decode cX0_findRuns 26 = .ok (.invokestatic 62, 3) := by decide +kernel
theorem dX0_findRuns_29 : decode cX0_findRuns 29 = .ok (.iload_n 1, 1) := by decide +kernel
theorem dX0_findRuns_30 : decode cX0_findRuns 30 = .ok (.aload_n 0, 1) := by decide +kernel
theorem dX0_findRuns_31 : decode cX0_findRuns 31 = .ok (.getfield 9, 3) := by decide +kernel
theorem dX0_findRuns_34 : decode cX0_findRuns 34 = .ok (.iload 5, 2) := by decide +kernel
theorem dX0_findRuns_36 : decode cX0_findRuns 36 = .ok (.iconst 1, 1) := by decide +kernel
theorem dX0_findRuns_37 : decode cX0_findRuns 37 = .ok (.isub, 1) := by decide +kernel
theorem dX0_findRuns_38 : decode cX0_findRuns 38 = .ok (.iaload, 1) := by decide +kernel
theorem dX0_findRuns_39 : decode cX0_findRuns 39 = .ok (.invokestatic 62, 3) := by decide +kernel
theorem dX0_findRuns_42 : decode cX0_findRuns 42 = .ok (.if_icmp .ge 15, 3) := by decide +kernel
theorem dX0_findRuns_45 : decode cX0_findRuns 45 = .ok (.aload_n 0, 1) := by decide +kernel
theorem dX0_findRuns_46 : decode cX0_findRuns 46 = .ok (.getfield 26, 3) := by decide +kernel
theorem dX0_findRuns_49 : decode cX0_findRuns 49 = .ok (.iload 4, 2) := by decide +kernel
theorem dX0_findRuns_51 : decode cX0_findRuns 51 = .ok (.iload 5, 2) := by decide +kernel
theorem dX0_findRuns_53 : decode cX0_findRuns 53 = .ok (.iastore, 1) := by decide +kernel
theorem dX0_findRuns_54 : decode cX0_findRuns 54 = .ok (.iinc 4 1, 3) := by decide +kernel
theorem dX0_findRuns_57 : decode cX0_findRuns 57 = .ok (.iinc 5 1, 3) := by decide +kernel
theorem dX0_findRuns_60 : decode cX0_findRuns 60 = .ok (.goto (-54), 3) := by decide +kernel
theorem dX0_findRuns_63 : decode cX0_findRuns 63 = .ok (.aload_n 0, 1) := by decide +kernel
theorem dX0_findRuns_64 : decode cX0_findRuns 64 = .ok (.getfield 26, 3) := by decide +kernel
theorem dX0_findRuns_67 : decode cX0_findRuns 67 = .ok (.iload 4, 2) := by decide +kernel
theorem dX0_findRuns_69 : decode cX0_findRuns 69 = .ok (.iload_n 3, 1) := by decide +kernel
theorem dX0_findRuns_70 : decode cX0_findRuns 70 = .ok (.iastore, 1) := by decide +kernel
theorem dX0_findRuns_71 : decode cX0_findRuns 71 = .ok (.iload 4, 2) := by decide +kernel
theorem dX0_findRuns_73 : decode cX0_findRuns 73 = .ok (.ireturn, 1) := by decide +kernel
theorem dX0_mergePairsOfRuns_0 : decode cX0_mergePairsOfRuns 0 = .ok (.iconst 0, 1) := by decide +kernel
theorem dX0_mergePairsOfRuns_1 : decode cX0_mergePairsOfRuns 1 = .ok (.istore_n 3, 1) := by decide +kernel
theorem dX0_mergePairsOfRuns_2 : decode cX0_mergePairsOfRuns 2 = .ok (.iload_n 3, 1) := by decide +kernel
theorem dX0_mergePairsOfRuns_3 : decode cX0_mergePairsOfRuns 3 = .ok (.iconst 1, 1) := by decide +kernel
theorem dX0_mergePairsOfRuns_4 : decode cX0_mergePairsOfRuns 4 = .ok (.iadd, 1) := by decide +kernel
theorem dX0_mergePairsOfRuns_5 : decode cX0_mergePairsOfRuns 5 = .ok (.iload_n 2, 1) := by decide +kernel
theorem dX0_mergePairsOfRuns_6 : decode cX0_mergePairsOfRuns 6 = .ok (.if_icmp .ge 36, 3) := by decide +kernel
theorem dX0_mergePairsOfRuns_9 : decode cX0_mergePairsOfRuns 9 = .ok (.aload_n 0, 1) := by decide +kernel
theorem dX0_mergePairsOfRuns_10 : decode cX0_mergePairsOfRuns 10 = .ok (.iload_n 1, 1) := by decide +kernel
theorem dX0_mergePairsOfRuns_11 : decode cX0_mergePairsOfRuns 11 = .ok (.aload_n 0, 1) := by decide +kernel
theorem dX0_mergePairsOfRuns_12 : decode cX0_mergePairsOfRuns 12 = .ok (.getfield 26, 3) := by decide +kernel
theorem dX0_mergePairsOfRuns_15 : decode cX0_mergePairsOfRuns 15 = .ok (.iload_n 3, 1) := by decide +kernel
theorem dX0_mergePairsOfRuns_16 : decode cX0_mergePairsOfRuns 16 = .ok (.iaload, 1) := by decide +kernel
theorem dX0_mergePairsOfRuns_17 : decode cX0_mergePairsOfRuns 17 = .ok (.aload_n 0, 1) := by decide +kernel
theorem dX0_mergePairsOfRuns_18 : decode cX0_mergePairsOfRuns 18 = .ok (.getfield 26, 3) := by decide +kernel
theorem dX0_mergePairsOfRuns_21 : decode cX0_mergePairsOfRuns 21 = .ok (.iload_n 3, 1) := by decide +kernel
theorem dX0_mergePairsOfRuns_22 : decode cX0_mergePairsOfRuns 22 = .ok (.iconst 1, 1) := by decide +kernel
theorem dX0_mergePairsOfRuns_23 : decode cX0_mergePairsOfRuns 23 = .ok (.iadd, 1) := by decide +kernel
theorem dX0_mergePairsOfRuns_24 : decode cX0_mergePairsOfRuns 24 = .ok (.iaload, 1) := by decide +kernel
theorem dX0_mergePairsOfRuns_25 : decode cX0_mergePairsOfRuns 25 = .ok (.aload_n 0, 1) := by decide +kernel
theorem dX0_mergePairsOfRuns_26 : decode cX0_mergePairsOfRuns 26 = .ok (.getfield 26, 3) := by decide +kernel
theorem dX0_mergePairsOfRuns_29 : decode cX0_mergePairsOfRuns 29 = .ok (.iload_n 3, 1) := by decide +kernel
theorem dX0_mergePairsOfRuns_30 : decode cX0_mergePairsOfRuns 30 = .ok (.iconst 2, 1) := by decide +kernel
theorem dX0_mergePairsOfRuns_31 : decode cX0_mergePairsOfRuns 31 = .ok (.iadd, 1) := by decide +kernel
theorem dX0_mergePairsOfRuns_32 : decode cX0_mergePairsOfRuns 32 = .ok (.iaload, 1) := by decide +kernel
theorem dX0_mergePairsOfRuns_33 : decode cX0_mergePairsOfRuns 33 = .ok (.invokevirtual 81, 3) := by decide +kernel
theorem dX0_mergePairsOfRuns_36 : decode cX0_mergePairsOfRuns 36 = .ok (.iinc 3 2, 3) := by decide +kernel
theorem dX0_mergePairsOfRuns_39 : decode cX0_mergePairsOfRuns 39 = .ok (.goto (-37), 3) := by decide +kernel
theorem dX0_mergePairsOfRuns_42 : decode cX0_mergePairsOfRuns 42 = .ok (.iload_n 2, 1) := by decide +kernel
theorem dX0_mergePairsOfRuns_43 : decode cX0_mergePairsOfRuns 43 = .ok (.iconst 1, 1) := by decide +kernel
theorem dX0_mergePairsOfRuns_44 : decode cX0_mergePairsOfRuns 44 = .ok (.iadd, 1) := by decide +kernel
theorem dX0_mergePairsOfRuns_45 : decode cX0_mergePairsOfRuns 45 = .ok (.iconst 2, 1) := by decide +kernel
theorem dX0_mergePairsOfRuns_46 : decode cX0_mergePairsOfRuns 46 = .ok (.idiv, 1) := by decide +kernel
theorem dX0_mergePairsOfRuns_47 : decode cX0_mergePairsOfRuns 47 = .ok (.istore_n 3, 1) := by decide +kernel
theorem dX0_mergePairsOfRuns_48 : decode cX0_mergePairsOfRuns 48 = .ok (.iconst 0, 1) := by decide +kernel
theorem dX0_mergePairsOfRuns_49 : decode cX0_mergePairsOfRuns 49 = .ok (.istore 4, 2) := by decide +kernel
theorem dX0_mergePairsOfRuns_51 : decode cX0_mergePairsOfRuns 51 = .ok (.iload 4, 2) := by decide +kernel
theorem dX0_mergePairsOfRuns_53 : decode cX0_mergePairsOfRuns 53 = .ok (.iload_n 3, 1) := by decide +kernel
theorem dX0_mergePairsOfRuns_54 : decode cX0_mergePairsOfRuns 54 = .ok (.if_icmp .gt 29, 3) := by decide +kernel
theorem dX0_mergePairsOfRuns_57 : decode cX0_mergePairsOfRuns 57 = .ok (.aload_n 0, 1) := by decide +kernel
theorem dX0_mergePairsOfRuns_58 : decode cX0_mergePairsOfRuns 58 = .ok (.getfield 26, 3) := by decide +kernel
theorem dX0_mergePairsOfRuns_61 : decode cX0_mergePairsOfRuns 61 = .ok (.iload 4, 2) := by decide +kernel
theorem dX0_mergePairsOfRuns_63 : decode cX0_mergePairsOfRuns 63 = .ok (.aload_n 0, 1) := by decide +kernel
theorem dX0_mergePairsOfRuns_64 : decode cX0_mergePairsOfRuns 64 = .ok (.getfield 26, 3) := by decide +kernel
theorem dX0_mergePairsOfRuns_67 : decode cX0_mergePairsOfRuns 67 = .ok (.iconst 2, 1) := by decide +kernel
theorem dX0_mergePairsOfRuns_68 : decode cX0_mergePairsOfRuns 68 = .ok (.iload 4, 2) := by decide +kernel
theorem dX0_mergePairsOfRuns_70 : decode cX0_mergePairsOfRuns 70 = .ok (.imul, 1) := by decide +kernel
theorem dX0_mergePairsOfRuns_71 : decode cX0_mergePairsOfRuns 71 = .ok (.iload_n 2, 1) := by decide +kernel
theorem dX0_mergePairsOfRuns_72 : decode cX0_mergePairsOfRuns 72 = .ok (.invokestatic 85, 3) := by decide +kernel
theorem dX0_mergePairsOfRuns_75 : decode cX0_mergePairsOfRuns 75 = .ok (.iaload, 1) := by decide +kernel
theorem dX0_mergePairsOfRuns_76 : decode cX0_mergePairsOfRuns 76 = .ok (.iastore, 1) := by decide +kernel
theorem dX0_mergePairsOfRuns_77 : decode cX0_mergePairsOfRuns 77 = .ok (.iinc 4 1, 3) := by decide +kernel
theorem dX0_mergePairsOfRuns_80 : decode cX0_mergePairsOfRuns 80 = .ok (.goto (-29), 3) := by decide +kernel
theorem dX0_mergePairsOfRuns_83 : decode cX0_mergePairsOfRuns 83 = .ok (.return_, 1) := by decide +kernel
theorem dX0_merge_0 : decode cX0_merge 0 = .ok (.iload_n 3, 1) := by decide +kernel
theorem dX0_merge_1 : decode cX0_merge 1 = .ok (.iload_n 2, 1) := by decide +kernel
theorem dX0_merge_2 : decode cX0_merge 2 = .ok (.isub, 1) := by decide +kernel
theorem dX0_merge_3 : decode cX0_merge 3 = .ok (.istore 5, 2) := by decide +kernel
theorem dX0_merge_5 : decode cX0_merge 5 = .ok (.aload_n 0, 1) := by decide +kernel
theorem dX0_merge_6 : decode cX0_merge 6 = .ok (.getfield 9, 3) := by decide +kernel
theorem dX0_merge_9 : decode cX0_merge 9 = .ok (.iload_n 2, 1) := by decide +kernel
theorem dX0_merge_10 : decode cX0_merge 10 = .ok (.aload_n 0, 1) := by decide +kernel
theorem dX0_merge_11 : decode cX0_merge 11 = .ok (.getfield 20, 3) := by decide +kernel
theorem dX0_merge_14 : decode cX0_merge 14 = .ok (.iconst 0, 1) := by decide +kernel
theorem dX0_merge_15 : decode cX0_merge 15 = .ok (.iload 5, 2) := by decide +kernel
theorem dX0_merge_17 : decode cX0_merge 17 = .ok (.invokestatic 90, 3) := by decide +kernel
theorem dX0_merge_20 : decode cX0_merge 20 = .ok (.aload_n 0, 1) := by decide +kernel
theorem dX0_merge_21 : decode cX0_merge 21 = .ok (.getfield 13, 3) := by decide +kernel
theorem dX0_merge_24 : decode cX0_merge 24 = .ok (.iload_n 2, 1) := by decide +kernel
theorem dX0_merge_25 : decode cX0_merge 25 = .ok (.aload_n 0, 1) := by decide +kernel
theorem dX0_merge_26 : decode cX0_merge 26 = .ok (.getfield 23, 3) := by decide +kernel
theorem dX0_merge_29 : decode cX0_merge 29 = .ok (.iconst 0, 1) := by decide +kernel
theorem dX0_merge_30 : decode cX0_merge 30 = .ok (.iload 5, 2) := by decide +kernel
theorem dX0_merge_32 : decode cX0_merge 32 = .ok (.invokestatic 90, 3) := by decide +kernel
theorem dX0_merge_35 : decode cX0_merge 35 = .ok (.iconst 0, 1) := by decide +kernel
theorem dX0_merge_36 : decode cX0_merge 36 = .ok (.istore 6, 2) := by decide +kernel
theorem dX0_merge_38 : decode cX0_merge 38 = .ok (.iload_n 3, 1) := by decide +kernel
theorem dX0_merge_39 : decode cX0_merge 39 = .ok (.istore 7, 2) := by decide +kernel
theorem dX0_merge_41 : decode cX0_merge 41 = .ok (.iload_n 2, 1) := by decide +kernel
theorem dX0_merge_42 : decode cX0_merge 42 = .ok (.istore 8, 2) := by decide +kernel
theorem dX0_merge_44 : decode cX0_merge 44 = .ok (.iload 8, 2) := by decide +kernel
theorem dX0_merge_46 : decode cX0_merge 46 = .ok (.iload 4, 2) := by decide +kernel
theorem dX0_merge_48 : decode cX0_merge 48 = .ok (.if_icmp .ge 113, 3) := by decide +kernel
theorem dX0_merge_51 : decode cX0_merge 51 = .ok (.iload 6, 2) := by decide +kernel
theorem dX0_merge_53 : decode cX0_merge 53 = .ok (.iload 5, 2) := by decide +kernel
theorem dX0_merge_55 : decode cX0_merge 55 = .ok (.if_icmp .ge 106, 3) := by decide +kernel
theorem dX0_merge_58 : decode cX0_merge 58 = .ok (.iload 7, 2) := by decide +kernel
theorem dX0_merge_60 : decode cX0_merge 60 = .ok (.iload 4, 2) := by decide +kernel
theorem dX0_merge_62 : decode cX0_merge 62 = .ok (.if_icmp .ge 62, 3) := by decide +kernel
theorem dX0_merge_65 : decode cX0_merge 65 = .ok (.iload_n 1, 1) := by decide +kernel
theorem dX0_merge_66 : decode cX0_merge 66 = .ok (.aload_n 0, 1) := by decide +kernel
theorem dX0_merge_67 : decode cX0_merge 67 = .ok (.getfield 9, 3) := by decide +kernel
theorem dX0_merge_70 : decode cX0_merge 70 = .ok (.iload 7, 2) := by decide +kernel
theorem dX0_merge_72 : decode cX0_merge 72 = .ok (.iaload, 1) := by decide +kernel
theorem dX0_merge_73 : decode cX0_merge 73 = .ok (.invokestatic 62, 3) := by decide +kernel
theorem dX0_merge_76 : decode cX0_merge 76 = .ok (.iload_n 1, 1) := by decide +kernel
theorem dX0_merge_77 : decode cX0_merge 77 = .ok (.aload_n 0, 1) := by decide +kernel
theorem dX0_merge_78 : decode cX0_merge 78 = .ok (.getfield 20, 3) := by decide +kernel
theorem dX0_merge_81 : decode cX0_merge 81 = .ok (.iload 6, 2) := by decide +kernel
theorem dX0_merge_83 : decode cX0_merge 83 = .ok (.iaload, 1) := by decide +kernel
theorem dX0_merge_84 : decode cX0_merge 84 = .ok (.invokestatic 62, 3) := by decide +kernel
theorem dX0_merge_87 : decode cX0_merge 87 = .ok (.if_icmp .ge 37, 3) := by decide +kernel
theorem dX0_merge_90 : decode cX0_merge 90 = .ok (.aload_n 0, 1) := by decide +kernel
theorem dX0_merge_91 : decode cX0_merge 91 = .ok (.getfield 9, 3) := by decide +kernel
theorem dX0_merge_94 : decode cX0_merge 94 = .ok (.iload 8, 2) := by decide +kernel
theorem dX0_merge_96 : decode cX0_merge 96 = .ok (.aload_n 0, 1) := by decide +kernel
theorem dX0_merge_97 : decode cX0_merge 97 = .ok (.getfield 9, 3) := by decide +kernel
theorem dX0_merge_100 : decode cX0_merge 100 = .ok (.iload 7, 2) := by decide +kernel
theorem dX0_merge_102 : decode cX0_merge 102 = .ok (.iaload, 1) := by decide +kernel
theorem dX0_merge_103 : decode cX0_merge 103 = .ok (.iastore, 1) := by decide +kernel
theorem dX0_merge_104 : decode cX0_merge 104 = .ok (.aload_n 0, 1) := by decide +kernel
theorem dX0_merge_105 : decode cX0_merge 105 = .ok (.getfield 13, 3) := by decide +kernel
theorem dX0_merge_108 : decode cX0_merge 108 = .ok (.iload 8, 2) := by decide +kernel
theorem dX0_merge_110 : decode cX0_merge 110 = .ok (.aload_n 0, 1) := by decide +kernel
theorem dX0_merge_111 : decode cX0_merge 111 = .ok (.getfield 13, 3) := by decide +kernel
theorem dX0_merge_114 : decode cX0_merge 114 = .ok (.iload 7, 2) := by decide +kernel
theorem dX0_merge_116 : decode cX0_merge 116 = .ok (.iaload, 1) := by decide +kernel
theorem dX0_merge_117 : decode cX0_merge 117 = .ok (.iastore, 1) := by decide +kernel
theorem dX0_merge_118 : decode cX0_merge 118 = .ok (.iinc 7 1, 3) := by decide +kernel
theorem dX0_merge_121 : decode cX0_merge 121 = .ok (.goto 34, 3) := by decide +kernel
theorem dX0_merge_124 : decode cX0_merge 124 = .ok (.aload_n 0, 1) := by decide +kernel
theorem dX0_merge_125 : decode cX0_merge 125 = .ok (.getfield 9, 3) := by decide +kernel
theorem dX0_merge_128 : decode cX0_merge 128 = .ok (.iload 8, 2) := by decide +kernel
theorem dX0_merge_130 : decode cX0_merge 130 = .ok (.aload_n 0, 1) := by decide +kernel
theorem dX0_merge_131 : decode cX0_merge 131 = .ok (.getfield 20, 3) := by decide +kernel
theorem dX0_merge_134 : decode cX0_merge 134 = .ok (.iload 6, 2) := by decide +kernel
theorem dX0_merge_136 : decode cX0_merge 136 = .ok (.iaload, 1) := by decide +kernel
theorem dX0_merge_137 : decode cX0_merge 137 = .ok (.iastore, 1) := by decide +kernel
theorem dX0_merge_138 : decode cX0_merge 138 = .ok (.aload_n 0, 1) := by decide +kernel
theorem dX0_merge_139 : decode cX0_merge 139 = .ok (.getfield 13, 3) := by decide +kernel
theorem dX0_merge_142 : decode cX0_merge 142 = .ok (.iload 8, 2) := by decide +kernel
theorem dX0_merge_144 : decode cX0_merge 144 = .ok (.aload_n 0, 1) := by decide +kernel
theorem dX0_merge_145 : decode cX0_merge 145 = .ok (.getfield 23, 3) := by decide +kernel
theorem dX0_merge_148 : decode cX0_merge 148 = .ok (.iload 6, 2) := by decide +kernel
theorem dX0_merge_150 : decode cX0_merge 150 = .ok (.iaload, 1) := by decide +kernel
theorem dX0_merge_151 : decode cX0_merge 151 = .ok (.iastore, 1) := by decide +kernel
theorem dX0_merge_152 : decode cX0_merge 152 = .ok (.iinc 6 1, 3) := by decide +kernel
theorem dX0_merge_155 : decode cX0_merge 155 = .ok (.iinc 8 1, 3) := by decide +kernel
theorem dX0_merge_158 : decode cX0_merge 158 = .ok (.goto (-114), 3) := by decide +kernel
theorem dX0_merge_161 : decode cX0_merge 161 = .ok (.return_, 1) := by decide +kernel
theorem dL_fill_0 : decode cL_fill 0 = .ok (.aload 4, 2) := by decide +kernel
theorem dL_fill_2 : decode cL_fill 2 = .ok (.iconst 0, 1) := by decide +kernel
theorem dL_fill_3 : decode cL_fill 3 = .ok (.aload_n 0, 1) := by decide +kernel
theorem dL_fill_4 : decode cL_fill 4 = .ok (.iload_n 1, 1) := by decide +kernel
theorem dL_fill_5 : decode cL_fill 5 = .ok (.iload_n 2, 1) := by decide +kernel
theorem dL_fill_6 : decode cL_fill 6 = .ok (.iload_n 3, 1) := by decide +kernel
theorem dL_fill_7 : decode cL_fill 7 = .ok (.invokevirtual 7, 3) := by decide +kernel
theorem dL_fill_10 : decode cL_fill 10 = .ok (.i2l, 1) := by decide +kernel
theorem dL_fill_11 : decode cL_fill 11 = .ok (.lastore, 1) := by decide +kernel
theorem dL_fill_12 : decode cL_fill 12 = .ok (.goto 11, 3) := by decide +kernel
theorem dL_fill_15 : decode cL_fill 15 = .ok (.astore 5, 2) := by decide +kernel
theorem dL_fill_17 : decode cL_fill 17 = .ok (.iconst 1, 1) := by decide +kernel
theorem dL_fill_18 : decode cL_fill 18 = .ok (.ireturn, 1) := by decide +kernel
theorem dL_fill_19 : decode cL_fill 19 = .ok (.astore 5, 2) := by decide +kernel
theorem dL_fill_21 : decode cL_fill 21 = .ok (.iconst 2, 1) := by decide +kernel
theorem dL_fill_22 : decode cL_fill 22 = .ok (.ireturn, 1) := by decide +kernel
theorem dL_fill_23 : decode cL_fill 23 = .ok (.iconst 0, 1) := by decide +kernel
theorem dL_fill_24 : decode cL_fill 24 = .ok (.ireturn, 1) := by decide +kernel
theorem dL_scatter_0 : decode cL_scatter 0 = .ok (.aload 4, 2) := by decide +kernel
theorem dL_scatter_2 : decode cL_scatter 2 = .ok (.iconst 0, 1) := by decide +kernel
theorem dL_scatter_3 : decode cL_scatter 3 = .ok (.aload_n 0, 1) := by decide +kernel
theorem dL_scatter_4 : decode cL_scatter 4 = .ok (.iload_n 1, 1) := by decide +kernel
theorem dL_scatter_5 : decode cL_scatter 5 = .ok (.iload_n 2, 1) := by decide +kernel
theorem dL_scatter_6 : decode cL_scatter 6 = .ok (.iload_n 3, 1) := by decide +kernel
theorem dL_scatter_7 : decode cL_scatter 7 = .ok (.invokevirtual 17, 3) := by decide +kernel
theorem dL_scatter_10 : decode cL_scatter 10 = .ok (.i2l, 1) := by decide +kernel
theorem dL_scatter_11 : decode cL_scatter 11 = .ok (.lastore, 1) := by decide +kernel
theorem dL_scatter_12 : decode cL_scatter 12 = .ok (.goto 11, 3) := by decide +kernel
theorem dL_scatter_15 : decode cL_scatter 15 = .ok (.astore 5, 2) := by decide +kernel
theorem dL_scatter_17 : decode cL_scatter 17 = .ok (.iconst 1, 1) := by decide +kernel
theorem dL_scatter_18 : decode cL_scatter 18 = .ok (.ireturn, 1) := by decide +kernel
theorem dL_scatter_19 : decode cL_scatter 19 = .ok (.astore 5, 2) := by decide +kernel
theorem dL_scatter_21 : decode cL_scatter 21 = .ok (.iconst 2, 1) := by decide +kernel
theorem dL_scatter_22 : decode cL_scatter 22 = .ok (.ireturn, 1) := by decide +kernel
theorem dL_scatter_23 : decode cL_scatter 23 = .ok (.iconst 0, 1) := by decide +kernel
theorem dL_scatter_24 : decode cL_scatter 24 = .ok (.ireturn, 1) := by decide +kernel
theorem dL_sort_0 : decode cL_sort 0 = .ok (.aload 4, 2) := by decide +kernel
theorem dL_sort_2 : decode cL_sort 2 = .ok (.iconst 0, 1) := by decide +kernel
theorem dL_sort_3 : decode cL_sort 3 = .ok (.aload_n 0, 1) := by decide +kernel
theorem dL_sort_4 : decode cL_sort 4 = .ok (.iload_n 1, 1) := by decide +kernel
theorem dL_sort_5 : decode cL_sort 5 = .ok (.iload_n 2, 1) := by decide +kernel
theorem dL_sort_6 : decode cL_sort 6 = .ok (.iload_n 3, 1) := by decide +kernel
theorem dL_sort_7 : decode cL_sort 7 = .ok (.invokevirtual 20, 3) := by decide +kernel
theorem dL_sort_10 : decode cL_sort 10 = .ok (.i2l, 1) := by decide +kernel
theorem dL_sort_11 : decode cL_sort 11 = .ok (.lastore, 1) := by decide +kernel
theorem dL_sort_12 : decode cL_sort 12 = .ok (.goto 7, 3) := by decide +kernel
theorem dL_sort_15 : decode cL_sort 15 = .ok (.astore 5, 2) := by decide +kernel
theorem dL_sort_17 : decode cL_sort 17 = .ok (.iconst 1, 1) := by decide +kernel
theorem dL_sort_18 : decode cL_sort 18 = .ok (.ireturn, 1) := by decide +kernel
theorem dL_sort_19 : decode cL_sort 19 = .ok (.iconst 0, 1) := by decide +kernel
theorem dL_sort_20 : decode cL_sort 20 = .ok (.ireturn, 1) := by decide +kernel
theorem dL_get_0 : decode cL_get 0 = .ok (.aload_n 2, 1) := by decide +kernel
theorem dL_get_1 : decode cL_get 1 = .ok (.iconst 0, 1) := by decide +kernel
theorem dL_get_2 : decode cL_get 2 = .ok (.aload_n 0, 1) := by decide +kernel
theorem dL_get_3 : decode cL_get 3 = .ok (.iload_n 1, 1) := by decide +kernel
theorem dL_get_4 : decode cL_get 4 = .ok (.invokevirtual 23, 3) := by decide +kernel
theorem dL_get_7 : decode cL_get 7 = .ok (.i2l, 1) := by decide +kernel
theorem dL_get_8 : decode cL_get 8 = .ok (.lastore, 1) := by decide +kernel
theorem dL_get_9 : decode cL_get 9 = .ok (.goto 6, 3) := by decide +kernel
theorem dL_get_12 : decode cL_get 12 = .ok (.astore_n 3, 1) := by decide +kernel
theorem dL_get_13 : decode cL_get 13 = .ok (.iconst 1, 1) := by decide +kernel
theorem dL_get_14 : decode cL_get 14 = .ok (.ireturn, 1) := by decide +kernel
theorem dL_get_15 : decode cL_get 15 = .ok (.iconst 0, 1) := by decide +kernel
theorem dL_get_16 : decode cL_get 16 = .ok (.ireturn, 1) := by decide +kernel
theorem dL_tag_0 : decode cL_tag 0 = .ok (.aload_n 2, 1) := by decide +kernel
theorem dL_tag_1 : decode cL_tag 1 = .ok (.iconst 0, 1) := by decide +kernel
theorem dL_tag_2 : decode cL_tag 2 = .ok (.aload_n 0, 1) := by decide +kernel
theorem dL_tag_3 : decode cL_tag 3 = .ok (.iload_n 1, 1) := by decide +kernel
theorem dL_tag_4 : decode cL_tag 4 = .ok (.invokevirtual 27, 3) := by decide +kernel
theorem dL_tag_7 : decode cL_tag 7 = .ok (.i2l, 1) := by decide +kernel
theorem dL_tag_8 : decode cL_tag 8 = .ok (.lastore, 1) := by decide +kernel
theorem dL_tag_9 : decode cL_tag 9 = .ok (.goto 6, 3) := by decide +kernel
theorem dL_tag_12 : decode cL_tag 12 = .ok (.astore_n 3, 1) := by decide +kernel
theorem dL_tag_13 : decode cL_tag 13 = .ok (.iconst 1, 1) := by decide +kernel
theorem dL_tag_14 : decode cL_tag 14 = .ok (.ireturn, 1) := by decide +kernel
theorem dL_tag_15 : decode cL_tag 15 = .ok (.iconst 0, 1) := by decide +kernel
theorem dL_tag_16 : decode cL_tag 16 = .ok (.ireturn, 1) := by decide +kernel
theorem dL_set_0 : decode cL_set 0 = .ok (.aload_n 3, 1) := by decide +kernel
theorem dL_set_1 : decode cL_set 1 = .ok (.iconst 0, 1) := by decide +kernel
theorem dL_set_2 : decode cL_set 2 = .ok (.aload_n 0, 1) := by decide +kernel
theorem dL_set_3 : decode cL_set 3 = .ok (.iload_n 1, 1) := by decide +kernel
theorem dL_set_4 : decode cL_set 4 = .ok (.iload_n 2, 1) := by decide +kernel
theorem dL_set_5 : decode cL_set 5 = .ok (.invokevirtual 30, 3) := by decide +kernel
theorem dL_set_8 : decode cL_set 8 = .ok (.i2l, 1) := by decide +kernel
theorem dL_set_9 : decode cL_set 9 = .ok (.lastore, 1) := by decide +kernel
theorem dL_set_10 : decode cL_set 10 = .ok (.goto 7, 3) := by decide +kernel
theorem dL_set_13 : decode cL_set 13 = .ok (.astore 4, 2) := by decide +kernel
theorem dL_set_15 : decode cL_set 15 = .ok (.iconst 1, 1) := by decide +kernel
theorem dL_set_16 : decode cL_set 16 = .ok (.ireturn, 1) := by decide +kernel
theorem dL_set_17 : decode cL_set 17 = .ok (.iconst 0, 1) := by decide +kernel
theorem dL_set_18 : decode cL_set 18 = .ok (.ireturn, 1) := by decide +kernel
theorem dL_turn_0 : decode cL_turn 0 = .ok (.aload_n 3, 1) := by decide +kernel
theorem dL_turn_1 : decode cL_turn 1 = .ok (.iconst 0, 1) := by decide +kernel
theorem dL_turn_2 : decode cL_turn 2 = .ok (.aload_n 0, 1) := by decide +kernel
theorem dL_turn_3 : decode cL_turn 3 = .ok (.iload_n 1, 1) := by decide +kernel
theorem dL_turn_4 : decode cL_turn 4 = .ok (.iload_n 2, 1) := by decide +kernel
theorem dL_turn_5 : decode cL_turn 5 = .ok (.invokevirtual 34, 3) := by decide +kernel
theorem dL_turn_8 : decode cL_turn 8 = .ok (.i2l, 1) := by decide +kernel
theorem dL_turn_9 : decode cL_turn 9 = .ok (.lastore, 1) := by decide +kernel
theorem dL_turn_10 : decode cL_turn 10 = .ok (.goto 7, 3) := by decide +kernel
theorem dL_turn_13 : decode cL_turn 13 = .ok (.astore 4, 2) := by decide +kernel
theorem dL_turn_15 : decode cL_turn 15 = .ok (.iconst 1, 1) := by decide +kernel
theorem dL_turn_16 : decode cL_turn 16 = .ok (.ireturn, 1) := by decide +kernel
theorem dL_turn_17 : decode cL_turn 17 = .ok (.iconst 0, 1) := by decide +kernel
theorem dL_turn_18 : decode cL_turn 18 = .ok (.ireturn, 1) := by decide +kernel
theorem dL_upTo_0 : decode cL_upTo 0 = .ok (.aload 4, 2) := by decide +kernel
theorem dL_upTo_2 : decode cL_upTo 2 = .ok (.iconst 0, 1) := by decide +kernel
theorem dL_upTo_3 : decode cL_upTo 3 = .ok (.aload_n 0, 1) := by decide +kernel
theorem dL_upTo_4 : decode cL_upTo 4 = .ok (.iload_n 1, 1) := by decide +kernel
theorem dL_upTo_5 : decode cL_upTo 5 = .ok (.iload_n 2, 1) := by decide +kernel
theorem dL_upTo_6 : decode cL_upTo 6 = .ok (.iload_n 3, 1) := by decide +kernel
theorem dL_upTo_7 : decode cL_upTo 7 = .ok (.invokevirtual 37, 3) := by decide +kernel
theorem dL_upTo_10 : decode cL_upTo 10 = .ok (.i2l, 1) := by decide +kernel
theorem dL_upTo_11 : decode cL_upTo 11 = .ok (.lastore, 1) := by decide +kernel
theorem dL_upTo_12 : decode cL_upTo 12 = .ok (.goto 7, 3) := by decide +kernel
theorem dL_upTo_15 : decode cL_upTo 15 = .ok (.astore 5, 2) := by decide +kernel
theorem dL_upTo_17 : decode cL_upTo 17 = .ok (.iconst 1, 1) := by decide +kernel
theorem dL_upTo_18 : decode cL_upTo 18 = .ok (.ireturn, 1) := by decide +kernel
theorem dL_upTo_19 : decode cL_upTo 19 = .ok (.iconst 0, 1) := by decide +kernel
theorem dL_upTo_20 : decode cL_upTo 20 = .ok (.ireturn, 1) := by decide +kernel
theorem dL_law_0 : decode cL_law 0 = .ok (.new 8, 3) := by decide +kernel
theorem dL_law_3 : decode cL_law 3 = .ok (.dup, 1) := by decide +kernel
theorem dL_law_4 : decode cL_law 4 = .ok (.invokespecial 41, 3) := by decide +kernel
theorem dL_law_7 : decode cL_law 7 = .ok (.astore_n 1, 1) := by decide +kernel
theorem dL_law_8 : decode cL_law 8 = .ok (.new 42, 3) := by decide +kernel
theorem dL_law_11 : decode cL_law 11 = .ok (.dup, 1) := by decide +kernel
theorem dL_law_12 : decode cL_law 12 = .ok (.invokespecial 44, 3) := by decide +kernel
theorem dL_law_15 : decode cL_law 15 = .ok (.astore_n 2, 1) := by decide +kernel
theorem dL_law_16 : decode cL_law 16 = .ok (.iconst 1, 1) := by decide +kernel
theorem dL_law_17 : decode cL_law 17 = .ok (.newarray .long, 2) := by decide +kernel
theorem dL_law_19 : decode cL_law 19 = .ok (.astore_n 3, 1) := by decide +kernel
theorem dL_law_20 : decode cL_law 20 = .ok (.iconst 0, 1) := by decide +kernel
theorem dL_law_21 : decode cL_law 21 = .ok (.istore 4, 2) := by decide +kernel
theorem dL_law_23 : decode cL_law 23 = .ok (.iload 4, 2) := by decide +kernel
theorem dL_law_25 : decode cL_law 25 = .ok (.aload_n 0, 1) := by decide +kernel
theorem dL_law_26 : decode cL_law 26 = .ok (.arraylength, 1) := by decide +kernel
theorem dL_law_27 : decode cL_law 27 = .ok (.iconst 4, 1) := by decide +kernel
theorem dL_law_28 : decode cL_law 28 = .ok (.isub, 1) := by decide +kernel
theorem dL_law_29 : decode cL_law 29 = .ok (.if_icmp .gt 679, 3) := by decide +kernel
theorem dL_law_32 : decode cL_law 32 = .ok (.aload_n 0, 1) := by decide +kernel
theorem dL_law_33 : decode cL_law 33 = .ok (.iload 4, 2) := by decide +kernel
theorem dL_law_35 : decode cL_law 35 = .ok (.iaload, 1) := by decide +kernel
theorem dL_law_36 : decode cL_law 36 = .ok (.bipush 15, 2) := by decide +kernel
theorem dL_law_38 : decode cL_law 38 = .ok (.iand, 1) := by decide +kernel
theorem dL_law_39 : decode cL_law 39 = .ok (.tableswitch 663 0 9 #[53, 133, 213, 293, 349, 405, 473, 541, 637, 650], 53) := by decide +kernel
theorem dL_law_92 : decode cL_law 92 = .ok (.aload_n 1, 1) := by decide +kernel
theorem dL_law_93 : decode cL_law 93 = .ok (.aload_n 0, 1) := by decide +kernel
theorem dL_law_94 : decode cL_law 94 = .ok (.iload 4, 2) := by decide +kernel
theorem dL_law_96 : decode cL_law 96 = .ok (.iconst 1, 1) := by decide +kernel
theorem dL_law_97 : decode cL_law 97 = .ok (.iadd, 1) := by decide +kernel
theorem dL_law_98 : decode cL_law 98 = .ok (.iaload, 1) := by decide +kernel
theorem dL_law_99 : decode cL_law 99 = .ok (.aload_n 0, 1) := by decide +kernel
theorem dL_law_100 : decode cL_law 100 = .ok (.iload 4, 2) := by decide +kernel
theorem dL_law_102 : decode cL_law 102 = .ok (.iconst 2, 1) := by decide +kernel
theorem dL_law_103 : decode cL_law 103 = .ok (.iadd, 1) := by decide +kernel
theorem dL_law_104 : decode cL_law 104 = .ok (.iaload, 1) := by decide +kernel
theorem dL_law_105 : decode cL_law 105 = .ok (.aload_n 0, 1) := by decide +kernel
theorem dL_law_106 : decode cL_law 106 = .ok (.iload 4, 2) := by decide +kernel
theorem dL_law_108 : decode cL_law 108 = .ok (.iconst 3, 1) := by decide +kernel
theorem dL_law_109 : decode cL_law 109 = .ok (.iadd, 1) := by decide +kernel
theorem dL_law_110 : decode cL_law 110 = .ok (.iaload, 1) := by decide +kernel
theorem dL_law_111 : decode cL_law 111 = .ok (.aload_n 3, 1) := by decide +kernel
theorem dL_law_112 : decode cL_law 112 = .ok (.invokestatic 45, 3) := by decide +kernel
theorem dL_law_115 : decode cL_law 115 = .ok (.istore 5, 2) := by decide +kernel
theorem dL_law_117 : decode cL_law 117 = .ok (.aload_n 2, 1) := by decide +kernel
theorem dL_law_118 : decode cL_law 118 = .ok (.aload_n 0, 1) := by decide +kernel
theorem dL_law_119 : decode cL_law 119 = .ok (.iload 4, 2) := by decide +kernel
theorem dL_law_121 : decode cL_law 121 = .ok (.iconst 1, 1) := by decide +kernel
theorem dL_law_122 : decode cL_law 122 = .ok (.iadd, 1) := by decide +kernel
theorem dL_law_123 : decode cL_law 123 = .ok (.iaload, 1) := by decide +kernel
theorem dL_law_124 : decode cL_law 124 = .ok (.aload_n 0, 1) := by decide +kernel
theorem dL_law_125 : decode cL_law 125 = .ok (.iload 4, 2) := by decide +kernel
theorem dL_law_127 : decode cL_law 127 = .ok (.iconst 2, 1) := by decide +kernel
theorem dL_law_128 : decode cL_law 128 = .ok (.iadd, 1) := by decide +kernel
theorem dL_law_129 : decode cL_law 129 = .ok (.iaload, 1) := by decide +kernel
theorem dL_law_130 : decode cL_law 130 = .ok (.aload_n 0, 1) := by decide +kernel
theorem dL_law_131 : decode cL_law 131 = .ok (.iload 4, 2) := by decide +kernel
theorem dL_law_133 : decode cL_law 133 = .ok (.iconst 3, 1) := by decide +kernel
theorem dL_law_134 : decode cL_law 134 = .ok (.iadd, 1) := by decide +kernel
theorem dL_law_135 : decode cL_law 135 = .ok (.iaload, 1) := by decide +kernel
theorem dL_law_136 : decode cL_law 136 = .ok (.invokevirtual 50, 3) := by decide +kernel
theorem dL_law_139 : decode cL_law 139 = .ok (.istore 6, 2) := by decide +kernel
theorem dL_law_141 : decode cL_law 141 = .ok (.aload_n 2, 1) := by decide +kernel
theorem dL_law_142 : decode cL_law 142 = .ok (.invokevirtual 51, 3) := by decide +kernel
theorem dL_law_145 : decode cL_law 145 = .ok (.iload 5, 2) := by decide +kernel
theorem dL_law_147 : decode cL_law 147 = .ok (.if_icmp .eq 5, 3) := by decide +kernel
theorem dL_law_150 : decode cL_law 150 = .ok (.iconst 0, 1) := by decide +kernel
theorem dL_law_151 : decode cL_law 151 = .ok (.ireturn, 1) := by decide +kernel
theorem dL_law_152 : decode cL_law 152 = .ok (.iload 5, 2) := by decide +kernel
theorem dL_law_154 : decode cL_law 154 = .ok (.ifCond .ne 15, 3) := by decide +kernel
theorem dL_law_157 : decode cL_law 157 = .ok (.aload_n 3, 1) := by decide +kernel
theorem dL_law_158 : decode cL_law 158 = .ok (.iconst 0, 1) := by decide +kernel
theorem dL_law_159 : decode cL_law 159 = .ok (.laload, 1) := by decide +kernel
theorem dL_law_160 : decode cL_law 160 = .ok (.iload 6, 2) := by decide +kernel
theorem dL_law_162 : decode cL_law 162 = .ok (.i2l, 1) := by decide +kernel
theorem dL_law_163 : decode cL_law 163 = .ok (.lcmp, 1) := by decide +kernel
theorem dL_law_164 : decode cL_law 164 = .ok (.ifCond .eq 5, 3) := by decide +kernel
theorem dL_law_167 : decode cL_law 167 = .ok (.iconst 0, 1) := by decide +kernel
theorem dL_law_168 : decode cL_law 168 = .ok (.ireturn, 1) := by decide +kernel
theorem dL_law_169 : decode cL_law 169 = .ok (.goto 533, 3) := by decide +kernel
theorem dL_law_172 : decode cL_law 172 = .ok (.aload_n 1, 1) := by decide +kernel
theorem dL_law_173 : decode cL_law 173 = .ok (.aload_n 0, 1) := by decide +kernel
theorem dL_law_174 : decode cL_law 174 = .ok (.iload 4, 2) := by decide +kernel
theorem dL_law_176 : decode cL_law 176 = .ok (.iconst 1, 1) := by decide +kernel
theorem dL_law_177 : decode cL_law 177 = .ok (.iadd, 1) := by decide +kernel
theorem dL_law_178 : decode cL_law 178 = .ok (.iaload, 1) := by decide +kernel
theorem dL_law_179 : decode cL_law 179 = .ok (.aload_n 0, 1) := by decide +kernel
theorem dL_law_180 : decode cL_law 180 = .ok (.iload 4, 2) := by decide +kernel
theorem dL_law_182 : decode cL_law 182 = .ok (.iconst 2, 1) := by decide +kernel
theorem dL_law_183 : decode cL_law 183 = .ok (.iadd, 1) := by decide +kernel
theorem dL_law_184 : decode cL_law 184 = .ok (.iaload, 1) := by decide +kernel
theorem dL_law_185 : decode cL_law 185 = .ok (.aload_n 0, 1) := by decide +kernel
theorem dL_law_186 : decode cL_law 186 = .ok (.iload 4, 2) := by decide +kernel
theorem dL_law_188 : decode cL_law 188 = .ok (.iconst 3, 1) := by decide +kernel
theorem dL_law_189 : decode cL_law 189 = .ok (.iadd, 1) := by decide +kernel
theorem dL_law_190 : decode cL_law 190 = .ok (.iaload, 1) := by decide +kernel
theorem dL_law_191 : decode cL_law 191 = .ok (.aload_n 3, 1) := by decide +kernel
theorem dL_law_192 : decode cL_law 192 = .ok (.invokestatic 55, 3) := by decide +kernel
theorem dL_law_195 : decode cL_law 195 = .ok (.istore 5, 2) := by decide +kernel
theorem dL_law_197 : decode cL_law 197 = .ok (.aload_n 2, 1) := by decide +kernel
theorem dL_law_198 : decode cL_law 198 = .ok (.aload_n 0, 1) := by decide +kernel
theorem dL_law_199 : decode cL_law 199 = .ok (.iload 4, 2) := by decide +kernel
theorem dL_law_201 : decode cL_law 201 = .ok (.iconst 1, 1) := by decide +kernel
theorem dL_law_202 : decode cL_law 202 = .ok (.iadd, 1) := by decide +kernel
theorem dL_law_203 : decode cL_law 203 = .ok (.iaload, 1) := by decide +kernel
theorem dL_law_204 : decode cL_law 204 = .ok (.aload_n 0, 1) := by decide +kernel
theorem dL_law_205 : decode cL_law 205 = .ok (.iload 4, 2) := by decide +kernel
theorem dL_law_207 : decode cL_law 207 = .ok (.iconst 2, 1) := by decide +kernel
theorem dL_law_208 : decode cL_law 208 = .ok (.iadd, 1) := by decide +kernel
theorem dL_law_209 : decode cL_law 209 = .ok (.iaload, 1) := by decide +kernel
theorem dL_law_210 : decode cL_law 210 = .ok (.aload_n 0, 1) := by decide +kernel
theorem dL_law_211 : decode cL_law 211 = .ok (.iload 4, 2) := by decide +kernel
theorem dL_law_213 : decode cL_law 213 = .ok (.iconst 3, 1) := by decide +kernel
theorem dL_law_214 : decode cL_law 214 = .ok (.iadd, 1) := by decide +kernel
theorem dL_law_215 : decode cL_law 215 = .ok (.iaload, 1) := by decide +kernel
theorem dL_law_216 : decode cL_law 216 = .ok (.invokevirtual 57, 3) := by decide +kernel
theorem dL_law_219 : decode cL_law 219 = .ok (.istore 6, 2) := by decide +kernel
theorem dL_law_221 : decode cL_law 221 = .ok (.aload_n 2, 1) := by decide +kernel
theorem dL_law_222 : decode cL_law 222 = .ok (.invokevirtual 51, 3) := by decide +kernel
theorem dL_law_225 : decode cL_law 225 = .ok (.iload 5, 2) := by decide +kernel
theorem dL_law_227 : decode cL_law 227 = .ok (.if_icmp .eq 5, 3) := by decide +kernel
theorem dL_law_230 : decode cL_law 230 = .ok (.iconst 0, 1) := by decide +kernel
theorem dL_law_231 : decode cL_law 231 = .ok (.ireturn, 1) := by decide +kernel
theorem dL_law_232 : decode cL_law 232 = .ok (.iload 5, 2) := by decide +kernel
theorem dL_law_234 : decode cL_law 234 = .ok (.ifCond .ne 15, 3) := by decide +kernel
theorem dL_law_237 : decode cL_law 237 = .ok (.aload_n 3, 1) := by decide +kernel
theorem dL_law_238 : decode cL_law 238 = .ok (.iconst 0, 1) := by decide +kernel
theorem dL_law_239 : decode cL_law 239 = .ok (.laload, 1) := by decide +kernel
theorem dL_law_240 : decode cL_law 240 = .ok (.iload 6, 2) := by decide +kernel
theorem dL_law_242 : decode cL_law 242 = .ok (.i2l, 1) := by decide +kernel
theorem dL_law_243 : decode cL_law 243 = .ok (.lcmp, 1) := by decide +kernel
theorem dL_law_244 : decode cL_law 244 = .ok (.ifCond .eq 5, 3) := by decide +kernel
theorem dL_law_247 : decode cL_law 247 = .ok (.iconst 0, 1) := by decide +kernel
theorem dL_law_248 : decode cL_law 248 = .ok (.ireturn, 1) := by decide +kernel
theorem dL_law_249 : decode cL_law 249 = .ok (.goto 453, 3) := by decide +kernel
theorem dL_law_252 : decode cL_law 252 = .ok (.aload_n 1, 1) := by decide +kernel
theorem dL_law_253 : decode cL_law 253 = .ok (.aload_n 0, 1) := by decide +kernel
theorem dL_law_254 : decode cL_law 254 = .ok (.iload 4, 2) := by decide +kernel
theorem dL_law_256 : decode cL_law 256 = .ok (.iconst 1, 1) := by decide +kernel
theorem dL_law_257 : decode cL_law 257 = .ok (.iadd, 1) := by decide +kernel
theorem dL_law_258 : decode cL_law 258 = .ok (.iaload, 1) := by decide +kernel
theorem dL_law_259 : decode cL_law 259 = .ok (.aload_n 0, 1) := by decide +kernel
theorem dL_law_260 : decode cL_law 260 = .ok (.iload 4, 2) := by decide +kernel
theorem dL_law_262 : decode cL_law 262 = .ok (.iconst 2, 1) := by decide +kernel
theorem dL_law_263 : decode cL_law 263 = .ok (.iadd, 1) := by decide +kernel
theorem dL_law_264 : decode cL_law 264 = .ok (.iaload, 1) := by decide +kernel
theorem dL_law_265 : decode cL_law 265 = .ok (.aload_n 0, 1) := by decide +kernel
theorem dL_law_266 : decode cL_law 266 = .ok (.iload 4, 2) := by decide +kernel
theorem dL_law_268 : decode cL_law 268 = .ok (.iconst 3, 1) := by decide +kernel
theorem dL_law_269 : decode cL_law 269 = .ok (.iadd, 1) := by decide +kernel
theorem dL_law_270 : decode cL_law 270 = .ok (.iaload, 1) := by decide +kernel
theorem dL_law_271 : decode cL_law 271 = .ok (.aload_n 3, 1) := by decide +kernel
theorem dL_law_272 : decode cL_law 272 = .ok (.invokestatic 58, 3) := by decide +kernel
theorem dL_law_275 : decode cL_law 275 = .ok (.istore 5, 2) := by decide +kernel
theorem dL_law_277 : decode cL_law 277 = .ok (.aload_n 2, 1) := by decide +kernel
theorem dL_law_278 : decode cL_law 278 = .ok (.aload_n 0, 1) := by decide +kernel
theorem dL_law_279 : decode cL_law 279 = .ok (.iload 4, 2) := by decide +kernel
theorem dL_law_281 : decode cL_law 281 = .ok (.iconst 1, 1) := by decide +kernel
theorem dL_law_282 : decode cL_law 282 = .ok (.iadd, 1) := by decide +kernel
theorem dL_law_283 : decode cL_law 283 = .ok (.iaload, 1) := by decide +kernel
theorem dL_law_284 : decode cL_law 284 = .ok (.aload_n 0, 1) := by decide +kernel
theorem dL_law_285 : decode cL_law 285 = .ok (.iload 4, 2) := by decide +kernel
theorem dL_law_287 : decode cL_law 287 = .ok (.iconst 2, 1) := by decide +kernel
theorem dL_law_288 : decode cL_law 288 = .ok (.iadd, 1) := by decide +kernel
theorem dL_law_289 : decode cL_law 289 = .ok (.iaload, 1) := by decide +kernel
theorem dL_law_290 : decode cL_law 290 = .ok (.aload_n 0, 1) := by decide +kernel
theorem dL_law_291 : decode cL_law 291 = .ok (.iload 4, 2) := by decide +kernel
theorem dL_law_293 : decode cL_law 293 = .ok (.iconst 3, 1) := by decide +kernel
theorem dL_law_294 : decode cL_law 294 = .ok (.iadd, 1) := by decide +kernel
theorem dL_law_295 : decode cL_law 295 = .ok (.iaload, 1) := by decide +kernel
theorem dL_law_296 : decode cL_law 296 = .ok (.invokevirtual 60, 3) := by decide +kernel
theorem dL_law_299 : decode cL_law 299 = .ok (.istore 6, 2) := by decide +kernel
theorem dL_law_301 : decode cL_law 301 = .ok (.aload_n 2, 1) := by decide +kernel
theorem dL_law_302 : decode cL_law 302 = .ok (.invokevirtual 51, 3) := by decide +kernel
theorem dL_law_305 : decode cL_law 305 = .ok (.iload 5, 2) := by decide +kernel
theorem dL_law_307 : decode cL_law 307 = .ok (.if_icmp .eq 5, 3) := by decide +kernel
theorem dL_law_310 : decode cL_law 310 = .ok (.iconst 0, 1) := by decide +kernel
theorem dL_law_311 : decode cL_law 311 = .ok (.ireturn, 1) := by decide +kernel
theorem dL_law_312 : decode cL_law 312 = .ok (.iload 5, 2) := by decide +kernel
theorem dL_law_314 : decode cL_law 314 = .ok (.ifCond .ne 15, 3) := by decide +kernel
theorem dL_law_317 : decode cL_law 317 = .ok (.aload_n 3, 1) := by decide +kernel
theorem dL_law_318 : decode cL_law 318 = .ok (.iconst 0, 1) := by decide +kernel
theorem dL_law_319 : decode cL_law 319 = .ok (.laload, 1) := by decide +kernel
theorem dL_law_320 : decode cL_law 320 = .ok (.iload 6, 2) := by decide +kernel
theorem dL_law_322 : decode cL_law 322 = .ok (.i2l, 1) := by decide +kernel
theorem dL_law_323 : decode cL_law 323 = .ok (.lcmp, 1) := by decide +kernel
theorem dL_law_324 : decode cL_law 324 = .ok (.ifCond .eq 5, 3) := by decide +kernel
theorem dL_law_327 : decode cL_law 327 = .ok (.iconst 0, 1) := by decide +kernel
theorem dL_law_328 : decode cL_law 328 = .ok (.ireturn, 1) := by decide +kernel
theorem dL_law_329 : decode cL_law 329 = .ok (.goto 373, 3) := by decide +kernel
theorem dL_law_332 : decode cL_law 332 = .ok (.aload_n 1, 1) := by decide +kernel
theorem dL_law_333 : decode cL_law 333 = .ok (.aload_n 0, 1) := by decide +kernel
theorem dL_law_334 : decode cL_law 334 = .ok (.iload 4, 2) := by decide +kernel
theorem dL_law_336 : decode cL_law 336 = .ok (.iconst 1, 1) := by decide +kernel
theorem dL_law_337 : decode cL_law 337 = .ok (.iadd, 1) := by decide +kernel
theorem dL_law_338 : decode cL_law 338 = .ok (.iaload, 1) := by decide +kernel
theorem dL_law_339 : decode cL_law 339 = .ok (.aload_n 3, 1) := by decide +kernel
theorem dL_law_340 : decode cL_law 340 = .ok (.invokestatic 61, 3) := by decide +kernel
theorem dL_law_343 : decode cL_law 343 = .ok (.istore 5, 2) := by decide +kernel
theorem dL_law_345 : decode cL_law 345 = .ok (.aload_n 2, 1) := by decide +kernel
theorem dL_law_346 : decode cL_law 346 = .ok (.aload_n 0, 1) := by decide +kernel
theorem dL_law_347 : decode cL_law 347 = .ok (.iload 4, 2) := by decide +kernel
theorem dL_law_349 : decode cL_law 349 = .ok (.iconst 1, 1) := by decide +kernel
theorem dL_law_350 : decode cL_law 350 = .ok (.iadd, 1) := by decide +kernel
theorem dL_law_351 : decode cL_law 351 = .ok (.iaload, 1) := by decide +kernel
theorem dL_law_352 : decode cL_law 352 = .ok (.invokevirtual 64, 3) := by decide +kernel
theorem dL_law_355 : decode cL_law 355 = .ok (.istore 6, 2) := by decide +kernel
theorem dL_law_357 : decode cL_law 357 = .ok (.aload_n 2, 1) := by decide +kernel
theorem dL_law_358 : decode cL_law 358 = .ok (.invokevirtual 51, 3) := by decide +kernel
theorem dL_law_361 : decode cL_law 361 = .ok (.iload 5, 2) := by decide +kernel
theorem dL_law_363 : decode cL_law 363 = .ok (.if_icmp .eq 5, 3) := by decide +kernel
theorem dL_law_366 : decode cL_law 366 = .ok (.iconst 0, 1) := by decide +kernel
theorem dL_law_367 : decode cL_law 367 = .ok (.ireturn, 1) := by decide +kernel
theorem dL_law_368 : decode cL_law 368 = .ok (.iload 5, 2) := by decide +kernel
theorem dL_law_370 : decode cL_law 370 = .ok (.ifCond .ne 15, 3) := by decide +kernel
theorem dL_law_373 : decode cL_law 373 = .ok (.aload_n 3, 1) := by decide +kernel
theorem dL_law_374 : decode cL_law 374 = .ok (.iconst 0, 1) := by decide +kernel
theorem dL_law_375 : decode cL_law 375 = .ok (.laload, 1) := by decide +kernel
theorem dL_law_376 : decode cL_law 376 = .ok (.iload 6, 2) := by decide +kernel
theorem dL_law_378 : decode cL_law 378 = .ok (.i2l, 1) := by decide +kernel
theorem dL_law_379 : decode cL_law 379 = .ok (.lcmp, 1) := by decide +kernel
theorem dL_law_380 : decode cL_law 380 = .ok (.ifCond .eq 5, 3) := by decide +kernel
theorem dL_law_383 : decode cL_law 383 = .ok (.iconst 0, 1) := by decide +kernel
theorem dL_law_384 : decode cL_law 384 = .ok (.ireturn, 1) := by decide +kernel
theorem dL_law_385 : decode cL_law 385 = .ok (.goto 317, 3) := by decide +kernel
theorem dL_law_388 : decode cL_law 388 = .ok (.aload_n 1, 1) := by decide +kernel
theorem dL_law_389 : decode cL_law 389 = .ok (.aload_n 0, 1) := by decide +kernel
theorem dL_law_390 : decode cL_law 390 = .ok (.iload 4, 2) := by decide +kernel
theorem dL_law_392 : decode cL_law 392 = .ok (.iconst 1, 1) := by decide +kernel
theorem dL_law_393 : decode cL_law 393 = .ok (.iadd, 1) := by decide +kernel
theorem dL_law_394 : decode cL_law 394 = .ok (.iaload, 1) := by decide +kernel
theorem dL_law_395 : decode cL_law 395 = .ok (.aload_n 3, 1) := by decide +kernel
theorem dL_law_396 : decode cL_law 396 = .ok (.invokestatic 65, 3) := by decide +kernel
theorem dL_law_399 : decode cL_law 399 = .ok (.istore 5, 2) := by decide +kernel
theorem dL_law_401 : decode cL_law 401 = .ok (.aload_n 2, 1) := by decide +kernel
theorem dL_law_402 : decode cL_law 402 = .ok (.aload_n 0, 1) := by decide +kernel
theorem dL_law_403 : decode cL_law 403 = .ok (.iload 4, 2) := by decide +kernel
theorem dL_law_405 : decode cL_law 405 = .ok (.iconst 1, 1) := by decide +kernel
theorem dL_law_406 : decode cL_law 406 = .ok (.iadd, 1) := by decide +kernel
theorem dL_law_407 : decode cL_law 407 = .ok (.iaload, 1) := by decide +kernel
theorem dL_law_408 : decode cL_law 408 = .ok (.invokevirtual 67, 3) := by decide +kernel
theorem dL_law_411 : decode cL_law 411 = .ok (.istore 6, 2) := by decide +kernel
theorem dL_law_413 : decode cL_law 413 = .ok (.aload_n 2, 1) := by decide +kernel
theorem dL_law_414 : decode cL_law 414 = .ok (.invokevirtual 51, 3) := by decide +kernel
theorem dL_law_417 : decode cL_law 417 = .ok (.iload 5, 2) := by decide +kernel
theorem dL_law_419 : decode cL_law 419 = .ok (.if_icmp .eq 5, 3) := by decide +kernel
theorem dL_law_422 : decode cL_law 422 = .ok (.iconst 0, 1) := by decide +kernel
theorem dL_law_423 : decode cL_law 423 = .ok (.ireturn, 1) := by decide +kernel
theorem dL_law_424 : decode cL_law 424 = .ok (.iload 5, 2) := by decide +kernel
theorem dL_law_426 : decode cL_law 426 = .ok (.ifCond .ne 15, 3) := by decide +kernel
theorem dL_law_429 : decode cL_law 429 = .ok (.aload_n 3, 1) := by decide +kernel
theorem dL_law_430 : decode cL_law 430 = .ok (.iconst 0, 1) := by decide +kernel
theorem dL_law_431 : decode cL_law 431 = .ok (.laload, 1) := by decide +kernel
theorem dL_law_432 : decode cL_law 432 = .ok (.iload 6, 2) := by decide +kernel
theorem dL_law_434 : decode cL_law 434 = .ok (.i2l, 1) := by decide +kernel
theorem dL_law_435 : decode cL_law 435 = .ok (.lcmp, 1) := by decide +kernel
theorem dL_law_436 : decode cL_law 436 = .ok (.ifCond .eq 5, 3) := by decide +kernel
theorem dL_law_439 : decode cL_law 439 = .ok (.iconst 0, 1) := by decide +kernel
theorem dL_law_440 : decode cL_law 440 = .ok (.ireturn, 1) := by decide +kernel
theorem dL_law_441 : decode cL_law 441 = .ok (.goto 261, 3) := by decide +kernel
theorem dL_law_444 : decode cL_law 444 = .ok (.aload_n 1, 1) := by decide +kernel
theorem dL_law_445 : decode cL_law 445 = .ok (.aload_n 0, 1) := by decide +kernel
theorem dL_law_446 : decode cL_law 446 = .ok (.iload 4, 2) := by decide +kernel
theorem dL_law_448 : decode cL_law 448 = .ok (.iconst 1, 1) := by decide +kernel
theorem dL_law_449 : decode cL_law 449 = .ok (.iadd, 1) := by decide +kernel
theorem dL_law_450 : decode cL_law 450 = .ok (.iaload, 1) := by decide +kernel
theorem dL_law_451 : decode cL_law 451 = .ok (.aload_n 0, 1) := by decide +kernel
theorem dL_law_452 : decode cL_law 452 = .ok (.iload 4, 2) := by decide +kernel
theorem dL_law_454 : decode cL_law 454 = .ok (.iconst 2, 1) := by decide +kernel
theorem dL_law_455 : decode cL_law 455 = .ok (.iadd, 1) := by decide +kernel
theorem dL_law_456 : decode cL_law 456 = .ok (.iaload, 1) := by decide +kernel
theorem dL_law_457 : decode cL_law 457 = .ok (.aload_n 3, 1) := by decide +kernel
theorem dL_law_458 : decode cL_law 458 = .ok (.invokestatic 68, 3) := by decide +kernel
theorem dL_law_461 : decode cL_law 461 = .ok (.istore 5, 2) := by decide +kernel
theorem dL_law_463 : decode cL_law 463 = .ok (.aload_n 2, 1) := by decide +kernel
theorem dL_law_464 : decode cL_law 464 = .ok (.aload_n 0, 1) := by decide +kernel
theorem dL_law_465 : decode cL_law 465 = .ok (.iload 4, 2) := by decide +kernel
theorem dL_law_467 : decode cL_law 467 = .ok (.iconst 1, 1) := by decide +kernel
theorem dL_law_468 : decode cL_law 468 = .ok (.iadd, 1) := by decide +kernel
theorem dL_law_469 : decode cL_law 469 = .ok (.iaload, 1) := by decide +kernel
theorem dL_law_470 : decode cL_law 470 = .ok (.aload_n 0, 1) := by decide +kernel
theorem dL_law_471 : decode cL_law 471 = .ok (.iload 4, 2) := by decide +kernel
theorem dL_law_473 : decode cL_law 473 = .ok (.iconst 2, 1) := by decide +kernel
theorem dL_law_474 : decode cL_law 474 = .ok (.iadd, 1) := by decide +kernel
theorem dL_law_475 : decode cL_law 475 = .ok (.iaload, 1) := by decide +kernel
theorem dL_law_476 : decode cL_law 476 = .ok (.invokevirtual 71, 3) := by decide +kernel
theorem dL_law_479 : decode cL_law 479 = .ok (.istore 6, 2) := by decide +kernel
theorem dL_law_481 : decode cL_law 481 = .ok (.aload_n 2, 1) := by decide +kernel
theorem dL_law_482 : decode cL_law 482 = .ok (.invokevirtual 51, 3) := by decide +kernel
theorem dL_law_485 : decode cL_law 485 = .ok (.iload 5, 2) := by decide +kernel
theorem dL_law_487 : decode cL_law 487 = .ok (.if_icmp .eq 5, 3) := by decide +kernel
theorem dL_law_490 : decode cL_law 490 = .ok (.iconst 0, 1) := by decide +kernel
theorem dL_law_491 : decode cL_law 491 = .ok (.ireturn, 1) := by decide +kernel
theorem dL_law_492 : decode cL_law 492 = .ok (.iload 5, 2) := by decide +kernel
theorem dL_law_494 : decode cL_law 494 = .ok (.ifCond .ne 15, 3) := by decide +kernel
theorem dL_law_497 : decode cL_law 497 = .ok (.aload_n 3, 1) := by decide +kernel
theorem dL_law_498 : decode cL_law 498 = .ok (.iconst 0, 1) := by decide +kernel
theorem dL_law_499 : decode cL_law 499 = .ok (.laload, 1) := by decide +kernel
theorem dL_law_500 : decode cL_law 500 = .ok (.iload 6, 2) := by decide +kernel
theorem dL_law_502 : decode cL_law 502 = .ok (.i2l, 1) := by decide +kernel
theorem dL_law_503 : decode cL_law 503 = .ok (.lcmp, 1) := by decide +kernel
theorem dL_law_504 : decode cL_law 504 = .ok (.ifCond .eq 5, 3) := by decide +kernel
theorem dL_law_507 : decode cL_law 507 = .ok (.iconst 0, 1) := by decide +kernel
theorem dL_law_508 : decode cL_law 508 = .ok (.ireturn, 1) := by decide +kernel
theorem dL_law_509 : decode cL_law 509 = .ok (.goto 193, 3) := by decide +kernel
theorem dL_law_512 : decode cL_law 512 = .ok (.aload_n 1, 1) := by decide +kernel
theorem dL_law_513 : decode cL_law 513 = .ok (.aload_n 0, 1) := by decide +kernel
theorem dL_law_514 : decode cL_law 514 = .ok (.iload 4, 2) := by decide +kernel
theorem dL_law_516 : decode cL_law 516 = .ok (.iconst 1, 1) := by decide +kernel
theorem dL_law_517 : decode cL_law 517 = .ok (.iadd, 1) := by decide +kernel
theorem dL_law_518 : decode cL_law 518 = .ok (.iaload, 1) := by decide +kernel
theorem dL_law_519 : decode cL_law 519 = .ok (.aload_n 0, 1) := by decide +kernel
theorem dL_law_520 : decode cL_law 520 = .ok (.iload 4, 2) := by decide +kernel
theorem dL_law_522 : decode cL_law 522 = .ok (.iconst 2, 1) := by decide +kernel
theorem dL_law_523 : decode cL_law 523 = .ok (.iadd, 1) := by decide +kernel
theorem dL_law_524 : decode cL_law 524 = .ok (.iaload, 1) := by decide +kernel
theorem dL_law_525 : decode cL_law 525 = .ok (.aload_n 3, 1) := by decide +kernel
theorem dL_law_526 : decode cL_law 526 = .ok (.invokestatic 72, 3) := by decide +kernel
theorem dL_law_529 : decode cL_law 529 = .ok (.istore 5, 2) := by decide +kernel
theorem dL_law_531 : decode cL_law 531 = .ok (.aload_n 2, 1) := by decide +kernel
theorem dL_law_532 : decode cL_law 532 = .ok (.aload_n 0, 1) := by decide +kernel
theorem dL_law_533 : decode cL_law 533 = .ok (.iload 4, 2) := by decide +kernel
theorem dL_law_535 : decode cL_law 535 = .ok (.iconst 1, 1) := by decide +kernel
theorem dL_law_536 : decode cL_law 536 = .ok (.iadd, 1) := by decide +kernel
theorem dL_law_537 : decode cL_law 537 = .ok (.iaload, 1) := by decide +kernel
theorem dL_law_538 : decode cL_law 538 = .ok (.aload_n 0, 1) := by decide +kernel
theorem dL_law_539 : decode cL_law 539 = .ok (.iload 4, 2) := by decide +kernel
theorem dL_law_541 : decode cL_law 541 = .ok (.iconst 2, 1) := by decide +kernel
theorem dL_law_542 : decode cL_law 542 = .ok (.iadd, 1) := by decide +kernel
theorem dL_law_543 : decode cL_law 543 = .ok (.iaload, 1) := by decide +kernel
theorem dL_law_544 : decode cL_law 544 = .ok (.invokevirtual 74, 3) := by decide +kernel
theorem dL_law_547 : decode cL_law 547 = .ok (.istore 6, 2) := by decide +kernel
theorem dL_law_549 : decode cL_law 549 = .ok (.aload_n 2, 1) := by decide +kernel
theorem dL_law_550 : decode cL_law 550 = .ok (.invokevirtual 51, 3) := by decide +kernel
theorem dL_law_553 : decode cL_law 553 = .ok (.iload 5, 2) := by decide +kernel
theorem dL_law_555 : decode cL_law 555 = .ok (.if_icmp .eq 5, 3) := by decide +kernel
theorem dL_law_558 : decode cL_law 558 = .ok (.iconst 0, 1) := by decide +kernel
theorem dL_law_559 : decode cL_law 559 = .ok (.ireturn, 1) := by decide +kernel
theorem dL_law_560 : decode cL_law 560 = .ok (.iload 5, 2) := by decide +kernel
theorem dL_law_562 : decode cL_law 562 = .ok (.ifCond .ne 15, 3) := by decide +kernel
theorem dL_law_565 : decode cL_law 565 = .ok (.aload_n 3, 1) := by decide +kernel
theorem dL_law_566 : decode cL_law 566 = .ok (.iconst 0, 1) := by decide +kernel
theorem dL_law_567 : decode cL_law 567 = .ok (.laload, 1) := by decide +kernel
theorem dL_law_568 : decode cL_law 568 = .ok (.iload 6, 2) := by decide +kernel
theorem dL_law_570 : decode cL_law 570 = .ok (.i2l, 1) := by decide +kernel
theorem dL_law_571 : decode cL_law 571 = .ok (.lcmp, 1) := by decide +kernel
theorem dL_law_572 : decode cL_law 572 = .ok (.ifCond .eq 5, 3) := by decide +kernel
theorem dL_law_575 : decode cL_law 575 = .ok (.iconst 0, 1) := by decide +kernel
theorem dL_law_576 : decode cL_law 576 = .ok (.ireturn, 1) := by decide +kernel
theorem dL_law_577 : decode cL_law 577 = .ok (.goto 125, 3) := by decide +kernel
theorem dL_law_580 : decode cL_law 580 = .ok (.aload_n 1, 1) := by decide +kernel
theorem dL_law_581 : decode cL_law 581 = .ok (.aload_n 0, 1) := by decide +kernel
theorem dL_law_582 : decode cL_law 582 = .ok (.iload 4, 2) := by decide +kernel
theorem dL_law_584 : decode cL_law 584 = .ok (.iconst 1, 1) := by decide +kernel
theorem dL_law_585 : decode cL_law 585 = .ok (.iadd, 1) := by decide +kernel
theorem dL_law_586 : decode cL_law 586 = .ok (.iaload, 1) := by decide +kernel
theorem dL_law_587 : decode cL_law 587 = .ok (.aload_n 0, 1) := by decide +kernel
theorem dL_law_588 : decode cL_law 588 = .ok (.iload 4, 2) := by decide +kernel
theorem dL_law_590 : decode cL_law 590 = .ok (.iconst 2, 1) := by decide +kernel
theorem dL_law_591 : decode cL_law 591 = .ok (.iadd, 1) := by decide +kernel
theorem dL_law_592 : decode cL_law 592 = .ok (.iaload, 1) := by decide +kernel
theorem dL_law_593 : decode cL_law 593 = .ok (.aload_n 0, 1) := by decide +kernel
theorem dL_law_594 : decode cL_law 594 = .ok (.iload 4, 2) := by decide +kernel
theorem dL_law_596 : decode cL_law 596 = .ok (.iconst 3, 1) := by decide +kernel
theorem dL_law_597 : decode cL_law 597 = .ok (.iadd, 1) := by decide +kernel
theorem dL_law_598 : decode cL_law 598 = .ok (.iaload, 1) := by decide +kernel
theorem dL_law_599 : decode cL_law 599 = .ok (.ifCond .eq 7, 3) := by decide +kernel
theorem dL_law_602 : decode cL_law 602 = .ok (.iconst 1, 1) := by decide +kernel
theorem dL_law_603 : decode cL_law 603 = .ok (.goto 4, 3) := by decide +kernel
theorem dL_law_606 : decode cL_law 606 = .ok (.iconst 0, 1) := by decide +kernel
theorem dL_law_607 : decode cL_law 607 = .ok (.aload_n 3, 1) := by decide +kernel
theorem dL_law_608 : decode cL_law 608 = .ok (.invokestatic 75, 3) := by decide +kernel
theorem dL_law_611 : decode cL_law 611 = .ok (.istore 5, 2) := by decide +kernel
theorem dL_law_613 : decode cL_law 613 = .ok (.aload_n 2, 1) := by decide +kernel
theorem dL_law_614 : decode cL_law 614 = .ok (.aload_n 0, 1) := by decide +kernel
theorem dL_law_615 : decode cL_law 615 = .ok (.iload 4, 2) := by decide +kernel
theorem dL_law_617 : decode cL_law 617 = .ok (.iconst 1, 1) := by decide +kernel
theorem dL_law_618 : decode cL_law 618 = .ok (.iadd, 1) := by decide +kernel
theorem dL_law_619 : decode cL_law 619 = .ok (.iaload, 1) := by decide +kernel
theorem dL_law_620 : decode cL_law 620 = .ok (.aload_n 0, 1) := by decide +kernel
theorem dL_law_621 : decode cL_law 621 = .ok (.iload 4, 2) := by decide +kernel
theorem dL_law_623 : decode cL_law 623 = .ok (.iconst 2, 1) := by decide +kernel
theorem dL_law_624 : decode cL_law 624 = .ok (.iadd, 1) := by decide +kernel
theorem dL_law_625 : decode cL_law 625 = .ok (.iaload, 1) := by decide +kernel
theorem dL_law_626 : decode cL_law 626 = .ok (.aload_n 0, 1) := by decide +kernel
theorem dL_law_627 : decode cL_law 627 = .ok (.iload 4, 2) := by decide +kernel
theorem dL_law_629 : decode cL_law 629 = .ok (.iconst 3, 1) := by decide +kernel
theorem dL_law_630 : decode cL_law 630 = .ok (.iadd, 1) := by decide +kernel
theorem dL_law_631 : decode cL_law 631 = .ok (.iaload, 1) := by decide +kernel
theorem dL_law_632 : decode cL_law 632 = .ok (.ifCond .eq 7, 3) := by decide +kernel
theorem dL_law_635 : decode cL_law 635 = .ok (.iconst 1, 1) := by decide +kernel
theorem dL_law_636 : decode cL_law 636 = .ok (.goto 4, 3) := by decide +kernel
theorem dL_law_639 : decode cL_law 639 = .ok (.iconst 0, 1) := by decide +kernel
theorem dL_law_640 : decode cL_law 640 = .ok (.invokevirtual 78, 3) := by decide +kernel
theorem dL_law_643 : decode cL_law 643 = .ok (.istore 6, 2) := by decide +kernel
theorem dL_law_645 : decode cL_law 645 = .ok (.aload_n 2, 1) := by decide +kernel
theorem dL_law_646 : decode cL_law 646 = .ok (.invokevirtual 51, 3) := by decide +kernel
theorem dL_law_649 : decode cL_law 649 = .ok (.iload 5, 2) := by decide +kernel
theorem dL_law_651 : decode cL_law 651 = .ok (.if_icmp .eq 5, 3) := by decide +kernel
theorem dL_law_654 : decode cL_law 654 = .ok (.iconst 0, 1) := by decide +kernel
theorem dL_law_655 : decode cL_law 655 = .ok (.ireturn, 1) := by decide +kernel
theorem dL_law_656 : decode cL_law 656 = .ok (.iload 5, 2) := by decide +kernel
theorem dL_law_658 : decode cL_law 658 = .ok (.ifCond .ne 15, 3) := by decide +kernel
theorem dL_law_661 : decode cL_law 661 = .ok (.aload_n 3, 1) := by decide +kernel
theorem dL_law_662 : decode cL_law 662 = .ok (.iconst 0, 1) := by decide +kernel
theorem dL_law_663 : decode cL_law 663 = .ok (.laload, 1) := by decide +kernel
theorem dL_law_664 : decode cL_law 664 = .ok (.iload 6, 2) := by decide +kernel
theorem dL_law_666 : decode cL_law 666 = .ok (.i2l, 1) := by decide +kernel
theorem dL_law_667 : decode cL_law 667 = .ok (.lcmp, 1) := by decide +kernel
theorem dL_law_668 : decode cL_law 668 = .ok (.ifCond .eq 5, 3) := by decide +kernel
theorem dL_law_671 : decode cL_law 671 = .ok (.iconst 0, 1) := by decide +kernel
theorem dL_law_672 : decode cL_law 672 = .ok (.ireturn, 1) := by decide +kernel
theorem dL_law_673 : decode cL_law 673 = .ok (.goto 29, 3) := by decide +kernel
theorem dL_law_676 : decode cL_law 676 = .ok (.aload_n 1, 1) := by decide +kernel
theorem dL_law_677 : decode cL_law 677 = .ok (.invokevirtual 79, 3) := by decide +kernel
theorem dL_law_680 : decode cL_law 680 = .ok (.aload_n 2, 1) := by decide +kernel
theorem dL_law_681 : decode cL_law 681 = .ok (.invokevirtual 82, 3) := by decide +kernel
theorem dL_law_684 : decode cL_law 684 = .ok (.if_icmp .eq 18, 3) := by decide +kernel
theorem dL_law_687 : decode cL_law 687 = .ok (.iconst 0, 1) := by decide +kernel
theorem dL_law_688 : decode cL_law 688 = .ok (.ireturn, 1) := by decide +kernel
theorem dL_law_689 : decode cL_law 689 = .ok (.aload_n 1, 1) := by decide +kernel
theorem dL_law_690 : decode cL_law 690 = .ok (.invokevirtual 83, 3) := by decide +kernel
theorem dL_law_693 : decode cL_law 693 = .ok (.aload_n 2, 1) := by decide +kernel
theorem dL_law_694 : decode cL_law 694 = .ok (.invokevirtual 86, 3) := by decide +kernel
theorem dL_law_697 : decode cL_law 697 = .ok (.if_icmp .eq 5, 3) := by decide +kernel
theorem dL_law_700 : decode cL_law 700 = .ok (.iconst 0, 1) := by decide +kernel
theorem dL_law_701 : decode cL_law 701 = .ok (.ireturn, 1) := by decide +kernel
theorem dL_law_702 : decode cL_law 702 = .ok (.iinc 4 4, 3) := by decide +kernel
theorem dL_law_705 : decode cL_law 705 = .ok (.goto (-682), 3) := by decide +kernel
theorem dL_law_708 : decode cL_law 708 = .ok (.iconst 1, 1) := by decide +kernel
theorem dL_law_709 : decode cL_law 709 = .ok (.ireturn, 1) := by decide +kernel
end
section
/-! The reference: names, fields, decode rows; then every word of the tables by its place (written by wip/whole/mkwords.py). -/
def RX1 : String := "RunSorterModel"
def TX1 : u_T := fun k => match k with
  | 0 => ("RunSorterModel", "failed", "I", false)
  | 1 => ("RunSorterModel", "size", "I", false)
  | 2 => ("RunSorterModel", "row", "[I", true)
  | _ => ("RunSorterModel", "tags", "[I", true)
def tyX1 : Nat → FieldType := fun k => match k with
  | 0 => .int
  | 1 => .int
  | 2 => .array .int
  | _ => .array .int
abbrev wsX10 : List Cond := u_ws RX1 TX1 4
theorem nmX1 : ∀ a, a < 4 → ∀ b, b < 4 → a ≠ b → (TX1 a).2.1 ≠ (TX1 b).2.1 := by decide +kernel
theorem tyX1_ok : ∀ k, k < 4 → parseFieldDescriptor (TX1 k).2.2.1 = some (tyX1 k) := by decide +kernel
abbrev cX1_init : ByteArray := prog_3_method_1_code
def yX1_init : MethodName := ⟨RX1, "<init>", "()V"⟩
abbrev cX1_thrown : ByteArray := prog_3_method_2_code
def yX1_thrown : MethodName := ⟨RX1, "thrown", "()I"⟩
abbrev cX1_fail : ByteArray := prog_3_method_3_code
def yX1_fail : MethodName := ⟨RX1, "fail", "(I)I"⟩
abbrev cX1_rank : ByteArray := prog_3_method_4_code
def yX1_rank : MethodName := ⟨RX1, "rank", "(II)I"⟩
abbrev cX1_append : ByteArray := prog_3_method_5_code
def yX1_append : MethodName := ⟨RX1, "append", "(I)V"⟩
abbrev cX1_fill : ByteArray := prog_3_method_6_code
def yX1_fill : MethodName := ⟨RX1, "fill", "(III)I"⟩
abbrev cX1_scatter : ByteArray := prog_3_method_7_code
def yX1_scatter : MethodName := ⟨RX1, "scatter", "(III)I"⟩
abbrev cX1_bad : ByteArray := prog_3_method_8_code
def yX1_bad : MethodName := ⟨RX1, "bad", "(II)Z"⟩
abbrev cX1_sort : ByteArray := prog_3_method_9_code
def yX1_sort : MethodName := ⟨RX1, "sort", "(III)I"⟩
abbrev cX1_get : ByteArray := prog_3_method_10_code
def yX1_get : MethodName := ⟨RX1, "get", "(I)I"⟩
abbrev cX1_tag : ByteArray := prog_3_method_11_code
def yX1_tag : MethodName := ⟨RX1, "tag", "(I)I"⟩
abbrev cX1_set : ByteArray := prog_3_method_12_code
def yX1_set : MethodName := ⟨RX1, "set", "(II)I"⟩
abbrev cX1_turn : ByteArray := prog_3_method_13_code
def yX1_turn : MethodName := ⟨RX1, "turn", "(II)I"⟩
abbrev cX1_upTo : ByteArray := prog_3_method_14_code
def yX1_upTo : MethodName := ⟨RX1, "upTo", "(IIZ)I"⟩
abbrev cX1_clear : ByteArray := prog_3_method_15_code
def yX1_clear : MethodName := ⟨RX1, "clear", "()I"⟩
abbrev cX1_hash : ByteArray := prog_3_method_16_code
def yX1_hash : MethodName := ⟨RX1, "hash", "()I"⟩
theorem dX1_init_0 : decode cX1_init 0 = .ok (.aload_n 0, 1) := by decide +kernel
theorem dX1_init_1 : decode cX1_init 1 = .ok (.invokespecial 1, 3) := by decide +kernel
theorem dX1_init_4 : decode cX1_init 4 = .ok (.aload_n 0, 1) := by decide +kernel
theorem dX1_init_5 : decode cX1_init 5 = .ok (.sipush 2000, 3) := by decide +kernel
theorem dX1_init_8 : decode cX1_init 8 = .ok (.newarray .int, 2) := by decide +kernel
theorem dX1_init_10 : decode cX1_init 10 = .ok (.putfield 7, 3) := by decide +kernel
theorem dX1_init_13 : decode cX1_init 13 = .ok (.aload_n 0, 1) := by decide +kernel
theorem dX1_init_14 : decode cX1_init 14 = .ok (.sipush 2000, 3) := by decide +kernel
theorem dX1_init_17 : decode cX1_init 17 = .ok (.newarray .int, 2) := by decide +kernel
theorem dX1_init_19 : decode cX1_init 19 = .ok (.putfield 13, 3) := by decide +kernel
theorem dX1_init_22 : decode cX1_init 22 = .ok (.return_, 1) := by decide +kernel
theorem dX1_thrown_0 : decode cX1_thrown 0 = .ok (.aload_n 0, 1) := by decide +kernel
theorem dX1_thrown_1 : decode cX1_thrown 1 = .ok (.getfield 16, 3) := by decide +kernel
theorem dX1_thrown_4 : decode cX1_thrown 4 = .ok (.ireturn, 1) := by decide +kernel
theorem dX1_fail_0 : decode cX1_fail 0 = .ok (.aload_n 0, 1) := by decide +kernel
theorem dX1_fail_1 : decode cX1_fail 1 = .ok (.iload_n 1, 1) := by decide +kernel
theorem dX1_fail_2 : decode cX1_fail 2 = .ok (.putfield 16, 3) := by decide +kernel
theorem dX1_fail_5 : decode cX1_fail 5 = .ok (.iconst 0, 1) := by decide +kernel
theorem dX1_fail_6 : decode cX1_fail 6 = .ok (.ireturn, 1) := by decide +kernel
theorem dX1_rank_0 : decode cX1_rank 0 = .ok (.iload_n 1, 1) := by decide +kernel
theorem dX1_rank_1 : decode cX1_rank 1 = .ok (.ifCond .ne 7, 3) := by decide +kernel
theorem dX1_rank_4 : decode cX1_rank 4 = .ok (.iload_n 2, 1) := by decide +kernel
theorem dX1_rank_5 : decode cX1_rank 5 = .ok (.goto 30, 3) := by decide +kernel
theorem dX1_rank_8 : decode cX1_rank 8 = .ok (.iload_n 1, 1) := by decide +kernel
theorem dX1_rank_9 : decode cX1_rank 9 = .ok (.iconst 1, 1) := by decide +kernel
theorem dX1_rank_10 : decode cX1_rank 10 = .ok (.if_icmp .ne 9, 3) := by decide +kernel
theorem dX1_rank_13 : decode cX1_rank 13 = .ok (.iload_n 2, 1) := by decide +kernel
theorem dX1_rank_14 : decode cX1_rank 14 = .ok (.iconst (-1), 1) := by decide +kernel
theorem dX1_rank_15 : decode cX1_rank 15 = .ok (.ixor, 1) := by decide +kernel
theorem dX1_rank_16 : decode cX1_rank 16 = .ok (.goto 19, 3) := by decide +kernel
theorem dX1_rank_19 : decode cX1_rank 19 = .ok (.iload_n 1, 1) := by decide +kernel
theorem dX1_rank_20 : decode cX1_rank 20 = .ok (.iconst 2, 1) := by decide +kernel
theorem dX1_rank_21 : decode cX1_rank 21 = .ok (.if_icmp .ne 10, 3) := by decide +kernel
theorem dX1_rank_24 : decode cX1_rank 24 = .ok (.iload_n 2, 1) := by decide +kernel
theorem dX1_rank_25 : decode cX1_rank 25 = .ok (.bipush 15, 2) := by decide +kernel
theorem dX1_rank_27 : decode cX1_rank 27 = .ok (.iand, 1) := by decide +kernel
theorem dX1_rank_28 : decode cX1_rank 28 = .ok (.goto 7, 3) := by decide +kernel
theorem dX1_rank_31 : decode cX1_rank 31 = .ok (.iload_n 2, 1) := by decide +kernel
theorem dX1_rank_32 : decode cX1_rank 32 = .ok (.ldc 20, 2) := by decide +kernel
theorem dX1_rank_34 : decode cX1_rank 34 = .ok (.ixor, 1) := by decide +kernel
theorem dX1_rank_35 : decode cX1_rank 35 = .ok (.ireturn, 1) := by decide +kernel
theorem dX1_append_0 : decode cX1_append 0 = .ok (.aload_n 0, 1) := by decide +kernel
theorem dX1_append_1 : decode cX1_append 1 = .ok (.getfield 7, 3) := by decide +kernel
theorem dX1_append_4 : decode cX1_append 4 = .ok (.aload_n 0, 1) := by decide +kernel
theorem dX1_append_5 : decode cX1_append 5 = .ok (.getfield 21, 3) := by decide +kernel
theorem dX1_append_8 : decode cX1_append 8 = .ok (.iload_n 1, 1) := by decide +kernel
theorem dX1_append_9 : decode cX1_append 9 = .ok (.iastore, 1) := by decide +kernel
theorem dX1_append_10 : decode cX1_append 10 = .ok (.aload_n 0, 1) := by decide +kernel
theorem dX1_append_11 : decode cX1_append 11 = .ok (.getfield 13, 3) := by decide +kernel
theorem dX1_append_14 : decode cX1_append 14 = .ok (.aload_n 0, 1) := by decide +kernel
theorem dX1_append_15 : decode cX1_append 15 = .ok (.getfield 21, 3) := by decide +kernel
theorem dX1_append_18 : decode cX1_append 18 = .ok (.aload_n 0, 1) := by decide +kernel
theorem dX1_append_19 : decode cX1_append 19 = .ok (.getfield 21, 3) := by decide +kernel
theorem dX1_append_22 : decode cX1_append 22 = .ok (.iastore, 1) := by decide +kernel
theorem dX1_append_23 : decode cX1_append 23 = .ok (.aload_n 0, 1) := by decide +kernel
theorem dX1_append_24 : decode cX1_append 24 = .ok (.dup, 1) := by decide +kernel
theorem dX1_append_25 : decode cX1_append 25 = .ok (.getfield 21, 3) := by decide +kernel
theorem dX1_append_28 : decode cX1_append 28 = .ok (.iconst 1, 1) := by decide +kernel
theorem dX1_append_29 : decode cX1_append 29 = .ok (.iadd, 1) := by decide +kernel
theorem dX1_append_30 : decode cX1_append 30 = .ok (.putfield 21, 3) := by decide +kernel
theorem dX1_append_33 : decode cX1_append 33 = .ok (.return_, 1) := by decide +kernel
theorem dX1_fill_0 : decode cX1_fill 0 = .ok (.aload_n 0, 1) := by decide +kernel
theorem dX1_fill_1 : decode cX1_fill 1 = .ok (.iconst 0, 1) := by decide +kernel
theorem dX1_fill_2 : decode cX1_fill 2 = .ok (.putfield 16, 3) := by decide +kernel
theorem dX1_fill_5 : decode cX1_fill 5 = .ok (.iload_n 3, 1) := by decide +kernel
theorem dX1_fill_6 : decode cX1_fill 6 = .ok (.ifCond .lt 10, 3) := by decide +kernel
theorem dX1_fill_9 : decode cX1_fill 9 = .ok (.iload_n 3, 1) := by decide +kernel
theorem dX1_fill_10 : decode cX1_fill 10 = .ok (.sipush 2000, 3) := by decide +kernel
theorem dX1_fill_13 : decode cX1_fill 13 = .ok (.if_icmp .le 9, 3) := by decide +kernel
theorem dX1_fill_16 : decode cX1_fill 16 = .ok (.aload_n 0, 1) := by decide +kernel
theorem dX1_fill_17 : decode cX1_fill 17 = .ok (.iconst 1, 1) := by decide +kernel
theorem dX1_fill_18 : decode cX1_fill 18 = .ok (.invokevirtual 24, 3) := by decide +kernel
theorem dX1_fill_21 : decode cX1_fill 21 = .ok (.ireturn, 1) := by decide +kernel
theorem dX1_fill_22 : decode cX1_fill 22 = .ok (.aload_n 0, 1) := by decide +kernel
theorem dX1_fill_23 : decode cX1_fill 23 = .ok (.getfield 21, 3) := by decide +kernel
theorem dX1_fill_26 : decode cX1_fill 26 = .ok (.iload_n 3, 1) := by decide +kernel
theorem dX1_fill_27 : decode cX1_fill 27 = .ok (.iadd, 1) := by decide +kernel
theorem dX1_fill_28 : decode cX1_fill 28 = .ok (.sipush 2000, 3) := by decide +kernel
theorem dX1_fill_31 : decode cX1_fill 31 = .ok (.if_icmp .le 9, 3) := by decide +kernel
theorem dX1_fill_34 : decode cX1_fill 34 = .ok (.aload_n 0, 1) := by decide +kernel
theorem dX1_fill_35 : decode cX1_fill 35 = .ok (.iconst 2, 1) := by decide +kernel
theorem dX1_fill_36 : decode cX1_fill 36 = .ok (.invokevirtual 24, 3) := by decide +kernel
theorem dX1_fill_39 : decode cX1_fill 39 = .ok (.ireturn, 1) := by decide +kernel
theorem dX1_fill_40 : decode cX1_fill 40 = .ok (.iconst 0, 1) := by decide +kernel
theorem dX1_fill_41 : decode cX1_fill 41 = .ok (.istore 4, 2) := by decide +kernel
theorem dX1_fill_43 : decode cX1_fill 43 = .ok (.iload 4, 2) := by decide +kernel
theorem dX1_fill_45 : decode cX1_fill 45 = .ok (.iload_n 3, 1) := by decide +kernel
theorem dX1_fill_46 : decode cX1_fill 46 = .ok (.if_icmp .ge 19, 3) := by decide +kernel
theorem dX1_fill_49 : decode cX1_fill 49 = .ok (.aload_n 0, 1) := by decide +kernel
theorem dX1_fill_50 : decode cX1_fill 50 = .ok (.iload_n 1, 1) := by decide +kernel
theorem dX1_fill_51 : decode cX1_fill 51 = .ok (.iload 4, 2) := by decide +kernel
theorem dX1_fill_53 : decode cX1_fill 53 = .ok (.iload_n 2, 1) := by decide +kernel
theorem dX1_fill_54 : decode cX1_fill 54 = .ok (.imul, 1) := by decide +kernel
theorem dX1_fill_55 : decode cX1_fill 55 = .ok (.iadd, 1) := by decide +kernel
theorem dX1_fill_56 : decode cX1_fill 56 = .ok (.invokevirtual 28, 3) := by decide +kernel
theorem dX1_fill_59 : decode cX1_fill 59 = .ok (.iinc 4 1, 3) := by decide +kernel
theorem dX1_fill_62 : decode cX1_fill 62 = .ok (.goto (-19), 3) := by decide +kernel
theorem dX1_fill_65 : decode cX1_fill 65 = .ok (.aload_n 0, 1) := by decide +kernel
theorem dX1_fill_66 : decode cX1_fill 66 = .ok (.getfield 21, 3) := by decide +kernel
theorem dX1_fill_69 : decode cX1_fill 69 = .ok (.ireturn, 1) := by decide +kernel
theorem dX1_scatter_0 : decode cX1_scatter 0 = .ok (.aload_n 0, 1) := by decide +kernel
theorem dX1_scatter_1 : decode cX1_scatter 1 = .ok (.iconst 0, 1) := by decide +kernel
theorem dX1_scatter_2 : decode cX1_scatter 2 = .ok (.putfield 16, 3) := by decide +kernel
theorem dX1_scatter_5 : decode cX1_scatter 5 = .ok (.iload_n 3, 1) := by decide +kernel
theorem dX1_scatter_6 : decode cX1_scatter 6 = .ok (.ifCond .lt 21, 3) := by decide +kernel
theorem dX1_scatter_9 : decode cX1_scatter 9 = .ok (.iload_n 3, 1) := by decide +kernel
theorem dX1_scatter_10 : decode cX1_scatter 10 = .ok (.sipush 2000, 3) := by decide +kernel
theorem dX1_scatter_13 : decode cX1_scatter 13 = .ok (.if_icmp .gt 14, 3) := by decide +kernel
theorem dX1_scatter_16 : decode cX1_scatter 16 = .ok (.iload_n 2, 1) := by decide +kernel
theorem dX1_scatter_17 : decode cX1_scatter 17 = .ok (.iconst 1, 1) := by decide +kernel
theorem dX1_scatter_18 : decode cX1_scatter 18 = .ok (.if_icmp .lt 9, 3) := by decide +kernel
theorem dX1_scatter_21 : decode cX1_scatter 21 = .ok (.iload_n 2, 1) := by decide +kernel
theorem dX1_scatter_22 : decode cX1_scatter 22 = .ok (.bipush 16, 2) := by decide +kernel
theorem dX1_scatter_24 : decode cX1_scatter 24 = .ok (.if_icmp .le 9, 3) := by decide +kernel
theorem dX1_scatter_27 : decode cX1_scatter 27 = .ok (.aload_n 0, 1) := by decide +kernel
theorem dX1_scatter_28 : decode cX1_scatter 28 = .ok (.iconst 1, 1) := by decide +kernel
theorem dX1_scatter_29 : decode cX1_scatter 29 = .ok (.invokevirtual 24, 3) := by decide +kernel
theorem dX1_scatter_32 : decode cX1_scatter 32 = .ok (.ireturn, 1) := by decide +kernel
theorem dX1_scatter_33 : decode cX1_scatter 33 = .ok (.aload_n 0, 1) := by decide +kernel
theorem dX1_scatter_34 : decode cX1_scatter 34 = .ok (.getfield 21, 3) := by decide +kernel
theorem dX1_scatter_37 : decode cX1_scatter 37 = .ok (.iload_n 3, 1) := by decide +kernel
theorem dX1_scatter_38 : decode cX1_scatter 38 = .ok (.iadd, 1) := by decide +kernel
theorem dX1_scatter_39 : decode cX1_scatter 39 = .ok (.sipush 2000, 3) := by decide +kernel
theorem dX1_scatter_42 : decode cX1_scatter 42 = .ok (.if_icmp .le 9, 3) := by decide +kernel
theorem dX1_scatter_45 : decode cX1_scatter 45 = .ok (.aload_n 0, 1) := by decide +kernel
theorem dX1_scatter_46 : decode cX1_scatter 46 = .ok (.iconst 2, 1) := by decide +kernel
theorem dX1_scatter_47 : decode cX1_scatter 47 = .ok (.invokevirtual 24, 3) := by decide +kernel
theorem dX1_scatter_50 : decode cX1_scatter 50 = .ok (.ireturn, 1) := by decide +kernel
theorem dX1_scatter_51 : decode cX1_scatter 51 = .ok (.iload_n 1, 1) := by decide +kernel
theorem dX1_scatter_52 : decode cX1_scatter 52 = .ok (.istore 4, 2) := by decide +kernel
theorem dX1_scatter_54 : decode cX1_scatter 54 = .ok (.iconst 0, 1) := by decide +kernel
theorem dX1_scatter_55 : decode cX1_scatter 55 = .ok (.istore 5, 2) := by decide +kernel
theorem dX1_scatter_57 : decode cX1_scatter 57 = .ok (.iload 5, 2) := by decide +kernel
theorem dX1_scatter_59 : decode cX1_scatter 59 = .ok (.iload_n 3, 1) := by decide +kernel
theorem dX1_scatter_60 : decode cX1_scatter 60 = .ok (.if_icmp .ge 34, 3) := by decide +kernel
theorem dX1_scatter_63 : decode cX1_scatter 63 = .ok (.ldc 32, 2) := by decide +kernel
theorem dX1_scatter_65 : decode cX1_scatter 65 = .ok (.iload 4, 2) := by decide +kernel
theorem dX1_scatter_67 : decode cX1_scatter 67 = .ok (.imul, 1) := by decide +kernel
theorem dX1_scatter_68 : decode cX1_scatter 68 = .ok (.ldc 33, 2) := by decide +kernel
theorem dX1_scatter_70 : decode cX1_scatter 70 = .ok (.iadd, 1) := by decide +kernel
theorem dX1_scatter_71 : decode cX1_scatter 71 = .ok (.istore 4, 2) := by decide +kernel
theorem dX1_scatter_73 : decode cX1_scatter 73 = .ok (.aload_n 0, 1) := by decide +kernel
theorem dX1_scatter_74 : decode cX1_scatter 74 = .ok (.iload 4, 2) := by decide +kernel
theorem dX1_scatter_76 : decode cX1_scatter 76 = .ok (.bipush 16, 2) := by decide +kernel
theorem dX1_scatter_78 : decode cX1_scatter 78 = .ok (.iushr, 1) := by decide +kernel
theorem dX1_scatter_79 : decode cX1_scatter 79 = .ok (.iconst 1, 1) := by decide +kernel
theorem dX1_scatter_80 : decode cX1_scatter 80 = .ok (.iload_n 2, 1) := by decide +kernel
theorem dX1_scatter_81 : decode cX1_scatter 81 = .ok (.ishl, 1) := by decide +kernel
theorem dX1_scatter_82 : decode cX1_scatter 82 = .ok (.iconst 1, 1) := by decide +kernel
theorem dX1_scatter_83 : decode cX1_scatter 83 = .ok (.isub, 1) := by decide +kernel
theorem dX1_scatter_84 : decode cX1_scatter 84 = .ok (.iand, 1) := by decide +kernel
theorem dX1_scatter_85 : decode cX1_scatter 85 = .ok (.invokevirtual 28, 3) := by decide +kernel
theorem dX1_scatter_88 : decode cX1_scatter 88 = .ok (.iinc 5 1, 3) := by decide +kernel
theorem dX1_scatter_91 : decode cX1_scatter 91 = .ok (.goto (-34), 3) := by decide +kernel
theorem dX1_scatter_94 : decode cX1_scatter 94 = .ok (.aload_n 0, 1) := by decide +kernel
theorem dX1_scatter_95 : decode cX1_scatter 95 = .ok (.getfield 21, 3) := by decide +kernel
theorem dX1_scatter_98 : decode cX1_scatter 98 = .ok (.ireturn, 1) := by decide +kernel
theorem dX1_bad_0 : decode cX1_bad 0 = .ok (.iload_n 1, 1) := by decide +kernel
theorem dX1_bad_1 : decode cX1_bad 1 = .ok (.ifCond .lt 16, 3) := by decide +kernel
theorem dX1_bad_4 : decode cX1_bad 4 = .ok (.iload_n 2, 1) := by decide +kernel
theorem dX1_bad_5 : decode cX1_bad 5 = .ok (.iload_n 1, 1) := by decide +kernel
theorem dX1_bad_6 : decode cX1_bad 6 = .ok (.if_icmp .lt 11, 3) := by decide +kernel
theorem dX1_bad_9 : decode cX1_bad 9 = .ok (.iload_n 2, 1) := by decide +kernel
theorem dX1_bad_10 : decode cX1_bad 10 = .ok (.aload_n 0, 1) := by decide +kernel
theorem dX1_bad_11 : decode cX1_bad 11 = .ok (.getfield 21, 3) := by decide +kernel
theorem dX1_bad_14 : decode cX1_bad 14 = .ok (.if_icmp .le 7, 3) := by decide +kernel
theorem dX1_bad_17 : decode cX1_bad 17 = .ok (.iconst 1, 1) := by decide +kernel
theorem dX1_bad_18 : decode cX1_bad 18 = .ok (.goto 4, 3) := by decide +kernel
theorem dX1_bad_21 : decode cX1_bad 21 = .ok (.iconst 0, 1) := by decide +kernel
theorem dX1_bad_22 : decode cX1_bad 22 = .ok (.ireturn, 1) := by decide +kernel
theorem dX1_sort_0 : decode cX1_sort 0 = .ok (.aload_n 0, 1) := by decide +kernel
theorem dX1_sort_1 : decode cX1_sort 1 = .ok (.iconst 0, 1) := by decide +kernel
theorem dX1_sort_2 : decode cX1_sort 2 = .ok (.putfield 16, 3) := by decide +kernel
theorem dX1_sort_5 : decode cX1_sort 5 = .ok (.iload_n 1, 1) := by decide +kernel
theorem dX1_sort_6 : decode cX1_sort 6 = .ok (.ifCond .lt 17, 3) := by decide +kernel
theorem dX1_sort_9 : decode cX1_sort 9 = .ok (.iload_n 1, 1) := by decide +kernel
theorem dX1_sort_10 : decode cX1_sort 10 = .ok (.iconst 3, 1) := by decide +kernel
theorem dX1_sort_11 : decode cX1_sort 11 = .ok (.if_icmp .gt 12, 3) := by decide +kernel
theorem dX1_sort_14 : decode cX1_sort 14 = .ok (.aload_n 0, 1) := by decide +kernel
theorem dX1_sort_15 : decode cX1_sort 15 = .ok (.iload_n 2, 1) := by decide +kernel
theorem dX1_sort_16 : decode cX1_sort 16 = .ok (.iload_n 3, 1) := by decide +kernel
theorem dX1_sort_17 : decode cX1_sort 17 = .ok (.invokevirtual 34, 3) := by decide +kernel
theorem dX1_sort_20 : decode cX1_sort 20 = .ok (.ifCond .eq 9, 3) := by decide +kernel
theorem dX1_sort_23 : decode cX1_sort 23 = .ok (.aload_n 0, 1) := by decide +kernel
theorem dX1_sort_24 : decode cX1_sort 24 = .ok (.iconst 1, 1) := by decide +kernel
theorem dX1_sort_25 : decode cX1_sort 25 = .ok (.invokevirtual 24, 3) := by decide +kernel
theorem dX1_sort_28 : decode cX1_sort 28 = .ok (.ireturn, 1) := by decide +kernel
theorem dX1_sort_29 : decode cX1_sort 29 = .ok (.iload_n 2, 1) := by decide +kernel
theorem dX1_sort_30 : decode cX1_sort 30 = .ok (.iconst 1, 1) := by decide +kernel
theorem dX1_sort_31 : decode cX1_sort 31 = .ok (.iadd, 1) := by decide +kernel
theorem dX1_sort_32 : decode cX1_sort 32 = .ok (.istore 4, 2) := by decide +kernel
theorem dX1_sort_34 : decode cX1_sort 34 = .ok (.iload 4, 2) := by decide +kernel
theorem dX1_sort_36 : decode cX1_sort 36 = .ok (.iload_n 3, 1) := by decide +kernel
theorem dX1_sort_37 : decode cX1_sort 37 = .ok (.if_icmp .ge 117, 3) := by decide +kernel
theorem dX1_sort_40 : decode cX1_sort 40 = .ok (.aload_n 0, 1) := by decide +kernel
theorem dX1_sort_41 : decode cX1_sort 41 = .ok (.getfield 7, 3) := by decide +kernel
theorem dX1_sort_44 : decode cX1_sort 44 = .ok (.iload 4, 2) := by decide +kernel
theorem dX1_sort_46 : decode cX1_sort 46 = .ok (.iaload, 1) := by decide +kernel
theorem dX1_sort_47 : decode cX1_sort 47 = .ok (.istore 5, 2) := by decide +kernel
theorem dX1_sort_49 : decode cX1_sort 49 = .ok (.aload_n 0, 1) := by decide +kernel
theorem dX1_sort_50 : decode cX1_sort 50 = .ok (.getfield 13, 3) := by decide +kernel
theorem dX1_sort_53 : decode cX1_sort 53 = .ok (.iload 4, 2) := by decide +kernel
theorem dX1_sort_55 : decode cX1_sort 55 = .ok (.iaload, 1) := by decide +kernel
theorem dX1_sort_56 : decode cX1_sort 56 = .ok (.istore 6, 2) := by decide +kernel
theorem dX1_sort_58 : decode cX1_sort 58 = .ok (.iload 4, 2) := by decide +kernel
theorem dX1_sort_60 : decode cX1_sort 60 = .ok (.istore 7, 2) := by decide +kernel
theorem dX1_sort_62 : decode cX1_sort 62 = .ok (.iload 7, 2) := by decide +kernel
theorem dX1_sort_64 : decode cX1_sort 64 = .ok (.iload_n 2, 1) := by decide +kernel
theorem dX1_sort_65 : decode cX1_sort 65 = .ok (.if_icmp .le 65, 3) := by decide +kernel
theorem dX1_sort_68 : decode cX1_sort 68 = .ok (.aload_n 0, 1) := by decide +kernel
theorem dX1_sort_69 : decode cX1_sort 69 = .ok (.iload_n 1, 1) := by decide +kernel
theorem dX1_sort_70 : decode cX1_sort 70 = .ok (.aload_n 0, 1) := by decide +kernel
theorem dX1_sort_71 : decode cX1_sort 71 = .ok (.getfield 7, 3) := by decide +kernel
theorem dX1_sort_74 : decode cX1_sort 74 = .ok (.iload 7, 2) := by decide +kernel
theorem dX1_sort_76 : decode cX1_sort 76 = .ok (.iconst 1, 1) := by decide +kernel
theorem dX1_sort_77 : decode cX1_sort 77 = .ok (.isub, 1) := by decide +kernel
theorem dX1_sort_78 : decode cX1_sort 78 = .ok (.iaload, 1) := by decide +kernel
theorem dX1_sort_79 : decode cX1_sort 79 = .ok (.invokevirtual 38, 3) := by decide +kernel
theorem dX1_sort_82 : decode cX1_sort 82 = .ok (.aload_n 0, 1) := by decide +kernel
theorem dX1_sort_83 : decode cX1_sort 83 = .ok (.iload_n 1, 1) := by decide +kernel
theorem dX1_sort_84 : decode cX1_sort 84 = .ok (.iload 5, 2) := by decide +kernel
theorem dX1_sort_86 : decode cX1_sort 86 = .ok (.invokevirtual 38, 3) := by decide +kernel
theorem dX1_sort_89 : decode cX1_sort 89 = .ok (.if_icmp .le 41, 3) := by decide +kernel
theorem dX1_sort_92 : decode cX1_sort 92 = .ok (.aload_n 0, 1) := by decide +kernel
theorem dX1_sort_93 : decode cX1_sort 93 = .ok (.getfield 7, 3) := by decide +kernel
theorem dX1_sort_96 : decode cX1_sort 96 = .ok (.iload 7, 2) := by decide +kernel
theorem dX1_sort_98 : decode cX1_sort 98 = .ok (.aload_n 0, 1) := by decide +kernel
theorem dX1_sort_99 : decode cX1_sort 99 = .ok (.getfield 7, 3) := by decide +kernel
theorem dX1_sort_102 : decode cX1_sort 102 = .ok (.iload 7, 2) := by decide +kernel
theorem dX1_sort_104 : decode cX1_sort 104 = .ok (.iconst 1, 1) := by decide +kernel
theorem dX1_sort_105 : decode cX1_sort 105 = .ok (.isub, 1) := by decide +kernel
theorem dX1_sort_106 : decode cX1_sort 106 = .ok (.iaload, 1) := by decide +kernel
theorem dX1_sort_107 : decode cX1_sort 107 = .ok (.iastore, 1) := by decide +kernel
theorem dX1_sort_108 : decode cX1_sort 108 = .ok (.aload_n 0, 1) := by decide +kernel
theorem dX1_sort_109 : decode cX1_sort 109 = .ok (.getfield 13, 3) := by decide +kernel
theorem dX1_sort_112 : decode cX1_sort 112 = .ok (.iload 7, 2) := by decide +kernel
theorem dX1_sort_114 : decode cX1_sort 114 = .ok (.aload_n 0, 1) := by decide +kernel
theorem dX1_sort_115 : decode cX1_sort 115 = .ok (.getfield 13, 3) := by decide +kernel
theorem dX1_sort_118 : decode cX1_sort 118 = .ok (.iload 7, 2) := by decide +kernel
theorem dX1_sort_120 : decode cX1_sort 120 = .ok (.iconst 1, 1) := by decide +kernel
theorem dX1_sort_121 : decode cX1_sort 121 = .ok (.isub, 1) := by decide +kernel
theorem dX1_sort_122 : decode cX1_sort 122 = .ok (.iaload, 1) := by decide +kernel
theorem dX1_sort_123 : decode cX1_sort 123 = .ok (.iastore, 1) := by decide +kernel
theorem dX1_sort_124 : decode cX1_sort 124 = .ok (.iinc 7 (-1), 3) := by decide +kernel
theorem dX1_sort_127 : decode cX1_sort 127 = .ok (.goto (-65), 3) := by decide +kernel
theorem dX1_sort_130 : decode cX1_sort 130 = .ok (.aload_n 0, 1) := by decide +kernel
theorem dX1_sort_131 : decode cX1_sort 131 = .ok (.getfield 7, 3) := by decide +kernel
theorem dX1_sort_134 : decode cX1_sort 134 = .ok (.iload 7, 2) := by decide +kernel
theorem dX1_sort_136 : decode cX1_sort 136 = .ok (.iload 5, 2) := by decide +kernel
theorem dX1_sort_138 : decode cX1_sort 138 = .ok (.iastore, 1) := by decide +kernel
theorem dX1_sort_139 : decode cX1_sort 139 = .ok (.aload_n 0, 1) := by decide +kernel
theorem dX1_sort_140 : decode cX1_sort 140 = .ok (.getfield 13, 3) := by decide +kernel
theorem dX1_sort_143 : decode cX1_sort 143 = .ok (.iload 7, 2) := by decide +kernel
theorem dX1_sort_145 : decode cX1_sort 145 = .ok (.iload 6, 2) := by decide +kernel
theorem dX1_sort_147 : decode cX1_sort 147 = .ok (.iastore, 1) := by decide +kernel
theorem dX1_sort_148 : decode cX1_sort 148 = .ok (.iinc 4 1, 3) := by decide +kernel
theorem dX1_sort_151 : decode cX1_sort 151 = .ok (.goto (-117), 3) := by decide +kernel
theorem dX1_sort_154 : decode cX1_sort 154 = .ok (.iload_n 3, 1) := by decide +kernel
theorem dX1_sort_155 : decode cX1_sort 155 = .ok (.iload_n 2, 1) := by decide +kernel
theorem dX1_sort_156 : decode cX1_sort 156 = .ok (.isub, 1) := by decide +kernel
theorem dX1_sort_157 : decode cX1_sort 157 = .ok (.ireturn, 1) := by decide +kernel
theorem dX1_get_0 : decode cX1_get 0 = .ok (.aload_n 0, 1) := by decide +kernel
theorem dX1_get_1 : decode cX1_get 1 = .ok (.iconst 0, 1) := by decide +kernel
theorem dX1_get_2 : decode cX1_get 2 = .ok (.putfield 16, 3) := by decide +kernel
theorem dX1_get_5 : decode cX1_get 5 = .ok (.iload_n 1, 1) := by decide +kernel
theorem dX1_get_6 : decode cX1_get 6 = .ok (.ifCond .lt 11, 3) := by decide +kernel
theorem dX1_get_9 : decode cX1_get 9 = .ok (.iload_n 1, 1) := by decide +kernel
theorem dX1_get_10 : decode cX1_get 10 = .ok (.aload_n 0, 1) := by decide +kernel
theorem dX1_get_11 : decode cX1_get 11 = .ok (.getfield 21, 3) := by decide +kernel
theorem dX1_get_14 : decode cX1_get 14 = .ok (.if_icmp .lt 11, 3) := by decide +kernel
theorem dX1_get_17 : decode cX1_get 17 = .ok (.aload_n 0, 1) := by decide +kernel
theorem dX1_get_18 : decode cX1_get 18 = .ok (.iconst 1, 1) := by decide +kernel
theorem dX1_get_19 : decode cX1_get 19 = .ok (.invokevirtual 24, 3) := by decide +kernel
theorem dX1_get_22 : decode cX1_get 22 = .ok (.goto 9, 3) := by decide +kernel
theorem dX1_get_25 : decode cX1_get 25 = .ok (.aload_n 0, 1) := by decide +kernel
theorem dX1_get_26 : decode cX1_get 26 = .ok (.getfield 7, 3) := by decide +kernel
theorem dX1_get_29 : decode cX1_get 29 = .ok (.iload_n 1, 1) := by decide +kernel
theorem dX1_get_30 : decode cX1_get 30 = .ok (.iaload, 1) := by decide +kernel
theorem dX1_get_31 : decode cX1_get 31 = .ok (.ireturn, 1) := by decide +kernel
theorem dX1_tag_0 : decode cX1_tag 0 = .ok (.aload_n 0, 1) := by decide +kernel
theorem dX1_tag_1 : decode cX1_tag 1 = .ok (.iconst 0, 1) := by decide +kernel
theorem dX1_tag_2 : decode cX1_tag 2 = .ok (.putfield 16, 3) := by decide +kernel
theorem dX1_tag_5 : decode cX1_tag 5 = .ok (.iload_n 1, 1) := by decide +kernel
theorem dX1_tag_6 : decode cX1_tag 6 = .ok (.ifCond .lt 11, 3) := by decide +kernel
theorem dX1_tag_9 : decode cX1_tag 9 = .ok (.iload_n 1, 1) := by decide +kernel
theorem dX1_tag_10 : decode cX1_tag 10 = .ok (.aload_n 0, 1) := by decide +kernel
theorem dX1_tag_11 : decode cX1_tag 11 = .ok (.getfield 21, 3) := by decide +kernel
theorem dX1_tag_14 : decode cX1_tag 14 = .ok (.if_icmp .lt 11, 3) := by decide +kernel
theorem dX1_tag_17 : decode cX1_tag 17 = .ok (.aload_n 0, 1) := by decide +kernel
theorem dX1_tag_18 : decode cX1_tag 18 = .ok (.iconst 1, 1) := by decide +kernel
theorem dX1_tag_19 : decode cX1_tag 19 = .ok (.invokevirtual 24, 3) := by decide +kernel
theorem dX1_tag_22 : decode cX1_tag 22 = .ok (.goto 9, 3) := by decide +kernel
theorem dX1_tag_25 : decode cX1_tag 25 = .ok (.aload_n 0, 1) := by decide +kernel
theorem dX1_tag_26 : decode cX1_tag 26 = .ok (.getfield 13, 3) := by decide +kernel
theorem dX1_tag_29 : decode cX1_tag 29 = .ok (.iload_n 1, 1) := by decide +kernel
theorem dX1_tag_30 : decode cX1_tag 30 = .ok (.iaload, 1) := by decide +kernel
theorem dX1_tag_31 : decode cX1_tag 31 = .ok (.ireturn, 1) := by decide +kernel
theorem dX1_set_0 : decode cX1_set 0 = .ok (.aload_n 0, 1) := by decide +kernel
theorem dX1_set_1 : decode cX1_set 1 = .ok (.iconst 0, 1) := by decide +kernel
theorem dX1_set_2 : decode cX1_set 2 = .ok (.putfield 16, 3) := by decide +kernel
theorem dX1_set_5 : decode cX1_set 5 = .ok (.iload_n 1, 1) := by decide +kernel
theorem dX1_set_6 : decode cX1_set 6 = .ok (.ifCond .lt 11, 3) := by decide +kernel
theorem dX1_set_9 : decode cX1_set 9 = .ok (.iload_n 1, 1) := by decide +kernel
theorem dX1_set_10 : decode cX1_set 10 = .ok (.aload_n 0, 1) := by decide +kernel
theorem dX1_set_11 : decode cX1_set 11 = .ok (.getfield 21, 3) := by decide +kernel
theorem dX1_set_14 : decode cX1_set 14 = .ok (.if_icmp .lt 9, 3) := by decide +kernel
theorem dX1_set_17 : decode cX1_set 17 = .ok (.aload_n 0, 1) := by decide +kernel
theorem dX1_set_18 : decode cX1_set 18 = .ok (.iconst 1, 1) := by decide +kernel
theorem dX1_set_19 : decode cX1_set 19 = .ok (.invokevirtual 24, 3) := by decide +kernel
theorem dX1_set_22 : decode cX1_set 22 = .ok (.ireturn, 1) := by decide +kernel
theorem dX1_set_23 : decode cX1_set 23 = .ok (.aload_n 0, 1) := by decide +kernel
theorem dX1_set_24 : decode cX1_set 24 = .ok (.getfield 7, 3) := by decide +kernel
theorem dX1_set_27 : decode cX1_set 27 = .ok (.iload_n 1, 1) := by decide +kernel
theorem dX1_set_28 : decode cX1_set 28 = .ok (.iaload, 1) := by decide +kernel
theorem dX1_set_29 : decode cX1_set 29 = .ok (.istore_n 3, 1) := by decide +kernel
theorem dX1_set_30 : decode cX1_set 30 = .ok (.aload_n 0, 1) := by decide +kernel
theorem dX1_set_31 : decode cX1_set 31 = .ok (.getfield 7, 3) := by decide +kernel
theorem dX1_set_34 : decode cX1_set 34 = .ok (.iload_n 1, 1) := by decide +kernel
theorem dX1_set_35 : decode cX1_set 35 = .ok (.iload_n 2, 1) := by decide +kernel
theorem dX1_set_36 : decode cX1_set 36 = .ok (.iastore, 1) := by decide +kernel
theorem dX1_set_37 : decode cX1_set 37 = .ok (.iload_n 3, 1) := by decide +kernel
theorem dX1_set_38 : decode cX1_set 38 = .ok (.ireturn, 1) := by decide +kernel
theorem dX1_turn_0 : decode cX1_turn 0 = .ok (.aload_n 0, 1) := by decide +kernel
theorem dX1_turn_1 : decode cX1_turn 1 = .ok (.iconst 0, 1) := by decide +kernel
theorem dX1_turn_2 : decode cX1_turn 2 = .ok (.putfield 16, 3) := by decide +kernel
theorem dX1_turn_5 : decode cX1_turn 5 = .ok (.aload_n 0, 1) := by decide +kernel
theorem dX1_turn_6 : decode cX1_turn 6 = .ok (.iload_n 1, 1) := by decide +kernel
theorem dX1_turn_7 : decode cX1_turn 7 = .ok (.iload_n 2, 1) := by decide +kernel
theorem dX1_turn_8 : decode cX1_turn 8 = .ok (.invokevirtual 34, 3) := by decide +kernel
theorem dX1_turn_11 : decode cX1_turn 11 = .ok (.ifCond .eq 9, 3) := by decide +kernel
theorem dX1_turn_14 : decode cX1_turn 14 = .ok (.aload_n 0, 1) := by decide +kernel
theorem dX1_turn_15 : decode cX1_turn 15 = .ok (.iconst 1, 1) := by decide +kernel
theorem dX1_turn_16 : decode cX1_turn 16 = .ok (.invokevirtual 24, 3) := by decide +kernel
theorem dX1_turn_19 : decode cX1_turn 19 = .ok (.ireturn, 1) := by decide +kernel
theorem dX1_turn_20 : decode cX1_turn 20 = .ok (.iload_n 1, 1) := by decide +kernel
theorem dX1_turn_21 : decode cX1_turn 21 = .ok (.istore_n 3, 1) := by decide +kernel
theorem dX1_turn_22 : decode cX1_turn 22 = .ok (.iload_n 2, 1) := by decide +kernel
theorem dX1_turn_23 : decode cX1_turn 23 = .ok (.iconst 1, 1) := by decide +kernel
theorem dX1_turn_24 : decode cX1_turn 24 = .ok (.isub, 1) := by decide +kernel
theorem dX1_turn_25 : decode cX1_turn 25 = .ok (.istore 4, 2) := by decide +kernel
theorem dX1_turn_27 : decode cX1_turn 27 = .ok (.iload_n 3, 1) := by decide +kernel
theorem dX1_turn_28 : decode cX1_turn 28 = .ok (.iload 4, 2) := by decide +kernel
theorem dX1_turn_30 : decode cX1_turn 30 = .ok (.if_icmp .ge 72, 3) := by decide +kernel
theorem dX1_turn_33 : decode cX1_turn 33 = .ok (.aload_n 0, 1) := by decide +kernel
theorem dX1_turn_34 : decode cX1_turn 34 = .ok (.getfield 7, 3) := by decide +kernel
theorem dX1_turn_37 : decode cX1_turn 37 = .ok (.iload_n 3, 1) := by decide +kernel
theorem dX1_turn_38 : decode cX1_turn 38 = .ok (.iaload, 1) := by decide +kernel
theorem dX1_turn_39 : decode cX1_turn 39 = .ok (.istore 5, 2) := by decide +kernel
theorem dX1_turn_41 : decode cX1_turn 41 = .ok (.aload_n 0, 1) := by decide +kernel
theorem dX1_turn_42 : decode cX1_turn 42 = .ok (.getfield 13, 3) := by decide +kernel
theorem dX1_turn_45 : decode cX1_turn 45 = .ok (.iload_n 3, 1) := by decide +kernel
theorem dX1_turn_46 : decode cX1_turn 46 = .ok (.iaload, 1) := by decide +kernel
theorem dX1_turn_47 : decode cX1_turn 47 = .ok (.istore 6, 2) := by decide +kernel
theorem dX1_turn_49 : decode cX1_turn 49 = .ok (.aload_n 0, 1) := by decide +kernel
theorem dX1_turn_50 : decode cX1_turn 50 = .ok (.getfield 7, 3) := by decide +kernel
theorem dX1_turn_53 : decode cX1_turn 53 = .ok (.iload_n 3, 1) := by decide +kernel
theorem dX1_turn_54 : decode cX1_turn 54 = .ok (.aload_n 0, 1) := by decide +kernel
theorem dX1_turn_55 : decode cX1_turn 55 = .ok (.getfield 7, 3) := by decide +kernel
theorem dX1_turn_58 : decode cX1_turn 58 = .ok (.iload 4, 2) := by decide +kernel
theorem dX1_turn_60 : decode cX1_turn 60 = .ok (.iaload, 1) := by decide +kernel
theorem dX1_turn_61 : decode cX1_turn 61 = .ok (.iastore, 1) := by decide +kernel
theorem dX1_turn_62 : decode cX1_turn 62 = .ok (.aload_n 0, 1) := by decide +kernel
theorem dX1_turn_63 : decode cX1_turn 63 = .ok (.getfield 13, 3) := by decide +kernel
theorem dX1_turn_66 : decode cX1_turn 66 = .ok (.iload_n 3, 1) := by decide +kernel
theorem dX1_turn_67 : decode cX1_turn 67 = .ok (.aload_n 0, 1) := by decide +kernel
theorem dX1_turn_68 : decode cX1_turn 68 = .ok (.getfield 13, 3) := by decide +kernel
theorem dX1_turn_71 : decode cX1_turn 71 = .ok (.iload 4, 2) := by decide +kernel
theorem dX1_turn_73 : decode cX1_turn 73 = .ok (.iaload, 1) := by decide +kernel
theorem dX1_turn_74 : decode cX1_turn 74 = .ok (.iastore, 1) := by decide +kernel
theorem dX1_turn_75 : decode cX1_turn 75 = .ok (.aload_n 0, 1) := by decide +kernel
theorem dX1_turn_76 : decode cX1_turn 76 = .ok (.getfield 7, 3) := by decide +kernel
theorem dX1_turn_79 : decode cX1_turn 79 = .ok (.iload 4, 2) := by decide +kernel
theorem dX1_turn_81 : decode cX1_turn 81 = .ok (.iload 5, 2) := by decide +kernel
theorem dX1_turn_83 : decode cX1_turn 83 = .ok (.iastore, 1) := by decide +kernel
theorem dX1_turn_84 : decode cX1_turn 84 = .ok (.aload_n 0, 1) := by decide +kernel
theorem dX1_turn_85 : decode cX1_turn 85 = .ok (.getfield 13, 3) := by decide +kernel
theorem dX1_turn_88 : decode cX1_turn 88 = .ok (.iload 4, 2) := by decide +kernel
theorem dX1_turn_90 : decode cX1_turn 90 = .ok (.iload 6, 2) := by decide +kernel
theorem dX1_turn_92 : decode cX1_turn 92 = .ok (.iastore, 1) := by decide +kernel
theorem dX1_turn_93 : decode cX1_turn 93 = .ok (.iinc 4 (-1), 3) := by decide +kernel
theorem dX1_turn_96 : decode cX1_turn 96 = .ok (.iinc 3 1, 3) := by decide +kernel
theorem dX1_turn_99 : decode cX1_turn 99 = .ok (.goto (-72), 3) := by decide +kernel
theorem dX1_turn_102 : decode cX1_turn 102 = .ok (.iload_n 2, 1) := by decide +kernel
theorem dX1_turn_103 : decode cX1_turn 103 = .ok (.iload_n 1, 1) := by decide +kernel
theorem dX1_turn_104 : decode cX1_turn 104 = .ok (.isub, 1) := by decide +kernel
theorem dX1_turn_105 : decode cX1_turn 105 = .ok (.ireturn, 1) := by decide +kernel
theorem dX1_upTo_0 : decode cX1_upTo 0 = .ok (.aload_n 0, 1) := by decide +kernel
theorem dX1_upTo_1 : decode cX1_upTo 1 = .ok (.iconst 0, 1) := by decide +kernel
theorem dX1_upTo_2 : decode cX1_upTo 2 = .ok (.putfield 16, 3) := by decide +kernel
theorem dX1_upTo_5 : decode cX1_upTo 5 = .ok (.iload_n 1, 1) := by decide +kernel
theorem dX1_upTo_6 : decode cX1_upTo 6 = .ok (.ifCond .lt 8, 3) := by decide +kernel
theorem dX1_upTo_9 : decode cX1_upTo 9 = .ok (.iload_n 1, 1) := by decide +kernel
theorem dX1_upTo_10 : decode cX1_upTo 10 = .ok (.iconst 3, 1) := by decide +kernel
theorem dX1_upTo_11 : decode cX1_upTo 11 = .ok (.if_icmp .le 9, 3) := by decide +kernel
theorem dX1_upTo_14 : decode cX1_upTo 14 = .ok (.aload_n 0, 1) := by decide +kernel
theorem dX1_upTo_15 : decode cX1_upTo 15 = .ok (.iconst 1, 1) := by decide +kernel
theorem dX1_upTo_16 : decode cX1_upTo 16 = .ok (.invokevirtual 24, 3) := by decide +kernel
theorem dX1_upTo_19 : decode cX1_upTo 19 = .ok (.ireturn, 1) := by decide +kernel
theorem dX1_upTo_20 : decode cX1_upTo 20 = .ok (.iconst 0, 1) := by decide +kernel
theorem dX1_upTo_21 : decode cX1_upTo 21 = .ok (.istore 4, 2) := by decide +kernel
theorem dX1_upTo_23 : decode cX1_upTo 23 = .ok (.iload 4, 2) := by decide +kernel
theorem dX1_upTo_25 : decode cX1_upTo 25 = .ok (.aload_n 0, 1) := by decide +kernel
theorem dX1_upTo_26 : decode cX1_upTo 26 = .ok (.getfield 21, 3) := by decide +kernel
theorem dX1_upTo_29 : decode cX1_upTo 29 = .ok (.if_icmp .ge 58, 3) := by decide +kernel
theorem dX1_upTo_32 : decode cX1_upTo 32 = .ok (.iload_n 3, 1) := by decide +kernel
theorem dX1_upTo_33 : decode cX1_upTo 33 = .ok (.ifCond .eq 27, 3) := by decide +kernel
theorem dX1_upTo_36 : decode cX1_upTo 36 = .ok (.aload_n 0, 1) := by decide +kernel
theorem dX1_upTo_37 : decode cX1_upTo 37 = .ok (.iload_n 1, 1) := by decide +kernel
theorem dX1_upTo_38 : decode cX1_upTo 38 = .ok (.aload_n 0, 1) := by decide +kernel
theorem dX1_upTo_39 : decode cX1_upTo 39 = .ok (.getfield 7, 3) := by decide +kernel
theorem dX1_upTo_42 : decode cX1_upTo 42 = .ok (.iload 4, 2) := by decide +kernel
theorem dX1_upTo_44 : decode cX1_upTo 44 = .ok (.iaload, 1) := by decide +kernel
theorem dX1_upTo_45 : decode cX1_upTo 45 = .ok (.invokevirtual 38, 3) := by decide +kernel
theorem dX1_upTo_48 : decode cX1_upTo 48 = .ok (.aload_n 0, 1) := by decide +kernel
theorem dX1_upTo_49 : decode cX1_upTo 49 = .ok (.iload_n 1, 1) := by decide +kernel
theorem dX1_upTo_50 : decode cX1_upTo 50 = .ok (.iload_n 2, 1) := by decide +kernel
theorem dX1_upTo_51 : decode cX1_upTo 51 = .ok (.invokevirtual 38, 3) := by decide +kernel
theorem dX1_upTo_54 : decode cX1_upTo 54 = .ok (.if_icmp .gt 33, 3) := by decide +kernel
theorem dX1_upTo_57 : decode cX1_upTo 57 = .ok (.goto 24, 3) := by decide +kernel
theorem dX1_upTo_60 : decode cX1_upTo 60 = .ok (.aload_n 0, 1) := by decide +kernel
theorem dX1_upTo_61 : decode cX1_upTo 61 = .ok (.iload_n 1, 1) := by decide +kernel
theorem dX1_upTo_62 : decode cX1_upTo 62 = .ok (.aload_n 0, 1) := by decide +kernel
theorem dX1_upTo_63 : decode cX1_upTo 63 = .ok (.getfield 7, 3) := by decide +kernel
theorem dX1_upTo_66 : decode cX1_upTo 66 = .ok (.iload 4, 2) := by decide +kernel
theorem dX1_upTo_68 : decode cX1_upTo 68 = .ok (.iaload, 1) := by decide +kernel
theorem dX1_upTo_69 : decode cX1_upTo 69 = .ok (.invokevirtual 38, 3) := by decide +kernel
theorem dX1_upTo_72 : decode cX1_upTo 72 = .ok (.aload_n 0, 1) := by decide +kernel
theorem dX1_upTo_73 : decode cX1_upTo 73 = .ok (.iload_n 1, 1) := by decide +kernel
theorem dX1_upTo_74 : decode cX1_upTo 74 = .ok (.iload_n 2, 1) := by decide +kernel
theorem dX1_upTo_75 : decode cX1_upTo 75 = .ok (.invokevirtual 38, 3) := by decide +kernel
theorem dX1_upTo_78 : decode cX1_upTo 78 = .ok (.if_icmp .ge 9, 3) := by decide +kernel
theorem dX1_upTo_81 : decode cX1_upTo 81 = .ok (.iinc 4 1, 3) := by decide +kernel
theorem dX1_upTo_84 : decode cX1_upTo 84 = .ok (.goto (-61), 3) := by decide +kernel
theorem dX1_upTo_87 : decode cX1_upTo 87 = .ok (.iload 4, 2) := by decide +kernel
theorem dX1_upTo_89 : decode cX1_upTo 89 = .ok (.ireturn, 1) := by decide +kernel
theorem dX1_clear_0 : decode cX1_clear 0 = .ok (.aload_n 0, 1) := by decide +kernel
theorem dX1_clear_1 : decode cX1_clear 1 = .ok (.iconst 0, 1) := by decide +kernel
theorem dX1_clear_2 : decode cX1_clear 2 = .ok (.putfield 16, 3) := by decide +kernel
theorem dX1_clear_5 : decode cX1_clear 5 = .ok (.aload_n 0, 1) := by decide +kernel
theorem dX1_clear_6 : decode cX1_clear 6 = .ok (.getfield 21, 3) := by decide +kernel
theorem dX1_clear_9 : decode cX1_clear 9 = .ok (.istore_n 1, 1) := by decide +kernel
theorem dX1_clear_10 : decode cX1_clear 10 = .ok (.aload_n 0, 1) := by decide +kernel
theorem dX1_clear_11 : decode cX1_clear 11 = .ok (.iconst 0, 1) := by decide +kernel
theorem dX1_clear_12 : decode cX1_clear 12 = .ok (.putfield 21, 3) := by decide +kernel
theorem dX1_clear_15 : decode cX1_clear 15 = .ok (.iload_n 1, 1) := by decide +kernel
theorem dX1_clear_16 : decode cX1_clear 16 = .ok (.ireturn, 1) := by decide +kernel
theorem dX1_hash_0 : decode cX1_hash 0 = .ok (.aload_n 0, 1) := by decide +kernel
theorem dX1_hash_1 : decode cX1_hash 1 = .ok (.iconst 0, 1) := by decide +kernel
theorem dX1_hash_2 : decode cX1_hash 2 = .ok (.putfield 16, 3) := by decide +kernel
theorem dX1_hash_5 : decode cX1_hash 5 = .ok (.iconst 1, 1) := by decide +kernel
theorem dX1_hash_6 : decode cX1_hash 6 = .ok (.istore_n 1, 1) := by decide +kernel
theorem dX1_hash_7 : decode cX1_hash 7 = .ok (.iconst 0, 1) := by decide +kernel
theorem dX1_hash_8 : decode cX1_hash 8 = .ok (.istore_n 2, 1) := by decide +kernel
theorem dX1_hash_9 : decode cX1_hash 9 = .ok (.iload_n 2, 1) := by decide +kernel
theorem dX1_hash_10 : decode cX1_hash 10 = .ok (.aload_n 0, 1) := by decide +kernel
theorem dX1_hash_11 : decode cX1_hash 11 = .ok (.getfield 21, 3) := by decide +kernel
theorem dX1_hash_14 : decode cX1_hash 14 = .ok (.if_icmp .ge 31, 3) := by decide +kernel
theorem dX1_hash_17 : decode cX1_hash 17 = .ok (.bipush 31, 2) := by decide +kernel
theorem dX1_hash_19 : decode cX1_hash 19 = .ok (.bipush 31, 2) := by decide +kernel
theorem dX1_hash_21 : decode cX1_hash 21 = .ok (.iload_n 1, 1) := by decide +kernel
theorem dX1_hash_22 : decode cX1_hash 22 = .ok (.imul, 1) := by decide +kernel
theorem dX1_hash_23 : decode cX1_hash 23 = .ok (.aload_n 0, 1) := by decide +kernel
theorem dX1_hash_24 : decode cX1_hash 24 = .ok (.getfield 7, 3) := by decide +kernel
theorem dX1_hash_27 : decode cX1_hash 27 = .ok (.iload_n 2, 1) := by decide +kernel
theorem dX1_hash_28 : decode cX1_hash 28 = .ok (.iaload, 1) := by decide +kernel
theorem dX1_hash_29 : decode cX1_hash 29 = .ok (.iadd, 1) := by decide +kernel
theorem dX1_hash_30 : decode cX1_hash 30 = .ok (.imul, 1) := by decide +kernel
theorem dX1_hash_31 : decode cX1_hash 31 = .ok (.aload_n 0, 1) := by decide +kernel
theorem dX1_hash_32 : decode cX1_hash 32 = .ok (.getfield 13, 3) := by decide +kernel
theorem dX1_hash_35 : decode cX1_hash 35 = .ok (.iload_n 2, 1) := by decide +kernel
theorem dX1_hash_36 : decode cX1_hash 36 = .ok (.iaload, 1) := by decide +kernel
theorem dX1_hash_37 : decode cX1_hash 37 = .ok (.iadd, 1) := by decide +kernel
theorem dX1_hash_38 : decode cX1_hash 38 = .ok (.istore_n 1, 1) := by decide +kernel
theorem dX1_hash_39 : decode cX1_hash 39 = .ok (.iinc 2 1, 3) := by decide +kernel
theorem dX1_hash_42 : decode cX1_hash 42 = .ok (.goto (-33), 3) := by decide +kernel
theorem dX1_hash_45 : decode cX1_hash 45 = .ok (.iload_n 1, 1) := by decide +kernel
theorem dX1_hash_46 : decode cX1_hash 46 = .ok (.ireturn, 1) := by decide +kernel
abbrev vwCl : List vw_C := [(RX0, TX0, 6), (RX1, TX1, 4)]
/-- the tables' good words: every method's own words behind its code -/
def lw_w : List Cond := lw_tbl.filter goodWord
theorem mW {w : Cond} (i : Nat) (h : lw_tbl[i]? = some w) (hg : goodWord w = true) : w ∈ lw_w := List.mem_filter.mpr ⟨List.mem_of_getElem? h, hg⟩
theorem mT {w : Cond} (i : Nat) (h : lw_tbl[i]? = some w) : w ∈ lw_tbl := List.mem_of_getElem? h
theorem lw_w_good : ∀ w ∈ lw_w, goodWord w = true := fun w h => (List.mem_filter.mp h).2
theorem lw_w_in : ∀ w ∈ lw_w, w ∈ lw_tbl := fun w h => (List.mem_filter.mp h).1
theorem wV_Throwable_Throwable_fillInStackTrace : (Jvm.Cond.selects "java/lang/Throwable" ({ cls := "java/lang/Throwable", name := "fillInStackTrace", desc := "(I)Ljava/lang/Throwable;" } : Jvm.MethodName) ({ cls := "java/lang/Throwable", name := "fillInStackTrace", desc := "(I)Ljava/lang/Throwable;" } : Jvm.MethodName)) ∈ lw_w := mW 0 (by decide +kernel) (by decide +kernel)
theorem wV_X0_X0_requireRoomFor : (Jvm.Cond.selects "RunSorter" ({ cls := "RunSorter", name := "requireRoomFor", desc := "(I)V" } : Jvm.MethodName) ({ cls := "RunSorter", name := "requireRoomFor", desc := "(I)V" } : Jvm.MethodName)) ∈ lw_w := mW 1 (by decide +kernel) (by decide +kernel)
theorem wV_X0_X0_append : (Jvm.Cond.selects "RunSorter" ({ cls := "RunSorter", name := "append", desc := "(I)V" } : Jvm.MethodName) ({ cls := "RunSorter", name := "append", desc := "(I)V" } : Jvm.MethodName)) ∈ lw_w := mW 2 (by decide +kernel) (by decide +kernel)
theorem wV_X0_X0_requirePart : (Jvm.Cond.selects "RunSorter" ({ cls := "RunSorter", name := "requirePart", desc := "(II)V" } : Jvm.MethodName) ({ cls := "RunSorter", name := "requirePart", desc := "(II)V" } : Jvm.MethodName)) ∈ lw_w := mW 3 (by decide +kernel) (by decide +kernel)
theorem wV_X0_X0_findRuns : (Jvm.Cond.selects "RunSorter" ({ cls := "RunSorter", name := "findRuns", desc := "(III)I" } : Jvm.MethodName) ({ cls := "RunSorter", name := "findRuns", desc := "(III)I" } : Jvm.MethodName)) ∈ lw_w := mW 4 (by decide +kernel) (by decide +kernel)
theorem wV_X0_X0_mergePairsOfRuns : (Jvm.Cond.selects "RunSorter" ({ cls := "RunSorter", name := "mergePairsOfRuns", desc := "(II)V" } : Jvm.MethodName) ({ cls := "RunSorter", name := "mergePairsOfRuns", desc := "(II)V" } : Jvm.MethodName)) ∈ lw_w := mW 5 (by decide +kernel) (by decide +kernel)
theorem wV_X0_X0_merge : (Jvm.Cond.selects "RunSorter" ({ cls := "RunSorter", name := "merge", desc := "(IIII)V" } : Jvm.MethodName) ({ cls := "RunSorter", name := "merge", desc := "(IIII)V" } : Jvm.MethodName)) ∈ lw_w := mW 6 (by decide +kernel) (by decide +kernel)
theorem wV_X0_X0_requireIndex : (Jvm.Cond.selects "RunSorter" ({ cls := "RunSorter", name := "requireIndex", desc := "(I)V" } : Jvm.MethodName) ({ cls := "RunSorter", name := "requireIndex", desc := "(I)V" } : Jvm.MethodName)) ∈ lw_w := mW 7 (by decide +kernel) (by decide +kernel)
theorem wV_X0_X0_swap : (Jvm.Cond.selects "RunSorter" ({ cls := "RunSorter", name := "swap", desc := "(II)V" } : Jvm.MethodName) ({ cls := "RunSorter", name := "swap", desc := "(II)V" } : Jvm.MethodName)) ∈ lw_w := mW 8 (by decide +kernel) (by decide +kernel)
theorem wV_X1_X1_fail : (Jvm.Cond.selects "RunSorterModel" ({ cls := "RunSorterModel", name := "fail", desc := "(I)I" } : Jvm.MethodName) ({ cls := "RunSorterModel", name := "fail", desc := "(I)I" } : Jvm.MethodName)) ∈ lw_w := mW 9 (by decide +kernel) (by decide +kernel)
theorem wV_X1_X1_append : (Jvm.Cond.selects "RunSorterModel" ({ cls := "RunSorterModel", name := "append", desc := "(I)V" } : Jvm.MethodName) ({ cls := "RunSorterModel", name := "append", desc := "(I)V" } : Jvm.MethodName)) ∈ lw_w := mW 10 (by decide +kernel) (by decide +kernel)
theorem wV_X1_X1_bad : (Jvm.Cond.selects "RunSorterModel" ({ cls := "RunSorterModel", name := "bad", desc := "(II)Z" } : Jvm.MethodName) ({ cls := "RunSorterModel", name := "bad", desc := "(II)Z" } : Jvm.MethodName)) ∈ lw_w := mW 11 (by decide +kernel) (by decide +kernel)
theorem wV_X1_X1_rank : (Jvm.Cond.selects "RunSorterModel" ({ cls := "RunSorterModel", name := "rank", desc := "(II)I" } : Jvm.MethodName) ({ cls := "RunSorterModel", name := "rank", desc := "(II)I" } : Jvm.MethodName)) ∈ lw_w := mW 12 (by decide +kernel) (by decide +kernel)
theorem wN_L : (Jvm.Cond.initialized "RunSorterLaw") ∈ lw_w := mW 13 (by decide +kernel) (by decide +kernel)
theorem wN_X0 : (Jvm.Cond.initialized "RunSorter") ∈ lw_w := mW 14 (by decide +kernel) (by decide +kernel)
theorem wN_X1 : (Jvm.Cond.initialized "RunSorterModel") ∈ lw_w := mW 15 (by decide +kernel) (by decide +kernel)
theorem wN_Throwable : (Jvm.Cond.initialized "java/lang/Throwable") ∈ lw_w := mW 16 (by decide +kernel) (by decide +kernel)
theorem wN_Exception : (Jvm.Cond.initialized "java/lang/Exception") ∈ lw_w := mW 17 (by decide +kernel) (by decide +kernel)
theorem wN_RuntimeException : (Jvm.Cond.initialized "java/lang/RuntimeException") ∈ lw_w := mW 18 (by decide +kernel) (by decide +kernel)
theorem wN_IllegalArgumentException : (Jvm.Cond.initialized "java/lang/IllegalArgumentException") ∈ lw_w := mW 19 (by decide +kernel) (by decide +kernel)
theorem wN_IndexOutOfBoundsException : (Jvm.Cond.initialized "java/lang/IndexOutOfBoundsException") ∈ lw_w := mW 20 (by decide +kernel) (by decide +kernel)
theorem wN_System : (Jvm.Cond.initialized "java/lang/System") ∈ lw_w := mW 21 (by decide +kernel) (by decide +kernel)
theorem wN_Math : (Jvm.Cond.initialized "java/lang/Math") ∈ lw_w := mW 22 (by decide +kernel) (by decide +kernel)
theorem wK_L_X0 : (Jvm.Cond.classLink "RunSorterLaw" (8 : Nat) "RunSorter") ∈ lw_w := mW 23 (by decide +kernel) (by decide +kernel)
theorem wB_X0 : (Jvm.Cond.instantiable "RunSorter" (6 : Nat)) ∈ lw_w := mW 24 (by decide +kernel) (by decide +kernel)
theorem wM_L_X0_init : (Jvm.Cond.methodLink "RunSorterLaw" (41 : Nat) ({ cls := "RunSorter", name := "<init>", desc := "()V" } : Jvm.MethodName)) ∈ lw_w := mW 25 (by decide +kernel) (by decide +kernel)
theorem wI_X0_init : (Jvm.Cond.instanceMethod ({ cls := "RunSorter", name := "<init>", desc := "()V" } : Jvm.MethodName)) ∈ lw_w := mW 26 (by decide +kernel) (by decide +kernel)
theorem wC_X0_init : (Jvm.Cond.code ({ cls := "RunSorter", name := "<init>", desc := "()V" } : Jvm.MethodName) prog_1_method_1_code (1 : Nat) (Option.none : Option Jvm.ClassFile.FieldType)) ∈ lw_w := mW 27 (by decide +kernel) (by decide +kernel)
theorem wM_X0_Object_init : (Jvm.Cond.methodLink "RunSorter" (1 : Nat) ({ cls := "java/lang/Object", name := "<init>", desc := "()V" } : Jvm.MethodName)) ∈ lw_w := mW 28 (by decide +kernel) (by decide +kernel)
theorem wI_Object_init : (Jvm.Cond.instanceMethod ({ cls := "java/lang/Object", name := "<init>", desc := "()V" } : Jvm.MethodName)) ∈ lw_w := mW 29 (by decide +kernel) (by decide +kernel)
theorem wC_Object_init : (Jvm.Cond.code ({ cls := "java/lang/Object", name := "<init>", desc := "()V" } : Jvm.MethodName) object_method_1_code (1 : Nat) (Option.none : Option Jvm.ClassFile.FieldType)) ∈ lw_w := mW 30 (by decide +kernel) (by decide +kernel)
theorem wF_X0_numbers : (Jvm.Cond.fieldLink "RunSorter" (9 : Nat) "RunSorter" "numbers" "[I") ∈ lw_w := mW 31 (by decide +kernel) (by decide +kernel)
theorem wF_X0_tags : (Jvm.Cond.fieldLink "RunSorter" (13 : Nat) "RunSorter" "tags" "[I") ∈ lw_w := mW 32 (by decide +kernel) (by decide +kernel)
theorem wF_X0_size : (Jvm.Cond.fieldLink "RunSorter" (16 : Nat) "RunSorter" "size" "I") ∈ lw_w := mW 33 (by decide +kernel) (by decide +kernel)
theorem wF_X0_spareNumbers : (Jvm.Cond.fieldLink "RunSorter" (20 : Nat) "RunSorter" "spareNumbers" "[I") ∈ lw_w := mW 34 (by decide +kernel) (by decide +kernel)
theorem wF_X0_spareTags : (Jvm.Cond.fieldLink "RunSorter" (23 : Nat) "RunSorter" "spareTags" "[I") ∈ lw_w := mW 35 (by decide +kernel) (by decide +kernel)
theorem wF_X0_runStarts : (Jvm.Cond.fieldLink "RunSorter" (26 : Nat) "RunSorter" "runStarts" "[I") ∈ lw_w := mW 36 (by decide +kernel) (by decide +kernel)
theorem wL_X0_X0_numbers : (Jvm.Cond.laysFinal "RunSorter" "RunSorter" "numbers" "[I") ∈ lw_w := mW 37 (by decide +kernel) (by decide +kernel)
theorem wsoleField_38 : (Jvm.Cond.soleField "RunSorter" "numbers") ∈ lw_w := mW 38 (by decide +kernel) (by decide +kernel)
theorem wL_X0_X0_tags : (Jvm.Cond.laysFinal "RunSorter" "RunSorter" "tags" "[I") ∈ lw_w := mW 39 (by decide +kernel) (by decide +kernel)
theorem wsoleField_40 : (Jvm.Cond.soleField "RunSorter" "tags") ∈ lw_w := mW 40 (by decide +kernel) (by decide +kernel)
theorem wL_X0_X0_size : (Jvm.Cond.lays "RunSorter" "RunSorter" "size" "I") ∈ lw_w := mW 41 (by decide +kernel) (by decide +kernel)
theorem wsoleField_42 : (Jvm.Cond.soleField "RunSorter" "size") ∈ lw_w := mW 42 (by decide +kernel) (by decide +kernel)
theorem wL_X0_X0_spareNumbers : (Jvm.Cond.laysFinal "RunSorter" "RunSorter" "spareNumbers" "[I") ∈ lw_w := mW 43 (by decide +kernel) (by decide +kernel)
theorem wsoleField_44 : (Jvm.Cond.soleField "RunSorter" "spareNumbers") ∈ lw_w := mW 44 (by decide +kernel) (by decide +kernel)
theorem wL_X0_X0_spareTags : (Jvm.Cond.laysFinal "RunSorter" "RunSorter" "spareTags" "[I") ∈ lw_w := mW 45 (by decide +kernel) (by decide +kernel)
theorem wsoleField_46 : (Jvm.Cond.soleField "RunSorter" "spareTags") ∈ lw_w := mW 46 (by decide +kernel) (by decide +kernel)
theorem wL_X0_X0_runStarts : (Jvm.Cond.laysFinal "RunSorter" "RunSorter" "runStarts" "[I") ∈ lw_w := mW 47 (by decide +kernel) (by decide +kernel)
theorem wsoleField_48 : (Jvm.Cond.soleField "RunSorter" "runStarts") ∈ lw_w := mW 48 (by decide +kernel) (by decide +kernel)
theorem wsuperclass_49 : (Jvm.Cond.superclass "RunSorter" "java/lang/Object") ∈ lw_w := mW 49 (by decide +kernel) (by decide +kernel)
theorem wA_int : (Jvm.Cond.arrayClass Jvm.ClassFile.FieldType.int) ∈ lw_w := mW 50 (by decide +kernel) (by decide +kernel)
theorem wM_L_X0_clear : (Jvm.Cond.methodLink "RunSorterLaw" (79 : Nat) ({ cls := "RunSorter", name := "clear", desc := "()I" } : Jvm.MethodName)) ∈ lw_w := mW 51 (by decide +kernel) (by decide +kernel)
theorem wI_X0_clear : (Jvm.Cond.instanceMethod ({ cls := "RunSorter", name := "clear", desc := "()I" } : Jvm.MethodName)) ∈ lw_w := mW 52 (by decide +kernel) (by decide +kernel)
theorem wV_X0_X0_clear : (Jvm.Cond.selects "RunSorter" ({ cls := "RunSorter", name := "clear", desc := "()I" } : Jvm.MethodName) ({ cls := "RunSorter", name := "clear", desc := "()I" } : Jvm.MethodName)) ∈ lw_w := mW 53 (by decide +kernel) (by decide +kernel)
theorem wC_X0_clear : (Jvm.Cond.code ({ cls := "RunSorter", name := "clear", desc := "()I" } : Jvm.MethodName) prog_1_method_10_code (2 : Nat) (Option.some Jvm.ClassFile.FieldType.int)) ∈ lw_w := mW 54 (by decide +kernel) (by decide +kernel)
theorem wM_L_X0_hash : (Jvm.Cond.methodLink "RunSorterLaw" (83 : Nat) ({ cls := "RunSorter", name := "hash", desc := "()I" } : Jvm.MethodName)) ∈ lw_w := mW 55 (by decide +kernel) (by decide +kernel)
theorem wI_X0_hash : (Jvm.Cond.instanceMethod ({ cls := "RunSorter", name := "hash", desc := "()I" } : Jvm.MethodName)) ∈ lw_w := mW 56 (by decide +kernel) (by decide +kernel)
theorem wV_X0_X0_hash : (Jvm.Cond.selects "RunSorter" ({ cls := "RunSorter", name := "hash", desc := "()I" } : Jvm.MethodName) ({ cls := "RunSorter", name := "hash", desc := "()I" } : Jvm.MethodName)) ∈ lw_w := mW 57 (by decide +kernel) (by decide +kernel)
theorem wC_X0_hash : (Jvm.Cond.code ({ cls := "RunSorter", name := "hash", desc := "()I" } : Jvm.MethodName) prog_1_method_11_code (3 : Nat) (Option.some Jvm.ClassFile.FieldType.int)) ∈ lw_w := mW 58 (by decide +kernel) (by decide +kernel)
theorem wM_L_L_fill : (Jvm.Cond.methodLink "RunSorterLaw" (45 : Nat) ({ cls := "RunSorterLaw", name := "fill", desc := "(LRunSorter;III[J)I" } : Jvm.MethodName)) ∈ lw_w := mW 59 (by decide +kernel) (by decide +kernel)
theorem wS_L_fill : (Jvm.Cond.static ({ cls := "RunSorterLaw", name := "fill", desc := "(LRunSorter;III[J)I" } : Jvm.MethodName)) ∈ lw_w := mW 60 (by decide +kernel) (by decide +kernel)
theorem wC_L_fill : (Jvm.Cond.codeWith ({ cls := "RunSorterLaw", name := "fill", desc := "(LRunSorter;III[J)I" } : Jvm.MethodName) method_3_code (6 : Nat) (Option.some Jvm.ClassFile.FieldType.int) [((0 : Nat), (12 : Nat), (15 : Nat), (13 : Nat)), ((0 : Nat), (12 : Nat), (19 : Nat), (15 : Nat))]) ∈ lw_w := mW 61 (by decide +kernel) (by decide +kernel)
theorem wK_L_IllegalArgumentException : (Jvm.Cond.classLink "RunSorterLaw" (13 : Nat) "java/lang/IllegalArgumentException") ∈ lw_w := mW 62 (by decide +kernel) (by decide +kernel)
theorem wK_L_IndexOutOfBoundsException : (Jvm.Cond.classLink "RunSorterLaw" (15 : Nat) "java/lang/IndexOutOfBoundsException") ∈ lw_w := mW 63 (by decide +kernel) (by decide +kernel)
theorem wM_L_X0_fill : (Jvm.Cond.methodLink "RunSorterLaw" (7 : Nat) ({ cls := "RunSorter", name := "fill", desc := "(III)I" } : Jvm.MethodName)) ∈ lw_w := mW 64 (by decide +kernel) (by decide +kernel)
theorem wI_X0_fill : (Jvm.Cond.instanceMethod ({ cls := "RunSorter", name := "fill", desc := "(III)I" } : Jvm.MethodName)) ∈ lw_w := mW 65 (by decide +kernel) (by decide +kernel)
theorem wV_X0_X0_fill : (Jvm.Cond.selects "RunSorter" ({ cls := "RunSorter", name := "fill", desc := "(III)I" } : Jvm.MethodName) ({ cls := "RunSorter", name := "fill", desc := "(III)I" } : Jvm.MethodName)) ∈ lw_w := mW 66 (by decide +kernel) (by decide +kernel)
theorem wC_X0_fill : (Jvm.Cond.code ({ cls := "RunSorter", name := "fill", desc := "(III)I" } : Jvm.MethodName) prog_1_method_2_code (5 : Nat) (Option.some Jvm.ClassFile.FieldType.int)) ∈ lw_w := mW 67 (by decide +kernel) (by decide +kernel)
theorem wM_X0_X0_requireWithin : (Jvm.Cond.methodLink "RunSorter" (29 : Nat) ({ cls := "RunSorter", name := "requireWithin", desc := "(III)V" } : Jvm.MethodName)) ∈ lw_w := mW 68 (by decide +kernel) (by decide +kernel)
theorem wS_X0_requireWithin : (Jvm.Cond.static ({ cls := "RunSorter", name := "requireWithin", desc := "(III)V" } : Jvm.MethodName)) ∈ lw_w := mW 69 (by decide +kernel) (by decide +kernel)
theorem wC_X0_requireWithin : (Jvm.Cond.code ({ cls := "RunSorter", name := "requireWithin", desc := "(III)V" } : Jvm.MethodName) prog_1_method_12_code (3 : Nat) (Option.none : Option Jvm.ClassFile.FieldType)) ∈ lw_w := mW 70 (by decide +kernel) (by decide +kernel)
theorem wK_X0_IllegalArgumentException : (Jvm.Cond.classLink "RunSorter" (66 : Nat) "java/lang/IllegalArgumentException") ∈ lw_w := mW 71 (by decide +kernel) (by decide +kernel)
theorem wB_IllegalArgumentException : (Jvm.Cond.instantiable "java/lang/IllegalArgumentException" (6 : Nat)) ∈ lw_w := mW 72 (by decide +kernel) (by decide +kernel)
theorem wcastable_73 : (Jvm.Cond.castable "java/lang/IllegalArgumentException" "java/lang/IllegalArgumentException") ∈ lw_tbl := mT 73 (by decide +kernel)
theorem wdeclares_74 : (Jvm.Cond.declares ({ cls := "java/lang/RuntimeException", name := "<init>", desc := "()V" } : Jvm.MethodName)) ∈ lw_tbl := mT 74 (by decide +kernel)
theorem wdeclares_75 : (Jvm.Cond.declares ({ cls := "java/lang/RuntimeException", name := "<init>", desc := "(Ljava/lang/String;)V" } : Jvm.MethodName)) ∈ lw_tbl := mT 75 (by decide +kernel)
theorem wdeclares_76 : (Jvm.Cond.declares ({ cls := "java/lang/Exception", name := "<init>", desc := "()V" } : Jvm.MethodName)) ∈ lw_tbl := mT 76 (by decide +kernel)
theorem wdeclares_77 : (Jvm.Cond.declares ({ cls := "java/lang/Exception", name := "<init>", desc := "(Ljava/lang/String;)V" } : Jvm.MethodName)) ∈ lw_tbl := mT 77 (by decide +kernel)
theorem wdeclares_78 : (Jvm.Cond.declares ({ cls := "java/lang/Throwable", name := "<init>", desc := "()V" } : Jvm.MethodName)) ∈ lw_tbl := mT 78 (by decide +kernel)
theorem wdeclares_79 : (Jvm.Cond.declares ({ cls := "java/lang/Throwable", name := "<init>", desc := "(Ljava/lang/String;)V" } : Jvm.MethodName)) ∈ lw_tbl := mT 79 (by decide +kernel)
theorem wV_IllegalArgumentException_Throwable_fillInStackTrace : (Jvm.Cond.selects "java/lang/IllegalArgumentException" ({ cls := "java/lang/Throwable", name := "fillInStackTrace", desc := "(I)Ljava/lang/Throwable;" } : Jvm.MethodName) ({ cls := "java/lang/Throwable", name := "fillInStackTrace", desc := "(I)Ljava/lang/Throwable;" } : Jvm.MethodName)) ∈ lw_w := mW 80 (by decide +kernel) (by decide +kernel)
theorem wV_IllegalArgumentException_Throwable_fillInStackTrace_81 : (Jvm.Cond.selects "java/lang/IllegalArgumentException" ({ cls := "java/lang/Throwable", name := "fillInStackTrace", desc := "()Ljava/lang/Throwable;" } : Jvm.MethodName) ({ cls := "java/lang/Throwable", name := "fillInStackTrace", desc := "()Ljava/lang/Throwable;" } : Jvm.MethodName)) ∈ lw_w := mW 81 (by decide +kernel) (by decide +kernel)
theorem wL_IllegalArgumentException_Throwable_cause : (Jvm.Cond.lays "java/lang/IllegalArgumentException" "java/lang/Throwable" "cause" "Ljava/lang/Throwable;") ∈ lw_w := mW 82 (by decide +kernel) (by decide +kernel)
theorem wL_Throwable_Throwable_cause : (Jvm.Cond.lays "java/lang/Throwable" "java/lang/Throwable" "cause" "Ljava/lang/Throwable;") ∈ lw_w := mW 83 (by decide +kernel) (by decide +kernel)
theorem wL_IllegalArgumentException_Throwable_stackTrace : (Jvm.Cond.lays "java/lang/IllegalArgumentException" "java/lang/Throwable" "stackTrace" "[Ljava/lang/StackTraceElement;") ∈ lw_w := mW 84 (by decide +kernel) (by decide +kernel)
theorem wL_Throwable_Throwable_stackTrace : (Jvm.Cond.lays "java/lang/Throwable" "java/lang/Throwable" "stackTrace" "[Ljava/lang/StackTraceElement;") ∈ lw_w := mW 85 (by decide +kernel) (by decide +kernel)
theorem wL_IllegalArgumentException_Throwable_suppressedExceptions : (Jvm.Cond.lays "java/lang/IllegalArgumentException" "java/lang/Throwable" "suppressedExceptions" "Ljava/util/List;") ∈ lw_w := mW 86 (by decide +kernel) (by decide +kernel)
theorem wL_Throwable_Throwable_suppressedExceptions : (Jvm.Cond.lays "java/lang/Throwable" "java/lang/Throwable" "suppressedExceptions" "Ljava/util/List;") ∈ lw_w := mW 87 (by decide +kernel) (by decide +kernel)
theorem wL_IllegalArgumentException_Throwable_detailMessage : (Jvm.Cond.lays "java/lang/IllegalArgumentException" "java/lang/Throwable" "detailMessage" "Ljava/lang/String;") ∈ lw_w := mW 88 (by decide +kernel) (by decide +kernel)
theorem wL_Throwable_Throwable_detailMessage : (Jvm.Cond.lays "java/lang/Throwable" "java/lang/Throwable" "detailMessage" "Ljava/lang/String;") ∈ lw_w := mW 89 (by decide +kernel) (by decide +kernel)
theorem wL_IllegalArgumentException_Throwable_backtrace : (Jvm.Cond.lays "java/lang/IllegalArgumentException" "java/lang/Throwable" "backtrace" "Ljava/lang/Object;") ∈ lw_w := mW 90 (by decide +kernel) (by decide +kernel)
theorem wL_Throwable_Throwable_backtrace : (Jvm.Cond.lays "java/lang/Throwable" "java/lang/Throwable" "backtrace" "Ljava/lang/Object;") ∈ lw_w := mW 91 (by decide +kernel) (by decide +kernel)
theorem wF_Throwable_backtrace : (Jvm.Cond.fieldLink "java/lang/Throwable" (198 : Nat) "java/lang/Throwable" "backtrace" "Ljava/lang/Object;") ∈ lw_w := mW 92 (by decide +kernel) (by decide +kernel)
theorem wsuperclass_93 : (Jvm.Cond.superclass "java/lang/Throwable" "java/lang/Object") ∈ lw_w := mW 93 (by decide +kernel) (by decide +kernel)
theorem wI_Throwable_init : (Jvm.Cond.instanceMethod ({ cls := "java/lang/Throwable", name := "<init>", desc := "()V" } : Jvm.MethodName)) ∈ lw_w := mW 94 (by decide +kernel) (by decide +kernel)
theorem wC_Throwable_init : (Jvm.Cond.code ({ cls := "java/lang/Throwable", name := "<init>", desc := "()V" } : Jvm.MethodName) prog_11_method_1_code (1 : Nat) (Option.none : Option Jvm.ClassFile.FieldType)) ∈ lw_w := mW 95 (by decide +kernel) (by decide +kernel)
theorem wM_Throwable_Object_init : (Jvm.Cond.methodLink "java/lang/Throwable" (1 : Nat) ({ cls := "java/lang/Object", name := "<init>", desc := "()V" } : Jvm.MethodName)) ∈ lw_w := mW 96 (by decide +kernel) (by decide +kernel)
theorem wF_Throwable_UNASSIGNED_STACK : (Jvm.Cond.fieldLink "java/lang/Throwable" (13 : Nat) "java/lang/Throwable" "UNASSIGNED_STACK" "[Ljava/lang/StackTraceElement;") ∈ lw_w := mW 97 (by decide +kernel) (by decide +kernel)
theorem wlaysStatic_98 : (Jvm.Cond.laysStatic "java/lang/Throwable" "UNASSIGNED_STACK" "[Ljava/lang/StackTraceElement;") ∈ lw_tbl := mT 98 (by decide +kernel)
theorem wF_Throwable_SUPPRESSED_SENTINEL : (Jvm.Cond.fieldLink "java/lang/Throwable" (20 : Nat) "java/lang/Throwable" "SUPPRESSED_SENTINEL" "Ljava/util/List;") ∈ lw_w := mW 99 (by decide +kernel) (by decide +kernel)
theorem wlaysStatic_100 : (Jvm.Cond.laysStatic "java/lang/Throwable" "SUPPRESSED_SENTINEL" "Ljava/util/List;") ∈ lw_tbl := mT 100 (by decide +kernel)
theorem wM_Throwable_Throwable_fillInStackTrace : (Jvm.Cond.methodLink "java/lang/Throwable" (27 : Nat) ({ cls := "java/lang/Throwable", name := "fillInStackTrace", desc := "()Ljava/lang/Throwable;" } : Jvm.MethodName)) ∈ lw_w := mW 101 (by decide +kernel) (by decide +kernel)
theorem wI_Throwable_fillInStackTrace : (Jvm.Cond.instanceMethod ({ cls := "java/lang/Throwable", name := "fillInStackTrace", desc := "()Ljava/lang/Throwable;" } : Jvm.MethodName)) ∈ lw_w := mW 102 (by decide +kernel) (by decide +kernel)
theorem wsameMethod_103 : (Jvm.Cond.sameMethod "java/lang/Throwable" "java/lang/Throwable" "fillInStackTrace" "()Ljava/lang/Throwable;") ∈ lw_w := mW 103 (by decide +kernel) (by decide +kernel)
theorem wV_IndexOutOfBoundsException_Throwable_fillInStackTrace : (Jvm.Cond.selects "java/lang/IndexOutOfBoundsException" ({ cls := "java/lang/Throwable", name := "fillInStackTrace", desc := "()Ljava/lang/Throwable;" } : Jvm.MethodName) ({ cls := "java/lang/Throwable", name := "fillInStackTrace", desc := "()Ljava/lang/Throwable;" } : Jvm.MethodName)) ∈ lw_w := mW 104 (by decide +kernel) (by decide +kernel)
theorem wC_Throwable_fillInStackTrace : (Jvm.Cond.codeSync ({ cls := "java/lang/Throwable", name := "fillInStackTrace", desc := "()Ljava/lang/Throwable;" } : Jvm.MethodName) prog_11_method_18_code (1 : Nat) (Option.some (Jvm.ClassFile.FieldType.object "java/lang/Throwable"))) ∈ lw_tbl := mT 105 (by decide +kernel)
theorem wM_Throwable_Throwable_fillInStackTrace_106 : (Jvm.Cond.methodLink "java/lang/Throwable" (202 : Nat) ({ cls := "java/lang/Throwable", name := "fillInStackTrace", desc := "(I)Ljava/lang/Throwable;" } : Jvm.MethodName)) ∈ lw_w := mW 106 (by decide +kernel) (by decide +kernel)
theorem wprivateMethod_107 : (Jvm.Cond.privateMethod ({ cls := "java/lang/Throwable", name := "fillInStackTrace", desc := "(I)Ljava/lang/Throwable;" } : Jvm.MethodName)) ∈ lw_tbl := mT 107 (by decide +kernel)
theorem wI_Throwable_fillInStackTrace_108 : (Jvm.Cond.instanceMethod ({ cls := "java/lang/Throwable", name := "fillInStackTrace", desc := "(I)Ljava/lang/Throwable;" } : Jvm.MethodName)) ∈ lw_w := mW 108 (by decide +kernel) (by decide +kernel)
theorem wB_Throwable : (Jvm.Cond.instantiable "java/lang/Throwable" (6 : Nat)) ∈ lw_w := mW 109 (by decide +kernel) (by decide +kernel)
theorem wT_Throwable_fillInStackTrace : (Jvm.Cond.native ({ cls := "java/lang/Throwable", name := "fillInStackTrace", desc := "(I)Ljava/lang/Throwable;" } : Jvm.MethodName)) ∈ lw_w := mW 110 (by decide +kernel) (by decide +kernel)
theorem wstringRef_111 : (Jvm.Cond.stringRef "RunSorter" (68 : Nat) "a number is out of range") ∈ lw_tbl := mT 111 (by decide +kernel)
theorem wM_X0_IllegalArgumentException_init : (Jvm.Cond.methodLink "RunSorter" (70 : Nat) ({ cls := "java/lang/IllegalArgumentException", name := "<init>", desc := "(Ljava/lang/String;)V" } : Jvm.MethodName)) ∈ lw_w := mW 112 (by decide +kernel) (by decide +kernel)
theorem wI_IllegalArgumentException_init : (Jvm.Cond.instanceMethod ({ cls := "java/lang/IllegalArgumentException", name := "<init>", desc := "(Ljava/lang/String;)V" } : Jvm.MethodName)) ∈ lw_w := mW 113 (by decide +kernel) (by decide +kernel)
theorem wC_IllegalArgumentException_init : (Jvm.Cond.code ({ cls := "java/lang/IllegalArgumentException", name := "<init>", desc := "(Ljava/lang/String;)V" } : Jvm.MethodName) prog_5_method_2_code (2 : Nat) (Option.none : Option Jvm.ClassFile.FieldType)) ∈ lw_w := mW 114 (by decide +kernel) (by decide +kernel)
theorem wM_IllegalArgumentException_RuntimeException_init : (Jvm.Cond.methodLink "java/lang/IllegalArgumentException" (7 : Nat) ({ cls := "java/lang/RuntimeException", name := "<init>", desc := "(Ljava/lang/String;)V" } : Jvm.MethodName)) ∈ lw_w := mW 115 (by decide +kernel) (by decide +kernel)
theorem wI_RuntimeException_init : (Jvm.Cond.instanceMethod ({ cls := "java/lang/RuntimeException", name := "<init>", desc := "(Ljava/lang/String;)V" } : Jvm.MethodName)) ∈ lw_w := mW 116 (by decide +kernel) (by decide +kernel)
theorem wC_RuntimeException_init : (Jvm.Cond.code ({ cls := "java/lang/RuntimeException", name := "<init>", desc := "(Ljava/lang/String;)V" } : Jvm.MethodName) prog_8_method_2_code (2 : Nat) (Option.none : Option Jvm.ClassFile.FieldType)) ∈ lw_w := mW 117 (by decide +kernel) (by decide +kernel)
theorem wM_RuntimeException_Exception_init : (Jvm.Cond.methodLink "java/lang/RuntimeException" (7 : Nat) ({ cls := "java/lang/Exception", name := "<init>", desc := "(Ljava/lang/String;)V" } : Jvm.MethodName)) ∈ lw_w := mW 118 (by decide +kernel) (by decide +kernel)
theorem wI_Exception_init : (Jvm.Cond.instanceMethod ({ cls := "java/lang/Exception", name := "<init>", desc := "(Ljava/lang/String;)V" } : Jvm.MethodName)) ∈ lw_w := mW 119 (by decide +kernel) (by decide +kernel)
theorem wC_Exception_init : (Jvm.Cond.code ({ cls := "java/lang/Exception", name := "<init>", desc := "(Ljava/lang/String;)V" } : Jvm.MethodName) prog_4_method_2_code (2 : Nat) (Option.none : Option Jvm.ClassFile.FieldType)) ∈ lw_w := mW 120 (by decide +kernel) (by decide +kernel)
theorem wM_Exception_Throwable_init : (Jvm.Cond.methodLink "java/lang/Exception" (7 : Nat) ({ cls := "java/lang/Throwable", name := "<init>", desc := "(Ljava/lang/String;)V" } : Jvm.MethodName)) ∈ lw_w := mW 121 (by decide +kernel) (by decide +kernel)
theorem wI_Throwable_init_122 : (Jvm.Cond.instanceMethod ({ cls := "java/lang/Throwable", name := "<init>", desc := "(Ljava/lang/String;)V" } : Jvm.MethodName)) ∈ lw_w := mW 122 (by decide +kernel) (by decide +kernel)
theorem wC_Throwable_init_123 : (Jvm.Cond.code ({ cls := "java/lang/Throwable", name := "<init>", desc := "(Ljava/lang/String;)V" } : Jvm.MethodName) prog_11_method_2_code (2 : Nat) (Option.none : Option Jvm.ClassFile.FieldType)) ∈ lw_w := mW 123 (by decide +kernel) (by decide +kernel)
theorem wF_Throwable_backtrace_124 : (Jvm.Cond.fieldLink "java/lang/Throwable" (198 : Nat) "java/lang/Throwable" "backtrace" "Ljava/lang/Object;") ∈ lw_w := mW 124 (by decide +kernel) (by decide +kernel)
theorem wF_Throwable_detailMessage : (Jvm.Cond.fieldLink "java/lang/Throwable" (31 : Nat) "java/lang/Throwable" "detailMessage" "Ljava/lang/String;") ∈ lw_w := mW 125 (by decide +kernel) (by decide +kernel)
theorem wF_Throwable_cause : (Jvm.Cond.fieldLink "java/lang/Throwable" (7 : Nat) "java/lang/Throwable" "cause" "Ljava/lang/Throwable;") ∈ lw_w := mW 126 (by decide +kernel) (by decide +kernel)
theorem wF_Throwable_stackTrace : (Jvm.Cond.fieldLink "java/lang/Throwable" (17 : Nat) "java/lang/Throwable" "stackTrace" "[Ljava/lang/StackTraceElement;") ∈ lw_w := mW 127 (by decide +kernel) (by decide +kernel)
theorem wF_Throwable_suppressedExceptions : (Jvm.Cond.fieldLink "java/lang/Throwable" (24 : Nat) "java/lang/Throwable" "suppressedExceptions" "Ljava/util/List;") ∈ lw_w := mW 128 (by decide +kernel) (by decide +kernel)
theorem wsoleField_129 : (Jvm.Cond.soleField "java/lang/Throwable" "backtrace") ∈ lw_w := mW 129 (by decide +kernel) (by decide +kernel)
theorem wsoleField_130 : (Jvm.Cond.soleField "java/lang/Throwable" "detailMessage") ∈ lw_w := mW 130 (by decide +kernel) (by decide +kernel)
theorem wsoleField_131 : (Jvm.Cond.soleField "java/lang/Throwable" "cause") ∈ lw_w := mW 131 (by decide +kernel) (by decide +kernel)
theorem wsoleField_132 : (Jvm.Cond.soleField "java/lang/Throwable" "stackTrace") ∈ lw_w := mW 132 (by decide +kernel) (by decide +kernel)
theorem wL_IllegalArgumentException_Throwable_depth : (Jvm.Cond.lays "java/lang/IllegalArgumentException" "java/lang/Throwable" "depth" "I") ∈ lw_w := mW 133 (by decide +kernel) (by decide +kernel)
theorem wsoleField_134 : (Jvm.Cond.soleField "java/lang/Throwable" "depth") ∈ lw_w := mW 134 (by decide +kernel) (by decide +kernel)
theorem wsoleField_135 : (Jvm.Cond.soleField "java/lang/Throwable" "suppressedExceptions") ∈ lw_w := mW 135 (by decide +kernel) (by decide +kernel)
theorem wsuperclass_136 : (Jvm.Cond.superclass "java/lang/IllegalArgumentException" "java/lang/RuntimeException") ∈ lw_w := mW 136 (by decide +kernel) (by decide +kernel)
theorem wA_byte : (Jvm.Cond.arrayClass Jvm.ClassFile.FieldType.byte) ∈ lw_w := mW 137 (by decide +kernel) (by decide +kernel)
theorem wM_X0_X0_requireRoomFor : (Jvm.Cond.methodLink "RunSorter" (33 : Nat) ({ cls := "RunSorter", name := "requireRoomFor", desc := "(I)V" } : Jvm.MethodName)) ∈ lw_w := mW 138 (by decide +kernel) (by decide +kernel)
theorem wprivateMethod_139 : (Jvm.Cond.privateMethod ({ cls := "RunSorter", name := "requireRoomFor", desc := "(I)V" } : Jvm.MethodName)) ∈ lw_tbl := mT 139 (by decide +kernel)
theorem wI_X0_requireRoomFor : (Jvm.Cond.instanceMethod ({ cls := "RunSorter", name := "requireRoomFor", desc := "(I)V" } : Jvm.MethodName)) ∈ lw_w := mW 140 (by decide +kernel) (by decide +kernel)
theorem wC_X0_requireRoomFor : (Jvm.Cond.code ({ cls := "RunSorter", name := "requireRoomFor", desc := "(I)V" } : Jvm.MethodName) prog_1_method_15_code (2 : Nat) (Option.none : Option Jvm.ClassFile.FieldType)) ∈ lw_w := mW 141 (by decide +kernel) (by decide +kernel)
theorem wK_X0_IndexOutOfBoundsException : (Jvm.Cond.classLink "RunSorter" (73 : Nat) "java/lang/IndexOutOfBoundsException") ∈ lw_w := mW 142 (by decide +kernel) (by decide +kernel)
theorem wB_IndexOutOfBoundsException : (Jvm.Cond.instantiable "java/lang/IndexOutOfBoundsException" (6 : Nat)) ∈ lw_w := mW 143 (by decide +kernel) (by decide +kernel)
theorem wcastable_144 : (Jvm.Cond.castable "java/lang/IndexOutOfBoundsException" "java/lang/IndexOutOfBoundsException") ∈ lw_tbl := mT 144 (by decide +kernel)
theorem wV_IndexOutOfBoundsException_Throwable_fillInStackTrace_145 : (Jvm.Cond.selects "java/lang/IndexOutOfBoundsException" ({ cls := "java/lang/Throwable", name := "fillInStackTrace", desc := "(I)Ljava/lang/Throwable;" } : Jvm.MethodName) ({ cls := "java/lang/Throwable", name := "fillInStackTrace", desc := "(I)Ljava/lang/Throwable;" } : Jvm.MethodName)) ∈ lw_w := mW 145 (by decide +kernel) (by decide +kernel)
theorem wL_IndexOutOfBoundsException_Throwable_cause : (Jvm.Cond.lays "java/lang/IndexOutOfBoundsException" "java/lang/Throwable" "cause" "Ljava/lang/Throwable;") ∈ lw_w := mW 146 (by decide +kernel) (by decide +kernel)
theorem wL_IndexOutOfBoundsException_Throwable_stackTrace : (Jvm.Cond.lays "java/lang/IndexOutOfBoundsException" "java/lang/Throwable" "stackTrace" "[Ljava/lang/StackTraceElement;") ∈ lw_w := mW 147 (by decide +kernel) (by decide +kernel)
theorem wL_IndexOutOfBoundsException_Throwable_suppressedExceptions : (Jvm.Cond.lays "java/lang/IndexOutOfBoundsException" "java/lang/Throwable" "suppressedExceptions" "Ljava/util/List;") ∈ lw_w := mW 148 (by decide +kernel) (by decide +kernel)
theorem wL_IndexOutOfBoundsException_Throwable_detailMessage : (Jvm.Cond.lays "java/lang/IndexOutOfBoundsException" "java/lang/Throwable" "detailMessage" "Ljava/lang/String;") ∈ lw_w := mW 149 (by decide +kernel) (by decide +kernel)
theorem wL_IndexOutOfBoundsException_Throwable_backtrace : (Jvm.Cond.lays "java/lang/IndexOutOfBoundsException" "java/lang/Throwable" "backtrace" "Ljava/lang/Object;") ∈ lw_w := mW 150 (by decide +kernel) (by decide +kernel)
theorem wstringRef_151 : (Jvm.Cond.stringRef "RunSorter" (75 : Nat) "the row would be too long") ∈ lw_tbl := mT 151 (by decide +kernel)
theorem wM_X0_IndexOutOfBoundsException_init : (Jvm.Cond.methodLink "RunSorter" (77 : Nat) ({ cls := "java/lang/IndexOutOfBoundsException", name := "<init>", desc := "(Ljava/lang/String;)V" } : Jvm.MethodName)) ∈ lw_w := mW 152 (by decide +kernel) (by decide +kernel)
theorem wI_IndexOutOfBoundsException_init : (Jvm.Cond.instanceMethod ({ cls := "java/lang/IndexOutOfBoundsException", name := "<init>", desc := "(Ljava/lang/String;)V" } : Jvm.MethodName)) ∈ lw_w := mW 153 (by decide +kernel) (by decide +kernel)
theorem wC_IndexOutOfBoundsException_init : (Jvm.Cond.code ({ cls := "java/lang/IndexOutOfBoundsException", name := "<init>", desc := "(Ljava/lang/String;)V" } : Jvm.MethodName) prog_6_method_2_code (2 : Nat) (Option.none : Option Jvm.ClassFile.FieldType)) ∈ lw_w := mW 154 (by decide +kernel) (by decide +kernel)
theorem wM_IndexOutOfBoundsException_RuntimeException_init : (Jvm.Cond.methodLink "java/lang/IndexOutOfBoundsException" (7 : Nat) ({ cls := "java/lang/RuntimeException", name := "<init>", desc := "(Ljava/lang/String;)V" } : Jvm.MethodName)) ∈ lw_w := mW 155 (by decide +kernel) (by decide +kernel)
theorem wL_IndexOutOfBoundsException_Throwable_depth : (Jvm.Cond.lays "java/lang/IndexOutOfBoundsException" "java/lang/Throwable" "depth" "I") ∈ lw_w := mW 156 (by decide +kernel) (by decide +kernel)
theorem wsuperclass_157 : (Jvm.Cond.superclass "java/lang/IndexOutOfBoundsException" "java/lang/RuntimeException") ∈ lw_w := mW 157 (by decide +kernel) (by decide +kernel)
theorem wM_X0_X0_append : (Jvm.Cond.methodLink "RunSorter" (37 : Nat) ({ cls := "RunSorter", name := "append", desc := "(I)V" } : Jvm.MethodName)) ∈ lw_w := mW 158 (by decide +kernel) (by decide +kernel)
theorem wprivateMethod_159 : (Jvm.Cond.privateMethod ({ cls := "RunSorter", name := "append", desc := "(I)V" } : Jvm.MethodName)) ∈ lw_tbl := mT 159 (by decide +kernel)
theorem wI_X0_append : (Jvm.Cond.instanceMethod ({ cls := "RunSorter", name := "append", desc := "(I)V" } : Jvm.MethodName)) ∈ lw_w := mW 160 (by decide +kernel) (by decide +kernel)
theorem wC_X0_append : (Jvm.Cond.code ({ cls := "RunSorter", name := "append", desc := "(I)V" } : Jvm.MethodName) prog_1_method_17_code (2 : Nat) (Option.none : Option Jvm.ClassFile.FieldType)) ∈ lw_w := mW 161 (by decide +kernel) (by decide +kernel)
theorem wM_L_L_scatter : (Jvm.Cond.methodLink "RunSorterLaw" (55 : Nat) ({ cls := "RunSorterLaw", name := "scatter", desc := "(LRunSorter;III[J)I" } : Jvm.MethodName)) ∈ lw_w := mW 162 (by decide +kernel) (by decide +kernel)
theorem wS_L_scatter : (Jvm.Cond.static ({ cls := "RunSorterLaw", name := "scatter", desc := "(LRunSorter;III[J)I" } : Jvm.MethodName)) ∈ lw_w := mW 163 (by decide +kernel) (by decide +kernel)
theorem wC_L_scatter : (Jvm.Cond.codeWith ({ cls := "RunSorterLaw", name := "scatter", desc := "(LRunSorter;III[J)I" } : Jvm.MethodName) method_4_code (6 : Nat) (Option.some Jvm.ClassFile.FieldType.int) [((0 : Nat), (12 : Nat), (15 : Nat), (13 : Nat)), ((0 : Nat), (12 : Nat), (19 : Nat), (15 : Nat))]) ∈ lw_w := mW 164 (by decide +kernel) (by decide +kernel)
theorem wM_L_X0_scatter : (Jvm.Cond.methodLink "RunSorterLaw" (17 : Nat) ({ cls := "RunSorter", name := "scatter", desc := "(III)I" } : Jvm.MethodName)) ∈ lw_w := mW 165 (by decide +kernel) (by decide +kernel)
theorem wI_X0_scatter : (Jvm.Cond.instanceMethod ({ cls := "RunSorter", name := "scatter", desc := "(III)I" } : Jvm.MethodName)) ∈ lw_w := mW 166 (by decide +kernel) (by decide +kernel)
theorem wV_X0_X0_scatter : (Jvm.Cond.selects "RunSorter" ({ cls := "RunSorter", name := "scatter", desc := "(III)I" } : Jvm.MethodName) ({ cls := "RunSorter", name := "scatter", desc := "(III)I" } : Jvm.MethodName)) ∈ lw_w := mW 167 (by decide +kernel) (by decide +kernel)
theorem wC_X0_scatter : (Jvm.Cond.code ({ cls := "RunSorter", name := "scatter", desc := "(III)I" } : Jvm.MethodName) prog_1_method_3_code (7 : Nat) (Option.some Jvm.ClassFile.FieldType.int)) ∈ lw_w := mW 168 (by decide +kernel) (by decide +kernel)
theorem wQ_X0_40 : (Jvm.Cond.constant "RunSorter" (40 : Nat) (1664525 : Int32)) ∈ lw_w := mW 169 (by decide +kernel) (by decide +kernel)
theorem wQ_X0_41 : (Jvm.Cond.constant "RunSorter" (41 : Nat) (1013904223 : Int32)) ∈ lw_w := mW 170 (by decide +kernel) (by decide +kernel)
theorem wM_L_L_sort : (Jvm.Cond.methodLink "RunSorterLaw" (58 : Nat) ({ cls := "RunSorterLaw", name := "sort", desc := "(LRunSorter;III[J)I" } : Jvm.MethodName)) ∈ lw_w := mW 171 (by decide +kernel) (by decide +kernel)
theorem wS_L_sort : (Jvm.Cond.static ({ cls := "RunSorterLaw", name := "sort", desc := "(LRunSorter;III[J)I" } : Jvm.MethodName)) ∈ lw_w := mW 172 (by decide +kernel) (by decide +kernel)
theorem wC_L_sort : (Jvm.Cond.codeWith ({ cls := "RunSorterLaw", name := "sort", desc := "(LRunSorter;III[J)I" } : Jvm.MethodName) method_5_code (6 : Nat) (Option.some Jvm.ClassFile.FieldType.int) [((0 : Nat), (12 : Nat), (15 : Nat), (13 : Nat))]) ∈ lw_w := mW 173 (by decide +kernel) (by decide +kernel)
theorem wM_L_X0_sort : (Jvm.Cond.methodLink "RunSorterLaw" (20 : Nat) ({ cls := "RunSorter", name := "sort", desc := "(III)I" } : Jvm.MethodName)) ∈ lw_w := mW 174 (by decide +kernel) (by decide +kernel)
theorem wI_X0_sort : (Jvm.Cond.instanceMethod ({ cls := "RunSorter", name := "sort", desc := "(III)I" } : Jvm.MethodName)) ∈ lw_w := mW 175 (by decide +kernel) (by decide +kernel)
theorem wV_X0_X0_sort : (Jvm.Cond.selects "RunSorter" ({ cls := "RunSorter", name := "sort", desc := "(III)I" } : Jvm.MethodName) ({ cls := "RunSorter", name := "sort", desc := "(III)I" } : Jvm.MethodName)) ∈ lw_w := mW 176 (by decide +kernel) (by decide +kernel)
theorem wC_X0_sort : (Jvm.Cond.code ({ cls := "RunSorter", name := "sort", desc := "(III)I" } : Jvm.MethodName) prog_1_method_4_code (5 : Nat) (Option.some Jvm.ClassFile.FieldType.int)) ∈ lw_w := mW 177 (by decide +kernel) (by decide +kernel)
theorem wM_X0_X0_requireOrder : (Jvm.Cond.methodLink "RunSorter" (42 : Nat) ({ cls := "RunSorter", name := "requireOrder", desc := "(I)V" } : Jvm.MethodName)) ∈ lw_w := mW 178 (by decide +kernel) (by decide +kernel)
theorem wS_X0_requireOrder : (Jvm.Cond.static ({ cls := "RunSorter", name := "requireOrder", desc := "(I)V" } : Jvm.MethodName)) ∈ lw_w := mW 179 (by decide +kernel) (by decide +kernel)
theorem wC_X0_requireOrder : (Jvm.Cond.code ({ cls := "RunSorter", name := "requireOrder", desc := "(I)V" } : Jvm.MethodName) prog_1_method_13_code (1 : Nat) (Option.none : Option Jvm.ClassFile.FieldType)) ∈ lw_w := mW 180 (by decide +kernel) (by decide +kernel)
theorem wM_X0_X0_requirePart : (Jvm.Cond.methodLink "RunSorter" (45 : Nat) ({ cls := "RunSorter", name := "requirePart", desc := "(II)V" } : Jvm.MethodName)) ∈ lw_w := mW 181 (by decide +kernel) (by decide +kernel)
theorem wprivateMethod_182 : (Jvm.Cond.privateMethod ({ cls := "RunSorter", name := "requirePart", desc := "(II)V" } : Jvm.MethodName)) ∈ lw_tbl := mT 182 (by decide +kernel)
theorem wI_X0_requirePart : (Jvm.Cond.instanceMethod ({ cls := "RunSorter", name := "requirePart", desc := "(II)V" } : Jvm.MethodName)) ∈ lw_w := mW 183 (by decide +kernel) (by decide +kernel)
theorem wC_X0_requirePart : (Jvm.Cond.code ({ cls := "RunSorter", name := "requirePart", desc := "(II)V" } : Jvm.MethodName) prog_1_method_14_code (3 : Nat) (Option.none : Option Jvm.ClassFile.FieldType)) ∈ lw_w := mW 184 (by decide +kernel) (by decide +kernel)
theorem wM_X0_X0_findRuns : (Jvm.Cond.methodLink "RunSorter" (49 : Nat) ({ cls := "RunSorter", name := "findRuns", desc := "(III)I" } : Jvm.MethodName)) ∈ lw_w := mW 185 (by decide +kernel) (by decide +kernel)
theorem wprivateMethod_186 : (Jvm.Cond.privateMethod ({ cls := "RunSorter", name := "findRuns", desc := "(III)I" } : Jvm.MethodName)) ∈ lw_tbl := mT 186 (by decide +kernel)
theorem wI_X0_findRuns : (Jvm.Cond.instanceMethod ({ cls := "RunSorter", name := "findRuns", desc := "(III)I" } : Jvm.MethodName)) ∈ lw_w := mW 187 (by decide +kernel) (by decide +kernel)
theorem wC_X0_findRuns : (Jvm.Cond.code ({ cls := "RunSorter", name := "findRuns", desc := "(III)I" } : Jvm.MethodName) prog_1_method_20_code (6 : Nat) (Option.some Jvm.ClassFile.FieldType.int)) ∈ lw_w := mW 188 (by decide +kernel) (by decide +kernel)
theorem wM_X0_X0_rank : (Jvm.Cond.methodLink "RunSorter" (62 : Nat) ({ cls := "RunSorter", name := "rank", desc := "(II)I" } : Jvm.MethodName)) ∈ lw_w := mW 189 (by decide +kernel) (by decide +kernel)
theorem wS_X0_rank : (Jvm.Cond.static ({ cls := "RunSorter", name := "rank", desc := "(II)I" } : Jvm.MethodName)) ∈ lw_w := mW 190 (by decide +kernel) (by decide +kernel)
theorem wC_X0_rank : (Jvm.Cond.code ({ cls := "RunSorter", name := "rank", desc := "(II)I" } : Jvm.MethodName) prog_1_method_19_code (2 : Nat) (Option.some Jvm.ClassFile.FieldType.int)) ∈ lw_w := mW 191 (by decide +kernel) (by decide +kernel)
theorem wQ_X0_80 : (Jvm.Cond.constant "RunSorter" (80 : Nat) (-2147483648 : Int32)) ∈ lw_w := mW 192 (by decide +kernel) (by decide +kernel)
theorem wM_X0_X0_mergePairsOfRuns : (Jvm.Cond.methodLink "RunSorter" (53 : Nat) ({ cls := "RunSorter", name := "mergePairsOfRuns", desc := "(II)V" } : Jvm.MethodName)) ∈ lw_w := mW 193 (by decide +kernel) (by decide +kernel)
theorem wprivateMethod_194 : (Jvm.Cond.privateMethod ({ cls := "RunSorter", name := "mergePairsOfRuns", desc := "(II)V" } : Jvm.MethodName)) ∈ lw_tbl := mT 194 (by decide +kernel)
theorem wI_X0_mergePairsOfRuns : (Jvm.Cond.instanceMethod ({ cls := "RunSorter", name := "mergePairsOfRuns", desc := "(II)V" } : Jvm.MethodName)) ∈ lw_w := mW 195 (by decide +kernel) (by decide +kernel)
theorem wC_X0_mergePairsOfRuns : (Jvm.Cond.code ({ cls := "RunSorter", name := "mergePairsOfRuns", desc := "(II)V" } : Jvm.MethodName) prog_1_method_21_code (5 : Nat) (Option.none : Option Jvm.ClassFile.FieldType)) ∈ lw_w := mW 196 (by decide +kernel) (by decide +kernel)
theorem wM_X0_X0_merge : (Jvm.Cond.methodLink "RunSorter" (81 : Nat) ({ cls := "RunSorter", name := "merge", desc := "(IIII)V" } : Jvm.MethodName)) ∈ lw_w := mW 197 (by decide +kernel) (by decide +kernel)
theorem wprivateMethod_198 : (Jvm.Cond.privateMethod ({ cls := "RunSorter", name := "merge", desc := "(IIII)V" } : Jvm.MethodName)) ∈ lw_tbl := mT 198 (by decide +kernel)
theorem wI_X0_merge : (Jvm.Cond.instanceMethod ({ cls := "RunSorter", name := "merge", desc := "(IIII)V" } : Jvm.MethodName)) ∈ lw_w := mW 199 (by decide +kernel) (by decide +kernel)
theorem wC_X0_merge : (Jvm.Cond.code ({ cls := "RunSorter", name := "merge", desc := "(IIII)V" } : Jvm.MethodName) prog_1_method_22_code (9 : Nat) (Option.none : Option Jvm.ClassFile.FieldType)) ∈ lw_w := mW 200 (by decide +kernel) (by decide +kernel)
theorem wM_X0_System_arraycopy : (Jvm.Cond.methodLink "RunSorter" (90 : Nat) ({ cls := "java/lang/System", name := "arraycopy", desc := "(Ljava/lang/Object;ILjava/lang/Object;II)V" } : Jvm.MethodName)) ∈ lw_w := mW 201 (by decide +kernel) (by decide +kernel)
theorem wS_System_arraycopy : (Jvm.Cond.static ({ cls := "java/lang/System", name := "arraycopy", desc := "(Ljava/lang/Object;ILjava/lang/Object;II)V" } : Jvm.MethodName)) ∈ lw_w := mW 202 (by decide +kernel) (by decide +kernel)
theorem wT_System_arraycopy : (Jvm.Cond.native ({ cls := "java/lang/System", name := "arraycopy", desc := "(Ljava/lang/Object;ILjava/lang/Object;II)V" } : Jvm.MethodName)) ∈ lw_w := mW 203 (by decide +kernel) (by decide +kernel)
theorem wM_X0_Math_min : (Jvm.Cond.methodLink "RunSorter" (85 : Nat) ({ cls := "java/lang/Math", name := "min", desc := "(II)I" } : Jvm.MethodName)) ∈ lw_w := mW 204 (by decide +kernel) (by decide +kernel)
theorem wS_Math_min : (Jvm.Cond.static ({ cls := "java/lang/Math", name := "min", desc := "(II)I" } : Jvm.MethodName)) ∈ lw_w := mW 205 (by decide +kernel) (by decide +kernel)
theorem wC_Math_min : (Jvm.Cond.code ({ cls := "java/lang/Math", name := "min", desc := "(II)I" } : Jvm.MethodName) prog_7_method_69_code (2 : Nat) (Option.some Jvm.ClassFile.FieldType.int)) ∈ lw_w := mW 206 (by decide +kernel) (by decide +kernel)
theorem wM_L_L_get : (Jvm.Cond.methodLink "RunSorterLaw" (61 : Nat) ({ cls := "RunSorterLaw", name := "get", desc := "(LRunSorter;I[J)I" } : Jvm.MethodName)) ∈ lw_w := mW 207 (by decide +kernel) (by decide +kernel)
theorem wS_L_get : (Jvm.Cond.static ({ cls := "RunSorterLaw", name := "get", desc := "(LRunSorter;I[J)I" } : Jvm.MethodName)) ∈ lw_w := mW 208 (by decide +kernel) (by decide +kernel)
theorem wC_L_get : (Jvm.Cond.codeWith ({ cls := "RunSorterLaw", name := "get", desc := "(LRunSorter;I[J)I" } : Jvm.MethodName) method_6_code (4 : Nat) (Option.some Jvm.ClassFile.FieldType.int) [((0 : Nat), (9 : Nat), (12 : Nat), (15 : Nat))]) ∈ lw_w := mW 209 (by decide +kernel) (by decide +kernel)
theorem wM_L_X0_get : (Jvm.Cond.methodLink "RunSorterLaw" (23 : Nat) ({ cls := "RunSorter", name := "get", desc := "(I)I" } : Jvm.MethodName)) ∈ lw_w := mW 210 (by decide +kernel) (by decide +kernel)
theorem wI_X0_get : (Jvm.Cond.instanceMethod ({ cls := "RunSorter", name := "get", desc := "(I)I" } : Jvm.MethodName)) ∈ lw_w := mW 211 (by decide +kernel) (by decide +kernel)
theorem wV_X0_X0_get : (Jvm.Cond.selects "RunSorter" ({ cls := "RunSorter", name := "get", desc := "(I)I" } : Jvm.MethodName) ({ cls := "RunSorter", name := "get", desc := "(I)I" } : Jvm.MethodName)) ∈ lw_w := mW 212 (by decide +kernel) (by decide +kernel)
theorem wC_X0_get : (Jvm.Cond.code ({ cls := "RunSorter", name := "get", desc := "(I)I" } : Jvm.MethodName) prog_1_method_5_code (2 : Nat) (Option.some Jvm.ClassFile.FieldType.int)) ∈ lw_w := mW 213 (by decide +kernel) (by decide +kernel)
theorem wM_X0_X0_requireIndex : (Jvm.Cond.methodLink "RunSorter" (56 : Nat) ({ cls := "RunSorter", name := "requireIndex", desc := "(I)V" } : Jvm.MethodName)) ∈ lw_w := mW 214 (by decide +kernel) (by decide +kernel)
theorem wprivateMethod_215 : (Jvm.Cond.privateMethod ({ cls := "RunSorter", name := "requireIndex", desc := "(I)V" } : Jvm.MethodName)) ∈ lw_tbl := mT 215 (by decide +kernel)
theorem wI_X0_requireIndex : (Jvm.Cond.instanceMethod ({ cls := "RunSorter", name := "requireIndex", desc := "(I)V" } : Jvm.MethodName)) ∈ lw_w := mW 216 (by decide +kernel) (by decide +kernel)
theorem wC_X0_requireIndex : (Jvm.Cond.code ({ cls := "RunSorter", name := "requireIndex", desc := "(I)V" } : Jvm.MethodName) prog_1_method_16_code (2 : Nat) (Option.none : Option Jvm.ClassFile.FieldType)) ∈ lw_w := mW 217 (by decide +kernel) (by decide +kernel)
theorem wstringRef_218 : (Jvm.Cond.stringRef "RunSorter" (78 : Nat) "there is no number at that index") ∈ lw_tbl := mT 218 (by decide +kernel)
theorem wM_L_L_tag : (Jvm.Cond.methodLink "RunSorterLaw" (65 : Nat) ({ cls := "RunSorterLaw", name := "tag", desc := "(LRunSorter;I[J)I" } : Jvm.MethodName)) ∈ lw_w := mW 219 (by decide +kernel) (by decide +kernel)
theorem wS_L_tag : (Jvm.Cond.static ({ cls := "RunSorterLaw", name := "tag", desc := "(LRunSorter;I[J)I" } : Jvm.MethodName)) ∈ lw_w := mW 220 (by decide +kernel) (by decide +kernel)
theorem wC_L_tag : (Jvm.Cond.codeWith ({ cls := "RunSorterLaw", name := "tag", desc := "(LRunSorter;I[J)I" } : Jvm.MethodName) method_7_code (4 : Nat) (Option.some Jvm.ClassFile.FieldType.int) [((0 : Nat), (9 : Nat), (12 : Nat), (15 : Nat))]) ∈ lw_w := mW 221 (by decide +kernel) (by decide +kernel)
theorem wM_L_X0_tag : (Jvm.Cond.methodLink "RunSorterLaw" (27 : Nat) ({ cls := "RunSorter", name := "tag", desc := "(I)I" } : Jvm.MethodName)) ∈ lw_w := mW 222 (by decide +kernel) (by decide +kernel)
theorem wI_X0_tag : (Jvm.Cond.instanceMethod ({ cls := "RunSorter", name := "tag", desc := "(I)I" } : Jvm.MethodName)) ∈ lw_w := mW 223 (by decide +kernel) (by decide +kernel)
theorem wV_X0_X0_tag : (Jvm.Cond.selects "RunSorter" ({ cls := "RunSorter", name := "tag", desc := "(I)I" } : Jvm.MethodName) ({ cls := "RunSorter", name := "tag", desc := "(I)I" } : Jvm.MethodName)) ∈ lw_w := mW 224 (by decide +kernel) (by decide +kernel)
theorem wC_X0_tag : (Jvm.Cond.code ({ cls := "RunSorter", name := "tag", desc := "(I)I" } : Jvm.MethodName) prog_1_method_6_code (2 : Nat) (Option.some Jvm.ClassFile.FieldType.int)) ∈ lw_w := mW 225 (by decide +kernel) (by decide +kernel)
theorem wM_L_L_set : (Jvm.Cond.methodLink "RunSorterLaw" (68 : Nat) ({ cls := "RunSorterLaw", name := "set", desc := "(LRunSorter;II[J)I" } : Jvm.MethodName)) ∈ lw_w := mW 226 (by decide +kernel) (by decide +kernel)
theorem wS_L_set : (Jvm.Cond.static ({ cls := "RunSorterLaw", name := "set", desc := "(LRunSorter;II[J)I" } : Jvm.MethodName)) ∈ lw_w := mW 227 (by decide +kernel) (by decide +kernel)
theorem wC_L_set : (Jvm.Cond.codeWith ({ cls := "RunSorterLaw", name := "set", desc := "(LRunSorter;II[J)I" } : Jvm.MethodName) method_8_code (5 : Nat) (Option.some Jvm.ClassFile.FieldType.int) [((0 : Nat), (10 : Nat), (13 : Nat), (15 : Nat))]) ∈ lw_w := mW 228 (by decide +kernel) (by decide +kernel)
theorem wM_L_X0_set : (Jvm.Cond.methodLink "RunSorterLaw" (30 : Nat) ({ cls := "RunSorter", name := "set", desc := "(II)I" } : Jvm.MethodName)) ∈ lw_w := mW 229 (by decide +kernel) (by decide +kernel)
theorem wI_X0_set : (Jvm.Cond.instanceMethod ({ cls := "RunSorter", name := "set", desc := "(II)I" } : Jvm.MethodName)) ∈ lw_w := mW 230 (by decide +kernel) (by decide +kernel)
theorem wV_X0_X0_set : (Jvm.Cond.selects "RunSorter" ({ cls := "RunSorter", name := "set", desc := "(II)I" } : Jvm.MethodName) ({ cls := "RunSorter", name := "set", desc := "(II)I" } : Jvm.MethodName)) ∈ lw_w := mW 231 (by decide +kernel) (by decide +kernel)
theorem wC_X0_set : (Jvm.Cond.code ({ cls := "RunSorter", name := "set", desc := "(II)I" } : Jvm.MethodName) prog_1_method_7_code (4 : Nat) (Option.some Jvm.ClassFile.FieldType.int)) ∈ lw_w := mW 232 (by decide +kernel) (by decide +kernel)
theorem wM_L_L_turn : (Jvm.Cond.methodLink "RunSorterLaw" (72 : Nat) ({ cls := "RunSorterLaw", name := "turn", desc := "(LRunSorter;II[J)I" } : Jvm.MethodName)) ∈ lw_w := mW 233 (by decide +kernel) (by decide +kernel)
theorem wS_L_turn : (Jvm.Cond.static ({ cls := "RunSorterLaw", name := "turn", desc := "(LRunSorter;II[J)I" } : Jvm.MethodName)) ∈ lw_w := mW 234 (by decide +kernel) (by decide +kernel)
theorem wC_L_turn : (Jvm.Cond.codeWith ({ cls := "RunSorterLaw", name := "turn", desc := "(LRunSorter;II[J)I" } : Jvm.MethodName) method_9_code (5 : Nat) (Option.some Jvm.ClassFile.FieldType.int) [((0 : Nat), (10 : Nat), (13 : Nat), (13 : Nat))]) ∈ lw_w := mW 235 (by decide +kernel) (by decide +kernel)
theorem wM_L_X0_turn : (Jvm.Cond.methodLink "RunSorterLaw" (34 : Nat) ({ cls := "RunSorter", name := "turn", desc := "(II)I" } : Jvm.MethodName)) ∈ lw_w := mW 236 (by decide +kernel) (by decide +kernel)
theorem wI_X0_turn : (Jvm.Cond.instanceMethod ({ cls := "RunSorter", name := "turn", desc := "(II)I" } : Jvm.MethodName)) ∈ lw_w := mW 237 (by decide +kernel) (by decide +kernel)
theorem wV_X0_X0_turn : (Jvm.Cond.selects "RunSorter" ({ cls := "RunSorter", name := "turn", desc := "(II)I" } : Jvm.MethodName) ({ cls := "RunSorter", name := "turn", desc := "(II)I" } : Jvm.MethodName)) ∈ lw_w := mW 238 (by decide +kernel) (by decide +kernel)
theorem wC_X0_turn : (Jvm.Cond.code ({ cls := "RunSorter", name := "turn", desc := "(II)I" } : Jvm.MethodName) prog_1_method_8_code (5 : Nat) (Option.some Jvm.ClassFile.FieldType.int)) ∈ lw_w := mW 239 (by decide +kernel) (by decide +kernel)
theorem wM_X0_X0_swap : (Jvm.Cond.methodLink "RunSorter" (59 : Nat) ({ cls := "RunSorter", name := "swap", desc := "(II)V" } : Jvm.MethodName)) ∈ lw_w := mW 240 (by decide +kernel) (by decide +kernel)
theorem wprivateMethod_241 : (Jvm.Cond.privateMethod ({ cls := "RunSorter", name := "swap", desc := "(II)V" } : Jvm.MethodName)) ∈ lw_tbl := mT 241 (by decide +kernel)
theorem wI_X0_swap : (Jvm.Cond.instanceMethod ({ cls := "RunSorter", name := "swap", desc := "(II)V" } : Jvm.MethodName)) ∈ lw_w := mW 242 (by decide +kernel) (by decide +kernel)
theorem wC_X0_swap : (Jvm.Cond.code ({ cls := "RunSorter", name := "swap", desc := "(II)V" } : Jvm.MethodName) prog_1_method_18_code (5 : Nat) (Option.none : Option Jvm.ClassFile.FieldType)) ∈ lw_w := mW 243 (by decide +kernel) (by decide +kernel)
theorem wM_L_L_upTo : (Jvm.Cond.methodLink "RunSorterLaw" (75 : Nat) ({ cls := "RunSorterLaw", name := "upTo", desc := "(LRunSorter;IIZ[J)I" } : Jvm.MethodName)) ∈ lw_w := mW 244 (by decide +kernel) (by decide +kernel)
theorem wS_L_upTo : (Jvm.Cond.static ({ cls := "RunSorterLaw", name := "upTo", desc := "(LRunSorter;IIZ[J)I" } : Jvm.MethodName)) ∈ lw_w := mW 245 (by decide +kernel) (by decide +kernel)
theorem wC_L_upTo : (Jvm.Cond.codeWith ({ cls := "RunSorterLaw", name := "upTo", desc := "(LRunSorter;IIZ[J)I" } : Jvm.MethodName) method_10_code (6 : Nat) (Option.some Jvm.ClassFile.FieldType.int) [((0 : Nat), (12 : Nat), (15 : Nat), (13 : Nat))]) ∈ lw_w := mW 246 (by decide +kernel) (by decide +kernel)
theorem wM_L_X0_upTo : (Jvm.Cond.methodLink "RunSorterLaw" (37 : Nat) ({ cls := "RunSorter", name := "upTo", desc := "(IIZ)I" } : Jvm.MethodName)) ∈ lw_w := mW 247 (by decide +kernel) (by decide +kernel)
theorem wI_X0_upTo : (Jvm.Cond.instanceMethod ({ cls := "RunSorter", name := "upTo", desc := "(IIZ)I" } : Jvm.MethodName)) ∈ lw_w := mW 248 (by decide +kernel) (by decide +kernel)
theorem wV_X0_X0_upTo : (Jvm.Cond.selects "RunSorter" ({ cls := "RunSorter", name := "upTo", desc := "(IIZ)I" } : Jvm.MethodName) ({ cls := "RunSorter", name := "upTo", desc := "(IIZ)I" } : Jvm.MethodName)) ∈ lw_w := mW 249 (by decide +kernel) (by decide +kernel)
theorem wC_X0_upTo : (Jvm.Cond.code ({ cls := "RunSorter", name := "upTo", desc := "(IIZ)I" } : Jvm.MethodName) prog_1_method_9_code (7 : Nat) (Option.some Jvm.ClassFile.FieldType.int)) ∈ lw_w := mW 250 (by decide +kernel) (by decide +kernel)
theorem wK_L_X1 : (Jvm.Cond.classLink "RunSorterLaw" (42 : Nat) "RunSorterModel") ∈ lw_w := mW 251 (by decide +kernel) (by decide +kernel)
theorem wB_X1 : (Jvm.Cond.instantiable "RunSorterModel" (4 : Nat)) ∈ lw_w := mW 252 (by decide +kernel) (by decide +kernel)
theorem wM_L_X1_init : (Jvm.Cond.methodLink "RunSorterLaw" (44 : Nat) ({ cls := "RunSorterModel", name := "<init>", desc := "()V" } : Jvm.MethodName)) ∈ lw_w := mW 253 (by decide +kernel) (by decide +kernel)
theorem wI_X1_init : (Jvm.Cond.instanceMethod ({ cls := "RunSorterModel", name := "<init>", desc := "()V" } : Jvm.MethodName)) ∈ lw_w := mW 254 (by decide +kernel) (by decide +kernel)
theorem wC_X1_init : (Jvm.Cond.code ({ cls := "RunSorterModel", name := "<init>", desc := "()V" } : Jvm.MethodName) prog_3_method_1_code (1 : Nat) (Option.none : Option Jvm.ClassFile.FieldType)) ∈ lw_w := mW 255 (by decide +kernel) (by decide +kernel)
theorem wM_X1_Object_init : (Jvm.Cond.methodLink "RunSorterModel" (1 : Nat) ({ cls := "java/lang/Object", name := "<init>", desc := "()V" } : Jvm.MethodName)) ∈ lw_w := mW 256 (by decide +kernel) (by decide +kernel)
theorem wF_X1_failed : (Jvm.Cond.fieldLink "RunSorterModel" (16 : Nat) "RunSorterModel" "failed" "I") ∈ lw_w := mW 257 (by decide +kernel) (by decide +kernel)
theorem wF_X1_size : (Jvm.Cond.fieldLink "RunSorterModel" (21 : Nat) "RunSorterModel" "size" "I") ∈ lw_w := mW 258 (by decide +kernel) (by decide +kernel)
theorem wF_X1_row : (Jvm.Cond.fieldLink "RunSorterModel" (7 : Nat) "RunSorterModel" "row" "[I") ∈ lw_w := mW 259 (by decide +kernel) (by decide +kernel)
theorem wF_X1_tags : (Jvm.Cond.fieldLink "RunSorterModel" (13 : Nat) "RunSorterModel" "tags" "[I") ∈ lw_w := mW 260 (by decide +kernel) (by decide +kernel)
theorem wL_X1_X1_failed : (Jvm.Cond.lays "RunSorterModel" "RunSorterModel" "failed" "I") ∈ lw_w := mW 261 (by decide +kernel) (by decide +kernel)
theorem wsoleField_262 : (Jvm.Cond.soleField "RunSorterModel" "failed") ∈ lw_w := mW 262 (by decide +kernel) (by decide +kernel)
theorem wL_X1_X1_size : (Jvm.Cond.lays "RunSorterModel" "RunSorterModel" "size" "I") ∈ lw_w := mW 263 (by decide +kernel) (by decide +kernel)
theorem wsoleField_264 : (Jvm.Cond.soleField "RunSorterModel" "size") ∈ lw_w := mW 264 (by decide +kernel) (by decide +kernel)
theorem wL_X1_X1_row : (Jvm.Cond.laysFinal "RunSorterModel" "RunSorterModel" "row" "[I") ∈ lw_w := mW 265 (by decide +kernel) (by decide +kernel)
theorem wsoleField_266 : (Jvm.Cond.soleField "RunSorterModel" "row") ∈ lw_w := mW 266 (by decide +kernel) (by decide +kernel)
theorem wL_X1_X1_tags : (Jvm.Cond.laysFinal "RunSorterModel" "RunSorterModel" "tags" "[I") ∈ lw_w := mW 267 (by decide +kernel) (by decide +kernel)
theorem wsoleField_268 : (Jvm.Cond.soleField "RunSorterModel" "tags") ∈ lw_w := mW 268 (by decide +kernel) (by decide +kernel)
theorem wsuperclass_269 : (Jvm.Cond.superclass "RunSorterModel" "java/lang/Object") ∈ lw_w := mW 269 (by decide +kernel) (by decide +kernel)
theorem wM_L_X1_thrown : (Jvm.Cond.methodLink "RunSorterLaw" (51 : Nat) ({ cls := "RunSorterModel", name := "thrown", desc := "()I" } : Jvm.MethodName)) ∈ lw_w := mW 270 (by decide +kernel) (by decide +kernel)
theorem wI_X1_thrown : (Jvm.Cond.instanceMethod ({ cls := "RunSorterModel", name := "thrown", desc := "()I" } : Jvm.MethodName)) ∈ lw_w := mW 271 (by decide +kernel) (by decide +kernel)
theorem wV_X1_X1_thrown : (Jvm.Cond.selects "RunSorterModel" ({ cls := "RunSorterModel", name := "thrown", desc := "()I" } : Jvm.MethodName) ({ cls := "RunSorterModel", name := "thrown", desc := "()I" } : Jvm.MethodName)) ∈ lw_w := mW 272 (by decide +kernel) (by decide +kernel)
theorem wC_X1_thrown : (Jvm.Cond.code ({ cls := "RunSorterModel", name := "thrown", desc := "()I" } : Jvm.MethodName) prog_3_method_2_code (1 : Nat) (Option.some Jvm.ClassFile.FieldType.int)) ∈ lw_w := mW 273 (by decide +kernel) (by decide +kernel)
theorem wM_L_X1_fill : (Jvm.Cond.methodLink "RunSorterLaw" (50 : Nat) ({ cls := "RunSorterModel", name := "fill", desc := "(III)I" } : Jvm.MethodName)) ∈ lw_w := mW 274 (by decide +kernel) (by decide +kernel)
theorem wI_X1_fill : (Jvm.Cond.instanceMethod ({ cls := "RunSorterModel", name := "fill", desc := "(III)I" } : Jvm.MethodName)) ∈ lw_w := mW 275 (by decide +kernel) (by decide +kernel)
theorem wV_X1_X1_fill : (Jvm.Cond.selects "RunSorterModel" ({ cls := "RunSorterModel", name := "fill", desc := "(III)I" } : Jvm.MethodName) ({ cls := "RunSorterModel", name := "fill", desc := "(III)I" } : Jvm.MethodName)) ∈ lw_w := mW 276 (by decide +kernel) (by decide +kernel)
theorem wC_X1_fill : (Jvm.Cond.code ({ cls := "RunSorterModel", name := "fill", desc := "(III)I" } : Jvm.MethodName) prog_3_method_6_code (5 : Nat) (Option.some Jvm.ClassFile.FieldType.int)) ∈ lw_w := mW 277 (by decide +kernel) (by decide +kernel)
theorem wM_X1_X1_fail : (Jvm.Cond.methodLink "RunSorterModel" (24 : Nat) ({ cls := "RunSorterModel", name := "fail", desc := "(I)I" } : Jvm.MethodName)) ∈ lw_w := mW 278 (by decide +kernel) (by decide +kernel)
theorem wprivateMethod_279 : (Jvm.Cond.privateMethod ({ cls := "RunSorterModel", name := "fail", desc := "(I)I" } : Jvm.MethodName)) ∈ lw_tbl := mT 279 (by decide +kernel)
theorem wI_X1_fail : (Jvm.Cond.instanceMethod ({ cls := "RunSorterModel", name := "fail", desc := "(I)I" } : Jvm.MethodName)) ∈ lw_w := mW 280 (by decide +kernel) (by decide +kernel)
theorem wC_X1_fail : (Jvm.Cond.code ({ cls := "RunSorterModel", name := "fail", desc := "(I)I" } : Jvm.MethodName) prog_3_method_3_code (2 : Nat) (Option.some Jvm.ClassFile.FieldType.int)) ∈ lw_w := mW 281 (by decide +kernel) (by decide +kernel)
theorem wM_X1_X1_append : (Jvm.Cond.methodLink "RunSorterModel" (28 : Nat) ({ cls := "RunSorterModel", name := "append", desc := "(I)V" } : Jvm.MethodName)) ∈ lw_w := mW 282 (by decide +kernel) (by decide +kernel)
theorem wprivateMethod_283 : (Jvm.Cond.privateMethod ({ cls := "RunSorterModel", name := "append", desc := "(I)V" } : Jvm.MethodName)) ∈ lw_tbl := mT 283 (by decide +kernel)
theorem wI_X1_append : (Jvm.Cond.instanceMethod ({ cls := "RunSorterModel", name := "append", desc := "(I)V" } : Jvm.MethodName)) ∈ lw_w := mW 284 (by decide +kernel) (by decide +kernel)
theorem wC_X1_append : (Jvm.Cond.code ({ cls := "RunSorterModel", name := "append", desc := "(I)V" } : Jvm.MethodName) prog_3_method_5_code (2 : Nat) (Option.none : Option Jvm.ClassFile.FieldType)) ∈ lw_w := mW 285 (by decide +kernel) (by decide +kernel)
theorem wM_L_X1_scatter : (Jvm.Cond.methodLink "RunSorterLaw" (57 : Nat) ({ cls := "RunSorterModel", name := "scatter", desc := "(III)I" } : Jvm.MethodName)) ∈ lw_w := mW 286 (by decide +kernel) (by decide +kernel)
theorem wI_X1_scatter : (Jvm.Cond.instanceMethod ({ cls := "RunSorterModel", name := "scatter", desc := "(III)I" } : Jvm.MethodName)) ∈ lw_w := mW 287 (by decide +kernel) (by decide +kernel)
theorem wV_X1_X1_scatter : (Jvm.Cond.selects "RunSorterModel" ({ cls := "RunSorterModel", name := "scatter", desc := "(III)I" } : Jvm.MethodName) ({ cls := "RunSorterModel", name := "scatter", desc := "(III)I" } : Jvm.MethodName)) ∈ lw_w := mW 288 (by decide +kernel) (by decide +kernel)
theorem wC_X1_scatter : (Jvm.Cond.code ({ cls := "RunSorterModel", name := "scatter", desc := "(III)I" } : Jvm.MethodName) prog_3_method_7_code (6 : Nat) (Option.some Jvm.ClassFile.FieldType.int)) ∈ lw_w := mW 289 (by decide +kernel) (by decide +kernel)
theorem wQ_X1_32 : (Jvm.Cond.constant "RunSorterModel" (32 : Nat) (1664525 : Int32)) ∈ lw_w := mW 290 (by decide +kernel) (by decide +kernel)
theorem wQ_X1_33 : (Jvm.Cond.constant "RunSorterModel" (33 : Nat) (1013904223 : Int32)) ∈ lw_w := mW 291 (by decide +kernel) (by decide +kernel)
theorem wM_L_X1_sort : (Jvm.Cond.methodLink "RunSorterLaw" (60 : Nat) ({ cls := "RunSorterModel", name := "sort", desc := "(III)I" } : Jvm.MethodName)) ∈ lw_w := mW 292 (by decide +kernel) (by decide +kernel)
theorem wI_X1_sort : (Jvm.Cond.instanceMethod ({ cls := "RunSorterModel", name := "sort", desc := "(III)I" } : Jvm.MethodName)) ∈ lw_w := mW 293 (by decide +kernel) (by decide +kernel)
theorem wV_X1_X1_sort : (Jvm.Cond.selects "RunSorterModel" ({ cls := "RunSorterModel", name := "sort", desc := "(III)I" } : Jvm.MethodName) ({ cls := "RunSorterModel", name := "sort", desc := "(III)I" } : Jvm.MethodName)) ∈ lw_w := mW 294 (by decide +kernel) (by decide +kernel)
theorem wC_X1_sort : (Jvm.Cond.code ({ cls := "RunSorterModel", name := "sort", desc := "(III)I" } : Jvm.MethodName) prog_3_method_9_code (8 : Nat) (Option.some Jvm.ClassFile.FieldType.int)) ∈ lw_w := mW 295 (by decide +kernel) (by decide +kernel)
theorem wM_X1_X1_bad : (Jvm.Cond.methodLink "RunSorterModel" (34 : Nat) ({ cls := "RunSorterModel", name := "bad", desc := "(II)Z" } : Jvm.MethodName)) ∈ lw_w := mW 296 (by decide +kernel) (by decide +kernel)
theorem wprivateMethod_297 : (Jvm.Cond.privateMethod ({ cls := "RunSorterModel", name := "bad", desc := "(II)Z" } : Jvm.MethodName)) ∈ lw_tbl := mT 297 (by decide +kernel)
theorem wI_X1_bad : (Jvm.Cond.instanceMethod ({ cls := "RunSorterModel", name := "bad", desc := "(II)Z" } : Jvm.MethodName)) ∈ lw_w := mW 298 (by decide +kernel) (by decide +kernel)
theorem wC_X1_bad : (Jvm.Cond.code ({ cls := "RunSorterModel", name := "bad", desc := "(II)Z" } : Jvm.MethodName) prog_3_method_8_code (3 : Nat) (Option.some Jvm.ClassFile.FieldType.boolean)) ∈ lw_w := mW 299 (by decide +kernel) (by decide +kernel)
theorem wM_X1_X1_rank : (Jvm.Cond.methodLink "RunSorterModel" (38 : Nat) ({ cls := "RunSorterModel", name := "rank", desc := "(II)I" } : Jvm.MethodName)) ∈ lw_w := mW 300 (by decide +kernel) (by decide +kernel)
theorem wprivateMethod_301 : (Jvm.Cond.privateMethod ({ cls := "RunSorterModel", name := "rank", desc := "(II)I" } : Jvm.MethodName)) ∈ lw_tbl := mT 301 (by decide +kernel)
theorem wI_X1_rank : (Jvm.Cond.instanceMethod ({ cls := "RunSorterModel", name := "rank", desc := "(II)I" } : Jvm.MethodName)) ∈ lw_w := mW 302 (by decide +kernel) (by decide +kernel)
theorem wC_X1_rank : (Jvm.Cond.code ({ cls := "RunSorterModel", name := "rank", desc := "(II)I" } : Jvm.MethodName) prog_3_method_4_code (3 : Nat) (Option.some Jvm.ClassFile.FieldType.int)) ∈ lw_w := mW 303 (by decide +kernel) (by decide +kernel)
theorem wQ_X1_20 : (Jvm.Cond.constant "RunSorterModel" (20 : Nat) (-2147483648 : Int32)) ∈ lw_w := mW 304 (by decide +kernel) (by decide +kernel)
theorem wM_L_X1_get : (Jvm.Cond.methodLink "RunSorterLaw" (64 : Nat) ({ cls := "RunSorterModel", name := "get", desc := "(I)I" } : Jvm.MethodName)) ∈ lw_w := mW 305 (by decide +kernel) (by decide +kernel)
theorem wI_X1_get : (Jvm.Cond.instanceMethod ({ cls := "RunSorterModel", name := "get", desc := "(I)I" } : Jvm.MethodName)) ∈ lw_w := mW 306 (by decide +kernel) (by decide +kernel)
theorem wV_X1_X1_get : (Jvm.Cond.selects "RunSorterModel" ({ cls := "RunSorterModel", name := "get", desc := "(I)I" } : Jvm.MethodName) ({ cls := "RunSorterModel", name := "get", desc := "(I)I" } : Jvm.MethodName)) ∈ lw_w := mW 307 (by decide +kernel) (by decide +kernel)
theorem wC_X1_get : (Jvm.Cond.code ({ cls := "RunSorterModel", name := "get", desc := "(I)I" } : Jvm.MethodName) prog_3_method_10_code (2 : Nat) (Option.some Jvm.ClassFile.FieldType.int)) ∈ lw_w := mW 308 (by decide +kernel) (by decide +kernel)
theorem wM_L_X1_tag : (Jvm.Cond.methodLink "RunSorterLaw" (67 : Nat) ({ cls := "RunSorterModel", name := "tag", desc := "(I)I" } : Jvm.MethodName)) ∈ lw_w := mW 309 (by decide +kernel) (by decide +kernel)
theorem wI_X1_tag : (Jvm.Cond.instanceMethod ({ cls := "RunSorterModel", name := "tag", desc := "(I)I" } : Jvm.MethodName)) ∈ lw_w := mW 310 (by decide +kernel) (by decide +kernel)
theorem wV_X1_X1_tag : (Jvm.Cond.selects "RunSorterModel" ({ cls := "RunSorterModel", name := "tag", desc := "(I)I" } : Jvm.MethodName) ({ cls := "RunSorterModel", name := "tag", desc := "(I)I" } : Jvm.MethodName)) ∈ lw_w := mW 311 (by decide +kernel) (by decide +kernel)
theorem wC_X1_tag : (Jvm.Cond.code ({ cls := "RunSorterModel", name := "tag", desc := "(I)I" } : Jvm.MethodName) prog_3_method_11_code (2 : Nat) (Option.some Jvm.ClassFile.FieldType.int)) ∈ lw_w := mW 312 (by decide +kernel) (by decide +kernel)
theorem wM_L_X1_set : (Jvm.Cond.methodLink "RunSorterLaw" (71 : Nat) ({ cls := "RunSorterModel", name := "set", desc := "(II)I" } : Jvm.MethodName)) ∈ lw_w := mW 313 (by decide +kernel) (by decide +kernel)
theorem wI_X1_set : (Jvm.Cond.instanceMethod ({ cls := "RunSorterModel", name := "set", desc := "(II)I" } : Jvm.MethodName)) ∈ lw_w := mW 314 (by decide +kernel) (by decide +kernel)
theorem wV_X1_X1_set : (Jvm.Cond.selects "RunSorterModel" ({ cls := "RunSorterModel", name := "set", desc := "(II)I" } : Jvm.MethodName) ({ cls := "RunSorterModel", name := "set", desc := "(II)I" } : Jvm.MethodName)) ∈ lw_w := mW 315 (by decide +kernel) (by decide +kernel)
theorem wC_X1_set : (Jvm.Cond.code ({ cls := "RunSorterModel", name := "set", desc := "(II)I" } : Jvm.MethodName) prog_3_method_12_code (4 : Nat) (Option.some Jvm.ClassFile.FieldType.int)) ∈ lw_w := mW 316 (by decide +kernel) (by decide +kernel)
theorem wM_L_X1_turn : (Jvm.Cond.methodLink "RunSorterLaw" (74 : Nat) ({ cls := "RunSorterModel", name := "turn", desc := "(II)I" } : Jvm.MethodName)) ∈ lw_w := mW 317 (by decide +kernel) (by decide +kernel)
theorem wI_X1_turn : (Jvm.Cond.instanceMethod ({ cls := "RunSorterModel", name := "turn", desc := "(II)I" } : Jvm.MethodName)) ∈ lw_w := mW 318 (by decide +kernel) (by decide +kernel)
theorem wV_X1_X1_turn : (Jvm.Cond.selects "RunSorterModel" ({ cls := "RunSorterModel", name := "turn", desc := "(II)I" } : Jvm.MethodName) ({ cls := "RunSorterModel", name := "turn", desc := "(II)I" } : Jvm.MethodName)) ∈ lw_w := mW 319 (by decide +kernel) (by decide +kernel)
theorem wC_X1_turn : (Jvm.Cond.code ({ cls := "RunSorterModel", name := "turn", desc := "(II)I" } : Jvm.MethodName) prog_3_method_13_code (7 : Nat) (Option.some Jvm.ClassFile.FieldType.int)) ∈ lw_w := mW 320 (by decide +kernel) (by decide +kernel)
theorem wM_L_X1_upTo : (Jvm.Cond.methodLink "RunSorterLaw" (78 : Nat) ({ cls := "RunSorterModel", name := "upTo", desc := "(IIZ)I" } : Jvm.MethodName)) ∈ lw_w := mW 321 (by decide +kernel) (by decide +kernel)
theorem wI_X1_upTo : (Jvm.Cond.instanceMethod ({ cls := "RunSorterModel", name := "upTo", desc := "(IIZ)I" } : Jvm.MethodName)) ∈ lw_w := mW 322 (by decide +kernel) (by decide +kernel)
theorem wV_X1_X1_upTo : (Jvm.Cond.selects "RunSorterModel" ({ cls := "RunSorterModel", name := "upTo", desc := "(IIZ)I" } : Jvm.MethodName) ({ cls := "RunSorterModel", name := "upTo", desc := "(IIZ)I" } : Jvm.MethodName)) ∈ lw_w := mW 323 (by decide +kernel) (by decide +kernel)
theorem wC_X1_upTo : (Jvm.Cond.code ({ cls := "RunSorterModel", name := "upTo", desc := "(IIZ)I" } : Jvm.MethodName) prog_3_method_14_code (5 : Nat) (Option.some Jvm.ClassFile.FieldType.int)) ∈ lw_w := mW 324 (by decide +kernel) (by decide +kernel)
theorem wM_L_X1_clear : (Jvm.Cond.methodLink "RunSorterLaw" (82 : Nat) ({ cls := "RunSorterModel", name := "clear", desc := "()I" } : Jvm.MethodName)) ∈ lw_w := mW 325 (by decide +kernel) (by decide +kernel)
theorem wI_X1_clear : (Jvm.Cond.instanceMethod ({ cls := "RunSorterModel", name := "clear", desc := "()I" } : Jvm.MethodName)) ∈ lw_w := mW 326 (by decide +kernel) (by decide +kernel)
theorem wV_X1_X1_clear : (Jvm.Cond.selects "RunSorterModel" ({ cls := "RunSorterModel", name := "clear", desc := "()I" } : Jvm.MethodName) ({ cls := "RunSorterModel", name := "clear", desc := "()I" } : Jvm.MethodName)) ∈ lw_w := mW 327 (by decide +kernel) (by decide +kernel)
theorem wC_X1_clear : (Jvm.Cond.code ({ cls := "RunSorterModel", name := "clear", desc := "()I" } : Jvm.MethodName) prog_3_method_15_code (2 : Nat) (Option.some Jvm.ClassFile.FieldType.int)) ∈ lw_w := mW 328 (by decide +kernel) (by decide +kernel)
theorem wM_L_X1_hash : (Jvm.Cond.methodLink "RunSorterLaw" (86 : Nat) ({ cls := "RunSorterModel", name := "hash", desc := "()I" } : Jvm.MethodName)) ∈ lw_w := mW 329 (by decide +kernel) (by decide +kernel)
theorem wI_X1_hash : (Jvm.Cond.instanceMethod ({ cls := "RunSorterModel", name := "hash", desc := "()I" } : Jvm.MethodName)) ∈ lw_w := mW 330 (by decide +kernel) (by decide +kernel)
theorem wV_X1_X1_hash : (Jvm.Cond.selects "RunSorterModel" ({ cls := "RunSorterModel", name := "hash", desc := "()I" } : Jvm.MethodName) ({ cls := "RunSorterModel", name := "hash", desc := "()I" } : Jvm.MethodName)) ∈ lw_w := mW 331 (by decide +kernel) (by decide +kernel)
theorem wC_X1_hash : (Jvm.Cond.code ({ cls := "RunSorterModel", name := "hash", desc := "()I" } : Jvm.MethodName) prog_3_method_16_code (3 : Nat) (Option.some Jvm.ClassFile.FieldType.int)) ∈ lw_w := mW 332 (by decide +kernel) (by decide +kernel)
theorem wA_long : (Jvm.Cond.arrayClass Jvm.ClassFile.FieldType.long) ∈ lw_w := mW 333 (by decide +kernel) (by decide +kernel)
theorem wsameMethod_334 : (Jvm.Cond.sameMethod "java/lang/Throwable" "java/lang/Throwable" "fillInStackTrace" "(I)Ljava/lang/Throwable;") ∈ lw_w := mW 334 (by decide +kernel) (by decide +kernel)
theorem in_X0 : ∀ w ∈ wsX00, w ∈ lw_w := fun w h => List.mem_filter.mpr ⟨(by decide +kernel : ∀ w ∈ wsX00, w ∈ lw_tbl) w h, (by decide +kernel : ∀ w ∈ wsX00, goodWord w = true) w h⟩
theorem in_X1 : ∀ w ∈ wsX10, w ∈ lw_w := fun w h => List.mem_filter.mpr ⟨(by decide +kernel : ∀ w ∈ wsX10, w ∈ lw_tbl) w h, (by decide +kernel : ∀ w ∈ wsX10, goodWord w = true) w h⟩
end
section
/-! Pure rows: the four orders, parts of a row as lists, what a stable sort is and that it is one. -/
def rs_rk (o x : Int32) : Int32 := if o = 1 then x ^^^ (-1) else if o = 2 then x &&& 15 else if o = 3 then x ^^^ (-2147483648) else x
/-- n of the row from a on, each with its tag -/
def rs_sg (f g : Nat → Int32) (a : Nat) : Nat → List (Int32 × Int32)
  | 0 => []
  | n + 1 => (f a, g a) :: rs_sg f g (a + 1) n
def rs_So (o : Int32) (L : List (Int32 × Int32)) : Prop := L.Pairwise (fun p q => rs_rk o p.1 ≤ rs_rk o q.1)
def rs_kf (o k : Int32) : List (Int32 × Int32) → List (Int32 × Int32)
  | [] => []
  | p :: L => if rs_rk o p.1 = k then p :: rs_kf o k L else rs_kf o k L
theorem rs_le_rf (x : Int32) : x ≤ x := by rw [Int32.le_iff_toInt_le]; omega
theorem rs_le_tr {x y z : Int32} (h : x ≤ y) (h2 : y ≤ z) : x ≤ z := by
  rw [Int32.le_iff_toInt_le] at *; omega
theorem rs_lt_le {x y : Int32} (h : x < y) : x ≤ y := by
  rw [Int32.lt_iff_toInt_lt] at h; rw [Int32.le_iff_toInt_le]; omega
theorem rs_nlt {x y : Int32} (h : ¬ x < y) : y ≤ x := by
  rw [Int32.lt_iff_toInt_lt] at h; rw [Int32.le_iff_toInt_le]; omega
theorem rs_lt_nle {x y : Int32} (h : x < y) : ¬ y ≤ x := by
  rw [Int32.lt_iff_toInt_lt] at h; rw [Int32.le_iff_toInt_le]; omega
theorem rs_nle {x y : Int32} (h : ¬ x ≤ y) : y < x := by
  rw [Int32.le_iff_toInt_le] at h; rw [Int32.lt_iff_toInt_lt]; omega
theorem rs_lt_ne {x y : Int32} (h : x < y) : x ≠ y := by
  intro q; subst q; rw [Int32.lt_iff_toInt_lt] at h; omega
theorem rs_le_as {x y : Int32} (h : x ≤ y) (h2 : y ≤ x) : x = y := by
  rw [Int32.le_iff_toInt_le] at *
  exact Int32.toInt_inj.mp (by omega)
theorem rs_lt_of {x y z : Int32} (h : x < y) (h2 : y ≤ z) : x < z := by
  rw [Int32.lt_iff_toInt_lt] at *; rw [Int32.le_iff_toInt_le] at h2; omega
theorem rs_sg_len (f g : Nat → Int32) : ∀ (n a : Nat), (rs_sg f g a n).length = n
  | 0, _ => rfl
  | n + 1, a => by rw [rs_sg, List.length_cons, rs_sg_len f g n (a + 1)]
theorem rs_sg_eq {f g f' g' : Nat → Int32} : ∀ (n a b : Nat), (∀ j, j < n → f' (b + j) = f (a + j) ∧ g' (b + j) = g (a + j)) → rs_sg f' g' b n = rs_sg f g a n
  | 0, _, _, _ => rfl
  | n + 1, a, b, h => by
    have h0 := h 0 (by omega)
    simp only [Nat.add_zero] at h0
    rw [rs_sg, rs_sg, h0.1, h0.2, rs_sg_eq n (a + 1) (b + 1) (fun j hj => by
      have h1 := h (j + 1) (by omega)
      rw [show b + 1 + j = b + (j + 1) by omega, show a + 1 + j = a + (j + 1) by omega]
      exact h1)]
theorem rs_sg_cg {f g f' g' : Nat → Int32} {a n : Nat} (h : ∀ j, a ≤ j → j < a + n → f' j = f j ∧ g' j = g j) : rs_sg f' g' a n = rs_sg f g a n :=
  rs_sg_eq n a a (fun j hj => h (a + j) (by omega) (by omega))
theorem rs_sg_app (f g : Nat → Int32) : ∀ (m n a : Nat), rs_sg f g a (m + n) = rs_sg f g a m ++ rs_sg f g (a + m) n
  | 0, n, a => by simp [rs_sg]
  | m + 1, n, a => by
    rw [show m + 1 + n = (m + n) + 1 by omega, rs_sg, rs_sg, rs_sg_app f g m n (a + 1), show a + 1 + m = a + (m + 1) by omega]
    rfl
theorem rs_sg_cut (f g : Nat → Int32) {a b c : Nat} (h : a ≤ b) (h2 : b ≤ c) : rs_sg f g a (c - a) = rs_sg f g a (b - a) ++ rs_sg f g b (c - b) := by
  have e := rs_sg_app f g (b - a) (c - b) a
  rw [show b - a + (c - b) = c - a by omega, show a + (b - a) = b by omega] at e
  exact e
theorem rs_sg_hd (f g : Nat → Int32) {a b : Nat} (h : a < b) : rs_sg f g a (b - a) = (f a, g a) :: rs_sg f g (a + 1) (b - (a + 1)) := by
  rw [show b - a = (b - (a + 1)) + 1 by omega, rs_sg]
theorem rs_sg_tl (f g : Nat → Int32) {a b : Nat} (h : a ≤ b) : rs_sg f g a (b + 1 - a) = rs_sg f g a (b - a) ++ [(f b, g b)] := by
  rw [rs_sg_cut f g h (show b ≤ b + 1 by omega), show b + 1 - b = 0 + 1 by omega, rs_sg, rs_sg]
theorem rs_sg_inj {f g f' g' : Nat → Int32} : ∀ (n a : Nat), rs_sg f g a n = rs_sg f' g' a n → ∀ j, a ≤ j → j < a + n → f j = f' j ∧ g j = g' j
  | 0, a, _, j, h1, h2 => by omega
  | n + 1, a, h, j, h1, h2 => by
    rw [rs_sg, rs_sg] at h
    obtain ⟨e1, e2⟩ := List.cons.inj h
    by_cases hj : j = a
    · subst hj
      exact ⟨congrArg Prod.fst e1, congrArg Prod.snd e1⟩
    · exact rs_sg_inj n (a + 1) e2 j (by omega) (by omega)
theorem rs_sg_mem {f g : Nat → Int32} : ∀ {n a : Nat} {p : Int32 × Int32}, p ∈ rs_sg f g a n → ∃ j, a ≤ j ∧ j < a + n ∧ p = (f j, g j)
  | 0, _, _, h => by cases h
  | n + 1, a, p, h => by
    rw [rs_sg] at h
    rcases List.mem_cons.mp h with h | h
    · exact ⟨a, by omega, by omega, h⟩
    · obtain ⟨j, h1, h2, h3⟩ := rs_sg_mem h
      exact ⟨j, by omega, by omega, h3⟩
theorem rs_sg_in (f g : Nat → Int32) : ∀ {n a j : Nat}, a ≤ j → j < a + n → (f j, g j) ∈ rs_sg f g a n
  | 0, _, _, h1, h2 => by omega
  | n + 1, a, j, h1, h2 => by
    rw [rs_sg]
    by_cases hj : j = a
    · subst hj; exact List.mem_cons_self
    · exact List.mem_cons_of_mem _ (rs_sg_in f g (by omega) (by omega))
theorem rs_kf_app (o k : Int32) : ∀ (L M : List (Int32 × Int32)), rs_kf o k (L ++ M) = rs_kf o k L ++ rs_kf o k M
  | [], M => rfl
  | p :: L, M => by
    rw [List.cons_append, rs_kf, rs_kf, rs_kf_app o k L M]
    split <;> rfl
theorem rs_kf_mem {o k : Int32} : ∀ {L : List (Int32 × Int32)} {p : Int32 × Int32}, p ∈ rs_kf o k L → p ∈ L ∧ rs_rk o p.1 = k
  | [], _, h => by cases h
  | q :: L, p, h => by
    rw [rs_kf] at h
    split at h
    · rename_i hq
      rcases List.mem_cons.mp h with h | h
      · subst h; exact ⟨List.mem_cons_self, hq⟩
      · exact ⟨List.mem_cons_of_mem _ (rs_kf_mem h).1, (rs_kf_mem h).2⟩
    · exact ⟨List.mem_cons_of_mem _ (rs_kf_mem h).1, (rs_kf_mem h).2⟩
theorem rs_kf_nil {o k : Int32} : ∀ {L : List (Int32 × Int32)}, (∀ p ∈ L, rs_rk o p.1 ≠ k) → rs_kf o k L = []
  | [], _ => rfl
  | q :: L, h => by
    rw [rs_kf, if_neg (h q List.mem_cons_self)]
    exact rs_kf_nil (fun p hp => h p (List.mem_cons_of_mem _ hp))
/-- a sorted list is known by what it holds of each rank, in order -/
theorem rs_uniq {o : Int32} : ∀ (L M : List (Int32 × Int32)), rs_So o L → rs_So o M → (∀ k, rs_kf o k L = rs_kf o k M) → L = M
  | [], [], _, _, _ => rfl
  | [], b :: u, _, _, h => by
    have h1 := h (rs_rk o b.1)
    rw [rs_kf, rs_kf, if_pos rfl] at h1
    cases h1
  | a :: t, [], _, _, h => by
    have h1 := h (rs_rk o a.1)
    rw [rs_kf, rs_kf, if_pos rfl] at h1
    cases h1
  | a :: t, b :: u, hs, hu, h => by
    have ha : a ∈ b :: u := by
      have h1 := h (rs_rk o a.1)
      rw [rs_kf, if_pos rfl] at h1
      exact (rs_kf_mem (o := o) (k := rs_rk o a.1) (by rw [← h1]; exact List.mem_cons_self)).1
    have hb : b ∈ a :: t := by
      have h1 := h (rs_rk o b.1)
      rw [rs_kf.eq_def o _ (b :: u)] at h1
      simp only [if_true] at h1
      exact (rs_kf_mem (o := o) (k := rs_rk o b.1) (by rw [h1]; exact List.mem_cons_self)).1
    have l1 : rs_rk o b.1 ≤ rs_rk o a.1 := by
      rcases List.mem_cons.mp ha with q | q
      · rw [q]; exact rs_le_rf _
      · exact (List.pairwise_cons.mp hu).1 a q
    have l2 : rs_rk o a.1 ≤ rs_rk o b.1 := by
      rcases List.mem_cons.mp hb with q | q
      · rw [q]; exact rs_le_rf _
      · exact (List.pairwise_cons.mp hs).1 b q
    have e := rs_le_as l1 l2
    have hk := h (rs_rk o a.1)
    rw [rs_kf, rs_kf, if_pos rfl, if_pos e] at hk
    have hab := (List.cons.inj hk).1
    subst hab
    rw [rs_uniq t u (List.pairwise_cons.mp hs).2 (List.pairwise_cons.mp hu).2 (fun k => by
      have hk := h k
      rw [rs_kf, rs_kf] at hk
      split at hk
      · exact (List.cons.inj hk).2
      · exact hk)]
/-- a part of the row is moved about, each rank's own in their order; the rest stays -/
def rs_Mv (o : Int32) (a b : Nat) (f g f' g' : Nat → Int32) : Prop := (∀ j, j < a ∨ b ≤ j → f' j = f j ∧ g' j = g j) ∧ ∀ k, rs_kf o k (rs_sg f' g' a (b - a)) = rs_kf o k (rs_sg f g a (b - a))
def rs_St (o : Int32) (a b : Nat) (f g f' g' : Nat → Int32) : Prop := rs_Mv o a b f g f' g' ∧ rs_So o (rs_sg f' g' a (b - a))
theorem rs_Mv.rf {o : Int32} {a b : Nat} {f g : Nat → Int32} : rs_Mv o a b f g f g := ⟨fun _ _ => ⟨rfl, rfl⟩, fun _ => rfl⟩
theorem rs_Mv.tr {o : Int32} {a b : Nat} {f g f' g' f2 g2 : Nat → Int32} (h : rs_Mv o a b f g f' g') (h2 : rs_Mv o a b f' g' f2 g2) : rs_Mv o a b f g f2 g2 :=
  ⟨fun j hj => ⟨(h2.1 j hj).1.trans (h.1 j hj).1, (h2.1 j hj).2.trans (h.1 j hj).2⟩, fun k => (h2.2 k).trans (h.2 k)⟩
theorem rs_Mv.wide {o : Int32} {a b c d : Nat} {f g f' g' : Nat → Int32} (h : rs_Mv o b c f g f' g') (h1 : a ≤ b) (h2 : b ≤ c) (h3 : c ≤ d) : rs_Mv o a d f g f' g' := by
  refine ⟨fun j hj => h.1 j (by omega), fun k => ?_⟩
  rw [rs_sg_cut f' g' h1 (Nat.le_trans h2 h3), rs_sg_cut f' g' h2 h3, rs_sg_cut f g h1 (Nat.le_trans h2 h3), rs_sg_cut f g h2 h3, rs_kf_app, rs_kf_app, rs_kf_app, rs_kf_app, h.2 k,
    rs_sg_cg (f' := f') (g' := g') (f := f) (g := g) (a := a) (n := b - a) (fun j h5 h6 => h.1 j (by omega)), rs_sg_cg (f' := f') (g' := g') (f := f) (g := g) (a := c) (n := d - c) (fun j h5 h6 => h.1 j (by omega))]
theorem rs_St.one {o : Int32} {a b : Nat} {f g f' g' f2 g2 : Nat → Int32} (h : rs_St o a b f g f' g') (h2 : rs_St o a b f g f2 g2) : f' = f2 ∧ g' = g2 := by
  have e := rs_uniq _ _ h.2 h2.2 (fun k => (h.1.2 k).trans (h2.1.2 k).symm)
  have key : ∀ j, f' j = f2 j ∧ g' j = g2 j := by
    intro j
    by_cases hj : j < a ∨ b ≤ j
    · exact ⟨(h.1.1 j hj).1.trans (h2.1.1 j hj).1.symm, (h.1.1 j hj).2.trans (h2.1.1 j hj).2.symm⟩
    · exact rs_sg_inj _ _ e j (by omega) (by omega)
  exact ⟨funext fun j => (key j).1, funext fun j => (key j).2⟩
theorem rs_So.nil {o : Int32} : rs_So o [] := List.Pairwise.nil
theorem rs_So.app {o : Int32} {L M : List (Int32 × Int32)} : rs_So o (L ++ M) ↔ rs_So o L ∧ rs_So o M ∧ ∀ p ∈ L, ∀ q ∈ M, rs_rk o p.1 ≤ rs_rk o q.1 := List.pairwise_append
theorem rs_So.cons {o : Int32} {p : Int32 × Int32} {M : List (Int32 × Int32)} : rs_So o (p :: M) ↔ (∀ q ∈ M, rs_rk o p.1 ≤ rs_rk o q.1) ∧ rs_So o M := List.pairwise_cons
theorem rs_So.one {o : Int32} {p : Int32 × Int32} : rs_So o [p] := rs_So.cons.mpr ⟨fun q h => absurd h List.not_mem_nil, rs_So.nil⟩
/-- a run goes on by one -/
theorem rs_So.more {o : Int32} {f g : Nat → Int32} {a b : Nat} (h : rs_So o (rs_sg f g a (b - a))) (hab : a < b) (hle : rs_rk o (f (b - 1)) ≤ rs_rk o (f b)) : rs_So o (rs_sg f g a (b + 1 - a)) := by
  rw [rs_sg_tl f g (Nat.le_of_lt hab)]
  refine rs_So.app.mpr ⟨h, rs_So.one, fun p hp q hq => ?_⟩
  rcases List.mem_cons.mp hq with rfl | hq
  · have e : b - a = (b - 1) + 1 - a := by omega
    rw [e, rs_sg_tl f g (show a ≤ b - 1 by omega)] at h hp
    rcases List.mem_append.mp hp with hp | hp
    · exact rs_le_tr ((rs_So.app.mp h).2.2 p hp _ List.mem_cons_self) hle
    · rcases List.mem_cons.mp hp with rfl | hp
      · exact hle
      · cases hp
  · cases hq
theorem rs_So.start {o : Int32} {f g : Nat → Int32} {a : Nat} : rs_So o (rs_sg f g a (a + 1 - a)) := by
  rw [show a + 1 - a = 0 + 1 by omega, rs_sg, rs_sg]
  exact rs_So.one
end
section
/-! Pure rows: one insertion; one merge; the runs. -/
theorem rs_ins {o : Int32} {a j k : Nat} {f g f' g' : Nat → Int32} (h1 : a ≤ j) (h2 : j ≤ k) (hs : rs_So o (rs_sg f g a (k - a))) (hgt : ∀ i, j ≤ i → i < k → rs_rk o (f k) < rs_rk o (f i)) (hle : j = a ∨ rs_rk o (f (j - 1)) ≤ rs_rk o (f k))
    (hf : ∀ i, f' i = if i = j then f k else if j < i ∧ i ≤ k then f (i - 1) else f i) (hg : ∀ i, g' i = if i = j then g k else if j < i ∧ i ≤ k then g (i - 1) else g i) : rs_St o a (k + 1) f g f' g' := by
  have eA : rs_sg f' g' a (j - a) = rs_sg f g a (j - a) := rs_sg_cg (fun i h3 h4 => ⟨by rw [hf, if_neg (by omega), if_neg (by omega)], by rw [hg, if_neg (by omega), if_neg (by omega)]⟩)
  have eB : rs_sg f' g' (j + 1) (k - j) = rs_sg f g j (k - j) := rs_sg_eq (k - j) j (j + 1) (fun i hi => ⟨by rw [hf, if_neg (by omega), if_pos (by omega), show j + 1 + i - 1 = j + i by omega], by rw [hg, if_neg (by omega), if_pos (by omega), show j + 1 + i - 1 = j + i by omega]⟩)
  have e' : rs_sg f' g' a (k + 1 - a) = rs_sg f g a (j - a) ++ (f k, g k) :: rs_sg f g j (k - j) := by
    rw [rs_sg_cut f' g' h1 (show j ≤ k + 1 by omega), eA, rs_sg_hd f' g' (show j < k + 1 by omega), show k + 1 - (j + 1) = k - j by omega, eB, hf j, if_pos rfl, hg j, if_pos rfl]
  have e : rs_sg f g a (k + 1 - a) = rs_sg f g a (j - a) ++ (rs_sg f g j (k - j) ++ [(f k, g k)]) := by
    rw [rs_sg_tl f g (Nat.le_trans h1 h2), rs_sg_cut f g h1 h2, List.append_assoc]
  have hgt' : ∀ p ∈ rs_sg f g j (k - j), rs_rk o (f k) < rs_rk o p.1 := by
    intro p hp
    obtain ⟨i, h3, h4, rfl⟩ := rs_sg_mem hp
    exact hgt i h3 (by omega)
  rw [rs_sg_cut f g h1 h2] at hs
  obtain ⟨s1, s2, s3⟩ := rs_So.app.mp hs
  refine ⟨⟨fun i hi => ⟨by rw [hf, if_neg (by omega), if_neg (by omega)], by rw [hg, if_neg (by omega), if_neg (by omega)]⟩, fun q => ?_⟩, ?_⟩
  · rw [e', e, rs_kf_app, rs_kf_app, rs_kf_app, rs_kf, rs_kf, rs_kf]
    split
    · rename_i hq
      rw [rs_kf_nil (L := rs_sg f g j (k - j)) (fun p hp h5 => rs_lt_ne (hgt' p hp) (hq.trans h5.symm))]
      rfl
    · rw [List.append_nil]
  · rw [e']
    refine rs_So.app.mpr ⟨s1, rs_So.cons.mpr ⟨fun q hq => rs_lt_le (hgt' q hq), s2⟩, fun p hp q hq => ?_⟩
    have hpk : rs_rk o p.1 ≤ rs_rk o (f k) := by
      rcases hle with hle | hle
      · rw [hle, Nat.sub_self] at hp
        cases hp
      · by_cases hja : j = a
        · rw [hja, Nat.sub_self] at hp
          cases hp
        · have e2 : j - a = (j - 1) + 1 - a := by omega
          rw [e2, rs_sg_tl f g (show a ≤ j - 1 by omega)] at hp s1
          rcases List.mem_append.mp hp with hp | hp
          · exact rs_le_tr ((rs_So.app.mp s1).2.2 p hp _ List.mem_cons_self) hle
          · rcases List.mem_cons.mp hp with rfl | hp
            · exact hle
            · cases hp
    rcases List.mem_cons.mp hq with rfl | hq
    · exact hpk
    · exact rs_le_tr hpk (rs_lt_le (hgt' q hq))
/-- a sorted part, longer by one -/
theorem rs_St.step {o : Int32} {a k : Nat} {f0 g0 f g f' g' : Nat → Int32} (hak : a ≤ k) (h : rs_St o a k f0 g0 f g) (h2 : rs_St o a (k + 1) f g f' g') : rs_St o a (k + 1) f0 g0 f' g' :=
  ⟨(h.1.wide (Nat.le_refl a) hak (Nat.le_succ k)).tr h2.1, h2.2⟩
theorem rs_St.zero {o : Int32} {a b : Nat} {f g : Nat → Int32} (h : b ≤ a + 1) : rs_St o a b f g f g := by
  refine ⟨rs_Mv.rf, ?_⟩
  rcases (show b - a = 0 ∨ b - a = 1 by omega) with e | e
  · rw [e]; exact rs_So.nil
  · rw [e]; exact rs_So.one
/-- the middle of a merge: fi of the first run's (they lie in sf, sg) and those up to se of the second run's are laid, up to pl -/
def rs_MI (o : Int32) (st mi en : Nat) (f0 g0 : Nat → Int32) (fi se pl : Nat) (f g sf sg : Nat → Int32) : Prop :=
  (st ≤ mi ∧ mi ≤ en ∧ fi ≤ mi - st ∧ mi ≤ se ∧ se ≤ en ∧ pl + (mi - st - fi) = se) ∧
  (∀ j, j < st ∨ en ≤ j → f j = f0 j ∧ g j = g0 j) ∧
  rs_So o (rs_sg f g st (pl - st)) ∧ rs_So o (rs_sg sf sg fi (mi - st - fi)) ∧ rs_So o (rs_sg f g se (en - se)) ∧
  (∀ p ∈ rs_sg f g st (pl - st), ∀ q ∈ rs_sg sf sg fi (mi - st - fi), rs_rk o p.1 ≤ rs_rk o q.1) ∧ (∀ p ∈ rs_sg f g st (pl - st), ∀ q ∈ rs_sg f g se (en - se), rs_rk o p.1 ≤ rs_rk o q.1) ∧
  ∀ k, rs_kf o k (rs_sg f g st (pl - st)) ++ (rs_kf o k (rs_sg sf sg fi (mi - st - fi)) ++ rs_kf o k (rs_sg f g se (en - se))) = rs_kf o k (rs_sg f0 g0 st (en - st))
theorem rs_MI.init {o : Int32} {st mi en : Nat} {f g sf sg : Nat → Int32} (h1 : st ≤ mi) (h2 : mi ≤ en) (hs1 : rs_So o (rs_sg f g st (mi - st))) (hs2 : rs_So o (rs_sg f g mi (en - mi))) (hc : ∀ j, j < mi - st → sf j = f (st + j) ∧ sg j = g (st + j)) : rs_MI o st mi en f g 0 mi st f g sf sg := by
  have e : rs_sg sf sg 0 (mi - st - 0) = rs_sg f g st (mi - st) := by
    rw [Nat.sub_zero]
    exact rs_sg_eq (mi - st) st 0 (fun j hj => by rw [Nat.zero_add]; exact hc j hj)
  refine ⟨⟨h1, h2, by omega, by omega, h2, by omega⟩, fun _ _ => ⟨rfl, rfl⟩, ?_, ?_, hs2, ?_, ?_, ?_⟩
  · rw [Nat.sub_self]; exact rs_So.nil
  · rw [e]; exact hs1
  · rw [Nat.sub_self]; intro p hp; cases hp
  · rw [Nat.sub_self]; intro p hp; cases hp
  · intro k
    rw [Nat.sub_self, e, rs_sg_cut f g h1 h2, rs_kf_app]
    rfl
theorem rs_MI.lt {o : Int32} {st mi en : Nat} {f0 g0 : Nat → Int32} {fi se pl : Nat} {f g sf sg : Nat → Int32} (h : rs_MI o st mi en f0 g0 fi se pl f g sf sg) (hf : fi < mi - st) : pl < se ∧ st ≤ pl ∧ pl < en := by
  obtain ⟨⟨a1, a2, a3, a4, a5, a6⟩, -⟩ := h
  omega
/-- the second run's next is laid -/
theorem rs_MI.two {o : Int32} {st mi en : Nat} {f0 g0 : Nat → Int32} {fi se pl : Nat} {f g sf sg : Nat → Int32} (h : rs_MI o st mi en f0 g0 fi se pl f g sf sg) (hf : fi < mi - st) (hse : se < en) (hlt : rs_rk o (f se) < rs_rk o (sf fi)) :
    rs_MI o st mi en f0 g0 fi (se + 1) (pl + 1) (upd f pl (f se)) (upd g pl (g se)) sf sg := by
  obtain ⟨b1, b2, b3⟩ := h.lt hf
  obtain ⟨⟨a1, a2, a3, a4, a5, a6⟩, ho, s1, s2, s3, l1, l2, hk⟩ := h
  have eO : rs_sg (upd f pl (f se)) (upd g pl (g se)) st (pl + 1 - st) = rs_sg f g st (pl - st) ++ [(f se, g se)] := by
    rw [rs_sg_tl _ _ b2, rs_sg_cg (f := f) (g := g) (fun j h1 h2 => ⟨pk_un (by omega), pk_un (by omega)⟩), pk_us, pk_us]
  have eB : rs_sg (upd f pl (f se)) (upd g pl (g se)) (se + 1) (en - (se + 1)) = rs_sg f g (se + 1) (en - (se + 1)) := rs_sg_cg (fun j h1 h2 => ⟨pk_un (by omega), pk_un (by omega)⟩)
  rw [rs_sg_hd f g hse] at s3 l2
  have hA : ∀ q ∈ rs_sg sf sg fi (mi - st - fi), rs_rk o (f se) < rs_rk o q.1 := by
    rw [show mi - st - fi = mi - st - fi from rfl, rs_sg_hd sf sg hf] at s2 ⊢
    intro q hq
    rcases List.mem_cons.mp hq with rfl | hq
    · exact hlt
    · exact rs_lt_of hlt ((rs_So.cons.mp s2).1 q hq)
  refine ⟨⟨a1, a2, a3, by omega, by omega, by omega⟩, fun j hj => ⟨(pk_un (by omega)).trans (ho j hj).1, (pk_un (by omega)).trans (ho j hj).2⟩, ?_, s2, ?_, ?_, ?_, ?_⟩
  · rw [eO]
    refine rs_So.app.mpr ⟨s1, rs_So.one, fun p hp q hq => ?_⟩
    rcases List.mem_cons.mp hq with rfl | hq
    · exact l2 p hp _ List.mem_cons_self
    · cases hq
  · rw [eB]; exact (rs_So.cons.mp s3).2
  · rw [eO]
    intro p hp q hq
    rcases List.mem_append.mp hp with hp | hp
    · exact l1 p hp q hq
    · rcases List.mem_cons.mp hp with rfl | hp
      · exact rs_lt_le (hA q hq)
      · cases hp
  · rw [eO, eB]
    intro p hp q hq
    rcases List.mem_append.mp hp with hp | hp
    · exact l2 p hp q (List.mem_cons_of_mem _ hq)
    · rcases List.mem_cons.mp hp with rfl | hp
      · exact (rs_So.cons.mp s3).1 q hq
      · cases hp
  · intro k
    rw [eO, eB, rs_kf_app, ← hk k, rs_sg_hd f g hse, rs_kf, rs_kf, rs_kf]
    split
    · rename_i hq
      rw [rs_kf_nil (L := rs_sg sf sg fi (mi - st - fi)) (fun p hp h5 => rs_lt_ne (hA p hp) (hq.trans h5.symm))]
      simp
    · simp
/-- the first run's next is laid -/
theorem rs_MI.one {o : Int32} {st mi en : Nat} {f0 g0 : Nat → Int32} {fi se pl : Nat} {f g sf sg : Nat → Int32} (h : rs_MI o st mi en f0 g0 fi se pl f g sf sg) (hf : fi < mi - st) (hle : se = en ∨ rs_rk o (sf fi) ≤ rs_rk o (f se)) :
    rs_MI o st mi en f0 g0 (fi + 1) se (pl + 1) (upd f pl (sf fi)) (upd g pl (sg fi)) sf sg := by
  obtain ⟨b1, b2, b3⟩ := h.lt hf
  obtain ⟨⟨a1, a2, a3, a4, a5, a6⟩, ho, s1, s2, s3, l1, l2, hk⟩ := h
  have eO : rs_sg (upd f pl (sf fi)) (upd g pl (sg fi)) st (pl + 1 - st) = rs_sg f g st (pl - st) ++ [(sf fi, sg fi)] := by
    rw [rs_sg_tl _ _ b2, rs_sg_cg (f := f) (g := g) (fun j h1 h2 => ⟨pk_un (by omega), pk_un (by omega)⟩), pk_us, pk_us]
  have eB : rs_sg (upd f pl (sf fi)) (upd g pl (sg fi)) se (en - se) = rs_sg f g se (en - se) := rs_sg_cg (fun j h1 h2 => ⟨pk_un (by omega), pk_un (by omega)⟩)
  have eA := rs_sg_hd sf sg hf
  rw [eA] at s2 l1
  have hB : ∀ q ∈ rs_sg f g se (en - se), rs_rk o (sf fi) ≤ rs_rk o q.1 := by
    intro q hq
    rcases hle with hle | hle
    · rw [hle, Nat.sub_self] at hq; cases hq
    · by_cases hz : se = en
      · rw [hz, Nat.sub_self] at hq; cases hq
      · rw [rs_sg_hd f g (show se < en by omega)] at hq s3
        rcases List.mem_cons.mp hq with rfl | hq
        · exact hle
        · exact rs_le_tr hle ((rs_So.cons.mp s3).1 q hq)
  refine ⟨⟨a1, a2, by omega, a4, a5, by omega⟩, fun j hj => ⟨(pk_un (by omega)).trans (ho j hj).1, (pk_un (by omega)).trans (ho j hj).2⟩, ?_, ?_, ?_, ?_, ?_, ?_⟩
  · rw [eO]
    refine rs_So.app.mpr ⟨s1, rs_So.one, fun p hp q hq => ?_⟩
    rcases List.mem_cons.mp hq with rfl | hq
    · exact l1 p hp _ List.mem_cons_self
    · cases hq
  · exact (rs_So.cons.mp s2).2
  · rw [eB]; exact s3
  · rw [eO]
    intro p hp q hq
    rcases List.mem_append.mp hp with hp | hp
    · exact l1 p hp q (List.mem_cons_of_mem _ hq)
    · rcases List.mem_cons.mp hp with rfl | hp
      · exact (rs_So.cons.mp s2).1 q hq
      · cases hp
  · rw [eO, eB]
    intro p hp q hq
    rcases List.mem_append.mp hp with hp | hp
    · exact l2 p hp q hq
    · rcases List.mem_cons.mp hp with rfl | hp
      · exact hB q hq
      · cases hp
  · intro k
    rw [eO, eB, rs_kf_app, ← hk k, eA, rs_kf, rs_kf, rs_kf]
    split <;> simp
theorem rs_MI.done {o : Int32} {st mi en : Nat} {f0 g0 : Nat → Int32} {fi se pl : Nat} {f g sf sg : Nat → Int32} (h : rs_MI o st mi en f0 g0 fi se pl f g sf sg) (hf : ¬ fi < mi - st) : rs_St o st en f0 g0 f g := by
  obtain ⟨⟨a1, a2, a3, a4, a5, a6⟩, ho, s1, s2, s3, l1, l2, hk⟩ := h
  have e1 : mi - st - fi = 0 := by omega
  have e2 : pl = se := by omega
  subst e2
  rw [e1] at hk
  have e := rs_sg_cut f g (show st ≤ pl by omega) a5
  refine ⟨⟨ho, fun k => ?_⟩, ?_⟩
  · rw [e, rs_kf_app, ← hk k]
    rfl
  · rw [e]
    exact rs_So.app.mpr ⟨s1, s3, l2⟩
/-- the runs: n of them, from a to b; r holds where they begin, and the end -/
def rs_Rn (o : Int32) (a b : Nat) (f g r : Nat → Int32) (n : Nat) : Prop := ∃ ρ : Nat → Nat, (∀ j, j ≤ n → r j = nI (ρ j)) ∧ ρ 0 = a ∧ ρ n = b ∧ (∀ j, j < n → ρ j ≤ ρ (j + 1)) ∧ ∀ j, j < n → rs_So o (rs_sg f g (ρ j) (ρ (j + 1) - ρ j))
theorem rs_up {ρ : Nat → Nat} {n : Nat} (h : ∀ j, j < n → ρ j ≤ ρ (j + 1)) : ∀ (d i : Nat), i + d ≤ n → ρ i ≤ ρ (i + d)
  | 0, i, _ => Nat.le_refl _
  | d + 1, i, hd => Nat.le_trans (rs_up h d i (by omega)) (h (i + d) (by omega))
theorem rs_mono {ρ : Nat → Nat} {n : Nat} (h : ∀ j, j < n → ρ j ≤ ρ (j + 1)) {i j : Nat} (hij : i ≤ j) (hj : j ≤ n) : ρ i ≤ ρ j := by
  have := rs_up h (j - i) i (by omega)
  rwa [show i + (j - i) = j by omega] at this
theorem rs_Rn.done {o : Int32} {a b : Nat} {f g r : Nat → Int32} {n : Nat} (h : rs_Rn o a b f g r n) (hn : n ≤ 1) : rs_So o (rs_sg f g a (b - a)) := by
  obtain ⟨ρ, h1, h2, h3, h4, h5⟩ := h
  rcases (show n = 0 ∨ n = 1 by omega) with e | e
  · subst e
    rw [← h2, ← h3, Nat.sub_self]; exact rs_So.nil
  · subst e
    rw [← h2, ← h3]; exact h5 0 (by omega)
/-- finding the runs: up to i, n of them so far -/
def rs_FI (o : Int32) (a : Nat) (f g r : Nat → Int32) (i n : Nat) : Prop := a ≤ i ∧ n ≤ i - a ∧ (i = a ∨ 0 < n) ∧ ∃ ρ : Nat → Nat, (∀ j, j < n → r j = nI (ρ j)) ∧ (0 < n → ρ 0 = a) ∧ (∀ j, j + 1 < n → ρ j ≤ ρ (j + 1) ∧ rs_So o (rs_sg f g (ρ j) (ρ (j + 1) - ρ j))) ∧ (0 < n → ρ (n - 1) < i ∧ rs_So o (rs_sg f g (ρ (n - 1)) (i - ρ (n - 1))))
theorem rs_FI.init {o : Int32} {a : Nat} {f g r : Nat → Int32} : rs_FI o a f g r a 0 := ⟨Nat.le_refl _, by omega, Or.inl rfl, fun _ => a, fun j h => by omega, fun h => by omega, fun j h => by omega, fun h => by omega⟩
/-- a run begins at i -/
theorem rs_FI.new {o : Int32} {a : Nat} {f g r : Nat → Int32} {i n : Nat} (h : rs_FI o a f g r i n) : rs_FI o a f g (upd r n (nI i)) (i + 1) (n + 1) := by
  obtain ⟨h0, h1, h2, ρ, h3, h4, h5, h6⟩ := h
  refine ⟨by omega, by omega, Or.inr (by omega), fun j => if j = n then i else ρ j, fun j hj => ?_, fun _ => ?_, fun j hj => ?_, fun _ => ?_⟩ <;> try dsimp only
  · by_cases hjn : j = n
    · subst hjn; rw [pk_us, if_pos rfl]
    · rw [pk_un hjn, if_neg hjn]; exact h3 j (by omega)
  · by_cases hn : 0 = n
    · rw [if_pos hn]; rcases h2 with h2 | h2
      · exact h2
      · omega
    · rw [if_neg hn]; exact h4 (by omega)
  · have hjn : ¬ j = n := by omega
    by_cases hj2 : j + 1 = n
    · obtain ⟨q1, q2⟩ := h6 (by omega)
      rw [if_neg hjn, if_pos hj2]
      have e : n - 1 = j := by omega
      rw [e] at q1 q2
      exact ⟨Nat.le_of_lt q1, q2⟩
    · rw [if_neg hjn, if_neg hj2]; exact h5 j (by omega)
  · rw [show n + 1 - 1 = n by omega, if_pos rfl]
    exact ⟨by omega, rs_So.start⟩
/-- the run goes on over i -/
theorem rs_FI.more {o : Int32} {a : Nat} {f g r : Nat → Int32} {i n : Nat} (h : rs_FI o a f g r i n) (hi : i ≠ a) (hle : rs_rk o (f (i - 1)) ≤ rs_rk o (f i)) : rs_FI o a f g r (i + 1) n := by
  obtain ⟨h0, h1, h2, ρ, h3, h4, h5, h6⟩ := h
  have hn : 0 < n := by rcases h2 with h2 | h2; exact absurd h2 hi; exact h2
  obtain ⟨q1, q2⟩ := h6 hn
  exact ⟨by omega, by omega, Or.inr hn, ρ, h3, h4, h5, fun _ => ⟨by omega, rs_So.more q2 q1 hle⟩⟩
theorem rs_FI.done {o : Int32} {a b : Nat} {f g r : Nat → Int32} {n : Nat} (h : rs_FI o a f g r b n) : rs_Rn o a b f g (upd r n (nI b)) n := by
  obtain ⟨h0, h1, h2, ρ, h3, h4, h5, h6⟩ := h
  refine ⟨fun j => if j = n then b else ρ j, fun j hj => ?_, ?_, if_pos rfl, fun j hj => ?_, fun j hj => ?_⟩ <;> try dsimp only
  · by_cases hjn : j = n
    · subst hjn; rw [pk_us, if_pos rfl]
    · rw [pk_un hjn, if_neg hjn]; exact h3 j (by omega)
  · by_cases hn : 0 = n
    · rw [if_pos hn]; rcases h2 with h2 | h2
      · exact h2
      · omega
    · rw [if_neg hn]; exact h4 (by omega)
  · have hjn : ¬ j = n := by omega
    by_cases hj2 : j + 1 = n
    · obtain ⟨q1, q2⟩ := h6 (by omega)
      rw [if_neg hjn, if_pos hj2]
      have e : n - 1 = j := by omega
      rw [e] at q1
      exact Nat.le_of_lt q1
    · rw [if_neg hjn, if_neg hj2]; exact (h5 j (by omega)).1
  · have hjn : ¬ j = n := by omega
    by_cases hj2 : j + 1 = n
    · obtain ⟨q1, q2⟩ := h6 (by omega)
      rw [if_neg hjn, if_pos hj2]
      have e : n - 1 = j := by omega
      rw [e] at q2
      exact q2
    · rw [if_neg hjn, if_neg hj2]; exact (h5 j (by omega)).2
/-- merging the pairs: those below p (an even number) are merged -/
def rs_PI (o : Int32) (a b : Nat) (f0 g0 : Nat → Int32) (ρ : Nat → Nat) (n p : Nat) (f g : Nat → Int32) : Prop := p % 2 = 0 ∧ p ≤ n ∧ rs_Mv o a b f0 g0 f g ∧ ρ 0 = a ∧ ρ n = b ∧ (∀ j, j < n → ρ j ≤ ρ (j + 1)) ∧ (∀ j, p ≤ j → j < n → rs_So o (rs_sg f g (ρ j) (ρ (j + 1) - ρ j))) ∧ ∀ j, j % 2 = 0 → j + 1 < p → rs_So o (rs_sg f g (ρ j) (ρ (j + 2) - ρ j))
theorem rs_PI.step {o : Int32} {a b : Nat} {f0 g0 : Nat → Int32} {ρ : Nat → Nat} {n p : Nat} {f g f' g' : Nat → Int32} (h : rs_PI o a b f0 g0 ρ n p f g) (hp : p + 1 < n) (hm : rs_St o (ρ p) (ρ (p + 2)) f g f' g') : rs_PI o a b f0 g0 ρ n (p + 2) f' g' := by
  obtain ⟨h0, h1, h2, h3, h4, h5, h6, h7⟩ := h
  have m0 : a ≤ ρ p := by rw [← h3]; exact rs_mono h5 (by omega) (by omega)
  have m1 : ρ p ≤ ρ (p + 2) := rs_mono h5 (by omega) (by omega)
  have m2 : ρ (p + 2) ≤ b := by rw [← h4]; exact rs_mono h5 (by omega) (by omega)
  refine ⟨by omega, by omega, h2.tr (hm.1.wide m0 m1 m2), h3, h4, h5, fun j hj hjn => ?_, fun j hj hjp => ?_⟩
  · rw [rs_sg_cg (f := f) (g := g) (fun i hi _ => hm.1.1 i (Or.inr (Nat.le_trans (rs_mono h5 hj (by omega)) hi)))]
    exact h6 j (by omega) hjn
  · by_cases hjp2 : j = p
    · subst hjp2; exact hm.2
    · have hj2 : j + 2 ≤ p := by omega
      have mm : ρ (j + 2) ≤ ρ p := rs_mono h5 hj2 (by omega)
      have mj : ρ j ≤ ρ (j + 2) := rs_mono h5 (by omega) (by omega)
      rw [rs_sg_cg (f := f) (g := g) (fun i hi hi2 => hm.1.1 i (Or.inl (by omega)))]
      exact h7 j hj (by omega)
theorem rs_PI.done {o : Int32} {a b : Nat} {f0 g0 : Nat → Int32} {ρ : Nat → Nat} {n p : Nat} {f g r : Nat → Int32} (h : rs_PI o a b f0 g0 ρ n p f g) (hp : ¬ p + 1 < n) (hr : ∀ j, j ≤ (n + 1) / 2 → r j = nI (ρ (min (2 * j) n))) : rs_Rn o a b f g r ((n + 1) / 2) := by
  obtain ⟨h0, h1, h2, h3, h4, h5, h6, h7⟩ := h
  refine ⟨fun j => ρ (min (2 * j) n), hr, ?_, ?_, fun j hj => rs_mono h5 (by omega) (by omega), fun j hj => ?_⟩ <;> try dsimp only
  · rw [show min (2 * 0) n = 0 by omega]; exact h3
  · rw [show min (2 * ((n + 1) / 2)) n = n by omega]; exact h4
  · by_cases hjn : 2 * j + 1 < n
    · rw [show min (2 * j) n = 2 * j by omega, show min (2 * (j + 1)) n = 2 * j + 2 by omega]
      exact h7 (2 * j) (by omega) (by omega)
    · rw [show min (2 * j) n = 2 * j by omega, show min (2 * (j + 1)) n = 2 * j + 1 by omega]
      exact h6 (2 * j) (by omega) (by omega)
end
section
/-! One world for all: a contract speaks of the cells that the method knows, and of whatever cells stand beside them. -/
def xr_Pc (av : List Value) (D : va_G) (tys : List (ClassId × FieldType)) (ws : va_W) (sz : Nat) : Array Value → State → Prop := va_Pc av (fun U => U.heap.size = sz ∧ va_P D vwCl ws U.heap ∧ va_K D vwCl tys U ∧ va_D (fun _ => True) ws)
def xr_Q (D : va_G) (A : Nat → Prop) (post : Option Value → va_W → Prop) : Array Value → State → Outcome → State → Prop := fun _ st o t => (∃ (v : Option Value) (w : va_W), o = .returned v ∧ post v w ∧ va_P D vwCl w t.heap ∧ va_D A w) ∧ va_F A st t
abbrev xr_Met (l : Launch) (y : MethodName) (wsy : List Cond) (rm : Room) (av : List Value) (D : va_G) (tys : List (ClassId × FieldType)) (ws : va_W) (sz : Nat) (post : Option Value → va_W → Prop) (mc ms : Nat) : Prop := Met l y wsy rm (xr_Pc av D tys ws sz) (xr_Q D (va_A ws sz) post) mc ms (va_A ws sz)
theorem xr_blind {av : List Value} {D : va_G} {tys : List (ClassId × FieldType)} {ws : va_W} {sz : Nat} : FrameBlind (xr_Pc av D tys ws sz) := fun a U g mk q => by
  obtain ⟨q0, q1, qP, qK, qD⟩ := q
  exact ⟨q0, q1, qP, va_K.moved (u := U) (U := U.calling g mk a) (Vm.Alike.refl U.vm) qK, qD⟩
section XR
variable {p : Program} {l : Launch} {e : Env} {R : Room} {s : State} {m : MethodId} {args : Array Value} {below : List Frame} {meth : Method} {c : Code} {H : Heap} {locs : List Loc} {cells slots : Nat} {Q : State → Prop}
variable {D : va_G} {tys : List (ClassId × FieldType)} {A : Nat → Prop} {H0 : Heap} {ws : va_W}
theorem xr_call {mc ms pc : Nat} {ls : Array Slot} {st0 rest : List Value} {wc : va_W} {post : Option Value → va_W → Prop} {a : Array Value} (hr : va_Run p l e R s m args below meth c H locs cells slots mc ms (F0 m pc ls st0) rest (xr_Q D (va_A wc H.size) post a) (va_A wc H.size)) (hS : va_S A H0 H locs) (hf : ∀ q, va_A wc H.size q → A q)
    (kk : ∀ (v : Option Value) (w : va_W) (H1 : Heap) (locs1 : List Loc), post v w → va_P D vwCl w H1 → va_D A w → H.size ≤ H1.size → va_S A H0 H1 locs1 → W p l e R s m args below meth c H1 locs1 (cells + mc) (slots + ms) Q (F0 m (pc + 3) ls (v.toList ++ rest))) : W p l e R s m args below meth c H locs cells slots Q (F0 m pc ls st0) := by
  intro T hT X
  obtain ⟨v, st₀, t, T', L, h0, X', hL, e1, e2, ⟨⟨v', w, hv, hp, hP, hD⟩, hz, hk⟩, st⟩ := hr T hT X
  cases hv
  rw [h0] at hz hk
  obtain ⟨t2, a1, b1⟩ := kk v w T'.heap (locs ++ L) hp (by rw [e1]; exact hP) (hD.weaken (fun _ _ _ h => hf _ h)) (by rw [e1]; exact hz)
    ⟨Nat.le_trans hS.1 (by rw [e1]; exact hz), fun q h1 h2 => by rw [e1, hk q (Nat.lt_of_lt_of_le h1 hS.1) (fun z => h2 (hf q z))]; exact hS.2.1 q h1 h2, fun q hq => by
      rcases List.mem_append.mp hq with h | h
      · exact hS.2.2 q h
      · exact hf _ (hL q h)⟩ T' rfl X'
  exact ⟨t2, st t2 a1, b1⟩
/-- what a call of a contract with the same world asks -/
theorem xr_pre {av : List Value} (hP : va_P D vwCl ws H) (hK : va_K D vwCl tys s) (hD : va_D A ws) : ∀ U : State, U.heap = H → s.WarmedH U.vm → xr_Pc av D tys ws H.size av.toArray U :=
  fun U hU hW => ⟨rfl, by rw [hU], by rw [hU]; exact hP, va_K.moved hW.alike hK, hD.weaken (fun _ _ _ _ => trivial)⟩
theorem xr_free (hD : va_D A ws) (hS : va_S A H0 H locs) (hA : ∀ q, H0.size ≤ q → A q) : ∀ q, va_A ws H.size q → A q := by
  intro q hq
  rcases hq with ⟨k, e1, hk⟩ | hq
  · exact hD.2 k (q, e1) hk
  · exact hA q (Nat.le_trans hS.1 hq)
end XR
/-- a method's words: its code, and the tables' good words -/
abbrev wU (y : MethodName) (cc : ByteArray) (n : Nat) (ret : Option FieldType) : List Cond := Cond.code y cc n ret :: lw_w
theorem gU {a : List Cond} (h : ∀ w ∈ a, w ∈ lw_w) : GoodIn lw_w a := fun w hw => ⟨h w hw, good_of_word (lw_w_good w (h w hw))⟩
theorem gC {y : MethodName} {cc : ByteArray} {n : Nat} {ret : Option FieldType} (h : Cond.code y cc n ret ∈ lw_w) : ∀ w ∈ wU y cc n ret, w ∈ lw_w := fun w hw => (List.mem_cons.mp hw).elim (fun e => e ▸ h) id
theorem gV {own C : String} {idx : Nat} {y : MethodName} {cc : ByteArray} {n : Nat} {ret : Option FieldType} (h1 : Cond.methodLink own idx y ∈ lw_w) (h2 : Cond.instanceMethod y ∈ lw_w) (h3 : Cond.selects C y y ∈ lw_w) (h4 : Cond.initialized C ∈ lw_w) (h5 : Cond.code y cc n ret ∈ lw_w) : GoodIn lw_w (wsV own idx C y (wU y cc n ret)) := gU (fun w hw => by
  unfold wsV at hw
  rcases List.mem_append.mp hw with h | h
  · simp only [List.mem_cons, List.not_mem_nil, or_false] at h
    rcases h with rfl | rfl | rfl | rfl
    · exact h1
    · exact h2
    · exact h3
    · exact h4
  · exact gC h5 w h)
theorem gS {own : String} {idx : Nat} {y : MethodName} {cc : ByteArray} {n : Nat} {ret : Option FieldType} (h1 : Cond.methodLink own idx y ∈ lw_w) (h2 : Cond.static y ∈ lw_w) (h4 : Cond.initialized y.cls ∈ lw_w) (h5 : Cond.code y cc n ret ∈ lw_w) : GoodIn lw_w (va_wsS own idx y (wU y cc n ret)) := gU (fun w hw => by
  unfold va_wsS at hw
  rcases List.mem_append.mp hw with h | h
  · simp only [List.mem_cons, List.not_mem_nil, or_false] at h
    rcases h with rfl | rfl | rfl
    · exact h1
    · exact h2
    · exact h4
  · exact gC h5 w h)
theorem xr_start {l : Launch} {y : MethodName} {cc : ByteArray} {maxL : Nat} {ret : Option FieldType} {rm : Room} {av : List Value} {D : va_G} {tys : List (ClassId × FieldType)} {ws : va_W} {sz : Nat} {post : Option Value → va_W → Prop} {mc ms : Nat} (hy : plainName y.cls = true) (hlen : (lg_sl av).length ≤ maxL)
    (body : ∀ (p : Program) (e : Env) (s : State) (m : MethodId) (args : Array Value) (below : List Frame) (meth : Method) (c : Code) (A : Nat → Prop) (ls : Array Slot), CallFix p m c cc maxL s args lw_w y.cls → meth.locks = false → meth.sig.returnType = ret → meth.name = y.name → va_P D vwCl ws s.heap → va_K D vwCl tys s → va_D A ws → (∀ q, s.heap.size ≤ q → A q) → lv_has ls maxL (lv_args 0 av) →
      W p l e rm s m args below meth c s.heap [] 0 0 (MQ below (xr_Q D A post) args s mc ms A) (F0 m 0 ls [])) : xr_Met l y (wU y cc maxL ret) rm av D tys ws sz post mc ms := by
  refine Met.ofW (cc := cc) (maxL := maxL) (ret := ret) hy rfl ?_
  intro p e s m args below meth c s₁ B hml hv
  obtain ⟨rfl, hsz, hP, hK, hD0⟩ := hv
  have hts := atoms_spec (ws := wU y cc maxL ret) B.pre
  have hown : s.vm.findClass y.cls = some m.cls := findClass_of_methodNamed B.named
  subst hsz
  have hD := hD0.self (sz := s.heap.size)
  have hl := lv_entry av (n := maxL) hlen
  rw [lg_entry_eq]
  exact body p e s m _ below meth c _ _ ⟨B.exec, B.bytes, hml, hown, fun w hw => hts w (List.mem_cons_of_mem _ hw)⟩ B.notSynchronized B.returns (name_of_methodNamed B.named B.method).1 hP hK hD (fun q h => Or.inr h) hl
theorem xr_startQ {l : Launch} {y : MethodName} {cc : ByteArray} {maxL : Nat} {ret : Option FieldType} {rm : Room} {av : List Value} {D : va_G} {tys : List (ClassId × FieldType)} {ws : va_W} {sz : Nat} {post : Option Value → va_W → Prop} {mc ms : Nat} (hy : plainName y.cls = true) (hlen : (lg_sl av).length ≤ maxL)
    (body : ∀ (p : Program) (e : Env) (s : State) (m : MethodId) (args : Array Value) (below : List Frame) (meth : Method) (c : Code) (A : Nat → Prop) (ls : Array Slot) (Q : State → Prop), Q = MQ below (xr_Q D A post) args s mc ms A → CallFix p m c cc maxL s args lw_w y.cls → meth.locks = false → meth.sig.returnType = ret → va_P D vwCl ws s.heap → va_K D vwCl tys s → va_D A ws → (∀ q, s.heap.size ≤ q → A q) → lv_has ls maxL (lv_args 0 av) →
      W p l e rm s m args below meth c s.heap [] 0 0 Q (F0 m 0 ls [])) : xr_Met l y (wU y cc maxL ret) rm av D tys ws sz post mc ms :=
  xr_start hy hlen (fun p e s m args below meth c A ls C0 hlk hr _ hP hK hD hA hl => body p e s m args below meth c A ls _ rfl C0 hlk hr hP hK hD hA hl)
section XR2
variable {p : Program} {l : Launch} {e : Env} {R : Room} {s : State} {m : MethodId} {args : Array Value} {below : List Frame} {meth : Method} {c : Code} {H : Heap} {locs : List Loc} {cells slots : Nat} {Q : State → Prop}
variable {D : va_G} {tys : List (ClassId × FieldType)} {A : Nat → Prop} {ws : va_W} {cc : ByteArray} {nL pc : Nat} {own : String} {ls : Array Slot} {st0 rest : List Value}
theorem xr_top {x y : Int32} (h : x = y) (k : W p l e R s m args below meth c H locs cells slots Q (F0 m pc ls (.int y :: rest))) : W p l e R s m args below meth c H locs cells slots Q (F0 m pc ls (.int x :: rest)) := h ▸ k
theorem xr_topl {x y : Int64} (h : x = y) (k : W p l e R s m args below meth c H locs cells slots Q (F0 m pc ls (.long y :: rest))) : W p l e R s m args below meth c H locs cells slots Q (F0 m pc ls (.long x :: rest)) := h ▸ k
theorem xr_iret {post : Option Value → va_W → Prop} (C0 : CallFix p m c cc nL s args lw_w own) (hlk : meth.locks = false) (hr : meth.sig.returnType = some .int) {v : Int32} {w : va_W} (hpost : post (some (.int v)) w) (hP : va_P D vwCl w H) (hD : va_D A w) (hS : va_S A s.heap H locs) (hdg : decode cc pc = .ok (.ireturn, 1)) :
    W p l e R s m args below meth c H locs cells slots (MQ below (xr_Q D A post) args s cells slots A) (F0 m pc ls [.int v]) :=
  W.iret C0.1 C0.2.1 hr (fun t ht hW => ⟨⟨_, w, rfl, hpost, by rw [ht]; exact hP, hD⟩, hS.F ht⟩) hS.2.2 hdg hlk
theorem xr_vret {post : Option Value → va_W → Prop} (C0 : CallFix p m c cc nL s args lw_w own) (hlk : meth.locks = false) (hr : meth.sig.returnType = none) {w : va_W} (hpost : post none w) (hP : va_P D vwCl w H) (hD : va_D A w) (hS : va_S A s.heap H locs) (hdg : decode cc pc = .ok (.return_, 1)) :
    W p l e R s m args below meth c H locs cells slots (MQ below (xr_Q D A post) args s cells slots A) (F0 m pc ls []) :=
  W.vret C0.1 C0.2.1 hr (fun t ht hW => ⟨⟨_, w, rfl, hpost, by rw [ht]; exact hP, hD⟩, hS.F ht⟩) hS.2.2 hdg hlk
theorem xr_ald {tyr : List (ClassId × FieldType)} {cA : ClassId} {n : Nat} {f : Nat → Int32} {a : Nat} (C0 : CallFix p m c cc nL s args lw_w own) (hK : va_K D vwCl ((cA, .int) :: tyr) s) (hP : va_P D vwCl ws H) (q0 : Nat) (ha : ws[q0]? = some (a, .inl (cA, n, .inl f))) {j : Nat} (hj : j < n) (hn : n < 2 ^ 31) (hdg : decode cc pc = .ok (.iaload, 1))
    (kk : W p l e R s m args below meth c H locs cells slots Q (F0 m (pc + 1) ls (.int (f j) :: rest))) : W p l e R s m args below meth c H locs cells slots Q (F0 m pc ls (.int (nI j) :: .ref a :: rest)) :=
  va_iald C0.1 C0.2.1 hK hP q0 0 ha rfl (vp_in_nI hj hn) hdg (by rw [nI_clamp (Nat.lt_trans hj hn)]; exact kk)
theorem xr_ast {tyr : List (ClassId × FieldType)} {cA : ClassId} {n : Nat} {f : Nat → Int32} {a : Nat} (C0 : CallFix p m c cc nL s args lw_w own) (hK : va_K D vwCl ((cA, .int) :: tyr) s) (hP : va_P D vwCl ws H) (hD : va_D A ws) (hS : va_S A s.heap H locs) (q0 : Nat) (ha : ws[q0]? = some (a, .inl (cA, n, .inl f))) {j : Nat} {x : Int32} (hj : j < n) (hn : n < 2 ^ 31) (hdg : decode cc pc = .ok (.iastore, 1))
    (kk : ∀ (H1 : Heap) (locs1 : List Loc), va_P D vwCl (ws.set q0 (a, .inl (cA, n, .inl (upd f j x)))) H1 → va_D A (ws.set q0 (a, .inl (cA, n, .inl (upd f j x)))) → va_S A s.heap H1 locs1 → W p l e R s m args below meth c H1 locs1 cells slots Q (F0 m (pc + 1) ls rest)) : W p l e R s m args below meth c H locs cells slots Q (F0 m pc ls (.int x :: .int (nI j) :: .ref a :: rest)) :=
  va_iast C0.1 C0.2.1 hK hP hD hS q0 0 ha rfl (vp_in_nI hj hn) hdg (by rw [nI_clamp (Nat.lt_trans hj hn)]; exact kk)
/-- a call of an instance method, its world the caller's own -/
theorem xr_vcall {ci idx maxL mc ms N b nA : Nat} {C : String} {T : u_T} {y : MethodName} {bytes : ByteArray} {ret : Option FieldType} {rm : Room} {As : List Value} {fs : List Value} {post : Option Value → va_W → Prop}
    (C0 : CallFix p m c cc nL s args lw_w own) (hM : xr_Met l y (wU y bytes maxL ret) rm (.ref b :: As) D tys ws H.size post mc ms)
    (hg : GoodIn lw_w (wsV own idx C y (wU y bytes maxL ret)))
    (hd : y.cls = C ∧ y.cls ≠ "java/lang/invoke/MethodHandle" ∧ y.cls ≠ "java/lang/invoke/VarHandle" ∧ (parseMethodDescriptor y.desc).map (fun d => d.parameters.length) = some nA) (hnA : As.length = nA)
    (hrc : rm.cells = mc) (hrs : rm.slots = ms) (hR : rm.frames + 1 ≤ R.frames ∧ 8 + (maxL + 11) + rm.locals ≤ R.locals)
    (hK : va_K D vwCl tys s) (hP : va_P D vwCl ws H) (hD : va_D A ws) (hS : va_S A s.heap H locs) (hA : ∀ q, s.heap.size ≤ q → A q) (q0 : Nat) (he : ws[q0]? = some (b, .inr (ci, fs))) (hc : vwCl[ci]? = some (C, T, N))
    (hls : ls.size = nL) (hst : st0 = As.reverse ++ .ref b :: rest) (hW : (rest.map fun v => v.category).sum ≤ 8) (hdg : decode cc pc = .ok (.invokevirtual idx, 3)) (hcs : cells + mc ≤ R.cells ∧ slots + ms ≤ R.slots)
    (kk : ∀ (v : Option Value) (w : va_W) (H1 : Heap) (locs1 : List Loc), post v w → va_P D vwCl w H1 → va_D A w → H.size ≤ H1.size → va_S A s.heap H1 locs1 → W p l e R s m args below meth c H1 locs1 (cells + mc) (slots + ms) Q (F0 m (pc + 3) ls (v.toList ++ rest))) : W p l e R s m args below meth c H locs cells slots Q (F0 m pc ls st0) :=
  xr_call (va_runV (n := nA) C0 hM (cwV nA C0.2.2.2.2 hg rfl hrc hrs hd hR) ⟨xr_blind, va_recv hK hP hc he, xr_pre (av := .ref b :: As) hP hK hD⟩ rfl hnA hls hst (lv_room hW) hdg hcs) hS (xr_free hD hS hA) kk
theorem xr_scall {idx maxL mc ms nA : Nat} {y : MethodName} {bytes : ByteArray} {ret : Option FieldType} {rm : Room} {As : List Value} {post : Option Value → va_W → Prop}
    (C0 : CallFix p m c cc nL s args lw_w own) (hM : xr_Met l y (wU y bytes maxL ret) rm As D tys ws H.size post mc ms)
    (hg : GoodIn lw_w (va_wsS own idx y (wU y bytes maxL ret)))
    (hd : y.cls ≠ "java/lang/invoke/MethodHandle" ∧ y.cls ≠ "java/lang/invoke/VarHandle" ∧ (parseMethodDescriptor y.desc).map (fun d => d.parameters.length) = some nA) (hnA : As.length = nA)
    (hrc : rm.cells = mc) (hrs : rm.slots = ms) (hR : rm.frames + 1 ≤ R.frames ∧ 8 + (maxL + 11) + rm.locals ≤ R.locals)
    (hK : va_K D vwCl tys s) (hP : va_P D vwCl ws H) (hD : va_D A ws) (hS : va_S A s.heap H locs) (hA : ∀ q, s.heap.size ≤ q → A q)
    (hls : ls.size = nL) (hst : st0 = As.reverse ++ rest) (hW : (rest.map fun v => v.category).sum ≤ 8) (hdg : decode cc pc = .ok (.invokestatic idx, 3)) (hcs : cells + mc ≤ R.cells ∧ slots + ms ≤ R.slots)
    (kk : ∀ (v : Option Value) (w : va_W) (H1 : Heap) (locs1 : List Loc), post v w → va_P D vwCl w H1 → va_D A w → H.size ≤ H1.size → va_S A s.heap H1 locs1 → W p l e R s m args below meth c H1 locs1 (cells + mc) (slots + ms) Q (F0 m (pc + 3) ls (v.toList ++ rest))) : W p l e R s m args below meth c H locs cells slots Q (F0 m pc ls st0) :=
  xr_call (va_runS (n := nA) C0 hM (va_cwS nA C0.2.2.2.2 hg rfl hrc hrs hd hR) ⟨xr_blind, xr_pre (av := As) hP hK hD⟩ rfl hnA hls hst (lv_room hW) hdg hcs) hS (xr_free hD hS hA) kk
end XR2
section XG
variable {p : Program} {l : Launch} {e : Env} {R : Room} {s : State} {m : MethodId} {args : Array Value} {below : List Frame} {meth : Method} {c : Code} {H : Heap} {locs : List Loc} {cells slots : Nat} {Q : State → Prop}
variable {D : va_G} {tys : List (ClassId × FieldType)} {A : Nat → Prop} {ws : va_W} {cc : ByteArray} {nL pc : Nat} {own : String} {ls : Array Slot} {st0 rest : List Value}
variable {a : Nat} {fs : List Value}
theorem x0_get_numbers (C0 : CallFix p m c cc nL s args lw_w RX0) (hK : va_K D vwCl tys s) (hP : va_P D vwCl ws H) (q0 : Nat) (he : ws[q0]? = some (a, .inr (0, fs))) {v : Value} (hv : fs[0]? = some v) (hdg : decode cc pc = .ok (.getfield 9, 3))
    (kk : W p l e R s m args below meth c H locs cells slots Q (F0 m (pc + 3) ls (v :: rest))) : W p l e R s m args below meth c H locs cells slots Q (F0 m pc ls (.ref a :: rest)) :=
  va_get (ci := 0) (C := RX0) (T := TX0) (N := 6) C0.1 C0.2.1 C0.2.2.2.2 in_X0 C0.2.2.2.1 hK hP q0 he rfl 0 (by decide) (C0.2.2.2.2 _ wF_X0_numbers) (fun _ h => h) hv hdg kk
theorem x0_putF_numbers (C0 : CallFix p m c cc nL s args lw_w RX0) (hin : meth.name = "<init>") (hK : va_K D vwCl tys s) (hP : va_P D vwCl ws H) (hD : va_D A ws) (hS : va_S A s.heap H locs) (q0 : Nat) (he : ws[q0]? = some (a, .inr (0, fs))) {v : Nat} (hl : 0 < fs.length) (hdg : decode cc pc = .ok (.putfield 9, 3))
    (kk : ∀ (H1 : Heap) (locs1 : List Loc), va_P D vwCl (ws.set q0 (a, .inr (0, fs.set 0 (.ref v)))) H1 → va_D A (ws.set q0 (a, .inr (0, fs.set 0 (.ref v)))) → va_S A s.heap H1 locs1 → W p l e R s m args below meth c H1 locs1 cells slots Q (F0 m (pc + 3) ls rest)) : W p l e R s m args below meth c H locs cells slots Q (F0 m pc ls (.ref v :: .ref a :: rest)) :=
  va_putF (ci := 0) (C := RX0) (T := TX0) (N := 6) C0.1 C0.2.1 C0.2.2.2.2 in_X0 tyX0 tyX0_ok nmX0 C0.2.2.2.1 hK hP hD hS q0 he rfl 0 (by decide) (C0.2.2.2.2 _ wF_X0_numbers) (fun _ h => h) rfl hin rfl (ty := .array .int) (by decide +kernel) rfl rfl hl hdg kk
theorem x0_get_tags (C0 : CallFix p m c cc nL s args lw_w RX0) (hK : va_K D vwCl tys s) (hP : va_P D vwCl ws H) (q0 : Nat) (he : ws[q0]? = some (a, .inr (0, fs))) {v : Value} (hv : fs[1]? = some v) (hdg : decode cc pc = .ok (.getfield 13, 3))
    (kk : W p l e R s m args below meth c H locs cells slots Q (F0 m (pc + 3) ls (v :: rest))) : W p l e R s m args below meth c H locs cells slots Q (F0 m pc ls (.ref a :: rest)) :=
  va_get (ci := 0) (C := RX0) (T := TX0) (N := 6) C0.1 C0.2.1 C0.2.2.2.2 in_X0 C0.2.2.2.1 hK hP q0 he rfl 1 (by decide) (C0.2.2.2.2 _ wF_X0_tags) (fun _ h => h) hv hdg kk
theorem x0_putF_tags (C0 : CallFix p m c cc nL s args lw_w RX0) (hin : meth.name = "<init>") (hK : va_K D vwCl tys s) (hP : va_P D vwCl ws H) (hD : va_D A ws) (hS : va_S A s.heap H locs) (q0 : Nat) (he : ws[q0]? = some (a, .inr (0, fs))) {v : Nat} (hl : 1 < fs.length) (hdg : decode cc pc = .ok (.putfield 13, 3))
    (kk : ∀ (H1 : Heap) (locs1 : List Loc), va_P D vwCl (ws.set q0 (a, .inr (0, fs.set 1 (.ref v)))) H1 → va_D A (ws.set q0 (a, .inr (0, fs.set 1 (.ref v)))) → va_S A s.heap H1 locs1 → W p l e R s m args below meth c H1 locs1 cells slots Q (F0 m (pc + 3) ls rest)) : W p l e R s m args below meth c H locs cells slots Q (F0 m pc ls (.ref v :: .ref a :: rest)) :=
  va_putF (ci := 0) (C := RX0) (T := TX0) (N := 6) C0.1 C0.2.1 C0.2.2.2.2 in_X0 tyX0 tyX0_ok nmX0 C0.2.2.2.1 hK hP hD hS q0 he rfl 1 (by decide) (C0.2.2.2.2 _ wF_X0_tags) (fun _ h => h) rfl hin rfl (ty := .array .int) (by decide +kernel) rfl rfl hl hdg kk
theorem x0_get_size (C0 : CallFix p m c cc nL s args lw_w RX0) (hK : va_K D vwCl tys s) (hP : va_P D vwCl ws H) (q0 : Nat) (he : ws[q0]? = some (a, .inr (0, fs))) {v : Value} (hv : fs[2]? = some v) (hdg : decode cc pc = .ok (.getfield 16, 3))
    (kk : W p l e R s m args below meth c H locs cells slots Q (F0 m (pc + 3) ls (v :: rest))) : W p l e R s m args below meth c H locs cells slots Q (F0 m pc ls (.ref a :: rest)) :=
  va_get (ci := 0) (C := RX0) (T := TX0) (N := 6) C0.1 C0.2.1 C0.2.2.2.2 in_X0 C0.2.2.2.1 hK hP q0 he rfl 2 (by decide) (C0.2.2.2.2 _ wF_X0_size) (fun _ h => h) hv hdg kk
theorem x0_put_size (C0 : CallFix p m c cc nL s args lw_w RX0) (hK : va_K D vwCl tys s) (hP : va_P D vwCl ws H) (hD : va_D A ws) (hS : va_S A s.heap H locs) (q0 : Nat) (he : ws[q0]? = some (a, .inr (0, fs))) {v : Int32} (hl : 2 < fs.length) (hdg : decode cc pc = .ok (.putfield 16, 3))
    (kk : ∀ (H1 : Heap) (locs1 : List Loc), va_P D vwCl (ws.set q0 (a, .inr (0, fs.set 2 (.int v)))) H1 → va_D A (ws.set q0 (a, .inr (0, fs.set 2 (.int v)))) → va_S A s.heap H1 locs1 → W p l e R s m args below meth c H1 locs1 cells slots Q (F0 m (pc + 3) ls rest)) : W p l e R s m args below meth c H locs cells slots Q (F0 m pc ls (.int v :: .ref a :: rest)) :=
  va_put (ci := 0) (C := RX0) (T := TX0) (N := 6) C0.1 C0.2.1 C0.2.2.2.2 in_X0 tyX0 tyX0_ok nmX0 C0.2.2.2.1 hK hP hD hS q0 he rfl 2 (by decide) (C0.2.2.2.2 _ wF_X0_size) (fun _ h => h) rfl (ty := .int) (by decide +kernel) rfl rfl hl hdg kk
theorem x0_get_spareNumbers (C0 : CallFix p m c cc nL s args lw_w RX0) (hK : va_K D vwCl tys s) (hP : va_P D vwCl ws H) (q0 : Nat) (he : ws[q0]? = some (a, .inr (0, fs))) {v : Value} (hv : fs[3]? = some v) (hdg : decode cc pc = .ok (.getfield 20, 3))
    (kk : W p l e R s m args below meth c H locs cells slots Q (F0 m (pc + 3) ls (v :: rest))) : W p l e R s m args below meth c H locs cells slots Q (F0 m pc ls (.ref a :: rest)) :=
  va_get (ci := 0) (C := RX0) (T := TX0) (N := 6) C0.1 C0.2.1 C0.2.2.2.2 in_X0 C0.2.2.2.1 hK hP q0 he rfl 3 (by decide) (C0.2.2.2.2 _ wF_X0_spareNumbers) (fun _ h => h) hv hdg kk
theorem x0_putF_spareNumbers (C0 : CallFix p m c cc nL s args lw_w RX0) (hin : meth.name = "<init>") (hK : va_K D vwCl tys s) (hP : va_P D vwCl ws H) (hD : va_D A ws) (hS : va_S A s.heap H locs) (q0 : Nat) (he : ws[q0]? = some (a, .inr (0, fs))) {v : Nat} (hl : 3 < fs.length) (hdg : decode cc pc = .ok (.putfield 20, 3))
    (kk : ∀ (H1 : Heap) (locs1 : List Loc), va_P D vwCl (ws.set q0 (a, .inr (0, fs.set 3 (.ref v)))) H1 → va_D A (ws.set q0 (a, .inr (0, fs.set 3 (.ref v)))) → va_S A s.heap H1 locs1 → W p l e R s m args below meth c H1 locs1 cells slots Q (F0 m (pc + 3) ls rest)) : W p l e R s m args below meth c H locs cells slots Q (F0 m pc ls (.ref v :: .ref a :: rest)) :=
  va_putF (ci := 0) (C := RX0) (T := TX0) (N := 6) C0.1 C0.2.1 C0.2.2.2.2 in_X0 tyX0 tyX0_ok nmX0 C0.2.2.2.1 hK hP hD hS q0 he rfl 3 (by decide) (C0.2.2.2.2 _ wF_X0_spareNumbers) (fun _ h => h) rfl hin rfl (ty := .array .int) (by decide +kernel) rfl rfl hl hdg kk
theorem x0_get_spareTags (C0 : CallFix p m c cc nL s args lw_w RX0) (hK : va_K D vwCl tys s) (hP : va_P D vwCl ws H) (q0 : Nat) (he : ws[q0]? = some (a, .inr (0, fs))) {v : Value} (hv : fs[4]? = some v) (hdg : decode cc pc = .ok (.getfield 23, 3))
    (kk : W p l e R s m args below meth c H locs cells slots Q (F0 m (pc + 3) ls (v :: rest))) : W p l e R s m args below meth c H locs cells slots Q (F0 m pc ls (.ref a :: rest)) :=
  va_get (ci := 0) (C := RX0) (T := TX0) (N := 6) C0.1 C0.2.1 C0.2.2.2.2 in_X0 C0.2.2.2.1 hK hP q0 he rfl 4 (by decide) (C0.2.2.2.2 _ wF_X0_spareTags) (fun _ h => h) hv hdg kk
theorem x0_putF_spareTags (C0 : CallFix p m c cc nL s args lw_w RX0) (hin : meth.name = "<init>") (hK : va_K D vwCl tys s) (hP : va_P D vwCl ws H) (hD : va_D A ws) (hS : va_S A s.heap H locs) (q0 : Nat) (he : ws[q0]? = some (a, .inr (0, fs))) {v : Nat} (hl : 4 < fs.length) (hdg : decode cc pc = .ok (.putfield 23, 3))
    (kk : ∀ (H1 : Heap) (locs1 : List Loc), va_P D vwCl (ws.set q0 (a, .inr (0, fs.set 4 (.ref v)))) H1 → va_D A (ws.set q0 (a, .inr (0, fs.set 4 (.ref v)))) → va_S A s.heap H1 locs1 → W p l e R s m args below meth c H1 locs1 cells slots Q (F0 m (pc + 3) ls rest)) : W p l e R s m args below meth c H locs cells slots Q (F0 m pc ls (.ref v :: .ref a :: rest)) :=
  va_putF (ci := 0) (C := RX0) (T := TX0) (N := 6) C0.1 C0.2.1 C0.2.2.2.2 in_X0 tyX0 tyX0_ok nmX0 C0.2.2.2.1 hK hP hD hS q0 he rfl 4 (by decide) (C0.2.2.2.2 _ wF_X0_spareTags) (fun _ h => h) rfl hin rfl (ty := .array .int) (by decide +kernel) rfl rfl hl hdg kk
theorem x0_get_runStarts (C0 : CallFix p m c cc nL s args lw_w RX0) (hK : va_K D vwCl tys s) (hP : va_P D vwCl ws H) (q0 : Nat) (he : ws[q0]? = some (a, .inr (0, fs))) {v : Value} (hv : fs[5]? = some v) (hdg : decode cc pc = .ok (.getfield 26, 3))
    (kk : W p l e R s m args below meth c H locs cells slots Q (F0 m (pc + 3) ls (v :: rest))) : W p l e R s m args below meth c H locs cells slots Q (F0 m pc ls (.ref a :: rest)) :=
  va_get (ci := 0) (C := RX0) (T := TX0) (N := 6) C0.1 C0.2.1 C0.2.2.2.2 in_X0 C0.2.2.2.1 hK hP q0 he rfl 5 (by decide) (C0.2.2.2.2 _ wF_X0_runStarts) (fun _ h => h) hv hdg kk
theorem x0_putF_runStarts (C0 : CallFix p m c cc nL s args lw_w RX0) (hin : meth.name = "<init>") (hK : va_K D vwCl tys s) (hP : va_P D vwCl ws H) (hD : va_D A ws) (hS : va_S A s.heap H locs) (q0 : Nat) (he : ws[q0]? = some (a, .inr (0, fs))) {v : Nat} (hl : 5 < fs.length) (hdg : decode cc pc = .ok (.putfield 26, 3))
    (kk : ∀ (H1 : Heap) (locs1 : List Loc), va_P D vwCl (ws.set q0 (a, .inr (0, fs.set 5 (.ref v)))) H1 → va_D A (ws.set q0 (a, .inr (0, fs.set 5 (.ref v)))) → va_S A s.heap H1 locs1 → W p l e R s m args below meth c H1 locs1 cells slots Q (F0 m (pc + 3) ls rest)) : W p l e R s m args below meth c H locs cells slots Q (F0 m pc ls (.ref v :: .ref a :: rest)) :=
  va_putF (ci := 0) (C := RX0) (T := TX0) (N := 6) C0.1 C0.2.1 C0.2.2.2.2 in_X0 tyX0 tyX0_ok nmX0 C0.2.2.2.1 hK hP hD hS q0 he rfl 5 (by decide) (C0.2.2.2.2 _ wF_X0_runStarts) (fun _ h => h) rfl hin rfl (ty := .array .int) (by decide +kernel) rfl rfl hl hdg kk
theorem x1_get_failed (C0 : CallFix p m c cc nL s args lw_w RX1) (hK : va_K D vwCl tys s) (hP : va_P D vwCl ws H) (q0 : Nat) (he : ws[q0]? = some (a, .inr (1, fs))) {v : Value} (hv : fs[0]? = some v) (hdg : decode cc pc = .ok (.getfield 16, 3))
    (kk : W p l e R s m args below meth c H locs cells slots Q (F0 m (pc + 3) ls (v :: rest))) : W p l e R s m args below meth c H locs cells slots Q (F0 m pc ls (.ref a :: rest)) :=
  va_get (ci := 1) (C := RX1) (T := TX1) (N := 4) C0.1 C0.2.1 C0.2.2.2.2 in_X1 C0.2.2.2.1 hK hP q0 he rfl 0 (by decide) (C0.2.2.2.2 _ wF_X1_failed) (fun _ h => h) hv hdg kk
theorem x1_put_failed (C0 : CallFix p m c cc nL s args lw_w RX1) (hK : va_K D vwCl tys s) (hP : va_P D vwCl ws H) (hD : va_D A ws) (hS : va_S A s.heap H locs) (q0 : Nat) (he : ws[q0]? = some (a, .inr (1, fs))) {v : Int32} (hl : 0 < fs.length) (hdg : decode cc pc = .ok (.putfield 16, 3))
    (kk : ∀ (H1 : Heap) (locs1 : List Loc), va_P D vwCl (ws.set q0 (a, .inr (1, fs.set 0 (.int v)))) H1 → va_D A (ws.set q0 (a, .inr (1, fs.set 0 (.int v)))) → va_S A s.heap H1 locs1 → W p l e R s m args below meth c H1 locs1 cells slots Q (F0 m (pc + 3) ls rest)) : W p l e R s m args below meth c H locs cells slots Q (F0 m pc ls (.int v :: .ref a :: rest)) :=
  va_put (ci := 1) (C := RX1) (T := TX1) (N := 4) C0.1 C0.2.1 C0.2.2.2.2 in_X1 tyX1 tyX1_ok nmX1 C0.2.2.2.1 hK hP hD hS q0 he rfl 0 (by decide) (C0.2.2.2.2 _ wF_X1_failed) (fun _ h => h) rfl (ty := .int) (by decide +kernel) rfl rfl hl hdg kk
theorem x1_get_size (C0 : CallFix p m c cc nL s args lw_w RX1) (hK : va_K D vwCl tys s) (hP : va_P D vwCl ws H) (q0 : Nat) (he : ws[q0]? = some (a, .inr (1, fs))) {v : Value} (hv : fs[1]? = some v) (hdg : decode cc pc = .ok (.getfield 21, 3))
    (kk : W p l e R s m args below meth c H locs cells slots Q (F0 m (pc + 3) ls (v :: rest))) : W p l e R s m args below meth c H locs cells slots Q (F0 m pc ls (.ref a :: rest)) :=
  va_get (ci := 1) (C := RX1) (T := TX1) (N := 4) C0.1 C0.2.1 C0.2.2.2.2 in_X1 C0.2.2.2.1 hK hP q0 he rfl 1 (by decide) (C0.2.2.2.2 _ wF_X1_size) (fun _ h => h) hv hdg kk
theorem x1_put_size (C0 : CallFix p m c cc nL s args lw_w RX1) (hK : va_K D vwCl tys s) (hP : va_P D vwCl ws H) (hD : va_D A ws) (hS : va_S A s.heap H locs) (q0 : Nat) (he : ws[q0]? = some (a, .inr (1, fs))) {v : Int32} (hl : 1 < fs.length) (hdg : decode cc pc = .ok (.putfield 21, 3))
    (kk : ∀ (H1 : Heap) (locs1 : List Loc), va_P D vwCl (ws.set q0 (a, .inr (1, fs.set 1 (.int v)))) H1 → va_D A (ws.set q0 (a, .inr (1, fs.set 1 (.int v)))) → va_S A s.heap H1 locs1 → W p l e R s m args below meth c H1 locs1 cells slots Q (F0 m (pc + 3) ls rest)) : W p l e R s m args below meth c H locs cells slots Q (F0 m pc ls (.int v :: .ref a :: rest)) :=
  va_put (ci := 1) (C := RX1) (T := TX1) (N := 4) C0.1 C0.2.1 C0.2.2.2.2 in_X1 tyX1 tyX1_ok nmX1 C0.2.2.2.1 hK hP hD hS q0 he rfl 1 (by decide) (C0.2.2.2.2 _ wF_X1_size) (fun _ h => h) rfl (ty := .int) (by decide +kernel) rfl rfl hl hdg kk
theorem x1_get_row (C0 : CallFix p m c cc nL s args lw_w RX1) (hK : va_K D vwCl tys s) (hP : va_P D vwCl ws H) (q0 : Nat) (he : ws[q0]? = some (a, .inr (1, fs))) {v : Value} (hv : fs[2]? = some v) (hdg : decode cc pc = .ok (.getfield 7, 3))
    (kk : W p l e R s m args below meth c H locs cells slots Q (F0 m (pc + 3) ls (v :: rest))) : W p l e R s m args below meth c H locs cells slots Q (F0 m pc ls (.ref a :: rest)) :=
  va_get (ci := 1) (C := RX1) (T := TX1) (N := 4) C0.1 C0.2.1 C0.2.2.2.2 in_X1 C0.2.2.2.1 hK hP q0 he rfl 2 (by decide) (C0.2.2.2.2 _ wF_X1_row) (fun _ h => h) hv hdg kk
theorem x1_putF_row (C0 : CallFix p m c cc nL s args lw_w RX1) (hin : meth.name = "<init>") (hK : va_K D vwCl tys s) (hP : va_P D vwCl ws H) (hD : va_D A ws) (hS : va_S A s.heap H locs) (q0 : Nat) (he : ws[q0]? = some (a, .inr (1, fs))) {v : Nat} (hl : 2 < fs.length) (hdg : decode cc pc = .ok (.putfield 7, 3))
    (kk : ∀ (H1 : Heap) (locs1 : List Loc), va_P D vwCl (ws.set q0 (a, .inr (1, fs.set 2 (.ref v)))) H1 → va_D A (ws.set q0 (a, .inr (1, fs.set 2 (.ref v)))) → va_S A s.heap H1 locs1 → W p l e R s m args below meth c H1 locs1 cells slots Q (F0 m (pc + 3) ls rest)) : W p l e R s m args below meth c H locs cells slots Q (F0 m pc ls (.ref v :: .ref a :: rest)) :=
  va_putF (ci := 1) (C := RX1) (T := TX1) (N := 4) C0.1 C0.2.1 C0.2.2.2.2 in_X1 tyX1 tyX1_ok nmX1 C0.2.2.2.1 hK hP hD hS q0 he rfl 2 (by decide) (C0.2.2.2.2 _ wF_X1_row) (fun _ h => h) rfl hin rfl (ty := .array .int) (by decide +kernel) rfl rfl hl hdg kk
theorem x1_get_tags (C0 : CallFix p m c cc nL s args lw_w RX1) (hK : va_K D vwCl tys s) (hP : va_P D vwCl ws H) (q0 : Nat) (he : ws[q0]? = some (a, .inr (1, fs))) {v : Value} (hv : fs[3]? = some v) (hdg : decode cc pc = .ok (.getfield 13, 3))
    (kk : W p l e R s m args below meth c H locs cells slots Q (F0 m (pc + 3) ls (v :: rest))) : W p l e R s m args below meth c H locs cells slots Q (F0 m pc ls (.ref a :: rest)) :=
  va_get (ci := 1) (C := RX1) (T := TX1) (N := 4) C0.1 C0.2.1 C0.2.2.2.2 in_X1 C0.2.2.2.1 hK hP q0 he rfl 3 (by decide) (C0.2.2.2.2 _ wF_X1_tags) (fun _ h => h) hv hdg kk
theorem x1_putF_tags (C0 : CallFix p m c cc nL s args lw_w RX1) (hin : meth.name = "<init>") (hK : va_K D vwCl tys s) (hP : va_P D vwCl ws H) (hD : va_D A ws) (hS : va_S A s.heap H locs) (q0 : Nat) (he : ws[q0]? = some (a, .inr (1, fs))) {v : Nat} (hl : 3 < fs.length) (hdg : decode cc pc = .ok (.putfield 13, 3))
    (kk : ∀ (H1 : Heap) (locs1 : List Loc), va_P D vwCl (ws.set q0 (a, .inr (1, fs.set 3 (.ref v)))) H1 → va_D A (ws.set q0 (a, .inr (1, fs.set 3 (.ref v)))) → va_S A s.heap H1 locs1 → W p l e R s m args below meth c H1 locs1 cells slots Q (F0 m (pc + 3) ls rest)) : W p l e R s m args below meth c H locs cells slots Q (F0 m pc ls (.ref v :: .ref a :: rest)) :=
  va_putF (ci := 1) (C := RX1) (T := TX1) (N := 4) C0.1 C0.2.1 C0.2.2.2.2 in_X1 tyX1 tyX1_ok nmX1 C0.2.2.2.1 hK hP hD hS q0 he rfl 3 (by decide) (C0.2.2.2.2 _ wF_X1_tags) (fun _ h => h) rfl hin rfl (ty := .array .int) (by decide +kernel) rfl rfl hl hdg kk
end XG
/-- the class's cells: the object, its five rows -/
abbrev rs_X (q : Nat → Nat) (cI : ClassId) (n : Nat) (f g sf sg r : Nat → Int32) : va_W :=
  [(q 0, .inr (0, [.ref (q 1), .ref (q 2), .int (nI n), .ref (q 3), .ref (q 4), .ref (q 5)])), (q 1, .inl (cI, 2000, .inl f)), (q 2, .inl (cI, 2000, .inl g)), (q 3, .inl (cI, 2000, .inl sf)), (q 4, .inl (cI, 2000, .inl sg)), (q 5, .inl (cI, 2001, .inl r))]
/-- the reference's cells: the object, its two rows -/
abbrev rs_M (q : Nat → Nat) (cI : ClassId) (k : Int32) (n : Nat) (f g : Nat → Int32) : va_W :=
  [(q 0, .inr (1, [.int k, .int (nI n), .ref (q 1), .ref (q 2)])), (q 1, .inl (cI, 2000, .inl f)), (q 2, .inl (cI, 2000, .inl g))]
abbrev rs_ty (cI : ClassId) (tyr : List (ClassId × FieldType)) : List (ClassId × FieldType) := (cI, .int) :: tyr
end
section
/-! The class: its small methods, where they return (rows laid by wip/whole/p07.py). -/
set_option maxHeartbeats 4000000 in
set_option maxRecDepth 100000 in
/-- requireWithin, in range -/
theorem c_within (l : Launch) (D : va_G) (q : Nat → Nat) (cI : ClassId) (tyr : List (ClassId × FieldType)) (wr : va_W) (sz n : Nat) (f g sf sg r : Nat → Int32) (x a b : Int32) (h1 : ¬ x < a) (h2 : x ≤ b) : xr_Met l yX0_requireWithin (wU yX0_requireWithin cX0_requireWithin 3 none) ({ frames := 0, cells := 0, slots := 0, locals := 0 }) [.int x, .int a, .int b] D (rs_ty cI tyr) (rs_X q cI (n) (f) (g) (sf) (sg) (r) ++ wr) sz (fun v w => v = none ∧ w = rs_X q cI n f g sf sg r ++ wr) 0 0 := by
  refine xr_start (by decide) (Nat.le_of_ble_eq_true rfl) ?_
  intro p e s m args below meth c A ls C0 hlk hr hnm hP hK hD hA hl
  have hx := C0.1
  have hb := C0.2.1
  have hS : va_S A s.heap s.heap [] := va_S.rf
  have hl : lv_has ls 3 [(0, .int x), (1, .int a), (2, .int b)] := hl
  refine lv_iload_n hx hb dX0_requireWithin_0 rfl (lv_at hl 0 rfl) ?_
  refine lv_iload_n hx hb dX0_requireWithin_1 rfl (lv_at hl 1 rfl) ?_
  refine lv_icmp_lt hx hb dX0_requireWithin_2 rfl (fun h => absurd h h1) (fun h => ?_)
  refine lv_iload_n hx hb dX0_requireWithin_5 rfl (lv_at hl 0 rfl) ?_
  refine lv_iload_n hx hb dX0_requireWithin_6 rfl (lv_at hl 2 rfl) ?_
  refine lv_icmp_le hx hb dX0_requireWithin_7 rfl (fun h => ?_) (fun h => absurd h2 h)
  exact xr_vret C0 hlk hr (⟨rfl, rfl⟩) hP hD hS dX0_requireWithin_20
set_option maxHeartbeats 4000000 in
set_option maxRecDepth 100000 in
/-- requireOrder, in range -/
theorem c_order (l : Launch) (D : va_G) (q : Nat → Nat) (cI : ClassId) (tyr : List (ClassId × FieldType)) (wr : va_W) (sz n : Nat) (f g sf sg r : Nat → Int32) (o : Int32) (h1 : ¬ o < 0) (h2 : o ≤ 3) : xr_Met l yX0_requireOrder (wU yX0_requireOrder cX0_requireOrder 1 none) ({ frames := 1, cells := 0, slots := 0, locals := 22 }) [.int o] D (rs_ty cI tyr) (rs_X q cI (n) (f) (g) (sf) (sg) (r) ++ wr) sz (fun v w => v = none ∧ w = rs_X q cI n f g sf sg r ++ wr) 0 0 := by
  refine xr_start (by decide) (Nat.le_of_ble_eq_true rfl) ?_
  intro p e s m args below meth c A ls C0 hlk hr hnm hP hK hD hA hl
  have hx := C0.1
  have hb := C0.2.1
  have hS : va_S A s.heap s.heap [] := va_S.rf
  have hl : lv_has ls 1 [(0, .int o)] := hl
  refine lv_iload_n hx hb dX0_requireOrder_0 rfl (lv_at hl 0 rfl) ?_
  refine lv_iconst (v := 0) hx hb dX0_requireOrder_1 (by decide) ?_
  refine lv_iconst (v := 3) hx hb dX0_requireOrder_2 (by decide) ?_
  refine xr_scall (As := [.int o, .int 0, .int 3]) (rest := []) (nA := 3) C0 (c_within l D q cI tyr wr _ n f g sf sg r o 0 3 h1 h2) (gS wM_X0_X0_requireWithin wS_X0_requireWithin wN_X0 wC_X0_requireWithin) (by decide +kernel) rfl rfl rfl ⟨by decide, by decide⟩ hK hP hD hS hA hl.1 rfl (Nat.le_of_ble_eq_true rfl) dX0_requireOrder_3 ⟨Nat.le_of_ble_eq_true rfl, Nat.le_of_ble_eq_true rfl⟩ (fun v w H locs hv hP hD hz hS => ?_)
  obtain ⟨rfl, rfl⟩ := hv
  exact xr_vret C0 hlk hr (⟨rfl, rfl⟩) hP hD hS dX0_requireOrder_6
set_option maxHeartbeats 4000000 in
set_option maxRecDepth 100000 in
/-- requirePart, in range -/
theorem c_part (l : Launch) (D : va_G) (q : Nat → Nat) (cI : ClassId) (tyr : List (ClassId × FieldType)) (wr : va_W) (sz n : Nat) (f g sf sg r : Nat → Int32) (a b : Nat) (h1 : a ≤ b) (h2 : b ≤ n) (hn : n ≤ 2000) : xr_Met l yX0_requirePart (wU yX0_requirePart cX0_requirePart 3 none) ({ frames := 1, cells := 0, slots := 0, locals := 22 }) [.ref (q 0), .int (nI a), .int (nI b)] D (rs_ty cI tyr) (rs_X q cI (n) (f) (g) (sf) (sg) (r) ++ wr) sz (fun v w => v = none ∧ w = rs_X q cI n f g sf sg r ++ wr) 0 0 := by
  refine xr_start (by decide) (Nat.le_of_ble_eq_true rfl) ?_
  intro p e s m args below meth c A ls C0 hlk hr hnm hP hK hD hA hl
  have hx := C0.1
  have hb := C0.2.1
  have hS : va_S A s.heap s.heap [] := va_S.rf
  have hl : lv_has ls 3 [(0, .ref (q 0)), (1, .int (nI a)), (2, .int (nI b))] := hl
  refine lv_iload_n hx hb dX0_requirePart_0 rfl (lv_at hl 2 rfl) ?_
  refine lv_iconst (v := 0) hx hb dX0_requirePart_1 (by decide) ?_
  refine lv_aload_n hx hb dX0_requirePart_2 rfl (lv_at hl 0 rfl) ?_
  refine x0_get_size C0 hK hP 0 rfl rfl dX0_requirePart_3 ?_
  refine xr_scall (As := [.int (nI b), .int 0, .int (nI n)]) (rest := []) (nA := 3) C0 (c_within l D q cI tyr wr _ n f g sf sg r (nI b) 0 (nI n) (nI_pos (by omega)) (nI_le h2 (by omega))) (gS wM_X0_X0_requireWithin wS_X0_requireWithin wN_X0 wC_X0_requireWithin) (by decide +kernel) rfl rfl rfl ⟨by decide, by decide⟩ hK hP hD hS hA hl.1 rfl (Nat.le_of_ble_eq_true rfl) dX0_requirePart_6 ⟨Nat.le_of_ble_eq_true rfl, Nat.le_of_ble_eq_true rfl⟩ (fun v w H locs hv hP hD hz hS => ?_)
  obtain ⟨rfl, rfl⟩ := hv
  refine lv_iload_n hx hb dX0_requirePart_9 rfl (lv_at hl 1 rfl) ?_
  refine lv_iconst (v := 0) hx hb dX0_requirePart_10 (by decide) ?_
  refine lv_iload_n hx hb dX0_requirePart_11 rfl (lv_at hl 2 rfl) ?_
  refine xr_scall (As := [.int (nI a), .int 0, .int (nI b)]) (rest := []) (nA := 3) C0 (c_within l D q cI tyr wr _ n f g sf sg r (nI a) 0 (nI b) (nI_pos (by omega)) (nI_le h1 (by omega))) (gS wM_X0_X0_requireWithin wS_X0_requireWithin wN_X0 wC_X0_requireWithin) (by decide +kernel) rfl rfl rfl ⟨by decide, by decide⟩ hK hP hD hS hA hl.1 rfl (Nat.le_of_ble_eq_true rfl) dX0_requirePart_12 ⟨Nat.le_of_ble_eq_true rfl, Nat.le_of_ble_eq_true rfl⟩ (fun v w H locs hv hP hD hz hS => ?_)
  obtain ⟨rfl, rfl⟩ := hv
  exact xr_vret C0 hlk hr (⟨rfl, rfl⟩) hP hD hS dX0_requirePart_15
set_option maxHeartbeats 4000000 in
set_option maxRecDepth 100000 in
/-- requireRoomFor, in range -/
theorem c_room (l : Launch) (D : va_G) (q : Nat → Nat) (cI : ClassId) (tyr : List (ClassId × FieldType)) (wr : va_W) (sz n : Nat) (f g sf sg r : Nat → Int32) (k : Nat) (hn : n + k ≤ 2000) : xr_Met l yX0_requireRoomFor (wU yX0_requireRoomFor cX0_requireRoomFor 2 none) ({ frames := 0, cells := 0, slots := 0, locals := 0 }) [.ref (q 0), .int (nI k)] D (rs_ty cI tyr) (rs_X q cI (n) (f) (g) (sf) (sg) (r) ++ wr) sz (fun v w => v = none ∧ w = rs_X q cI n f g sf sg r ++ wr) 0 0 := by
  refine xr_start (by decide) (Nat.le_of_ble_eq_true rfl) ?_
  intro p e s m args below meth c A ls C0 hlk hr hnm hP hK hD hA hl
  have hx := C0.1
  have hb := C0.2.1
  have hS : va_S A s.heap s.heap [] := va_S.rf
  have hl : lv_has ls 2 [(0, .ref (q 0)), (1, .int (nI k))] := hl
  refine lv_iload_n hx hb dX0_requireRoomFor_0 rfl (lv_at hl 1 rfl) ?_
  refine lv_sipush (v := 2000) hx hb dX0_requireRoomFor_1 (by decide) ?_
  refine lv_aload_n hx hb dX0_requireRoomFor_4 rfl (lv_at hl 0 rfl) ?_
  refine x0_get_size C0 hK hP 0 rfl rfl dX0_requireRoomFor_5 ?_
  refine lv_isub hx hb dX0_requireRoomFor_8 ?_
  refine xr_top (pk_sub (a := 2000) (b := n) (by omega)) ?_
  refine lv_icmp_le hx hb dX0_requireRoomFor_9 rfl (fun h => ?_) (fun h => absurd (nI_le (by omega) (by omega)) h)
  exact xr_vret C0 hlk hr (⟨rfl, rfl⟩) hP hD hS dX0_requireRoomFor_22
set_option maxHeartbeats 4000000 in
set_option maxRecDepth 100000 in
/-- requireIndex, in range -/
theorem c_index (l : Launch) (D : va_G) (q : Nat → Nat) (cI : ClassId) (tyr : List (ClassId × FieldType)) (wr : va_W) (sz n : Nat) (f g sf sg r : Nat → Int32) (i : Nat) (hi : i < n) (hn : n ≤ 2000) : xr_Met l yX0_requireIndex (wU yX0_requireIndex cX0_requireIndex 2 none) ({ frames := 0, cells := 0, slots := 0, locals := 0 }) [.ref (q 0), .int (nI i)] D (rs_ty cI tyr) (rs_X q cI (n) (f) (g) (sf) (sg) (r) ++ wr) sz (fun v w => v = none ∧ w = rs_X q cI n f g sf sg r ++ wr) 0 0 := by
  refine xr_start (by decide) (Nat.le_of_ble_eq_true rfl) ?_
  intro p e s m args below meth c A ls C0 hlk hr hnm hP hK hD hA hl
  have hx := C0.1
  have hb := C0.2.1
  have hS : va_S A s.heap s.heap [] := va_S.rf
  have hl : lv_has ls 2 [(0, .ref (q 0)), (1, .int (nI i))] := hl
  refine lv_iload_n hx hb dX0_requireIndex_0 rfl (lv_at hl 1 rfl) ?_
  refine lv_if_lt hx hb dX0_requireIndex_1 rfl (fun h => absurd h (nI_pos (by omega))) (fun h => ?_)
  refine lv_iload_n hx hb dX0_requireIndex_4 rfl (lv_at hl 1 rfl) ?_
  refine lv_aload_n hx hb dX0_requireIndex_5 rfl (lv_at hl 0 rfl) ?_
  refine x0_get_size C0 hK hP 0 rfl rfl dX0_requireIndex_6 ?_
  refine lv_icmp_lt hx hb dX0_requireIndex_9 rfl (fun h => ?_) (fun h => absurd (nI_lt hi (by omega)) h)
  exact xr_vret C0 hlk hr (⟨rfl, rfl⟩) hP hD hS dX0_requireIndex_22
set_option maxHeartbeats 4000000 in
set_option maxRecDepth 100000 in
/-- append -/
theorem c_append (l : Launch) (D : va_G) (q : Nat → Nat) (cI : ClassId) (tyr : List (ClassId × FieldType)) (wr : va_W) (sz n : Nat) (f g sf sg r : Nat → Int32) (x : Int32) (hn : n < 2000) : xr_Met l yX0_append (wU yX0_append cX0_append 2 none) ({ frames := 0, cells := 0, slots := 0, locals := 0 }) [.ref (q 0), .int x] D (rs_ty cI tyr) (rs_X q cI (n) (f) (g) (sf) (sg) (r) ++ wr) sz (fun v w => v = none ∧ w = rs_X q cI (n + 1) (upd f n x) (upd g n (nI n)) sf sg r ++ wr) 0 0 := by
  refine xr_start (by decide) (Nat.le_of_ble_eq_true rfl) ?_
  intro p e s m args below meth c A ls C0 hlk hr hnm hP hK hD hA hl
  have hx := C0.1
  have hb := C0.2.1
  have hS : va_S A s.heap s.heap [] := va_S.rf
  have hl : lv_has ls 2 [(0, .ref (q 0)), (1, .int x)] := hl
  refine lv_aload_n hx hb dX0_append_0 rfl (lv_at hl 0 rfl) ?_
  refine x0_get_numbers C0 hK hP 0 rfl rfl dX0_append_1 ?_
  refine lv_aload_n hx hb dX0_append_4 rfl (lv_at hl 0 rfl) ?_
  refine x0_get_size C0 hK hP 0 rfl rfl dX0_append_5 ?_
  refine lv_iload_n hx hb dX0_append_8 rfl (lv_at hl 1 rfl) ?_
  refine xr_ast C0 hK hP hD hS 1 rfl (j := n) (by omega) (by decide) dX0_append_9 (fun H locs hP hD hS => ?_)
  have hP : va_P D vwCl (rs_X q cI (n) (upd f n x) (g) (sf) (sg) (r) ++ wr) H := hP
  have hD : va_D A (rs_X q cI (n) (upd f n x) (g) (sf) (sg) (r) ++ wr) := hD
  refine lv_aload_n hx hb dX0_append_10 rfl (lv_at hl 0 rfl) ?_
  refine x0_get_tags C0 hK hP 0 rfl rfl dX0_append_11 ?_
  refine lv_aload_n hx hb dX0_append_14 rfl (lv_at hl 0 rfl) ?_
  refine x0_get_size C0 hK hP 0 rfl rfl dX0_append_15 ?_
  refine lv_aload_n hx hb dX0_append_18 rfl (lv_at hl 0 rfl) ?_
  refine x0_get_size C0 hK hP 0 rfl rfl dX0_append_19 ?_
  refine xr_ast C0 hK hP hD hS 2 rfl (j := n) (by omega) (by decide) dX0_append_22 (fun H locs hP hD hS => ?_)
  have hP : va_P D vwCl (rs_X q cI (n) (upd f n x) (upd g n (nI (n))) (sf) (sg) (r) ++ wr) H := hP
  have hD : va_D A (rs_X q cI (n) (upd f n x) (upd g n (nI (n))) (sf) (sg) (r) ++ wr) := hD
  refine lv_aload_n hx hb dX0_append_23 rfl (lv_at hl 0 rfl) ?_
  refine lv_dup hx hb dX0_append_24 rfl ?_
  refine x0_get_size C0 hK hP 0 rfl rfl dX0_append_25 ?_
  refine lv_iconst (v := 1) hx hb dX0_append_28 (by decide) ?_
  refine lv_iadd hx hb dX0_append_29 ?_
  refine xr_top (nI_1 n) ?_
  refine x0_put_size C0 hK hP hD hS 0 rfl (Nat.le_of_ble_eq_true rfl) dX0_append_30 (fun H locs hP hD hS => ?_)
  have hP : va_P D vwCl (rs_X q cI (n + 1) (upd f n x) (upd g n (nI (n))) (sf) (sg) (r) ++ wr) H := hP
  have hD : va_D A (rs_X q cI (n + 1) (upd f n x) (upd g n (nI (n))) (sf) (sg) (r) ++ wr) := hD
  exact xr_vret C0 hlk hr (⟨rfl, rfl⟩) hP hD hS dX0_append_33
set_option maxHeartbeats 4000000 in
set_option maxRecDepth 100000 in
/-- swap -/
theorem c_swap (l : Launch) (D : va_G) (q : Nat → Nat) (cI : ClassId) (tyr : List (ClassId × FieldType)) (wr : va_W) (sz n : Nat) (f g sf sg r : Nat → Int32) (i j : Nat) (hi : i < 2000) (hj : j < 2000) : xr_Met l yX0_swap (wU yX0_swap cX0_swap 5 none) ({ frames := 0, cells := 0, slots := 0, locals := 0 }) [.ref (q 0), .int (nI i), .int (nI j)] D (rs_ty cI tyr) (rs_X q cI (n) (f) (g) (sf) (sg) (r) ++ wr) sz (fun v w => v = none ∧ w = rs_X q cI n (upd (upd f i (f j)) j (f i)) (upd (upd g i (g j)) j (g i)) sf sg r ++ wr) 0 0 := by
  refine xr_start (by decide) (Nat.le_of_ble_eq_true rfl) ?_
  intro p e s m args below meth c A ls C0 hlk hr hnm hP hK hD hA hl
  have hx := C0.1
  have hb := C0.2.1
  have hS : va_S A s.heap s.heap [] := va_S.rf
  have hl : lv_has ls 5 [(0, .ref (q 0)), (1, .int (nI i)), (2, .int (nI j))] := hl
  refine lv_aload_n hx hb dX0_swap_0 rfl (lv_at hl 0 rfl) ?_
  refine x0_get_numbers C0 hK hP 0 rfl rfl dX0_swap_1 ?_
  refine lv_iload_n hx hb dX0_swap_4 rfl (lv_at hl 1 rfl) ?_
  refine xr_ald C0 hK hP 1 rfl (j := i) (by omega) (by decide) dX0_swap_5 ?_
  refine lv_istore_n hx hb dX0_swap_6 rfl hl (by decide) rfl (fun ls hl => ?_)
  have hl : lv_has ls 5 [(3, .int (f i)), (0, .ref (q 0)), (1, .int (nI i)), (2, .int (nI j))] := hl
  refine lv_aload_n hx hb dX0_swap_7 rfl (lv_at hl 1 rfl) ?_
  refine x0_get_tags C0 hK hP 0 rfl rfl dX0_swap_8 ?_
  refine lv_iload_n hx hb dX0_swap_11 rfl (lv_at hl 2 rfl) ?_
  refine xr_ald C0 hK hP 2 rfl (j := i) (by omega) (by decide) dX0_swap_12 ?_
  refine lv_istore hx hb dX0_swap_13 hl (by decide) rfl (fun ls hl => ?_)
  have hl : lv_has ls 5 [(4, .int (g i)), (3, .int (f i)), (0, .ref (q 0)), (1, .int (nI i)), (2, .int (nI j))] := hl
  refine lv_aload_n hx hb dX0_swap_15 rfl (lv_at hl 2 rfl) ?_
  refine x0_get_numbers C0 hK hP 0 rfl rfl dX0_swap_16 ?_
  refine lv_iload_n hx hb dX0_swap_19 rfl (lv_at hl 3 rfl) ?_
  refine lv_aload_n hx hb dX0_swap_20 rfl (lv_at hl 2 rfl) ?_
  refine x0_get_numbers C0 hK hP 0 rfl rfl dX0_swap_21 ?_
  refine lv_iload_n hx hb dX0_swap_24 rfl (lv_at hl 4 rfl) ?_
  refine xr_ald C0 hK hP 1 rfl (j := j) (by omega) (by decide) dX0_swap_25 ?_
  refine xr_ast C0 hK hP hD hS 1 rfl (j := i) (by omega) (by decide) dX0_swap_26 (fun H locs hP hD hS => ?_)
  have hP : va_P D vwCl (rs_X q cI (n) (upd f i (f j)) (g) (sf) (sg) (r) ++ wr) H := hP
  have hD : va_D A (rs_X q cI (n) (upd f i (f j)) (g) (sf) (sg) (r) ++ wr) := hD
  refine lv_aload_n hx hb dX0_swap_27 rfl (lv_at hl 2 rfl) ?_
  refine x0_get_tags C0 hK hP 0 rfl rfl dX0_swap_28 ?_
  refine lv_iload_n hx hb dX0_swap_31 rfl (lv_at hl 3 rfl) ?_
  refine lv_aload_n hx hb dX0_swap_32 rfl (lv_at hl 2 rfl) ?_
  refine x0_get_tags C0 hK hP 0 rfl rfl dX0_swap_33 ?_
  refine lv_iload_n hx hb dX0_swap_36 rfl (lv_at hl 4 rfl) ?_
  refine xr_ald C0 hK hP 2 rfl (j := j) (by omega) (by decide) dX0_swap_37 ?_
  refine xr_ast C0 hK hP hD hS 2 rfl (j := i) (by omega) (by decide) dX0_swap_38 (fun H locs hP hD hS => ?_)
  have hP : va_P D vwCl (rs_X q cI (n) (upd f i (f j)) (upd g i (g j)) (sf) (sg) (r) ++ wr) H := hP
  have hD : va_D A (rs_X q cI (n) (upd f i (f j)) (upd g i (g j)) (sf) (sg) (r) ++ wr) := hD
  refine lv_aload_n hx hb dX0_swap_39 rfl (lv_at hl 2 rfl) ?_
  refine x0_get_numbers C0 hK hP 0 rfl rfl dX0_swap_40 ?_
  refine lv_iload_n hx hb dX0_swap_43 rfl (lv_at hl 4 rfl) ?_
  refine lv_iload_n hx hb dX0_swap_44 rfl (lv_at hl 1 rfl) ?_
  refine xr_ast C0 hK hP hD hS 1 rfl (j := j) (by omega) (by decide) dX0_swap_45 (fun H locs hP hD hS => ?_)
  have hP : va_P D vwCl (rs_X q cI (n) (upd (upd f i (f j)) j (f i)) (upd g i (g j)) (sf) (sg) (r) ++ wr) H := hP
  have hD : va_D A (rs_X q cI (n) (upd (upd f i (f j)) j (f i)) (upd g i (g j)) (sf) (sg) (r) ++ wr) := hD
  refine lv_aload_n hx hb dX0_swap_46 rfl (lv_at hl 2 rfl) ?_
  refine x0_get_tags C0 hK hP 0 rfl rfl dX0_swap_47 ?_
  refine lv_iload_n hx hb dX0_swap_50 rfl (lv_at hl 4 rfl) ?_
  refine lv_iload hx hb dX0_swap_51 (lv_at hl 0 rfl) ?_
  refine xr_ast C0 hK hP hD hS 2 rfl (j := j) (by omega) (by decide) dX0_swap_53 (fun H locs hP hD hS => ?_)
  have hP : va_P D vwCl (rs_X q cI (n) (upd (upd f i (f j)) j (f i)) (upd (upd g i (g j)) j (g i)) (sf) (sg) (r) ++ wr) H := hP
  have hD : va_D A (rs_X q cI (n) (upd (upd f i (f j)) j (f i)) (upd (upd g i (g j)) j (g i)) (sf) (sg) (r) ++ wr) := hD
  exact xr_vret C0 hlk hr (⟨rfl, rfl⟩) hP hD hS dX0_swap_54
set_option maxHeartbeats 4000000 in
set_option maxRecDepth 100000 in
/-- clear -/
theorem c_clear (l : Launch) (D : va_G) (q : Nat → Nat) (cI : ClassId) (tyr : List (ClassId × FieldType)) (wr : va_W) (sz n : Nat) (f g sf sg r : Nat → Int32) : xr_Met l yX0_clear (wU yX0_clear cX0_clear 2 (some .int)) ({ frames := 0, cells := 0, slots := 0, locals := 0 }) [.ref (q 0)] D (rs_ty cI tyr) (rs_X q cI (n) (f) (g) (sf) (sg) (r) ++ wr) sz (fun v w => v = some (.int (nI n)) ∧ w = rs_X q cI 0 f g sf sg r ++ wr) 0 0 := by
  refine xr_start (by decide) (Nat.le_of_ble_eq_true rfl) ?_
  intro p e s m args below meth c A ls C0 hlk hr hnm hP hK hD hA hl
  have hx := C0.1
  have hb := C0.2.1
  have hS : va_S A s.heap s.heap [] := va_S.rf
  have hl : lv_has ls 2 [(0, .ref (q 0))] := hl
  refine lv_aload_n hx hb dX0_clear_0 rfl (lv_at hl 0 rfl) ?_
  refine x0_get_size C0 hK hP 0 rfl rfl dX0_clear_1 ?_
  refine lv_istore_n hx hb dX0_clear_4 rfl hl (by decide) rfl (fun ls hl => ?_)
  have hl : lv_has ls 2 [(1, .int (nI (n))), (0, .ref (q 0))] := hl
  refine lv_aload_n hx hb dX0_clear_5 rfl (lv_at hl 1 rfl) ?_
  refine lv_iconst (v := 0) hx hb dX0_clear_6 (by decide) ?_
  refine x0_put_size C0 hK hP hD hS 0 rfl (Nat.le_of_ble_eq_true rfl) dX0_clear_7 (fun H locs hP hD hS => ?_)
  have hP : va_P D vwCl (rs_X q cI (0) (f) (g) (sf) (sg) (r) ++ wr) H := hP
  have hD : va_D A (rs_X q cI (0) (f) (g) (sf) (sg) (r) ++ wr) := hD
  refine lv_iload_n hx hb dX0_clear_10 rfl (lv_at hl 0 rfl) ?_
  exact xr_iret C0 hlk hr (⟨rfl, rfl⟩) hP hD hS dX0_clear_11
set_option maxHeartbeats 4000000 in
set_option maxRecDepth 100000 in
/-- get, in range -/
theorem c_get (l : Launch) (D : va_G) (q : Nat → Nat) (cI : ClassId) (tyr : List (ClassId × FieldType)) (wr : va_W) (sz n : Nat) (f g sf sg r : Nat → Int32) (i : Nat) (hi : i < n) (hn : n ≤ 2000) : xr_Met l yX0_get (wU yX0_get cX0_get 2 (some .int)) ({ frames := 1, cells := 0, slots := 0, locals := 21 }) [.ref (q 0), .int (nI i)] D (rs_ty cI tyr) (rs_X q cI (n) (f) (g) (sf) (sg) (r) ++ wr) sz (fun v w => v = some (.int (f i)) ∧ w = rs_X q cI n f g sf sg r ++ wr) 0 0 := by
  refine xr_start (by decide) (Nat.le_of_ble_eq_true rfl) ?_
  intro p e s m args below meth c A ls C0 hlk hr hnm hP hK hD hA hl
  have hx := C0.1
  have hb := C0.2.1
  have hS : va_S A s.heap s.heap [] := va_S.rf
  have hl : lv_has ls 2 [(0, .ref (q 0)), (1, .int (nI i))] := hl
  refine lv_aload_n hx hb dX0_get_0 rfl (lv_at hl 0 rfl) ?_
  refine lv_iload_n hx hb dX0_get_1 rfl (lv_at hl 1 rfl) ?_
  refine xr_vcall (As := [.int (nI i)]) (rest := []) (nA := 1) C0 (c_index l D q cI tyr wr _ n f g sf sg r i hi hn) (gV wM_X0_X0_requireIndex wI_X0_requireIndex wV_X0_X0_requireIndex wN_X0 wC_X0_requireIndex) (by decide +kernel) rfl rfl rfl ⟨by decide, by decide⟩ hK hP hD hS hA 0 rfl rfl hl.1 rfl (Nat.le_of_ble_eq_true rfl) dX0_get_2 ⟨Nat.le_of_ble_eq_true rfl, Nat.le_of_ble_eq_true rfl⟩ (fun v w H locs hv hP hD hz hS => ?_)
  obtain ⟨rfl, rfl⟩ := hv
  refine lv_aload_n hx hb dX0_get_5 rfl (lv_at hl 0 rfl) ?_
  refine x0_get_numbers C0 hK hP 0 rfl rfl dX0_get_6 ?_
  refine lv_iload_n hx hb dX0_get_9 rfl (lv_at hl 1 rfl) ?_
  refine xr_ald C0 hK hP 1 rfl (j := i) (by omega) (by decide) dX0_get_10 ?_
  exact xr_iret C0 hlk hr (⟨rfl, rfl⟩) hP hD hS dX0_get_11
set_option maxHeartbeats 4000000 in
set_option maxRecDepth 100000 in
/-- tag, in range -/
theorem c_tag (l : Launch) (D : va_G) (q : Nat → Nat) (cI : ClassId) (tyr : List (ClassId × FieldType)) (wr : va_W) (sz n : Nat) (f g sf sg r : Nat → Int32) (i : Nat) (hi : i < n) (hn : n ≤ 2000) : xr_Met l yX0_tag (wU yX0_tag cX0_tag 2 (some .int)) ({ frames := 1, cells := 0, slots := 0, locals := 21 }) [.ref (q 0), .int (nI i)] D (rs_ty cI tyr) (rs_X q cI (n) (f) (g) (sf) (sg) (r) ++ wr) sz (fun v w => v = some (.int (g i)) ∧ w = rs_X q cI n f g sf sg r ++ wr) 0 0 := by
  refine xr_start (by decide) (Nat.le_of_ble_eq_true rfl) ?_
  intro p e s m args below meth c A ls C0 hlk hr hnm hP hK hD hA hl
  have hx := C0.1
  have hb := C0.2.1
  have hS : va_S A s.heap s.heap [] := va_S.rf
  have hl : lv_has ls 2 [(0, .ref (q 0)), (1, .int (nI i))] := hl
  refine lv_aload_n hx hb dX0_tag_0 rfl (lv_at hl 0 rfl) ?_
  refine lv_iload_n hx hb dX0_tag_1 rfl (lv_at hl 1 rfl) ?_
  refine xr_vcall (As := [.int (nI i)]) (rest := []) (nA := 1) C0 (c_index l D q cI tyr wr _ n f g sf sg r i hi hn) (gV wM_X0_X0_requireIndex wI_X0_requireIndex wV_X0_X0_requireIndex wN_X0 wC_X0_requireIndex) (by decide +kernel) rfl rfl rfl ⟨by decide, by decide⟩ hK hP hD hS hA 0 rfl rfl hl.1 rfl (Nat.le_of_ble_eq_true rfl) dX0_tag_2 ⟨Nat.le_of_ble_eq_true rfl, Nat.le_of_ble_eq_true rfl⟩ (fun v w H locs hv hP hD hz hS => ?_)
  obtain ⟨rfl, rfl⟩ := hv
  refine lv_aload_n hx hb dX0_tag_5 rfl (lv_at hl 0 rfl) ?_
  refine x0_get_tags C0 hK hP 0 rfl rfl dX0_tag_6 ?_
  refine lv_iload_n hx hb dX0_tag_9 rfl (lv_at hl 1 rfl) ?_
  refine xr_ald C0 hK hP 2 rfl (j := i) (by omega) (by decide) dX0_tag_10 ?_
  exact xr_iret C0 hlk hr (⟨rfl, rfl⟩) hP hD hS dX0_tag_11
set_option maxHeartbeats 4000000 in
set_option maxRecDepth 100000 in
/-- set, in range -/
theorem c_set (l : Launch) (D : va_G) (q : Nat → Nat) (cI : ClassId) (tyr : List (ClassId × FieldType)) (wr : va_W) (sz n : Nat) (f g sf sg r : Nat → Int32) (i : Nat) (x : Int32) (hi : i < n) (hn : n ≤ 2000) : xr_Met l yX0_set (wU yX0_set cX0_set 4 (some .int)) ({ frames := 1, cells := 0, slots := 0, locals := 21 }) [.ref (q 0), .int (nI i), .int x] D (rs_ty cI tyr) (rs_X q cI (n) (f) (g) (sf) (sg) (r) ++ wr) sz (fun v w => v = some (.int (f i)) ∧ w = rs_X q cI n (upd f i x) g sf sg r ++ wr) 0 0 := by
  refine xr_start (by decide) (Nat.le_of_ble_eq_true rfl) ?_
  intro p e s m args below meth c A ls C0 hlk hr hnm hP hK hD hA hl
  have hx := C0.1
  have hb := C0.2.1
  have hS : va_S A s.heap s.heap [] := va_S.rf
  have hl : lv_has ls 4 [(0, .ref (q 0)), (1, .int (nI i)), (2, .int x)] := hl
  refine lv_aload_n hx hb dX0_set_0 rfl (lv_at hl 0 rfl) ?_
  refine lv_iload_n hx hb dX0_set_1 rfl (lv_at hl 1 rfl) ?_
  refine xr_vcall (As := [.int (nI i)]) (rest := []) (nA := 1) C0 (c_index l D q cI tyr wr _ n f g sf sg r i hi hn) (gV wM_X0_X0_requireIndex wI_X0_requireIndex wV_X0_X0_requireIndex wN_X0 wC_X0_requireIndex) (by decide +kernel) rfl rfl rfl ⟨by decide, by decide⟩ hK hP hD hS hA 0 rfl rfl hl.1 rfl (Nat.le_of_ble_eq_true rfl) dX0_set_2 ⟨Nat.le_of_ble_eq_true rfl, Nat.le_of_ble_eq_true rfl⟩ (fun v w H locs hv hP hD hz hS => ?_)
  obtain ⟨rfl, rfl⟩ := hv
  refine lv_aload_n hx hb dX0_set_5 rfl (lv_at hl 0 rfl) ?_
  refine x0_get_numbers C0 hK hP 0 rfl rfl dX0_set_6 ?_
  refine lv_iload_n hx hb dX0_set_9 rfl (lv_at hl 1 rfl) ?_
  refine xr_ald C0 hK hP 1 rfl (j := i) (by omega) (by decide) dX0_set_10 ?_
  refine lv_istore_n hx hb dX0_set_11 rfl hl (by decide) rfl (fun ls hl => ?_)
  have hl : lv_has ls 4 [(3, .int (f i)), (0, .ref (q 0)), (1, .int (nI i)), (2, .int x)] := hl
  refine lv_aload_n hx hb dX0_set_12 rfl (lv_at hl 1 rfl) ?_
  refine x0_get_numbers C0 hK hP 0 rfl rfl dX0_set_13 ?_
  refine lv_iload_n hx hb dX0_set_16 rfl (lv_at hl 2 rfl) ?_
  refine lv_iload_n hx hb dX0_set_17 rfl (lv_at hl 3 rfl) ?_
  refine xr_ast C0 hK hP hD hS 1 rfl (j := i) (by omega) (by decide) dX0_set_18 (fun H locs hP hD hS => ?_)
  have hP : va_P D vwCl (rs_X q cI (n) (upd f i x) (g) (sf) (sg) (r) ++ wr) H := hP
  have hD : va_D A (rs_X q cI (n) (upd f i x) (g) (sf) (sg) (r) ++ wr) := hD
  refine lv_iload_n hx hb dX0_set_19 rfl (lv_at hl 0 rfl) ?_
  exact xr_iret C0 hlk hr (⟨rfl, rfl⟩) hP hD hS dX0_set_20
end
section
/-! The class: rank, fill, scatter, hash, turn, upTo, where they return (rows laid by wip/whole/p08.py). -/
/-- the numbers that fill lays, one after the other -/
def rs_fi (f : Nat → Int32) (n : Nat) (x st : Int32) : Nat → Nat → Int32
  | 0 => f
  | i + 1 => upd (rs_fi f n x st i) (n + i) (x + nI i * st)
def rs_tg (g : Nat → Int32) (n : Nat) : Nat → Nat → Int32
  | 0 => g
  | i + 1 => upd (rs_tg g n i) (n + i) (nI (n + i))
def rs_sd (x : Int32) : Nat → Int32
  | 0 => x
  | i + 1 => 1664525 * rs_sd x i + 1013904223
def rs_sc (f : Nat → Int32) (n : Nat) (x b : Int32) : Nat → Nat → Int32
  | 0 => f
  | i + 1 => upd (rs_sc f n x b i) (n + i) (((rs_sd x (i + 1)).toUInt32 >>> ((16 : Int32).toUInt32 &&& Int32.toUInt32 31)).toInt32 &&& (((1 : Int32) <<< (b &&& 31)) - 1))
def rs_hs (f g : Nat → Int32) : Nat → Int32
  | 0 => 1
  | i + 1 => 31 * (31 * rs_hs f g i + f i) + g i
/-- i numbers from both ends have changed places -/
def rs_tn (f : Nat → Int32) (a b : Nat) : Nat → Nat → Int32
  | 0 => f
  | i + 1 => upd (upd (rs_tn f a b i) (a + i) (rs_tn f a b i (b - 1 - i))) (b - 1 - i) (rs_tn f a b i (a + i))
/-- upTo goes on over y -/
def rs_go (o x b y : Int32) : Prop := ¬ rs_rk o x < rs_rk o y ∧ ¬ (rs_rk o y = rs_rk o x ∧ b = 0)
def rs_uT (o x b : Int32) (f : Nat → Int32) (n r : Nat) : Prop := r ≤ n ∧ (∀ i, i < r → rs_go o x b (f i)) ∧ (r < n → ¬ rs_go o x b (f r))
theorem rs_uT.one {o x b : Int32} {f : Nat → Int32} {n r t : Nat} (h : rs_uT o x b f n r) (h2 : rs_uT o x b f n t) : r = t := by
  obtain ⟨a1, a2, a3⟩ := h
  obtain ⟨b1, b2, b3⟩ := h2
  rcases Nat.lt_trichotomy r t with q | q | q
  · exact absurd (b2 r q) (a3 (by omega))
  · exact q
  · exact absurd (a2 t q) (b3 (by omega))
theorem rs_inc (i : Nat) : nI i + Int32.ofInt 1 = nI (i + 1) := by rw [lit1]; exact nI_1 i
theorem rs_pre (i : Nat) (h : 0 < i) : nI i - 1 = nI (i - 1) := by
  have e := pk_sub (a := i) (b := 1) h
  exact e
theorem rs_half {c : Nat} (h : c < 2 ^ 31) : nI c / 2 = nI (c / 2) := pk_div (a := c) (d := 2) h (by omega) (by omega)
set_option maxHeartbeats 4000000 in
set_option maxRecDepth 100000 in
/-- rank -/
theorem c_rank (l : Launch) (D : va_G) (q : Nat → Nat) (cI : ClassId) (tyr : List (ClassId × FieldType)) (wr : va_W) (sz n : Nat) (f g sf sg r : Nat → Int32) (o x : Int32) : xr_Met l yX0_rank (wU yX0_rank cX0_rank 2 (some .int)) ({ frames := 0, cells := 0, slots := 0, locals := 0 }) [.int o, .int x] D (rs_ty cI tyr) (rs_X q cI (n) (f) (g) (sf) (sg) (r) ++ wr) sz (fun v w => v = some (.int (rs_rk o x)) ∧ w = rs_X q cI n f g sf sg r ++ wr) 0 0 := by
  refine xr_start (by decide) (Nat.le_of_ble_eq_true rfl) ?_
  intro p e s m args below meth c A ls C0 hlk hr hnm hP hK hD hA hl
  have hx := C0.1
  have hb := C0.2.1
  have hS : va_S A s.heap s.heap [] := va_S.rf
  have hl : lv_has ls 2 [(0, .int o), (1, .int x)] := hl
  refine lv_iload_n hx hb dX0_rank_0 rfl (lv_at hl 0 rfl) ?_
  by_cases h1 : o = 1
  · subst h1
    refine lv_tableIn (off := 27) (tgt := 28) hx hb dX0_rank_1 (by decide) (by decide) (by decide) (by decide) ?_
    refine lv_iload_n hx hb dX0_rank_28 rfl (lv_at hl 1 rfl) ?_
    refine lv_iconst (v := -1) hx hb dX0_rank_29 (by decide) ?_
    refine lv_ixor hx hb dX0_rank_30 ?_
    exact xr_iret C0 hlk hr (⟨by simp [rs_rk], rfl⟩) hP hD hS dX0_rank_31
  · skip
    by_cases h2 : o = 2
    · subst h2
      refine lv_tableIn (off := 31) (tgt := 32) hx hb dX0_rank_1 (by decide) (by decide) (by decide) (by decide) ?_
      refine lv_iload_n hx hb dX0_rank_32 rfl (lv_at hl 1 rfl) ?_
      refine lv_bipush (v := 15) hx hb dX0_rank_33 (by decide) ?_
      refine lv_iand hx hb dX0_rank_35 ?_
      exact xr_iret C0 hlk hr (⟨by simp [rs_rk], rfl⟩) hP hD hS dX0_rank_36
    · skip
      by_cases h3 : o = 3
      · subst h3
        refine lv_tableIn (off := 36) (tgt := 37) hx hb dX0_rank_1 (by decide) (by decide) (by decide) (by decide) ?_
        refine lv_iload_n hx hb dX0_rank_37 rfl (lv_at hl 1 rfl) ?_
        refine lv_ldc (v := -2147483648) hx hb C0.2.2.2.1 (C0.2.2.2.2 _ wQ_X0_80) dX0_rank_38 ?_
        refine lv_ixor hx hb dX0_rank_40 ?_
        exact xr_iret C0 hlk hr (⟨by simp [rs_rk], rfl⟩) hP hD hS dX0_rank_41
      · skip
        have hout : o.toInt < 1 ∨ 3 < o.toInt := by
          have e1 : o.toInt ≠ 1 := fun h => h1 (Int32.toInt_inj.mp h)
          have e2 : o.toInt ≠ 2 := fun h => h2 (Int32.toInt_inj.mp h)
          have e3 : o.toInt ≠ 3 := fun h => h3 (Int32.toInt_inj.mp h)
          omega
        refine lv_tableOut (tgt := 42) hx hb dX0_rank_1 hout (by decide) ?_
        refine lv_iload_n hx hb dX0_rank_42 rfl (lv_at hl 1 rfl) ?_
        exact xr_iret C0 hlk hr (⟨by simp [rs_rk, h1, h2, h3], rfl⟩) hP hD hS dX0_rank_43
set_option maxHeartbeats 4000000 in
set_option maxRecDepth 100000 in
/-- fill, in range -/
theorem c_fill (l : Launch) (D : va_G) (q : Nat → Nat) (cI : ClassId) (tyr : List (ClassId × FieldType)) (wr : va_W) (sz n : Nat) (f g sf sg r : Nat → Int32) (x st : Int32) (k : Nat) (hn : n + k ≤ 2000) : xr_Met l yX0_fill (wU yX0_fill cX0_fill 5 (some .int)) ({ frames := 1, cells := 0, slots := 0, locals := 40 }) [.ref (q 0), .int x, .int st, .int (nI k)] D (rs_ty cI tyr) (rs_X q cI (n) (f) (g) (sf) (sg) (r) ++ wr) sz (fun v w => v = some (.int (nI (n + k))) ∧ w = rs_X q cI (n + k) (rs_fi f n x st k) (rs_tg g n k) sf sg r ++ wr) 0 0 := by
  refine xr_startQ (by decide) (Nat.le_of_ble_eq_true rfl) ?_
  intro p e s m args below meth c A ls Q hQ C0 hlk hr hP hK hD hA hl
  have hx := C0.1
  have hb := C0.2.1
  have hS : va_S A s.heap s.heap [] := va_S.rf
  have hl : lv_has ls 5 [(0, .ref (q 0)), (1, .int x), (2, .int st), (3, .int (nI k))] := hl
  refine lv_iload_n hx hb dX0_fill_0 rfl (lv_at hl 3 rfl) ?_
  refine lv_iconst (v := 0) hx hb dX0_fill_1 (by decide) ?_
  refine lv_sipush (v := 2000) hx hb dX0_fill_2 (by decide) ?_
  refine xr_scall (As := [.int (nI k), .int 0, .int 2000]) (rest := []) (nA := 3) C0 (c_within l D q cI tyr wr _ n f g sf sg r (nI k) 0 2000 (nI_pos (by omega)) (nI_le (b := 2000) (by omega) (by omega))) (gS wM_X0_X0_requireWithin wS_X0_requireWithin wN_X0 wC_X0_requireWithin) (by decide +kernel) rfl rfl rfl ⟨by decide, by decide⟩ hK hP hD hS hA hl.1 rfl (Nat.le_of_ble_eq_true rfl) dX0_fill_5 ⟨Nat.le_of_ble_eq_true rfl, Nat.le_of_ble_eq_true rfl⟩ (fun v w H locs hv hP hD hz hS => ?_)
  obtain ⟨rfl, rfl⟩ := hv
  refine lv_aload_n hx hb dX0_fill_8 rfl (lv_at hl 0 rfl) ?_
  refine lv_iload_n hx hb dX0_fill_9 rfl (lv_at hl 3 rfl) ?_
  refine xr_vcall (As := [.int (nI k)]) (rest := []) (nA := 1) C0 (c_room l D q cI tyr wr _ n f g sf sg r k hn) (gV wM_X0_X0_requireRoomFor wI_X0_requireRoomFor wV_X0_X0_requireRoomFor wN_X0 wC_X0_requireRoomFor) (by decide +kernel) rfl rfl rfl ⟨by decide, by decide⟩ hK hP hD hS hA 0 rfl rfl hl.1 rfl (Nat.le_of_ble_eq_true rfl) dX0_fill_10 ⟨Nat.le_of_ble_eq_true rfl, Nat.le_of_ble_eq_true rfl⟩ (fun v w H locs hv hP hD hz hS => ?_)
  obtain ⟨rfl, rfl⟩ := hv
  have loop : ∀ (j i : Nat) (H : Heap) (locs : List Loc) (ls : Array Slot), i + j = k → va_P D vwCl (rs_X q cI (n + i) (rs_fi f n x st i) (rs_tg g n i) (sf) (sg) (r) ++ wr) H → va_D A (rs_X q cI (n + i) (rs_fi f n x st i) (rs_tg g n i) (sf) (sg) (r) ++ wr) → va_S A s.heap H locs → lv_has ls 5 [(4, .int (nI i)), (0, .ref (q 0)), (1, .int x), (2, .int st), (3, .int (nI k))] → W p l e ({ frames := 1, cells := 0, slots := 0, locals := 40 }) s m args below meth c H locs 0 0 Q (F0 m 16 ls []) := by
    intro j
    induction j with
    | zero =>
      intro i H locs ls hi hP hD hS hl
      refine lv_iload hx hb dX0_fill_16 (lv_at hl 0 rfl) ?_
      refine lv_iload_n hx hb dX0_fill_18 rfl (lv_at hl 4 rfl) ?_
      refine lv_icmp_ge hx hb dX0_fill_19 rfl (fun h => ?_) (fun h => absurd (nI_le (by omega) (by omega)) h)
      refine lv_aload_n hx hb dX0_fill_38 rfl (lv_at hl 1 rfl) ?_
      refine x0_get_size C0 hK hP 0 rfl rfl dX0_fill_39 ?_
      have e : i = k := by omega
      subst e
      rw [hQ]
      exact xr_iret C0 hlk hr (⟨rfl, rfl⟩) hP hD hS dX0_fill_42
    | succ j ih =>
      intro i H locs ls hi hP hD hS hl
      refine lv_iload hx hb dX0_fill_16 (lv_at hl 0 rfl) ?_
      refine lv_iload_n hx hb dX0_fill_18 rfl (lv_at hl 4 rfl) ?_
      refine lv_icmp_ge hx hb dX0_fill_19 rfl (fun h => absurd h (nI_ge (by omega) (by omega))) (fun h => ?_)
      refine lv_aload_n hx hb dX0_fill_22 rfl (lv_at hl 1 rfl) ?_
      refine lv_iload_n hx hb dX0_fill_23 rfl (lv_at hl 2 rfl) ?_
      refine lv_iload hx hb dX0_fill_24 (lv_at hl 0 rfl) ?_
      refine lv_iload_n hx hb dX0_fill_26 rfl (lv_at hl 3 rfl) ?_
      refine lv_imul hx hb dX0_fill_27 ?_
      refine lv_iadd hx hb dX0_fill_28 ?_
      refine xr_vcall (As := [.int (x + (nI i * st))]) (rest := []) (nA := 1) C0 (c_append l D q cI tyr wr _ (n + i) _ _ sf sg r (x + nI i * st) (by omega)) (gV wM_X0_X0_append wI_X0_append wV_X0_X0_append wN_X0 wC_X0_append) (by decide +kernel) rfl rfl rfl ⟨by decide, by decide⟩ hK hP hD hS hA 0 rfl rfl hl.1 rfl (Nat.le_of_ble_eq_true rfl) dX0_fill_29 ⟨Nat.le_of_ble_eq_true rfl, Nat.le_of_ble_eq_true rfl⟩ (fun v w H locs hv hP hD hz hS => ?_)
      obtain ⟨rfl, rfl⟩ := hv
      refine lv_iinc (k := 0) hx hb dX0_fill_32 hl rfl (rs_inc i) (by decide) rfl (fun ls hl => ?_)
      have hl : lv_has ls 5 [(4, .int (nI (i + 1))), (0, .ref (q 0)), (1, .int x), (2, .int st), (3, .int (nI k))] := hl
      refine lv_goto hx hb dX0_fill_35 rfl ?_
      exact ih (i + 1) H locs ls (by omega) hP hD hS hl
  refine lv_iconst (v := 0) hx hb dX0_fill_13 (by decide) ?_
  refine lv_istore hx hb dX0_fill_14 hl (by decide) rfl (fun ls hl => ?_)
  have hl : lv_has ls 5 [(4, .int (nI 0)), (0, .ref (q 0)), (1, .int x), (2, .int st), (3, .int (nI k))] := hl
  exact loop k 0 _ _ ls (by omega) hP hD hS hl
set_option maxHeartbeats 4000000 in
set_option maxRecDepth 100000 in
/-- scatter, in range -/
theorem c_scatter (l : Launch) (D : va_G) (q : Nat → Nat) (cI : ClassId) (tyr : List (ClassId × FieldType)) (wr : va_W) (sz n : Nat) (f g sf sg r : Nat → Int32) (x b : Int32) (k : Nat) (hb1 : ¬ b < 1) (hb2 : b ≤ 16) (hn : n + k ≤ 2000) : xr_Met l yX0_scatter (wU yX0_scatter cX0_scatter 7 (some .int)) ({ frames := 1, cells := 0, slots := 0, locals := 40 }) [.ref (q 0), .int x, .int b, .int (nI k)] D (rs_ty cI tyr) (rs_X q cI (n) (f) (g) (sf) (sg) (r) ++ wr) sz (fun v w => v = some (.int (nI (n + k))) ∧ w = rs_X q cI (n + k) (rs_sc f n x b k) (rs_tg g n k) sf sg r ++ wr) 0 0 := by
  refine xr_startQ (by decide) (Nat.le_of_ble_eq_true rfl) ?_
  intro p e s m args below meth c A ls Q hQ C0 hlk hr hP hK hD hA hl
  have hx := C0.1
  have hb := C0.2.1
  have hS : va_S A s.heap s.heap [] := va_S.rf
  have hl : lv_has ls 7 [(0, .ref (q 0)), (1, .int x), (2, .int b), (3, .int (nI k))] := hl
  refine lv_iload_n hx hb dX0_scatter_0 rfl (lv_at hl 3 rfl) ?_
  refine lv_iconst (v := 0) hx hb dX0_scatter_1 (by decide) ?_
  refine lv_sipush (v := 2000) hx hb dX0_scatter_2 (by decide) ?_
  refine xr_scall (As := [.int (nI k), .int 0, .int 2000]) (rest := []) (nA := 3) C0 (c_within l D q cI tyr wr _ n f g sf sg r (nI k) 0 2000 (nI_pos (by omega)) (nI_le (b := 2000) (by omega) (by omega))) (gS wM_X0_X0_requireWithin wS_X0_requireWithin wN_X0 wC_X0_requireWithin) (by decide +kernel) rfl rfl rfl ⟨by decide, by decide⟩ hK hP hD hS hA hl.1 rfl (Nat.le_of_ble_eq_true rfl) dX0_scatter_5 ⟨Nat.le_of_ble_eq_true rfl, Nat.le_of_ble_eq_true rfl⟩ (fun v w H locs hv hP hD hz hS => ?_)
  obtain ⟨rfl, rfl⟩ := hv
  refine lv_iload_n hx hb dX0_scatter_8 rfl (lv_at hl 2 rfl) ?_
  refine lv_iconst (v := 1) hx hb dX0_scatter_9 (by decide) ?_
  refine lv_bipush (v := 16) hx hb dX0_scatter_10 (by decide) ?_
  refine xr_scall (As := [.int b, .int 1, .int 16]) (rest := []) (nA := 3) C0 (c_within l D q cI tyr wr _ n f g sf sg r b 1 16 hb1 hb2) (gS wM_X0_X0_requireWithin wS_X0_requireWithin wN_X0 wC_X0_requireWithin) (by decide +kernel) rfl rfl rfl ⟨by decide, by decide⟩ hK hP hD hS hA hl.1 rfl (Nat.le_of_ble_eq_true rfl) dX0_scatter_12 ⟨Nat.le_of_ble_eq_true rfl, Nat.le_of_ble_eq_true rfl⟩ (fun v w H locs hv hP hD hz hS => ?_)
  obtain ⟨rfl, rfl⟩ := hv
  refine lv_aload_n hx hb dX0_scatter_15 rfl (lv_at hl 0 rfl) ?_
  refine lv_iload_n hx hb dX0_scatter_16 rfl (lv_at hl 3 rfl) ?_
  refine xr_vcall (As := [.int (nI k)]) (rest := []) (nA := 1) C0 (c_room l D q cI tyr wr _ n f g sf sg r k hn) (gV wM_X0_X0_requireRoomFor wI_X0_requireRoomFor wV_X0_X0_requireRoomFor wN_X0 wC_X0_requireRoomFor) (by decide +kernel) rfl rfl rfl ⟨by decide, by decide⟩ hK hP hD hS hA 0 rfl rfl hl.1 rfl (Nat.le_of_ble_eq_true rfl) dX0_scatter_17 ⟨Nat.le_of_ble_eq_true rfl, Nat.le_of_ble_eq_true rfl⟩ (fun v w H locs hv hP hD hz hS => ?_)
  obtain ⟨rfl, rfl⟩ := hv
  have loop : ∀ (j i : Nat) (H : Heap) (locs : List Loc) (ls : Array Slot), i + j = k → va_P D vwCl (rs_X q cI (n + i) (rs_sc f n x b i) (rs_tg g n i) (sf) (sg) (r) ++ wr) H → va_D A (rs_X q cI (n + i) (rs_sc f n x b i) (rs_tg g n i) (sf) (sg) (r) ++ wr) → va_S A s.heap H locs → lv_has ls 7 [(6, .int (nI i)), (5, .int (rs_sd x i)), (4, .int ((1 <<< (b &&& 31)) - 1)), (0, .ref (q 0)), (1, .int x), (2, .int b), (3, .int (nI k))] → W p l e ({ frames := 1, cells := 0, slots := 0, locals := 40 }) s m args below meth c H locs 0 0 Q (F0 m 33 ls []) := by
    intro j
    induction j with
    | zero =>
      intro i H locs ls hi hP hD hS hl
      refine lv_iload hx hb dX0_scatter_33 (lv_at hl 0 rfl) ?_
      refine lv_iload_n hx hb dX0_scatter_35 rfl (lv_at hl 6 rfl) ?_
      refine lv_icmp_ge hx hb dX0_scatter_36 rfl (fun h => ?_) (fun h => absurd (nI_le (by omega) (by omega)) h)
      refine lv_aload_n hx hb dX0_scatter_67 rfl (lv_at hl 3 rfl) ?_
      refine x0_get_size C0 hK hP 0 rfl rfl dX0_scatter_68 ?_
      have e : i = k := by omega
      subst e
      rw [hQ]
      exact xr_iret C0 hlk hr (⟨rfl, rfl⟩) hP hD hS dX0_scatter_71
    | succ j ih =>
      intro i H locs ls hi hP hD hS hl
      refine lv_iload hx hb dX0_scatter_33 (lv_at hl 0 rfl) ?_
      refine lv_iload_n hx hb dX0_scatter_35 rfl (lv_at hl 6 rfl) ?_
      refine lv_icmp_ge hx hb dX0_scatter_36 rfl (fun h => absurd h (nI_ge (by omega) (by omega))) (fun h => ?_)
      refine lv_ldc (v := 1664525) hx hb C0.2.2.2.1 (C0.2.2.2.2 _ wQ_X0_40) dX0_scatter_39 ?_
      refine lv_iload hx hb dX0_scatter_41 (lv_at hl 1 rfl) ?_
      refine lv_imul hx hb dX0_scatter_43 ?_
      refine lv_ldc (v := 1013904223) hx hb C0.2.2.2.1 (C0.2.2.2.2 _ wQ_X0_41) dX0_scatter_44 ?_
      refine lv_iadd hx hb dX0_scatter_46 ?_
      refine lv_istore hx hb dX0_scatter_47 hl (by decide) rfl (fun ls hl => ?_)
      have hl : lv_has ls 7 [(5, .int (rs_sd x (i + 1))), (6, .int (nI i)), (4, .int ((1 <<< (b &&& 31)) - 1)), (0, .ref (q 0)), (1, .int x), (2, .int b), (3, .int (nI k))] := hl
      refine lv_aload_n hx hb dX0_scatter_49 rfl (lv_at hl 3 rfl) ?_
      refine lv_iload hx hb dX0_scatter_50 (lv_at hl 0 rfl) ?_
      refine lv_bipush (v := 16) hx hb dX0_scatter_52 (by decide) ?_
      refine lv_iushr hx hb dX0_scatter_54 rfl ?_
      refine lv_iload hx hb dX0_scatter_55 (lv_at hl 2 rfl) ?_
      refine lv_iand hx hb dX0_scatter_57 ?_
      refine xr_vcall (As := [.int ((((rs_sd x (i + 1)).toUInt32 >>> ((16 : Int32).toUInt32 &&& Int32.toUInt32 31)).toInt32) &&& ((1 <<< (b &&& 31)) - 1))]) (rest := []) (nA := 1) C0 (c_append l D q cI tyr wr _ (n + i) _ _ sf sg r _ (by omega)) (gV wM_X0_X0_append wI_X0_append wV_X0_X0_append wN_X0 wC_X0_append) (by decide +kernel) rfl rfl rfl ⟨by decide, by decide⟩ hK hP hD hS hA 0 rfl rfl hl.1 rfl (Nat.le_of_ble_eq_true rfl) dX0_scatter_58 ⟨Nat.le_of_ble_eq_true rfl, Nat.le_of_ble_eq_true rfl⟩ (fun v w H locs hv hP hD hz hS => ?_)
      obtain ⟨rfl, rfl⟩ := hv
      refine lv_iinc (k := 1) hx hb dX0_scatter_61 hl rfl (rs_inc i) (by decide) rfl (fun ls hl => ?_)
      have hl : lv_has ls 7 [(6, .int (nI (i + 1))), (5, .int (rs_sd x (i + 1))), (4, .int ((1 <<< (b &&& 31)) - 1)), (0, .ref (q 0)), (1, .int x), (2, .int b), (3, .int (nI k))] := hl
      refine lv_goto hx hb dX0_scatter_64 rfl ?_
      exact ih (i + 1) H locs ls (by omega) hP hD hS hl
  refine lv_iconst (v := 1) hx hb dX0_scatter_20 (by decide) ?_
  refine lv_iload_n hx hb dX0_scatter_21 rfl (lv_at hl 2 rfl) ?_
  refine lv_ishl hx hb dX0_scatter_22 ?_
  refine lv_iconst (v := 1) hx hb dX0_scatter_23 (by decide) ?_
  refine lv_isub hx hb dX0_scatter_24 ?_
  refine lv_istore hx hb dX0_scatter_25 hl (by decide) rfl (fun ls hl => ?_)
  have hl : lv_has ls 7 [(4, .int ((1 <<< (b &&& 31)) - 1)), (0, .ref (q 0)), (1, .int x), (2, .int b), (3, .int (nI k))] := hl
  refine lv_iload_n hx hb dX0_scatter_27 rfl (lv_at hl 2 rfl) ?_
  refine lv_istore hx hb dX0_scatter_28 hl (by decide) rfl (fun ls hl => ?_)
  have hl : lv_has ls 7 [(5, .int (rs_sd x 0)), (4, .int ((1 <<< (b &&& 31)) - 1)), (0, .ref (q 0)), (1, .int x), (2, .int b), (3, .int (nI k))] := hl
  refine lv_iconst (v := 0) hx hb dX0_scatter_30 (by decide) ?_
  refine lv_istore hx hb dX0_scatter_31 hl (by decide) rfl (fun ls hl => ?_)
  have hl : lv_has ls 7 [(6, .int (nI 0)), (5, .int (rs_sd x 0)), (4, .int ((1 <<< (b &&& 31)) - 1)), (0, .ref (q 0)), (1, .int x), (2, .int b), (3, .int (nI k))] := hl
  exact loop k 0 _ _ ls (by omega) hP hD hS hl
set_option maxHeartbeats 4000000 in
set_option maxRecDepth 100000 in
/-- hash -/
theorem c_hash (l : Launch) (D : va_G) (q : Nat → Nat) (cI : ClassId) (tyr : List (ClassId × FieldType)) (wr : va_W) (sz n : Nat) (f g sf sg r : Nat → Int32) (hn : n ≤ 2000) : xr_Met l yX0_hash (wU yX0_hash cX0_hash 3 (some .int)) ({ frames := 0, cells := 0, slots := 0, locals := 0 }) [.ref (q 0)] D (rs_ty cI tyr) (rs_X q cI (n) (f) (g) (sf) (sg) (r) ++ wr) sz (fun v w => v = some (.int (rs_hs f g n)) ∧ w = rs_X q cI n f g sf sg r ++ wr) 0 0 := by
  refine xr_startQ (by decide) (Nat.le_of_ble_eq_true rfl) ?_
  intro p e s m args below meth c A ls Q hQ C0 hlk hr hP hK hD hA hl
  have hx := C0.1
  have hb := C0.2.1
  have hS : va_S A s.heap s.heap [] := va_S.rf
  have hl : lv_has ls 3 [(0, .ref (q 0))] := hl
  have loop : ∀ (j i : Nat) (H : Heap) (locs : List Loc) (ls : Array Slot), i + j = n → va_P D vwCl (rs_X q cI (n) (f) (g) (sf) (sg) (r) ++ wr) H → va_D A (rs_X q cI (n) (f) (g) (sf) (sg) (r) ++ wr) → va_S A s.heap H locs → lv_has ls 3 [(2, .int (nI i)), (1, .int (rs_hs f g i)), (0, .ref (q 0))] → W p l e ({ frames := 0, cells := 0, slots := 0, locals := 0 }) s m args below meth c H locs 0 0 Q (F0 m 4 ls []) := by
    intro j
    induction j with
    | zero =>
      intro i H locs ls hi hP hD hS hl
      refine lv_iload_n hx hb dX0_hash_4 rfl (lv_at hl 0 rfl) ?_
      refine lv_aload_n hx hb dX0_hash_5 rfl (lv_at hl 2 rfl) ?_
      refine x0_get_size C0 hK hP 0 rfl rfl dX0_hash_6 ?_
      refine lv_icmp_ge hx hb dX0_hash_9 rfl (fun h => ?_) (fun h => absurd (nI_le (by omega) (by omega)) h)
      refine lv_iload_n hx hb dX0_hash_42 rfl (lv_at hl 1 rfl) ?_
      have e : i = n := by omega
      subst e
      rw [hQ]
      exact xr_iret C0 hlk hr (⟨rfl, rfl⟩) hP hD hS dX0_hash_43
    | succ j ih =>
      intro i H locs ls hi hP hD hS hl
      refine lv_iload_n hx hb dX0_hash_4 rfl (lv_at hl 0 rfl) ?_
      refine lv_aload_n hx hb dX0_hash_5 rfl (lv_at hl 2 rfl) ?_
      refine x0_get_size C0 hK hP 0 rfl rfl dX0_hash_6 ?_
      refine lv_icmp_ge hx hb dX0_hash_9 rfl (fun h => absurd h (nI_ge (by omega) (by omega))) (fun h => ?_)
      refine lv_bipush (v := 31) hx hb dX0_hash_12 (by decide) ?_
      refine lv_iload_n hx hb dX0_hash_14 rfl (lv_at hl 1 rfl) ?_
      refine lv_imul hx hb dX0_hash_15 ?_
      refine lv_aload_n hx hb dX0_hash_16 rfl (lv_at hl 2 rfl) ?_
      refine x0_get_numbers C0 hK hP 0 rfl rfl dX0_hash_17 ?_
      refine lv_iload_n hx hb dX0_hash_20 rfl (lv_at hl 0 rfl) ?_
      refine xr_ald C0 hK hP 1 rfl (j := i) (by omega) (by decide) dX0_hash_21 ?_
      refine lv_iadd hx hb dX0_hash_22 ?_
      refine lv_istore_n hx hb dX0_hash_23 rfl hl (by decide) rfl (fun ls hl => ?_)
      have hl : lv_has ls 3 [(1, .int ((31 * (rs_hs f g i)) + (f i))), (2, .int (nI i)), (0, .ref (q 0))] := hl
      refine lv_bipush (v := 31) hx hb dX0_hash_24 (by decide) ?_
      refine lv_iload_n hx hb dX0_hash_26 rfl (lv_at hl 0 rfl) ?_
      refine lv_imul hx hb dX0_hash_27 ?_
      refine lv_aload_n hx hb dX0_hash_28 rfl (lv_at hl 2 rfl) ?_
      refine x0_get_tags C0 hK hP 0 rfl rfl dX0_hash_29 ?_
      refine lv_iload_n hx hb dX0_hash_32 rfl (lv_at hl 1 rfl) ?_
      refine xr_ald C0 hK hP 2 rfl (j := i) (by omega) (by decide) dX0_hash_33 ?_
      refine lv_iadd hx hb dX0_hash_34 ?_
      refine lv_istore_n hx hb dX0_hash_35 rfl hl (by decide) rfl (fun ls hl => ?_)
      have hl : lv_has ls 3 [(1, .int (rs_hs f g (i + 1))), (2, .int (nI i)), (0, .ref (q 0))] := hl
      refine lv_iinc (k := 1) hx hb dX0_hash_36 hl rfl (rs_inc i) (by decide) rfl (fun ls hl => ?_)
      have hl : lv_has ls 3 [(2, .int (nI (i + 1))), (1, .int (rs_hs f g (i + 1))), (0, .ref (q 0))] := hl
      refine lv_goto hx hb dX0_hash_39 rfl ?_
      exact ih (i + 1) H locs ls (by omega) hP hD hS hl
  refine lv_iconst (v := 1) hx hb dX0_hash_0 (by decide) ?_
  refine lv_istore_n hx hb dX0_hash_1 rfl hl (by decide) rfl (fun ls hl => ?_)
  have hl : lv_has ls 3 [(1, .int (rs_hs f g 0)), (0, .ref (q 0))] := hl
  refine lv_iconst (v := 0) hx hb dX0_hash_2 (by decide) ?_
  refine lv_istore_n hx hb dX0_hash_3 rfl hl (by decide) rfl (fun ls hl => ?_)
  have hl : lv_has ls 3 [(2, .int (nI 0)), (1, .int (rs_hs f g 0)), (0, .ref (q 0))] := hl
  exact loop n 0 _ _ ls (by omega) hP hD hS hl
set_option maxHeartbeats 4000000 in
set_option maxRecDepth 100000 in
/-- turn, in range -/
theorem c_turn (l : Launch) (D : va_G) (q : Nat → Nat) (cI : ClassId) (tyr : List (ClassId × FieldType)) (wr : va_W) (sz n : Nat) (f g sf sg r : Nat → Int32) (a b : Nat) (h1 : a ≤ b) (h2 : b ≤ n) (hn : n ≤ 2000) : xr_Met l yX0_turn (wU yX0_turn cX0_turn 5 (some .int)) ({ frames := 2, cells := 0, slots := 0, locals := 44 }) [.ref (q 0), .int (nI a), .int (nI b)] D (rs_ty cI tyr) (rs_X q cI (n) (f) (g) (sf) (sg) (r) ++ wr) sz (fun v w => v = some (.int (nI (b - a))) ∧ w = rs_X q cI n (rs_tn f a b ((b - a) / 2)) (rs_tn g a b ((b - a) / 2)) sf sg r ++ wr) 0 0 := by
  refine xr_startQ (by decide) (Nat.le_of_ble_eq_true rfl) ?_
  intro p e s m args below meth c A ls Q hQ C0 hlk hr hP hK hD hA hl
  have hx := C0.1
  have hb := C0.2.1
  have hS : va_S A s.heap s.heap [] := va_S.rf
  have hl : lv_has ls 5 [(0, .ref (q 0)), (1, .int (nI a)), (2, .int (nI b))] := hl
  refine lv_aload_n hx hb dX0_turn_0 rfl (lv_at hl 0 rfl) ?_
  refine lv_iload_n hx hb dX0_turn_1 rfl (lv_at hl 1 rfl) ?_
  refine lv_iload_n hx hb dX0_turn_2 rfl (lv_at hl 2 rfl) ?_
  refine xr_vcall (As := [.int (nI a), .int (nI b)]) (rest := []) (nA := 2) C0 (c_part l D q cI tyr wr _ n f g sf sg r a b h1 h2 hn) (gV wM_X0_X0_requirePart wI_X0_requirePart wV_X0_X0_requirePart wN_X0 wC_X0_requirePart) (by decide +kernel) rfl rfl rfl ⟨by decide, by decide⟩ hK hP hD hS hA 0 rfl rfl hl.1 rfl (Nat.le_of_ble_eq_true rfl) dX0_turn_3 ⟨Nat.le_of_ble_eq_true rfl, Nat.le_of_ble_eq_true rfl⟩ (fun v w H locs hv hP hD hz hS => ?_)
  obtain ⟨rfl, rfl⟩ := hv
  refine lv_iload_n hx hb dX0_turn_6 rfl (lv_at hl 2 rfl) ?_
  refine lv_iload_n hx hb dX0_turn_7 rfl (lv_at hl 1 rfl) ?_
  refine lv_isub hx hb dX0_turn_8 ?_
  refine xr_top (pk_sub h1) ?_
  refine lv_istore_n hx hb dX0_turn_9 rfl hl (by decide) rfl (fun ls hl => ?_)
  have hl : lv_has ls 5 [(3, .int (nI (b - a))), (0, .ref (q 0)), (1, .int (nI a)), (2, .int (nI b))] := hl
  have loop : ∀ (j i : Nat) (H : Heap) (locs : List Loc) (ls : Array Slot), i + j = (b - a) / 2 → va_P D vwCl (rs_X q cI (n) (rs_tn f a b i) (rs_tn g a b i) (sf) (sg) (r) ++ wr) H → va_D A (rs_X q cI (n) (rs_tn f a b i) (rs_tn g a b i) (sf) (sg) (r) ++ wr) → va_S A s.heap H locs → lv_has ls 5 [(4, .int (nI i)), (3, .int (nI (b - a))), (0, .ref (q 0)), (1, .int (nI a)), (2, .int (nI b))] → W p l e ({ frames := 2, cells := 0, slots := 0, locals := 44 }) s m args below meth c H locs 0 0 Q (F0 m 13 ls []) := by
    intro j
    induction j with
    | zero =>
      intro i H locs ls hi hP hD hS hl
      refine lv_iload hx hb dX0_turn_13 (lv_at hl 0 rfl) ?_
      refine lv_iload_n hx hb dX0_turn_15 rfl (lv_at hl 1 rfl) ?_
      refine lv_iconst (v := 2) hx hb dX0_turn_16 (by decide) ?_
      refine lv_idiv hx hb dX0_turn_17 (by decide) ?_
      refine xr_top (rs_half (by omega)) ?_
      refine lv_icmp_ge hx hb dX0_turn_18 rfl (fun h => ?_) (fun h => absurd (nI_le (by omega) (by omega)) h)
      refine lv_iload_n hx hb dX0_turn_41 rfl (lv_at hl 1 rfl) ?_
      have e : i = (b - a) / 2 := by omega
      subst e
      rw [hQ]
      exact xr_iret C0 hlk hr (⟨rfl, rfl⟩) hP hD hS dX0_turn_42
    | succ j ih =>
      intro i H locs ls hi hP hD hS hl
      refine lv_iload hx hb dX0_turn_13 (lv_at hl 0 rfl) ?_
      refine lv_iload_n hx hb dX0_turn_15 rfl (lv_at hl 1 rfl) ?_
      refine lv_iconst (v := 2) hx hb dX0_turn_16 (by decide) ?_
      refine lv_idiv hx hb dX0_turn_17 (by decide) ?_
      refine xr_top (rs_half (by omega)) ?_
      refine lv_icmp_ge hx hb dX0_turn_18 rfl (fun h => absurd h (nI_ge (by omega) (by omega))) (fun h => ?_)
      refine lv_aload_n hx hb dX0_turn_21 rfl (lv_at hl 2 rfl) ?_
      refine lv_iload_n hx hb dX0_turn_22 rfl (lv_at hl 3 rfl) ?_
      refine lv_iload hx hb dX0_turn_23 (lv_at hl 0 rfl) ?_
      refine lv_iadd hx hb dX0_turn_25 ?_
      refine xr_top (nI_add a i) ?_
      refine lv_iload_n hx hb dX0_turn_26 rfl (lv_at hl 4 rfl) ?_
      refine lv_iconst (v := 1) hx hb dX0_turn_27 (by decide) ?_
      refine lv_isub hx hb dX0_turn_28 ?_
      refine xr_top (rs_pre b (by omega)) ?_
      refine lv_iload hx hb dX0_turn_29 (lv_at hl 0 rfl) ?_
      refine lv_isub hx hb dX0_turn_31 ?_
      refine xr_top (pk_sub (by omega)) ?_
      refine xr_vcall (As := [.int (nI (a + i)), .int (nI (b - 1 - i))]) (rest := []) (nA := 2) C0 (c_swap l D q cI tyr wr _ n _ _ sf sg r (a + i) (b - 1 - i) (by omega) (by omega)) (gV wM_X0_X0_swap wI_X0_swap wV_X0_X0_swap wN_X0 wC_X0_swap) (by decide +kernel) rfl rfl rfl ⟨by decide, by decide⟩ hK hP hD hS hA 0 rfl rfl hl.1 rfl (Nat.le_of_ble_eq_true rfl) dX0_turn_32 ⟨Nat.le_of_ble_eq_true rfl, Nat.le_of_ble_eq_true rfl⟩ (fun v w H locs hv hP hD hz hS => ?_)
      obtain ⟨rfl, rfl⟩ := hv
      refine lv_iinc (k := 0) hx hb dX0_turn_35 hl rfl (rs_inc i) (by decide) rfl (fun ls hl => ?_)
      have hl : lv_has ls 5 [(4, .int (nI (i + 1))), (3, .int (nI (b - a))), (0, .ref (q 0)), (1, .int (nI a)), (2, .int (nI b))] := hl
      refine lv_goto hx hb dX0_turn_38 rfl ?_
      exact ih (i + 1) H locs ls (by omega) hP hD hS hl
  refine lv_iconst (v := 0) hx hb dX0_turn_10 (by decide) ?_
  refine lv_istore hx hb dX0_turn_11 hl (by decide) rfl (fun ls hl => ?_)
  have hl : lv_has ls 5 [(4, .int (nI 0)), (3, .int (nI (b - a))), (0, .ref (q 0)), (1, .int (nI a)), (2, .int (nI b))] := hl
  exact loop ((b - a) / 2) 0 _ _ ls (by omega) hP hD hS hl
set_option maxHeartbeats 4000000 in
set_option maxRecDepth 100000 in
/-- upTo, in range -/
theorem c_upTo (l : Launch) (D : va_G) (q : Nat → Nat) (cI : ClassId) (tyr : List (ClassId × FieldType)) (wr : va_W) (sz n : Nat) (f g sf sg r : Nat → Int32) (o x b : Int32) (h1 : ¬ o < 0) (h2 : o ≤ 3) (hn : n ≤ 2000) : xr_Met l yX0_upTo (wU yX0_upTo cX0_upTo 7 (some .int)) ({ frames := 2, cells := 0, slots := 0, locals := 42 }) [.ref (q 0), .int o, .int x, .int b] D (rs_ty cI tyr) (rs_X q cI (n) (f) (g) (sf) (sg) (r) ++ wr) sz (fun v w => (∃ t, v = some (.int (nI t)) ∧ rs_uT o x b f n t) ∧ w = rs_X q cI n f g sf sg r ++ wr) 0 0 := by
  refine xr_startQ (by decide) (Nat.le_of_ble_eq_true rfl) ?_
  intro p e s m args below meth c A ls Q hQ C0 hlk hr hP hK hD hA hl
  have hx := C0.1
  have hb := C0.2.1
  have hS : va_S A s.heap s.heap [] := va_S.rf
  have hl : lv_has ls 7 [(0, .ref (q 0)), (1, .int o), (2, .int x), (3, .int b)] := hl
  refine lv_iload_n hx hb dX0_upTo_0 rfl (lv_at hl 1 rfl) ?_
  refine xr_scall (As := [.int o]) (rest := []) (nA := 1) C0 (c_order l D q cI tyr wr _ n f g sf sg r o h1 h2) (gS wM_X0_X0_requireOrder wS_X0_requireOrder wN_X0 wC_X0_requireOrder) (by decide +kernel) rfl rfl rfl ⟨by decide, by decide⟩ hK hP hD hS hA hl.1 rfl (Nat.le_of_ble_eq_true rfl) dX0_upTo_1 ⟨Nat.le_of_ble_eq_true rfl, Nat.le_of_ble_eq_true rfl⟩ (fun v w H locs hv hP hD hz hS => ?_)
  obtain ⟨rfl, rfl⟩ := hv
  refine lv_iload_n hx hb dX0_upTo_4 rfl (lv_at hl 1 rfl) ?_
  refine lv_iload_n hx hb dX0_upTo_5 rfl (lv_at hl 2 rfl) ?_
  refine xr_scall (As := [.int o, .int x]) (rest := []) (nA := 2) C0 (c_rank l D q cI tyr wr _ n f g sf sg r o x) (gS wM_X0_X0_rank wS_X0_rank wN_X0 wC_X0_rank) (by decide +kernel) rfl rfl rfl ⟨by decide, by decide⟩ hK hP hD hS hA hl.1 rfl (Nat.le_of_ble_eq_true rfl) dX0_upTo_6 ⟨Nat.le_of_ble_eq_true rfl, Nat.le_of_ble_eq_true rfl⟩ (fun v w H locs hv hP hD hz hS => ?_)
  obtain ⟨rfl, rfl⟩ := hv
  refine lv_istore hx hb dX0_upTo_9 hl (by decide) rfl (fun ls hl => ?_)
  have hl : lv_has ls 7 [(4, .int (rs_rk o x)), (0, .ref (q 0)), (1, .int o), (2, .int x), (3, .int b)] := hl
  have loop : ∀ (j i : Nat) (H : Heap) (locs : List Loc) (ls : Array Slot), i + j = n → (∀ t, t < i → rs_go o x b (f t)) → va_P D vwCl (rs_X q cI (n) (f) (g) (sf) (sg) (r) ++ wr) H → va_D A (rs_X q cI (n) (f) (g) (sf) (sg) (r) ++ wr) → va_S A s.heap H locs → lv_has ls 7 [(5, .int (nI i)), (4, .int (rs_rk o x)), (0, .ref (q 0)), (1, .int o), (2, .int x), (3, .int b)] → W p l e ({ frames := 2, cells := 0, slots := 0, locals := 42 }) s m args below meth c H locs 0 0 Q (F0 m 14 ls []) := by
    intro j
    induction j with
    | zero =>
      intro i H locs ls hi hgo hP hD hS hl
      refine lv_iload hx hb dX0_upTo_14 (lv_at hl 0 rfl) ?_
      refine lv_aload_n hx hb dX0_upTo_16 rfl (lv_at hl 2 rfl) ?_
      refine x0_get_size C0 hK hP 0 rfl rfl dX0_upTo_17 ?_
      refine lv_icmp_ge hx hb dX0_upTo_20 rfl (fun h => ?_) (fun h => absurd (nI_le (by omega) (by omega)) h)
      refine lv_aload_n hx hb dX0_upTo_63 rfl (lv_at hl 2 rfl) ?_
      refine x0_get_size C0 hK hP 0 rfl rfl dX0_upTo_64 ?_
      have e : i = n := by omega
      subst e
      rw [hQ]
      exact xr_iret C0 hlk hr (⟨⟨_, rfl, Nat.le_refl _, hgo, fun h => absurd h (by omega)⟩, rfl⟩) hP hD hS dX0_upTo_67
    | succ j ih =>
      intro i H locs ls hi hgo hP hD hS hl
      refine lv_iload hx hb dX0_upTo_14 (lv_at hl 0 rfl) ?_
      refine lv_aload_n hx hb dX0_upTo_16 rfl (lv_at hl 2 rfl) ?_
      refine x0_get_size C0 hK hP 0 rfl rfl dX0_upTo_17 ?_
      refine lv_icmp_ge hx hb dX0_upTo_20 rfl (fun h => absurd h (nI_ge (by omega) (by omega))) (fun h => ?_)
      refine lv_iload_n hx hb dX0_upTo_23 rfl (lv_at hl 3 rfl) ?_
      refine lv_aload_n hx hb dX0_upTo_24 rfl (lv_at hl 2 rfl) ?_
      refine x0_get_numbers C0 hK hP 0 rfl rfl dX0_upTo_25 ?_
      refine lv_iload hx hb dX0_upTo_28 (lv_at hl 0 rfl) ?_
      refine xr_ald C0 hK hP 1 rfl (j := i) (by omega) (by decide) dX0_upTo_30 ?_
      refine xr_scall (As := [.int o, .int (f i)]) (rest := []) (nA := 2) C0 (c_rank l D q cI tyr wr _ n f g sf sg r o (f i)) (gS wM_X0_X0_rank wS_X0_rank wN_X0 wC_X0_rank) (by decide +kernel) rfl rfl rfl ⟨by decide, by decide⟩ hK hP hD hS hA hl.1 rfl (Nat.le_of_ble_eq_true rfl) dX0_upTo_31 ⟨Nat.le_of_ble_eq_true rfl, Nat.le_of_ble_eq_true rfl⟩ (fun v w H locs hv hP hD hz hS => ?_)
      obtain ⟨rfl, rfl⟩ := hv
      refine lv_istore hx hb dX0_upTo_34 hl (by decide) rfl (fun ls hl => ?_)
      have hl : lv_has ls 7 [(6, .int (rs_rk o (f i))), (5, .int (nI i)), (4, .int (rs_rk o x)), (0, .ref (q 0)), (1, .int o), (2, .int x), (3, .int b)] := hl
      refine lv_iload hx hb dX0_upTo_36 (lv_at hl 0 rfl) ?_
      refine lv_iload hx hb dX0_upTo_38 (lv_at hl 2 rfl) ?_
      refine lv_icmp_gt hx hb dX0_upTo_40 rfl (fun h => ?_) (fun h => ?_)
      · skip
        refine lv_iload hx hb dX0_upTo_54 (lv_at hl 1 rfl) ?_
        rw [hQ]
        exact xr_iret C0 hlk hr (⟨⟨i, rfl, by omega, hgo, fun _ q => q.1 h⟩, rfl⟩) hP hD hS dX0_upTo_56
      · skip
        have hg := h
        refine lv_iload hx hb dX0_upTo_43 (lv_at hl 0 rfl) ?_
        refine lv_iload hx hb dX0_upTo_45 (lv_at hl 2 rfl) ?_
        refine lv_icmp_ne hx hb dX0_upTo_47 rfl (fun h => ?_) (fun h => ?_)
        · skip
          have hl : lv_has ls 7 [(5, .int (nI i)), (4, .int (rs_rk o x)), (0, .ref (q 0)), (1, .int o), (2, .int x), (3, .int b)] := lv_sub hl [1, 2, 3, 4, 5, 6] rfl
          refine lv_iinc (k := 0) hx hb dX0_upTo_57 hl rfl (rs_inc i) (by decide) rfl (fun ls hl => ?_)
          have hl : lv_has ls 7 [(5, .int (nI (i + 1))), (4, .int (rs_rk o x)), (0, .ref (q 0)), (1, .int o), (2, .int x), (3, .int b)] := hl
          refine lv_goto hx hb dX0_upTo_60 rfl ?_
          exact ih (i + 1) H locs ls (by omega) (lt_s hgo ⟨hg, fun q => h q.1⟩) hP hD hS hl
        · skip
          have he := h
          refine lv_iload_n hx hb dX0_upTo_50 rfl (lv_at hl 6 rfl) ?_
          refine lv_if_ne hx hb dX0_upTo_51 rfl (fun h => ?_) (fun h => ?_)
          · skip
            have hl : lv_has ls 7 [(5, .int (nI i)), (4, .int (rs_rk o x)), (0, .ref (q 0)), (1, .int o), (2, .int x), (3, .int b)] := lv_sub hl [1, 2, 3, 4, 5, 6] rfl
            refine lv_iinc (k := 0) hx hb dX0_upTo_57 hl rfl (rs_inc i) (by decide) rfl (fun ls hl => ?_)
            have hl : lv_has ls 7 [(5, .int (nI (i + 1))), (4, .int (rs_rk o x)), (0, .ref (q 0)), (1, .int o), (2, .int x), (3, .int b)] := hl
            refine lv_goto hx hb dX0_upTo_60 rfl ?_
            exact ih (i + 1) H locs ls (by omega) (lt_s hgo ⟨hg, fun q => h q.2⟩) hP hD hS hl
          · skip
            refine lv_iload hx hb dX0_upTo_54 (lv_at hl 1 rfl) ?_
            rw [hQ]
            exact xr_iret C0 hlk hr (⟨⟨i, rfl, by omega, hgo, fun _ q => q.2 ⟨he, h⟩⟩, rfl⟩) hP hD hS dX0_upTo_56
  refine lv_iconst (v := 0) hx hb dX0_upTo_11 (by decide) ?_
  refine lv_istore hx hb dX0_upTo_12 hl (by decide) rfl (fun ls hl => ?_)
  have hl : lv_has ls 7 [(5, .int (nI 0)), (4, .int (rs_rk o x)), (0, .ref (q 0)), (1, .int o), (2, .int x), (3, .int b)] := hl
  exact loop n 0 _ _ ls (by omega) lt_0 hP hD hS hl
end
section
/-! Rows for arraycopy, Math.min, newarray; the class's findRuns and merge (rows laid by wip/whole/p09.py). -/
theorem wC_min : Cond.code Lib.Math.min.name Lib.Math.min.code 2 (some .int) ∈ lw_w := mW 206 (by decide +kernel) (by decide +kernel)
theorem wM_min : Cond.methodLink RX0 85 Lib.Math.min.name ∈ lw_w := mW 204 (by decide +kernel) (by decide +kernel)
theorem wS_min : Cond.static Lib.Math.min.name ∈ lw_w := mW 205 (by decide +kernel) (by decide +kernel)
theorem wM_cpy : Cond.methodLink RX0 90 arraycopyName ∈ lw_w := mW 201 (by decide +kernel) (by decide +kernel)
theorem wS_cpy : Cond.static arraycopyName ∈ lw_w := wS_System_arraycopy
theorem wT_cpy : Cond.native arraycopyName ∈ lw_w := wT_System_arraycopy
section XR3
variable {p : Program} {l : Launch} {e : Env} {R : Room} {s : State} {m : MethodId} {args : Array Value} {below : List Frame} {meth : Method} {c : Code} {H : Heap} {locs : List Loc} {cells slots : Nat} {Q : State → Prop}
variable {D : va_G} {tys : List (ClassId × FieldType)} {A : Nat → Prop} {ws : va_W} {cc : ByteArray} {nL pc : Nat} {own : String} {ls : Array Slot} {st0 rest : List Value}
theorem xr_copy {cI : ClassId} {tyr : List (ClassId × FieldType)} {n0 n1 a0 a1 : Nat} {f g : Nat → Int32} (C0 : CallFix p m c cc nL s args lw_w RX0) (hls : ls.size = nL) (hK : va_K D vwCl ((cI, .int) :: tyr) s) (hP : va_P D vwCl ws H) (hD : va_D A ws) (hS : va_S A s.heap H locs) (q0 q1 : Nat) (ha0 : ws[q0]? = some (a0, .inl (cI, n0, .inl f))) (ha1 : ws[q1]? = some (a1, .inl (cI, n1, .inl g)))
    {sp k : Nat} (h4 : sp + k ≤ n0) (h5 : k ≤ n1) (hn0 : n0 < 2 ^ 31) (hn1 : n1 < 2 ^ 31) (hframes : 1 ≤ R.frames) (hlocals : (rest.map fun v => v.category).sum + 18 ≤ R.locals) (hdg : decode cc pc = .ok (.invokestatic 90, 3))
    (kk : ∀ (H1 : Heap) (locs1 : List Loc), va_P D vwCl (ws.set q1 (a1, .inl (cI, n1, .inl (va_cpy f g sp 0 k)))) H1 → va_D A (ws.set q1 (a1, .inl (cI, n1, .inl (va_cpy f g sp 0 k)))) → va_S A s.heap H1 locs1 → W p l e R s m args below meth c H1 locs1 cells slots Q (F0 m (pc + 3) ls rest)) : W p l e R s m args below meth c H locs cells slots Q (F0 m pc ls (.int (nI k) :: .int 0 :: .ref a1 :: .int (nI sp) :: .ref a0 :: rest)) := by
  have e1 : (nI sp).toNatClampNeg = sp := nI_clamp (by omega)
  have e2 : (nI k).toNatClampNeg = k := nI_clamp (by omega)
  have e3 : (0 : Int32).toNatClampNeg = 0 := sb_cl0
  refine va_copyi (ty := .int) C0.1 C0.2.1 (C0.2.2.1.trans hls.symm) C0.2.2.2.1 (C0.2.2.2.2 _ wM_cpy) (C0.2.2.2.2 _ wT_cpy) (C0.2.2.2.2 _ wS_cpy) (C0.2.2.2.2 _ wN_System) hK hP hD hS q0 q1 0 0 ha0 ha1 rfl rfl rfl (nI_pos (by omega)) (by decide) (nI_pos (by omega)) (by rw [e1, e2]; exact h4) (by rw [e3, e2]; omega) (fun _ _ => rfl) hframes (by have hw : nativeFrameWords "java/lang/System" "arraycopy" 5 = 7 := (by decide); omega) hdg ?_
  rw [e1, e2, e3]
  exact kk
theorem xr_min {a b : Nat} (ha : a < 2 ^ 31) (hb' : b < 2 ^ 31) (C0 : CallFix p m c cc nL s args lw_w RX0) (hls : ls.size = nL) (hframes : 1 ≤ R.frames) (hlocals : (rest.map fun v => v.category).sum + 13 ≤ R.locals) (hc : cells ≤ R.cells) (hs : slots ≤ R.slots) (hdg : decode cc pc = .ok (.invokestatic 85, 3))
    (kk : W p l e R s m args below meth c H locs cells slots Q (F0 m (pc + 3) ls (.int (nI (min a b)) :: rest))) : W p l e R s m args below meth c H locs cells slots Q (F0 m pc ls (.int (nI b) :: .int (nI a) :: rest)) := by
  refine va_mmin C0.1 C0.2.1 (C0.2.2.1.trans hls.symm) C0.2.2.2.1 (C0.2.2.2.2 _ wM_min) (C0.2.2.2.2 _ wS_min) (C0.2.2.2.2 _ wN_Math) (C0.2.2.2.2 _ wC_min) hframes hlocals hc hs hdg ?_
  have e : (if nI b < nI a then nI b else nI a) = nI (min a b) := by
    by_cases h : b < a
    · rw [if_pos (nI_lt h ha), show min a b = b by omega]
    · rw [if_neg (nI_nlt (by omega) hb'), show min a b = a by omega]
  rw [e]
  exact kk
/-- a new row of ints: its class is the one that is known -/
theorem xr_newa {cI : ClassId} {tyr : List (ClassId × FieldType)} (C0 : CallFix p m c cc nL s args lw_w own) (hK : va_K D vwCl ((cI, .int) :: tyr) s) (hP : va_P D vwCl ws H) (hD : va_D A ws) (hS : va_S A s.heap H locs) (hA : ∀ q, s.heap.size ≤ q → A q) {N : Nat} {x : Int32} (hx : x = nI N) (hN : N ≤ 100000) (hcells : cells + 1 ≤ R.cells) (hslots : slots + N ≤ R.slots) (hdg : decode cc pc = .ok (.newarray .int, 2))
    (kk : ∀ (q : Nat) (H1 : Heap), va_P D vwCl (ws ++ [(q, .inl (cI, N, .inl (fun _ => 0)))]) H1 → va_D A (ws ++ [(q, .inl (cI, N, .inl (fun _ => 0)))]) → va_S A s.heap H1 locs → W p l e R s m args below meth c H1 locs (cells + 1) (slots + N) Q (F0 m (pc + 2) ls (.ref q :: rest))) : W p l e R s m args below meth c H locs cells slots Q (F0 m pc ls (.int x :: rest)) := by
  subst hx
  refine va_newa (atype := .int) (ty := .int) (a0 := (N, .inl (fun _ => 0))) C0.1 C0.2.1 (C0.2.2.2.2 _ wA_int) rfl hK hP hD hS hA (fun cA => rfl) (nI_pos (by omega)) (nI_clamp (by omega)) (by show N * 4 ≤ _; omega) hcells hslots hdg (fun q cA H1 hK1 hP1 hD1 hS1 => ?_)
  have h1 := (hK1.2 (((cI, FieldType.int) :: tyr).length) (cA, .int) (by simp)).2
  have h2 := (hK.2 0 (cI, .int) rfl).2
  have h3 : cA = cI := Option.some.inj (Eq.trans (Eq.symm h1) h2)
  subst h3
  exact kk q H1 hP1 hD1 hS1
end XR3
set_option maxHeartbeats 4000000 in
set_option maxRecDepth 100000 in
/-- findRuns -/
theorem c_findRuns (l : Launch) (D : va_G) (q : Nat → Nat) (cI : ClassId) (tyr : List (ClassId × FieldType)) (wr : va_W) (sz n : Nat) (f g sf sg r : Nat → Int32) (o : Int32) (a b : Nat) (h1 : a ≤ b) (h2 : b ≤ 2000) : xr_Met l yX0_findRuns (wU yX0_findRuns cX0_findRuns 6 (some .int)) ({ frames := 1, cells := 0, slots := 0, locals := 21 }) [.ref (q 0), .int o, .int (nI a), .int (nI b)] D (rs_ty cI tyr) (rs_X q cI (n) (f) (g) (sf) (sg) (r) ++ wr) sz (fun v w => ∃ (k : Nat) (r' : Nat → Int32), v = some (.int (nI k)) ∧ w = rs_X q cI n f g sf sg r' ++ wr ∧ rs_Rn o a b f g r' k ∧ k ≤ b - a) 0 0 := by
  refine xr_startQ (by decide) (Nat.le_of_ble_eq_true rfl) ?_
  intro p e s m args below meth c A ls Q hQ C0 hlk hr hP hK hD hA hl
  have hx := C0.1
  have hb := C0.2.1
  have hS : va_S A s.heap s.heap [] := va_S.rf
  have hl : lv_has ls 6 [(0, .ref (q 0)), (1, .int o), (2, .int (nI a)), (3, .int (nI b))] := hl
  have loop : ∀ (j : Nat) (i k : Nat) (r : Nat → Int32) (H : Heap) (locs : List Loc) (ls : Array Slot), i + j = b → rs_FI o a f g r i k → va_P D vwCl (rs_X q cI (n) (f) (g) (sf) (sg) (r) ++ wr) H → va_D A (rs_X q cI (n) (f) (g) (sf) (sg) (r) ++ wr) → va_S A s.heap H locs → lv_has ls 6 [(5, .int (nI i)), (4, .int (nI k)), (0, .ref (q 0)), (1, .int o), (2, .int (nI a)), (3, .int (nI b))] → W p l e ({ frames := 1, cells := 0, slots := 0, locals := 21 }) s m args below meth c H locs 0 0 Q (F0 m 6 ls []) := by
    intro j
    induction j with
    | zero =>
      intro i k r H locs ls hi hF hP hD hS hl
      have hk := hF.2.1
      refine lv_iload hx hb dX0_findRuns_6 (lv_at hl 0 rfl) ?_
      refine lv_iload_n hx hb dX0_findRuns_8 rfl (lv_at hl 5 rfl) ?_
      refine lv_icmp_ge hx hb dX0_findRuns_9 rfl (fun h => ?_) (fun h => absurd (nI_le (by omega) (by omega)) h)
      have e : b = i := by omega
      subst e
      refine lv_aload_n hx hb dX0_findRuns_63 rfl (lv_at hl 2 rfl) ?_
      refine x0_get_runStarts C0 hK hP 0 rfl rfl dX0_findRuns_64 ?_
      refine lv_iload hx hb dX0_findRuns_67 (lv_at hl 1 rfl) ?_
      refine lv_iload_n hx hb dX0_findRuns_69 rfl (lv_at hl 5 rfl) ?_
      refine xr_ast C0 hK hP hD hS 5 rfl (j := k) (by omega) (by decide) dX0_findRuns_70 (fun H locs hP hD hS => ?_)
      have hP : va_P D vwCl (rs_X q cI (n) (f) (g) (sf) (sg) (upd r k (nI b)) ++ wr) H := hP
      have hD : va_D A (rs_X q cI (n) (f) (g) (sf) (sg) (upd r k (nI b)) ++ wr) := hD
      refine lv_iload hx hb dX0_findRuns_71 (lv_at hl 1 rfl) ?_
      rw [hQ]
      exact xr_iret C0 hlk hr (⟨k, _, rfl, rfl, hF.done, hk⟩) hP hD hS dX0_findRuns_73
    | succ j ih =>
      intro i k r H locs ls hi hF hP hD hS hl
      have hk := hF.2.1
      have ha := hF.1
      refine lv_iload hx hb dX0_findRuns_6 (lv_at hl 0 rfl) ?_
      refine lv_iload_n hx hb dX0_findRuns_8 rfl (lv_at hl 5 rfl) ?_
      refine lv_icmp_ge hx hb dX0_findRuns_9 rfl (fun h => absurd h (nI_ge (by omega) (by omega))) (fun h => ?_)
      refine lv_iload hx hb dX0_findRuns_12 (lv_at hl 0 rfl) ?_
      refine lv_iload_n hx hb dX0_findRuns_14 rfl (lv_at hl 4 rfl) ?_
      refine lv_icmp_eq hx hb dX0_findRuns_15 rfl (fun h => ?_) (fun h => ?_)
      · skip
        refine lv_aload_n hx hb dX0_findRuns_45 rfl (lv_at hl 2 rfl) ?_
        refine x0_get_runStarts C0 hK hP 0 rfl rfl dX0_findRuns_46 ?_
        refine lv_iload hx hb dX0_findRuns_49 (lv_at hl 1 rfl) ?_
        refine lv_iload hx hb dX0_findRuns_51 (lv_at hl 0 rfl) ?_
        refine xr_ast C0 hK hP hD hS 5 rfl (j := k) (by omega) (by decide) dX0_findRuns_53 (fun H locs hP hD hS => ?_)
        have hP : va_P D vwCl (rs_X q cI (n) (f) (g) (sf) (sg) (upd r k (nI i)) ++ wr) H := hP
        have hD : va_D A (rs_X q cI (n) (f) (g) (sf) (sg) (upd r k (nI i)) ++ wr) := hD
        refine lv_iinc (k := 1) hx hb dX0_findRuns_54 hl rfl (rs_inc k) (by decide) rfl (fun ls hl => ?_)
        have hl : lv_has ls 6 [(4, .int (nI (k + 1))), (5, .int (nI i)), (0, .ref (q 0)), (1, .int o), (2, .int (nI a)), (3, .int (nI b))] := hl
        refine lv_iinc (k := 1) hx hb dX0_findRuns_57 hl rfl (rs_inc i) (by decide) rfl (fun ls hl => ?_)
        have hl : lv_has ls 6 [(5, .int (nI (i + 1))), (4, .int (nI (k + 1))), (0, .ref (q 0)), (1, .int o), (2, .int (nI a)), (3, .int (nI b))] := hl
        refine lv_goto hx hb dX0_findRuns_60 rfl ?_
        have hl : lv_has ls 6 [(5, .int (nI (i + 1))), (4, .int (nI (k + 1))), (0, .ref (q 0)), (1, .int o), (2, .int (nI a)), (3, .int (nI b))] := lv_sub hl [0, 1, 2, 3, 4, 5] rfl
        exact ih (i + 1) (k + 1) _ H locs ls (by omega) hF.new hP hD hS hl
      · skip
        have hne : i ≠ a := fun q => h (by rw [q])
        refine lv_iload_n hx hb dX0_findRuns_18 rfl (lv_at hl 3 rfl) ?_
        refine lv_aload_n hx hb dX0_findRuns_19 rfl (lv_at hl 2 rfl) ?_
        refine x0_get_numbers C0 hK hP 0 rfl rfl dX0_findRuns_20 ?_
        refine lv_iload hx hb dX0_findRuns_23 (lv_at hl 0 rfl) ?_
        refine xr_ald C0 hK hP 1 rfl (j := i) (by omega) (by decide) dX0_findRuns_25 ?_
        refine xr_scall (As := [.int o, .int (f i)]) (rest := []) (nA := 2) C0 (c_rank l D q cI tyr wr _ n f g sf sg r o (f i)) (gS wM_X0_X0_rank wS_X0_rank wN_X0 wC_X0_rank) (by decide +kernel) rfl rfl rfl ⟨by decide, by decide⟩ hK hP hD hS hA hl.1 rfl (Nat.le_of_ble_eq_true rfl) dX0_findRuns_26 ⟨Nat.le_of_ble_eq_true rfl, Nat.le_of_ble_eq_true rfl⟩ (fun v w H locs hv hP hD hz hS => ?_)
        obtain ⟨rfl, rfl⟩ := hv
        refine lv_iload_n hx hb dX0_findRuns_29 rfl (lv_at hl 3 rfl) ?_
        refine lv_aload_n hx hb dX0_findRuns_30 rfl (lv_at hl 2 rfl) ?_
        refine x0_get_numbers C0 hK hP 0 rfl rfl dX0_findRuns_31 ?_
        refine lv_iload hx hb dX0_findRuns_34 (lv_at hl 0 rfl) ?_
        refine lv_iconst (v := 1) hx hb dX0_findRuns_36 (by decide) ?_
        refine lv_isub hx hb dX0_findRuns_37 ?_
        refine xr_top (rs_pre i (by omega)) ?_
        refine xr_ald C0 hK hP 1 rfl (j := i - 1) (by omega) (by decide) dX0_findRuns_38 ?_
        refine xr_scall (As := [.int o, .int (f (i - 1))]) (rest := [.int (rs_rk o (f i))]) (nA := 2) C0 (c_rank l D q cI tyr wr _ n f g sf sg r o (f (i - 1))) (gS wM_X0_X0_rank wS_X0_rank wN_X0 wC_X0_rank) (by decide +kernel) rfl rfl rfl ⟨by decide, by decide⟩ hK hP hD hS hA hl.1 rfl (Nat.le_of_ble_eq_true rfl) dX0_findRuns_39 ⟨Nat.le_of_ble_eq_true rfl, Nat.le_of_ble_eq_true rfl⟩ (fun v w H locs hv hP hD hz hS => ?_)
        obtain ⟨rfl, rfl⟩ := hv
        refine lv_icmp_ge hx hb dX0_findRuns_42 rfl (fun h => ?_) (fun h => ?_)
        · skip
          refine lv_iinc (k := 0) hx hb dX0_findRuns_57 hl rfl (rs_inc i) (by decide) rfl (fun ls hl => ?_)
          have hl : lv_has ls 6 [(5, .int (nI (i + 1))), (4, .int (nI k)), (0, .ref (q 0)), (1, .int o), (2, .int (nI a)), (3, .int (nI b))] := hl
          refine lv_goto hx hb dX0_findRuns_60 rfl ?_
          have hl : lv_has ls 6 [(5, .int (nI (i + 1))), (4, .int (nI k)), (0, .ref (q 0)), (1, .int o), (2, .int (nI a)), (3, .int (nI b))] := lv_sub hl [0, 1, 2, 3, 4, 5] rfl
          exact ih (i + 1) k _ H locs ls (by omega) (hF.more hne h) hP hD hS hl
        · skip
          refine lv_aload_n hx hb dX0_findRuns_45 rfl (lv_at hl 2 rfl) ?_
          refine x0_get_runStarts C0 hK hP 0 rfl rfl dX0_findRuns_46 ?_
          refine lv_iload hx hb dX0_findRuns_49 (lv_at hl 1 rfl) ?_
          refine lv_iload hx hb dX0_findRuns_51 (lv_at hl 0 rfl) ?_
          refine xr_ast C0 hK hP hD hS 5 rfl (j := k) (by omega) (by decide) dX0_findRuns_53 (fun H locs hP hD hS => ?_)
          have hP : va_P D vwCl (rs_X q cI (n) (f) (g) (sf) (sg) (upd r k (nI i)) ++ wr) H := hP
          have hD : va_D A (rs_X q cI (n) (f) (g) (sf) (sg) (upd r k (nI i)) ++ wr) := hD
          refine lv_iinc (k := 1) hx hb dX0_findRuns_54 hl rfl (rs_inc k) (by decide) rfl (fun ls hl => ?_)
          have hl : lv_has ls 6 [(4, .int (nI (k + 1))), (5, .int (nI i)), (0, .ref (q 0)), (1, .int o), (2, .int (nI a)), (3, .int (nI b))] := hl
          refine lv_iinc (k := 1) hx hb dX0_findRuns_57 hl rfl (rs_inc i) (by decide) rfl (fun ls hl => ?_)
          have hl : lv_has ls 6 [(5, .int (nI (i + 1))), (4, .int (nI (k + 1))), (0, .ref (q 0)), (1, .int o), (2, .int (nI a)), (3, .int (nI b))] := hl
          refine lv_goto hx hb dX0_findRuns_60 rfl ?_
          have hl : lv_has ls 6 [(5, .int (nI (i + 1))), (4, .int (nI (k + 1))), (0, .ref (q 0)), (1, .int o), (2, .int (nI a)), (3, .int (nI b))] := lv_sub hl [0, 1, 2, 3, 4, 5] rfl
          exact ih (i + 1) (k + 1) _ H locs ls (by omega) hF.new hP hD hS hl
  refine lv_iconst (v := 0) hx hb dX0_findRuns_0 (by decide) ?_
  refine lv_istore hx hb dX0_findRuns_1 hl (by decide) rfl (fun ls hl => ?_)
  have hl : lv_has ls 6 [(4, .int (nI 0)), (0, .ref (q 0)), (1, .int o), (2, .int (nI a)), (3, .int (nI b))] := hl
  refine lv_iload_n hx hb dX0_findRuns_3 rfl (lv_at hl 3 rfl) ?_
  refine lv_istore hx hb dX0_findRuns_4 hl (by decide) rfl (fun ls hl => ?_)
  have hl : lv_has ls 6 [(5, .int (nI a)), (4, .int (nI 0)), (0, .ref (q 0)), (1, .int o), (2, .int (nI a)), (3, .int (nI b))] := hl
  exact loop (b - a) a 0 r _ _ ls (by omega) rs_FI.init hP hD hS hl
set_option maxHeartbeats 4000000 in
set_option maxRecDepth 100000 in
/-- merge -/
theorem c_merge (l : Launch) (D : va_G) (q : Nat → Nat) (cI : ClassId) (tyr : List (ClassId × FieldType)) (wr : va_W) (sz n : Nat) (f g sf sg r : Nat → Int32) (o : Int32) (st mi en : Nat) (h1 : st ≤ mi) (h2 : mi ≤ en) (h3 : en ≤ 2000) (hs1 : rs_So o (rs_sg f g st (mi - st))) (hs2 : rs_So o (rs_sg f g mi (en - mi))) : xr_Met l yX0_merge (wU yX0_merge cX0_merge 9 none) ({ frames := 1, cells := 0, slots := 0, locals := 40 }) [.ref (q 0), .int o, .int (nI st), .int (nI mi), .int (nI en)] D (rs_ty cI tyr) (rs_X q cI (n) (f) (g) (sf) (sg) (r) ++ wr) sz (fun v w => ∃ f' g' sf' sg' : Nat → Int32, v = none ∧ w = rs_X q cI n f' g' sf' sg' r ++ wr ∧ rs_St o st en f g f' g') 0 0 := by
  refine xr_startQ (by decide) (Nat.le_of_ble_eq_true rfl) ?_
  intro p e s m args below meth c A ls Q hQ C0 hlk hr hP hK hD hA hl
  have hx := C0.1
  have hb := C0.2.1
  have hS : va_S A s.heap s.heap [] := va_S.rf
  have hl : lv_has ls 9 [(0, .ref (q 0)), (1, .int o), (2, .int (nI st)), (3, .int (nI mi)), (4, .int (nI en))] := hl
  refine lv_iload_n hx hb dX0_merge_0 rfl (lv_at hl 3 rfl) ?_
  refine lv_iload_n hx hb dX0_merge_1 rfl (lv_at hl 2 rfl) ?_
  refine lv_isub hx hb dX0_merge_2 ?_
  refine xr_top (pk_sub h1) ?_
  refine lv_istore hx hb dX0_merge_3 hl (by decide) rfl (fun ls hl => ?_)
  have hl : lv_has ls 9 [(5, .int (nI (mi - st))), (0, .ref (q 0)), (1, .int o), (2, .int (nI st)), (3, .int (nI mi)), (4, .int (nI en))] := hl
  refine lv_aload_n hx hb dX0_merge_5 rfl (lv_at hl 1 rfl) ?_
  refine x0_get_numbers C0 hK hP 0 rfl rfl dX0_merge_6 ?_
  refine lv_iload_n hx hb dX0_merge_9 rfl (lv_at hl 3 rfl) ?_
  refine lv_aload_n hx hb dX0_merge_10 rfl (lv_at hl 1 rfl) ?_
  refine x0_get_spareNumbers C0 hK hP 0 rfl rfl dX0_merge_11 ?_
  refine lv_iconst (v := 0) hx hb dX0_merge_14 (by decide) ?_
  refine lv_iload hx hb dX0_merge_15 (lv_at hl 0 rfl) ?_
  refine xr_copy (rest := []) C0 hl.1 hK hP hD hS 1 3 rfl rfl (by omega) (by omega) (by decide) (by decide) (by decide) (by decide) dX0_merge_17 (fun H locs hP hD hS => ?_)
  have hP : va_P D vwCl (rs_X q cI (n) (f) (g) (va_cpy f sf st 0 (mi - st)) (sg) (r) ++ wr) H := hP
  have hD : va_D A (rs_X q cI (n) (f) (g) (va_cpy f sf st 0 (mi - st)) (sg) (r) ++ wr) := hD
  refine lv_aload_n hx hb dX0_merge_20 rfl (lv_at hl 1 rfl) ?_
  refine x0_get_tags C0 hK hP 0 rfl rfl dX0_merge_21 ?_
  refine lv_iload_n hx hb dX0_merge_24 rfl (lv_at hl 3 rfl) ?_
  refine lv_aload_n hx hb dX0_merge_25 rfl (lv_at hl 1 rfl) ?_
  refine x0_get_spareTags C0 hK hP 0 rfl rfl dX0_merge_26 ?_
  refine lv_iconst (v := 0) hx hb dX0_merge_29 (by decide) ?_
  refine lv_iload hx hb dX0_merge_30 (lv_at hl 0 rfl) ?_
  refine xr_copy (rest := []) C0 hl.1 hK hP hD hS 2 4 rfl rfl (by omega) (by omega) (by decide) (by decide) (by decide) (by decide) dX0_merge_32 (fun H locs hP hD hS => ?_)
  have hP : va_P D vwCl (rs_X q cI (n) (f) (g) (va_cpy f sf st 0 (mi - st)) (va_cpy g sg st 0 (mi - st)) (r) ++ wr) H := hP
  have hD : va_D A (rs_X q cI (n) (f) (g) (va_cpy f sf st 0 (mi - st)) (va_cpy g sg st 0 (mi - st)) (r) ++ wr) := hD
  have loop : ∀ (j : Nat) (fi se pl : Nat) (F G : Nat → Int32) (H : Heap) (locs : List Loc) (ls : Array Slot), pl + j = en → rs_MI o st mi en f g fi se pl F G (va_cpy f sf st 0 (mi - st)) (va_cpy g sg st 0 (mi - st)) → va_P D vwCl (rs_X q cI (n) (F) (G) (va_cpy f sf st 0 (mi - st)) (va_cpy g sg st 0 (mi - st)) (r) ++ wr) H → va_D A (rs_X q cI (n) (F) (G) (va_cpy f sf st 0 (mi - st)) (va_cpy g sg st 0 (mi - st)) (r) ++ wr) → va_S A s.heap H locs → lv_has ls 9 [(8, .int (nI pl)), (7, .int (nI se)), (6, .int (nI fi)), (5, .int (nI (mi - st))), (0, .ref (q 0)), (1, .int o), (2, .int (nI st)), (3, .int (nI mi)), (4, .int (nI en))] → W p l e ({ frames := 1, cells := 0, slots := 0, locals := 40 }) s m args below meth c H locs 0 0 Q (F0 m 44 ls []) := by
    intro j
    induction j with
    | zero =>
      intro fi se pl F G H locs ls hi hM hP hD hS hl
      refine lv_iload hx hb dX0_merge_44 (lv_at hl 0 rfl) ?_
      refine lv_iload hx hb dX0_merge_46 (lv_at hl 8 rfl) ?_
      refine lv_icmp_ge hx hb dX0_merge_48 rfl (fun h => ?_) (fun h => absurd (nI_le (by omega) (by omega)) h)
      rw [hQ]
      exact xr_vret C0 hlk hr (⟨_, _, _, _, rfl, rfl, hM.done (fun q => absurd (hM.lt q).2.2 (by omega))⟩) hP hD hS dX0_merge_161
    | succ j ih =>
      intro fi se pl F G H locs ls hi hM hP hD hS hl
      have hM1 := hM.1
      refine lv_iload hx hb dX0_merge_44 (lv_at hl 0 rfl) ?_
      refine lv_iload hx hb dX0_merge_46 (lv_at hl 8 rfl) ?_
      refine lv_icmp_ge hx hb dX0_merge_48 rfl (fun h => absurd h (nI_ge (by omega) (by omega))) (fun h => ?_)
      refine lv_iload hx hb dX0_merge_51 (lv_at hl 2 rfl) ?_
      refine lv_iload hx hb dX0_merge_53 (lv_at hl 3 rfl) ?_
      refine lv_icmp_ge hx hb dX0_merge_55 rfl (fun h => ?_) (fun h => ?_)
      · skip
        rw [hQ]
        exact xr_vret C0 hlk hr (⟨_, _, _, _, rfl, rfl, hM.done (fun q => nI_ge q (by omega) h)⟩) hP hD hS dX0_merge_161
      · skip
        have hf : fi < mi - st := by
          rcases Nat.lt_or_ge fi (mi - st) with q | q
          · exact q
          · exact absurd (nI_le q (by omega)) h
        have hlt := hM.lt hf
        refine lv_iload hx hb dX0_merge_58 (lv_at hl 1 rfl) ?_
        refine lv_iload hx hb dX0_merge_60 (lv_at hl 8 rfl) ?_
        refine lv_icmp_ge hx hb dX0_merge_62 rfl (fun h => ?_) (fun h => ?_)
        · skip
          have hse : se = en := by
            rcases Nat.lt_or_ge se en with q | q
            · exact absurd h (nI_ge q (by omega))
            · omega
          refine lv_aload_n hx hb dX0_merge_124 rfl (lv_at hl 4 rfl) ?_
          refine x0_get_numbers C0 hK hP 0 rfl rfl dX0_merge_125 ?_
          refine lv_iload hx hb dX0_merge_128 (lv_at hl 0 rfl) ?_
          refine lv_aload_n hx hb dX0_merge_130 rfl (lv_at hl 4 rfl) ?_
          refine x0_get_spareNumbers C0 hK hP 0 rfl rfl dX0_merge_131 ?_
          refine lv_iload hx hb dX0_merge_134 (lv_at hl 2 rfl) ?_
          refine xr_ald C0 hK hP 3 rfl (j := fi) (by omega) (by decide) dX0_merge_136 ?_
          refine xr_ast C0 hK hP hD hS 1 rfl (j := pl) (by omega) (by decide) dX0_merge_137 (fun H locs hP hD hS => ?_)
          have hP : va_P D vwCl (rs_X q cI (n) (upd F pl ((va_cpy f sf st 0 (mi - st)) fi)) (G) (va_cpy f sf st 0 (mi - st)) (va_cpy g sg st 0 (mi - st)) (r) ++ wr) H := hP
          have hD : va_D A (rs_X q cI (n) (upd F pl ((va_cpy f sf st 0 (mi - st)) fi)) (G) (va_cpy f sf st 0 (mi - st)) (va_cpy g sg st 0 (mi - st)) (r) ++ wr) := hD
          refine lv_aload_n hx hb dX0_merge_138 rfl (lv_at hl 4 rfl) ?_
          refine x0_get_tags C0 hK hP 0 rfl rfl dX0_merge_139 ?_
          refine lv_iload hx hb dX0_merge_142 (lv_at hl 0 rfl) ?_
          refine lv_aload_n hx hb dX0_merge_144 rfl (lv_at hl 4 rfl) ?_
          refine x0_get_spareTags C0 hK hP 0 rfl rfl dX0_merge_145 ?_
          refine lv_iload hx hb dX0_merge_148 (lv_at hl 2 rfl) ?_
          refine xr_ald C0 hK hP 4 rfl (j := fi) (by omega) (by decide) dX0_merge_150 ?_
          refine xr_ast C0 hK hP hD hS 2 rfl (j := pl) (by omega) (by decide) dX0_merge_151 (fun H locs hP hD hS => ?_)
          have hP : va_P D vwCl (rs_X q cI (n) (upd F pl ((va_cpy f sf st 0 (mi - st)) fi)) (upd G pl ((va_cpy g sg st 0 (mi - st)) fi)) (va_cpy f sf st 0 (mi - st)) (va_cpy g sg st 0 (mi - st)) (r) ++ wr) H := hP
          have hD : va_D A (rs_X q cI (n) (upd F pl ((va_cpy f sf st 0 (mi - st)) fi)) (upd G pl ((va_cpy g sg st 0 (mi - st)) fi)) (va_cpy f sf st 0 (mi - st)) (va_cpy g sg st 0 (mi - st)) (r) ++ wr) := hD
          refine lv_iinc (k := 2) hx hb dX0_merge_152 hl rfl (rs_inc fi) (by decide) rfl (fun ls hl => ?_)
          have hl : lv_has ls 9 [(6, .int (nI (fi + 1))), (8, .int (nI pl)), (7, .int (nI se)), (5, .int (nI (mi - st))), (0, .ref (q 0)), (1, .int o), (2, .int (nI st)), (3, .int (nI mi)), (4, .int (nI en))] := hl
          refine lv_iinc (k := 1) hx hb dX0_merge_155 hl rfl (rs_inc pl) (by decide) rfl (fun ls hl => ?_)
          have hl : lv_has ls 9 [(8, .int (nI (pl + 1))), (6, .int (nI (fi + 1))), (7, .int (nI se)), (5, .int (nI (mi - st))), (0, .ref (q 0)), (1, .int o), (2, .int (nI st)), (3, .int (nI mi)), (4, .int (nI en))] := hl
          refine lv_goto hx hb dX0_merge_158 rfl ?_
          have hl : lv_has ls 9 [(8, .int (nI (pl + 1))), (7, .int (nI se)), (6, .int (nI (fi + 1))), (5, .int (nI (mi - st))), (0, .ref (q 0)), (1, .int o), (2, .int (nI st)), (3, .int (nI mi)), (4, .int (nI en))] := lv_sub hl [0, 2, 1, 3, 4, 5, 6, 7, 8] rfl
          exact ih (fi + 1) se (pl + 1) _ _ H locs ls (by omega) (hM.one hf (Or.inl hse)) hP hD hS hl
        · skip
          have hse : se < en := by
            rcases Nat.lt_or_ge se en with q | q
            · exact q
            · exact absurd (nI_le q (by omega)) h
          refine lv_iload_n hx hb dX0_merge_65 rfl (lv_at hl 5 rfl) ?_
          refine lv_aload_n hx hb dX0_merge_66 rfl (lv_at hl 4 rfl) ?_
          refine x0_get_numbers C0 hK hP 0 rfl rfl dX0_merge_67 ?_
          refine lv_iload hx hb dX0_merge_70 (lv_at hl 1 rfl) ?_
          refine xr_ald C0 hK hP 1 rfl (j := se) (by omega) (by decide) dX0_merge_72 ?_
          refine xr_scall (As := [.int o, .int (F se)]) (rest := []) (nA := 2) C0 (c_rank l D q cI tyr wr _ n F G _ _ r o (F se)) (gS wM_X0_X0_rank wS_X0_rank wN_X0 wC_X0_rank) (by decide +kernel) rfl rfl rfl ⟨by decide, by decide⟩ hK hP hD hS hA hl.1 rfl (Nat.le_of_ble_eq_true rfl) dX0_merge_73 ⟨Nat.le_of_ble_eq_true rfl, Nat.le_of_ble_eq_true rfl⟩ (fun v w H locs hv hP hD hz hS => ?_)
          obtain ⟨rfl, rfl⟩ := hv
          refine lv_iload_n hx hb dX0_merge_76 rfl (lv_at hl 5 rfl) ?_
          refine lv_aload_n hx hb dX0_merge_77 rfl (lv_at hl 4 rfl) ?_
          refine x0_get_spareNumbers C0 hK hP 0 rfl rfl dX0_merge_78 ?_
          refine lv_iload hx hb dX0_merge_81 (lv_at hl 2 rfl) ?_
          refine xr_ald C0 hK hP 3 rfl (j := fi) (by omega) (by decide) dX0_merge_83 ?_
          refine xr_scall (As := [.int o, .int ((va_cpy f sf st 0 (mi - st)) fi)]) (rest := [.int (rs_rk o (F se))]) (nA := 2) C0 (c_rank l D q cI tyr wr _ n F G _ _ r o ((va_cpy f sf st 0 (mi - st)) fi)) (gS wM_X0_X0_rank wS_X0_rank wN_X0 wC_X0_rank) (by decide +kernel) rfl rfl rfl ⟨by decide, by decide⟩ hK hP hD hS hA hl.1 rfl (Nat.le_of_ble_eq_true rfl) dX0_merge_84 ⟨Nat.le_of_ble_eq_true rfl, Nat.le_of_ble_eq_true rfl⟩ (fun v w H locs hv hP hD hz hS => ?_)
          obtain ⟨rfl, rfl⟩ := hv
          refine lv_icmp_ge hx hb dX0_merge_87 rfl (fun h => ?_) (fun h => ?_)
          · skip
            refine lv_aload_n hx hb dX0_merge_124 rfl (lv_at hl 4 rfl) ?_
            refine x0_get_numbers C0 hK hP 0 rfl rfl dX0_merge_125 ?_
            refine lv_iload hx hb dX0_merge_128 (lv_at hl 0 rfl) ?_
            refine lv_aload_n hx hb dX0_merge_130 rfl (lv_at hl 4 rfl) ?_
            refine x0_get_spareNumbers C0 hK hP 0 rfl rfl dX0_merge_131 ?_
            refine lv_iload hx hb dX0_merge_134 (lv_at hl 2 rfl) ?_
            refine xr_ald C0 hK hP 3 rfl (j := fi) (by omega) (by decide) dX0_merge_136 ?_
            refine xr_ast C0 hK hP hD hS 1 rfl (j := pl) (by omega) (by decide) dX0_merge_137 (fun H locs hP hD hS => ?_)
            have hP : va_P D vwCl (rs_X q cI (n) (upd F pl ((va_cpy f sf st 0 (mi - st)) fi)) (G) (va_cpy f sf st 0 (mi - st)) (va_cpy g sg st 0 (mi - st)) (r) ++ wr) H := hP
            have hD : va_D A (rs_X q cI (n) (upd F pl ((va_cpy f sf st 0 (mi - st)) fi)) (G) (va_cpy f sf st 0 (mi - st)) (va_cpy g sg st 0 (mi - st)) (r) ++ wr) := hD
            refine lv_aload_n hx hb dX0_merge_138 rfl (lv_at hl 4 rfl) ?_
            refine x0_get_tags C0 hK hP 0 rfl rfl dX0_merge_139 ?_
            refine lv_iload hx hb dX0_merge_142 (lv_at hl 0 rfl) ?_
            refine lv_aload_n hx hb dX0_merge_144 rfl (lv_at hl 4 rfl) ?_
            refine x0_get_spareTags C0 hK hP 0 rfl rfl dX0_merge_145 ?_
            refine lv_iload hx hb dX0_merge_148 (lv_at hl 2 rfl) ?_
            refine xr_ald C0 hK hP 4 rfl (j := fi) (by omega) (by decide) dX0_merge_150 ?_
            refine xr_ast C0 hK hP hD hS 2 rfl (j := pl) (by omega) (by decide) dX0_merge_151 (fun H locs hP hD hS => ?_)
            have hP : va_P D vwCl (rs_X q cI (n) (upd F pl ((va_cpy f sf st 0 (mi - st)) fi)) (upd G pl ((va_cpy g sg st 0 (mi - st)) fi)) (va_cpy f sf st 0 (mi - st)) (va_cpy g sg st 0 (mi - st)) (r) ++ wr) H := hP
            have hD : va_D A (rs_X q cI (n) (upd F pl ((va_cpy f sf st 0 (mi - st)) fi)) (upd G pl ((va_cpy g sg st 0 (mi - st)) fi)) (va_cpy f sf st 0 (mi - st)) (va_cpy g sg st 0 (mi - st)) (r) ++ wr) := hD
            refine lv_iinc (k := 2) hx hb dX0_merge_152 hl rfl (rs_inc fi) (by decide) rfl (fun ls hl => ?_)
            have hl : lv_has ls 9 [(6, .int (nI (fi + 1))), (8, .int (nI pl)), (7, .int (nI se)), (5, .int (nI (mi - st))), (0, .ref (q 0)), (1, .int o), (2, .int (nI st)), (3, .int (nI mi)), (4, .int (nI en))] := hl
            refine lv_iinc (k := 1) hx hb dX0_merge_155 hl rfl (rs_inc pl) (by decide) rfl (fun ls hl => ?_)
            have hl : lv_has ls 9 [(8, .int (nI (pl + 1))), (6, .int (nI (fi + 1))), (7, .int (nI se)), (5, .int (nI (mi - st))), (0, .ref (q 0)), (1, .int o), (2, .int (nI st)), (3, .int (nI mi)), (4, .int (nI en))] := hl
            refine lv_goto hx hb dX0_merge_158 rfl ?_
            have hl : lv_has ls 9 [(8, .int (nI (pl + 1))), (7, .int (nI se)), (6, .int (nI (fi + 1))), (5, .int (nI (mi - st))), (0, .ref (q 0)), (1, .int o), (2, .int (nI st)), (3, .int (nI mi)), (4, .int (nI en))] := lv_sub hl [0, 2, 1, 3, 4, 5, 6, 7, 8] rfl
            exact ih (fi + 1) se (pl + 1) _ _ H locs ls (by omega) (hM.one hf (Or.inr h)) hP hD hS hl
          · skip
            refine lv_aload_n hx hb dX0_merge_90 rfl (lv_at hl 4 rfl) ?_
            refine x0_get_numbers C0 hK hP 0 rfl rfl dX0_merge_91 ?_
            refine lv_iload hx hb dX0_merge_94 (lv_at hl 0 rfl) ?_
            refine lv_aload_n hx hb dX0_merge_96 rfl (lv_at hl 4 rfl) ?_
            refine x0_get_numbers C0 hK hP 0 rfl rfl dX0_merge_97 ?_
            refine lv_iload hx hb dX0_merge_100 (lv_at hl 1 rfl) ?_
            refine xr_ald C0 hK hP 1 rfl (j := se) (by omega) (by decide) dX0_merge_102 ?_
            refine xr_ast C0 hK hP hD hS 1 rfl (j := pl) (by omega) (by decide) dX0_merge_103 (fun H locs hP hD hS => ?_)
            have hP : va_P D vwCl (rs_X q cI (n) (upd F pl (F se)) (G) (va_cpy f sf st 0 (mi - st)) (va_cpy g sg st 0 (mi - st)) (r) ++ wr) H := hP
            have hD : va_D A (rs_X q cI (n) (upd F pl (F se)) (G) (va_cpy f sf st 0 (mi - st)) (va_cpy g sg st 0 (mi - st)) (r) ++ wr) := hD
            refine lv_aload_n hx hb dX0_merge_104 rfl (lv_at hl 4 rfl) ?_
            refine x0_get_tags C0 hK hP 0 rfl rfl dX0_merge_105 ?_
            refine lv_iload hx hb dX0_merge_108 (lv_at hl 0 rfl) ?_
            refine lv_aload_n hx hb dX0_merge_110 rfl (lv_at hl 4 rfl) ?_
            refine x0_get_tags C0 hK hP 0 rfl rfl dX0_merge_111 ?_
            refine lv_iload hx hb dX0_merge_114 (lv_at hl 1 rfl) ?_
            refine xr_ald C0 hK hP 2 rfl (j := se) (by omega) (by decide) dX0_merge_116 ?_
            refine xr_ast C0 hK hP hD hS 2 rfl (j := pl) (by omega) (by decide) dX0_merge_117 (fun H locs hP hD hS => ?_)
            have hP : va_P D vwCl (rs_X q cI (n) (upd F pl (F se)) (upd G pl (G se)) (va_cpy f sf st 0 (mi - st)) (va_cpy g sg st 0 (mi - st)) (r) ++ wr) H := hP
            have hD : va_D A (rs_X q cI (n) (upd F pl (F se)) (upd G pl (G se)) (va_cpy f sf st 0 (mi - st)) (va_cpy g sg st 0 (mi - st)) (r) ++ wr) := hD
            refine lv_iinc (k := 1) hx hb dX0_merge_118 hl rfl (rs_inc se) (by decide) rfl (fun ls hl => ?_)
            have hl : lv_has ls 9 [(7, .int (nI (se + 1))), (8, .int (nI pl)), (6, .int (nI fi)), (5, .int (nI (mi - st))), (0, .ref (q 0)), (1, .int o), (2, .int (nI st)), (3, .int (nI mi)), (4, .int (nI en))] := hl
            refine lv_goto hx hb dX0_merge_121 rfl ?_
            refine lv_iinc (k := 1) hx hb dX0_merge_155 hl rfl (rs_inc pl) (by decide) rfl (fun ls hl => ?_)
            have hl : lv_has ls 9 [(8, .int (nI (pl + 1))), (7, .int (nI (se + 1))), (6, .int (nI fi)), (5, .int (nI (mi - st))), (0, .ref (q 0)), (1, .int o), (2, .int (nI st)), (3, .int (nI mi)), (4, .int (nI en))] := hl
            refine lv_goto hx hb dX0_merge_158 rfl ?_
            have hl : lv_has ls 9 [(8, .int (nI (pl + 1))), (7, .int (nI (se + 1))), (6, .int (nI fi)), (5, .int (nI (mi - st))), (0, .ref (q 0)), (1, .int o), (2, .int (nI st)), (3, .int (nI mi)), (4, .int (nI en))] := lv_sub hl [0, 1, 2, 3, 4, 5, 6, 7, 8] rfl
            exact ih fi (se + 1) (pl + 1) _ _ H locs ls (by omega) (hM.two hf hse (rs_nle h)) hP hD hS hl
  refine lv_iconst (v := 0) hx hb dX0_merge_35 (by decide) ?_
  refine lv_istore hx hb dX0_merge_36 hl (by decide) rfl (fun ls hl => ?_)
  have hl : lv_has ls 9 [(6, .int (nI 0)), (5, .int (nI (mi - st))), (0, .ref (q 0)), (1, .int o), (2, .int (nI st)), (3, .int (nI mi)), (4, .int (nI en))] := hl
  refine lv_iload_n hx hb dX0_merge_38 rfl (lv_at hl 5 rfl) ?_
  refine lv_istore hx hb dX0_merge_39 hl (by decide) rfl (fun ls hl => ?_)
  have hl : lv_has ls 9 [(7, .int (nI mi)), (6, .int (nI 0)), (5, .int (nI (mi - st))), (0, .ref (q 0)), (1, .int o), (2, .int (nI st)), (3, .int (nI mi)), (4, .int (nI en))] := hl
  refine lv_iload_n hx hb dX0_merge_41 rfl (lv_at hl 5 rfl) ?_
  refine lv_istore hx hb dX0_merge_42 hl (by decide) rfl (fun ls hl => ?_)
  have hl : lv_has ls 9 [(8, .int (nI st)), (7, .int (nI mi)), (6, .int (nI 0)), (5, .int (nI (mi - st))), (0, .ref (q 0)), (1, .int o), (2, .int (nI st)), (3, .int (nI mi)), (4, .int (nI en))] := hl
  exact loop (en - st) 0 mi st f g _ _ ls (by omega) (rs_MI.init h1 h2 hs1 hs2 (fun t ht => ⟨pk_cpy_in (Nat.zero_le _) (by omega), pk_cpy_in (Nat.zero_le _) (by omega)⟩)) hP hD hS hl
end
section
/-! The class: mergePairsOfRuns, sort, the constructor (rows laid by wip/whole/p10.py). -/
theorem rs_inc2 (i : Nat) : nI i + Int32.ofInt 2 = nI (i + 2) := by rw [lit2]; exact (inc2_ofNat i).symm
set_option maxHeartbeats 4000000 in
set_option maxRecDepth 100000 in
/-- mergePairsOfRuns -/
theorem c_pairs (l : Launch) (D : va_G) (q : Nat → Nat) (cI : ClassId) (tyr : List (ClassId × FieldType)) (wr : va_W) (sz n : Nat) (f g sf sg r : Nat → Int32) (o : Int32) (k a b : Nat) (hb : b ≤ 2000) (hk : k ≤ 2000) (hR : rs_Rn o a b f g r k) : xr_Met l yX0_mergePairsOfRuns (wU yX0_mergePairsOfRuns cX0_mergePairsOfRuns 5 none) ({ frames := 2, cells := 0, slots := 0, locals := 68 }) [.ref (q 0), .int o, .int (nI k)] D (rs_ty cI tyr) (rs_X q cI (n) (f) (g) (sf) (sg) (r) ++ wr) sz (fun v w => ∃ f' g' sf' sg' r' : Nat → Int32, v = none ∧ w = rs_X q cI n f' g' sf' sg' r' ++ wr ∧ rs_Mv o a b f g f' g' ∧ rs_Rn o a b f' g' r' ((k + 1) / 2)) 0 0 := by
  refine xr_startQ (by decide) (Nat.le_of_ble_eq_true rfl) ?_
  intro p e s m args below meth c A ls Q hQ C0 hlk hr hP hK hD hA hl
  have hx := C0.1
  have hb0 := C0.2.1
  have hS : va_S A s.heap s.heap [] := va_S.rf
  have hl : lv_has ls 5 [(0, .ref (q 0)), (1, .int o), (2, .int (nI k))] := hl
  obtain ⟨ρ, hρ, hρ0, hρk, hup, hso⟩ := hR
  have fin : ∀ (p' : Nat) (F G SF SG : Nat → Int32), rs_PI o a b f g ρ k p' F G → ¬ p' + 1 < k → ∀ (j t : Nat) (r' : Nat → Int32) (H : Heap) (locs : List Loc) (ls : Array Slot), t + j = (k + 1) / 2 + 1 → (∀ i, i < t → r' i = nI (ρ (min (2 * i) k))) → (∀ i, t ≤ i → i ≤ k → r' i = nI (ρ i)) → va_P D vwCl (rs_X q cI (n) (F) (G) (SF) (SG) (r') ++ wr) H → va_D A (rs_X q cI (n) (F) (G) (SF) (SG) (r') ++ wr) → va_S A s.heap H locs → lv_has ls 5 [(4, .int (nI t)), (3, .int (nI ((k + 1) / 2))), (0, .ref (q 0)), (1, .int o), (2, .int (nI k))] → W p l e ({ frames := 2, cells := 0, slots := 0, locals := 68 }) s m args below meth c H locs 0 0 Q (F0 m 51 ls []) := by
    intro p' F G SF SG hI hp j
    induction j with
    | zero =>
      intro t r' H locs ls ht hlo hhi hP hD hS hl
      refine lv_iload hx hb0 dX0_mergePairsOfRuns_51 (lv_at hl 0 rfl) ?_
      refine lv_iload_n hx hb0 dX0_mergePairsOfRuns_53 rfl (lv_at hl 1 rfl) ?_
      refine lv_icmp_gt hx hb0 dX0_mergePairsOfRuns_54 rfl (fun h => ?_) (fun h => absurd (nI_lt (by omega) (by omega)) h)
      rw [hQ]
      exact xr_vret C0 hlk hr (⟨_, _, _, _, _, rfl, rfl, hI.2.2.1, hI.done hp (fun i hi => hlo i (by omega))⟩) hP hD hS dX0_mergePairsOfRuns_83
    | succ j ih =>
      intro t r' H locs ls ht hlo hhi hP hD hS hl
      refine lv_iload hx hb0 dX0_mergePairsOfRuns_51 (lv_at hl 0 rfl) ?_
      refine lv_iload_n hx hb0 dX0_mergePairsOfRuns_53 rfl (lv_at hl 1 rfl) ?_
      refine lv_icmp_gt hx hb0 dX0_mergePairsOfRuns_54 rfl (fun h => absurd h (nI_nlt (by omega) (by omega))) (fun h => ?_)
      refine lv_aload_n hx hb0 dX0_mergePairsOfRuns_57 rfl (lv_at hl 2 rfl) ?_
      refine x0_get_runStarts C0 hK hP 0 rfl rfl dX0_mergePairsOfRuns_58 ?_
      refine lv_iload hx hb0 dX0_mergePairsOfRuns_61 (lv_at hl 0 rfl) ?_
      refine lv_aload_n hx hb0 dX0_mergePairsOfRuns_63 rfl (lv_at hl 2 rfl) ?_
      refine x0_get_runStarts C0 hK hP 0 rfl rfl dX0_mergePairsOfRuns_64 ?_
      refine lv_iconst (v := 2) hx hb0 dX0_mergePairsOfRuns_67 (by decide) ?_
      refine lv_iload hx hb0 dX0_mergePairsOfRuns_68 (lv_at hl 0 rfl) ?_
      refine lv_imul hx hb0 dX0_mergePairsOfRuns_70 ?_
      refine xr_top (pk_mul 2 t) ?_
      refine lv_iload_n hx hb0 dX0_mergePairsOfRuns_71 rfl (lv_at hl 4 rfl) ?_
      refine xr_min (rest := [.ref (q 5), .int (nI t), .ref (q 5)]) (by omega) (by omega) C0 hl.1 (by decide) (Nat.le_of_ble_eq_true rfl) (Nat.le_refl _) (Nat.le_refl _) dX0_mergePairsOfRuns_72 ?_
      refine xr_ald C0 hK hP 5 rfl (j := min (2 * t) k) (by omega) (by decide) dX0_mergePairsOfRuns_75 ?_
      refine xr_top (hhi (min (2 * t) k) (by omega) (by omega)) ?_
      refine xr_ast C0 hK hP hD hS 5 rfl (j := t) (by omega) (by decide) dX0_mergePairsOfRuns_76 (fun H locs hP hD hS => ?_)
      have hP : va_P D vwCl (rs_X q cI (n) (F) (G) (SF) (SG) (upd r' t (nI (ρ (min (2 * t) k)))) ++ wr) H := hP
      have hD : va_D A (rs_X q cI (n) (F) (G) (SF) (SG) (upd r' t (nI (ρ (min (2 * t) k)))) ++ wr) := hD
      refine lv_iinc (k := 0) hx hb0 dX0_mergePairsOfRuns_77 hl rfl (rs_inc t) (by decide) rfl (fun ls hl => ?_)
      have hl : lv_has ls 5 [(4, .int (nI (t + 1))), (3, .int (nI ((k + 1) / 2))), (0, .ref (q 0)), (1, .int o), (2, .int (nI k))] := hl
      refine lv_goto hx hb0 dX0_mergePairsOfRuns_80 rfl ?_
      refine ih (t + 1) _ H locs ls (by omega) (fun i hi => ?_) (fun i hi hik => ?_) hP hD hS hl
      · by_cases hit : i = t
        · subst hit; exact pk_us
        · rw [pk_un hit]; exact hlo i (by omega)
      · rw [pk_un (show i ≠ t by omega)]; exact hhi i (by omega) hik
  have loop : ∀ (j : Nat) (i : Nat) (F G SF SG : Nat → Int32) (H : Heap) (locs : List Loc) (ls : Array Slot), k ≤ i + j → rs_PI o a b f g ρ k i F G → va_P D vwCl (rs_X q cI (n) (F) (G) (SF) (SG) (r) ++ wr) H → va_D A (rs_X q cI (n) (F) (G) (SF) (SG) (r) ++ wr) → va_S A s.heap H locs → lv_has ls 5 [(3, .int (nI i)), (0, .ref (q 0)), (1, .int o), (2, .int (nI k))] → W p l e ({ frames := 2, cells := 0, slots := 0, locals := 68 }) s m args below meth c H locs 0 0 Q (F0 m 2 ls []) := by
    intro j
    induction j with
    | zero =>
      intro i F G SF SG H locs ls hi hI hP hD hS hl
      have hik := hI.2.1
      refine lv_iload_n hx hb0 dX0_mergePairsOfRuns_2 rfl (lv_at hl 0 rfl) ?_
      refine lv_iconst (v := 1) hx hb0 dX0_mergePairsOfRuns_3 (by decide) ?_
      refine lv_iadd hx hb0 dX0_mergePairsOfRuns_4 ?_
      refine xr_top (nI_1 i) ?_
      refine lv_iload_n hx hb0 dX0_mergePairsOfRuns_5 rfl (lv_at hl 3 rfl) ?_
      refine lv_icmp_ge hx hb0 dX0_mergePairsOfRuns_6 rfl (fun h => ?_) (fun h => absurd (nI_le (by omega) (by omega)) h)
      refine lv_iload_n hx hb0 dX0_mergePairsOfRuns_42 rfl (lv_at hl 3 rfl) ?_
      refine lv_iconst (v := 1) hx hb0 dX0_mergePairsOfRuns_43 (by decide) ?_
      refine lv_iadd hx hb0 dX0_mergePairsOfRuns_44 ?_
      refine xr_top (nI_1 k) ?_
      refine lv_iconst (v := 2) hx hb0 dX0_mergePairsOfRuns_45 (by decide) ?_
      refine lv_idiv hx hb0 dX0_mergePairsOfRuns_46 (by decide) ?_
      refine xr_top (rs_half (by omega)) ?_
      refine lv_istore_n hx hb0 dX0_mergePairsOfRuns_47 rfl hl (by decide) rfl (fun ls hl => ?_)
      have hl : lv_has ls 5 [(3, .int (nI ((k + 1) / 2))), (0, .ref (q 0)), (1, .int o), (2, .int (nI k))] := hl
      refine lv_iconst (v := 0) hx hb0 dX0_mergePairsOfRuns_48 (by decide) ?_
      refine lv_istore hx hb0 dX0_mergePairsOfRuns_49 hl (by decide) rfl (fun ls hl => ?_)
      have hl : lv_has ls 5 [(4, .int (nI 0)), (3, .int (nI ((k + 1) / 2))), (0, .ref (q 0)), (1, .int o), (2, .int (nI k))] := hl
      exact fin i F G SF SG hI (by omega) ((k + 1) / 2 + 1) 0 r H locs ls (by omega) (fun i hi => absurd hi (by omega)) (fun i _ hik => hρ i hik) hP hD hS hl
    | succ j ih =>
      intro i F G SF SG H locs ls hi hI hP hD hS hl
      have hik := hI.2.1
      refine lv_iload_n hx hb0 dX0_mergePairsOfRuns_2 rfl (lv_at hl 0 rfl) ?_
      refine lv_iconst (v := 1) hx hb0 dX0_mergePairsOfRuns_3 (by decide) ?_
      refine lv_iadd hx hb0 dX0_mergePairsOfRuns_4 ?_
      refine xr_top (nI_1 i) ?_
      refine lv_iload_n hx hb0 dX0_mergePairsOfRuns_5 rfl (lv_at hl 3 rfl) ?_
      refine lv_icmp_ge hx hb0 dX0_mergePairsOfRuns_6 rfl (fun h => ?_) (fun h => ?_)
      · skip
        refine lv_iload_n hx hb0 dX0_mergePairsOfRuns_42 rfl (lv_at hl 3 rfl) ?_
        refine lv_iconst (v := 1) hx hb0 dX0_mergePairsOfRuns_43 (by decide) ?_
        refine lv_iadd hx hb0 dX0_mergePairsOfRuns_44 ?_
        refine xr_top (nI_1 k) ?_
        refine lv_iconst (v := 2) hx hb0 dX0_mergePairsOfRuns_45 (by decide) ?_
        refine lv_idiv hx hb0 dX0_mergePairsOfRuns_46 (by decide) ?_
        refine xr_top (rs_half (by omega)) ?_
        refine lv_istore_n hx hb0 dX0_mergePairsOfRuns_47 rfl hl (by decide) rfl (fun ls hl => ?_)
        have hl : lv_has ls 5 [(3, .int (nI ((k + 1) / 2))), (0, .ref (q 0)), (1, .int o), (2, .int (nI k))] := hl
        refine lv_iconst (v := 0) hx hb0 dX0_mergePairsOfRuns_48 (by decide) ?_
        refine lv_istore hx hb0 dX0_mergePairsOfRuns_49 hl (by decide) rfl (fun ls hl => ?_)
        have hl : lv_has ls 5 [(4, .int (nI 0)), (3, .int (nI ((k + 1) / 2))), (0, .ref (q 0)), (1, .int o), (2, .int (nI k))] := hl
        exact fin i F G SF SG hI (fun q => nI_ge q (by omega) h) ((k + 1) / 2 + 1) 0 r H locs ls (by omega) (fun i hi => absurd hi (by omega)) (fun i _ hik => hρ i hik) hP hD hS hl
      · skip
        have hlt : i + 1 < k := by
          rcases Nat.lt_or_ge (i + 1) k with q | q
          · exact q
          · exact absurd (nI_le q (by omega)) h
        have m0 : ρ i ≤ ρ (i + 1) := hup i (by omega)
        have m1 : ρ (i + 1) ≤ ρ (i + 2) := hup (i + 1) (by omega)
        have m2 : ρ (i + 2) ≤ b := by
          rw [← hρk]
          exact rs_mono hup (by omega) (Nat.le_refl _)
        refine lv_aload_n hx hb0 dX0_mergePairsOfRuns_9 rfl (lv_at hl 1 rfl) ?_
        refine lv_iload_n hx hb0 dX0_mergePairsOfRuns_10 rfl (lv_at hl 2 rfl) ?_
        refine lv_aload_n hx hb0 dX0_mergePairsOfRuns_11 rfl (lv_at hl 1 rfl) ?_
        refine x0_get_runStarts C0 hK hP 0 rfl rfl dX0_mergePairsOfRuns_12 ?_
        refine lv_iload_n hx hb0 dX0_mergePairsOfRuns_15 rfl (lv_at hl 0 rfl) ?_
        refine xr_ald C0 hK hP 5 rfl (j := i) (by omega) (by decide) dX0_mergePairsOfRuns_16 ?_
        refine xr_top (hρ i (by omega)) ?_
        refine lv_aload_n hx hb0 dX0_mergePairsOfRuns_17 rfl (lv_at hl 1 rfl) ?_
        refine x0_get_runStarts C0 hK hP 0 rfl rfl dX0_mergePairsOfRuns_18 ?_
        refine lv_iload_n hx hb0 dX0_mergePairsOfRuns_21 rfl (lv_at hl 0 rfl) ?_
        refine lv_iconst (v := 1) hx hb0 dX0_mergePairsOfRuns_22 (by decide) ?_
        refine lv_iadd hx hb0 dX0_mergePairsOfRuns_23 ?_
        refine xr_top (nI_1 i) ?_
        refine xr_ald C0 hK hP 5 rfl (j := i + 1) (by omega) (by decide) dX0_mergePairsOfRuns_24 ?_
        refine xr_top (hρ (i + 1) (by omega)) ?_
        refine lv_aload_n hx hb0 dX0_mergePairsOfRuns_25 rfl (lv_at hl 1 rfl) ?_
        refine x0_get_runStarts C0 hK hP 0 rfl rfl dX0_mergePairsOfRuns_26 ?_
        refine lv_iload_n hx hb0 dX0_mergePairsOfRuns_29 rfl (lv_at hl 0 rfl) ?_
        refine lv_iconst (v := 2) hx hb0 dX0_mergePairsOfRuns_30 (by decide) ?_
        refine lv_iadd hx hb0 dX0_mergePairsOfRuns_31 ?_
        refine xr_top (nI_add i 2) ?_
        refine xr_ald C0 hK hP 5 rfl (j := i + 2) (by omega) (by decide) dX0_mergePairsOfRuns_32 ?_
        refine xr_top (hρ (i + 2) (by omega)) ?_
        refine xr_vcall (As := [.int o, .int (nI (ρ i)), .int (nI (ρ (i + 1))), .int (nI (ρ (i + 2)))]) (rest := []) (nA := 4) C0 (c_merge l D q cI tyr wr _ n F G SF SG r o (ρ i) (ρ (i + 1)) (ρ (i + 2)) m0 m1 (by omega) (hI.2.2.2.2.2.2.1 i (by omega) (by omega)) (hI.2.2.2.2.2.2.1 (i + 1) (by omega) (by omega))) (gV wM_X0_X0_merge wI_X0_merge wV_X0_X0_merge wN_X0 wC_X0_merge) (by decide +kernel) rfl rfl rfl ⟨by decide, by decide⟩ hK hP hD hS hA 0 rfl rfl hl.1 rfl (Nat.le_of_ble_eq_true rfl) dX0_mergePairsOfRuns_33 ⟨Nat.le_of_ble_eq_true rfl, Nat.le_of_ble_eq_true rfl⟩ (fun v w H locs hv hP hD hz hS => ?_)
        obtain ⟨F', G', SF', SG', rfl, rfl, hSt⟩ := hv
        refine lv_iinc (k := 0) hx hb0 dX0_mergePairsOfRuns_36 hl rfl (rs_inc2 i) (by decide) rfl (fun ls hl => ?_)
        have hl : lv_has ls 5 [(3, .int (nI (i + 2))), (0, .ref (q 0)), (1, .int o), (2, .int (nI k))] := hl
        refine lv_goto hx hb0 dX0_mergePairsOfRuns_39 rfl ?_
        exact ih (i + 2) F' G' SF' SG' H locs ls (by omega) (hI.step hlt hSt) hP hD hS hl
  refine lv_iconst (v := 0) hx hb0 dX0_mergePairsOfRuns_0 (by decide) ?_
  refine lv_istore_n hx hb0 dX0_mergePairsOfRuns_1 rfl hl (by decide) rfl (fun ls hl => ?_)
  have hl : lv_has ls 5 [(3, .int (nI 0)), (0, .ref (q 0)), (1, .int o), (2, .int (nI k))] := hl
  exact loop k 0 f g sf sg _ _ ls (by omega) ⟨rfl, by omega, rs_Mv.rf, hρ0, hρk, hup, fun i _ hi => hso i hi, fun i _ hi => absurd hi (by omega)⟩ hP hD hS hl
set_option maxHeartbeats 4000000 in
set_option maxRecDepth 100000 in
/-- sort, in range -/
theorem c_sort (l : Launch) (D : va_G) (q : Nat → Nat) (cI : ClassId) (tyr : List (ClassId × FieldType)) (wr : va_W) (sz n : Nat) (f g sf sg r : Nat → Int32) (o : Int32) (a b : Nat) (h1 : ¬ o < 0) (h2 : o ≤ 3) (hab : a ≤ b) (hbn : b ≤ n) (hn : n ≤ 2000) : xr_Met l yX0_sort (wU yX0_sort cX0_sort 5 (some .int)) ({ frames := 3, cells := 0, slots := 0, locals := 92 }) [.ref (q 0), .int o, .int (nI a), .int (nI b)] D (rs_ty cI tyr) (rs_X q cI (n) (f) (g) (sf) (sg) (r) ++ wr) sz (fun v w => ∃ f' g' sf' sg' r' : Nat → Int32, v = some (.int (nI (b - a))) ∧ w = rs_X q cI n f' g' sf' sg' r' ++ wr ∧ rs_St o a b f g f' g') 0 0 := by
  refine xr_startQ (by decide) (Nat.le_of_ble_eq_true rfl) ?_
  intro p e s m args below meth c A ls Q hQ C0 hlk hr hP hK hD hA hl
  have hx := C0.1
  have hb := C0.2.1
  have hS : va_S A s.heap s.heap [] := va_S.rf
  have hl : lv_has ls 5 [(0, .ref (q 0)), (1, .int o), (2, .int (nI a)), (3, .int (nI b))] := hl
  refine lv_iload_n hx hb dX0_sort_0 rfl (lv_at hl 1 rfl) ?_
  refine xr_scall (As := [.int o]) (rest := []) (nA := 1) C0 (c_order l D q cI tyr wr _ n f g sf sg r o h1 h2) (gS wM_X0_X0_requireOrder wS_X0_requireOrder wN_X0 wC_X0_requireOrder) (by decide +kernel) rfl rfl rfl ⟨by decide, by decide⟩ hK hP hD hS hA hl.1 rfl (Nat.le_of_ble_eq_true rfl) dX0_sort_1 ⟨Nat.le_of_ble_eq_true rfl, Nat.le_of_ble_eq_true rfl⟩ (fun v w H locs hv hP hD hz hS => ?_)
  obtain ⟨rfl, rfl⟩ := hv
  refine lv_aload_n hx hb dX0_sort_4 rfl (lv_at hl 0 rfl) ?_
  refine lv_iload_n hx hb dX0_sort_5 rfl (lv_at hl 2 rfl) ?_
  refine lv_iload_n hx hb dX0_sort_6 rfl (lv_at hl 3 rfl) ?_
  refine xr_vcall (As := [.int (nI a), .int (nI b)]) (rest := []) (nA := 2) C0 (c_part l D q cI tyr wr _ n f g sf sg r a b hab hbn hn) (gV wM_X0_X0_requirePart wI_X0_requirePart wV_X0_X0_requirePart wN_X0 wC_X0_requirePart) (by decide +kernel) rfl rfl rfl ⟨by decide, by decide⟩ hK hP hD hS hA 0 rfl rfl hl.1 rfl (Nat.le_of_ble_eq_true rfl) dX0_sort_7 ⟨Nat.le_of_ble_eq_true rfl, Nat.le_of_ble_eq_true rfl⟩ (fun v w H locs hv hP hD hz hS => ?_)
  obtain ⟨rfl, rfl⟩ := hv
  refine lv_aload_n hx hb dX0_sort_10 rfl (lv_at hl 0 rfl) ?_
  refine lv_iload_n hx hb dX0_sort_11 rfl (lv_at hl 1 rfl) ?_
  refine lv_iload_n hx hb dX0_sort_12 rfl (lv_at hl 2 rfl) ?_
  refine lv_iload_n hx hb dX0_sort_13 rfl (lv_at hl 3 rfl) ?_
  refine xr_vcall (As := [.int o, .int (nI a), .int (nI b)]) (rest := []) (nA := 3) C0 (c_findRuns l D q cI tyr wr _ n f g sf sg r o a b hab (by omega)) (gV wM_X0_X0_findRuns wI_X0_findRuns wV_X0_X0_findRuns wN_X0 wC_X0_findRuns) (by decide +kernel) rfl rfl rfl ⟨by decide, by decide⟩ hK hP hD hS hA 0 rfl rfl hl.1 rfl (Nat.le_of_ble_eq_true rfl) dX0_sort_14 ⟨Nat.le_of_ble_eq_true rfl, Nat.le_of_ble_eq_true rfl⟩ (fun v w H locs hv hP hD hz hS => ?_)
  obtain ⟨k, r1, rfl, rfl, hR, hk⟩ := hv
  have loop : ∀ (j : Nat) (i : Nat) (F G SF SG r' : Nat → Int32) (H : Heap) (locs : List Loc) (ls : Array Slot), i ≤ j → i ≤ 2000 → rs_Mv o a b f g F G → rs_Rn o a b F G r' i → va_P D vwCl (rs_X q cI (n) (F) (G) (SF) (SG) (r') ++ wr) H → va_D A (rs_X q cI (n) (F) (G) (SF) (SG) (r') ++ wr) → va_S A s.heap H locs → lv_has ls 5 [(4, .int (nI i)), (0, .ref (q 0)), (1, .int o), (2, .int (nI a)), (3, .int (nI b))] → W p l e ({ frames := 3, cells := 0, slots := 0, locals := 92 }) s m args below meth c H locs 0 0 Q (F0 m 19 ls []) := by
    intro j
    induction j with
    | zero =>
      intro i F G SF SG r' H locs ls hi hi2 hM hR hP hD hS hl
      refine lv_iload hx hb dX0_sort_19 (lv_at hl 0 rfl) ?_
      refine lv_iconst (v := 1) hx hb dX0_sort_21 (by decide) ?_
      refine lv_icmp_le hx hb dX0_sort_22 rfl (fun h => ?_) (fun h => absurd (nI_le (b := 1) (by omega) (by omega)) h)
      refine lv_iload_n hx hb dX0_sort_43 rfl (lv_at hl 4 rfl) ?_
      refine lv_iload_n hx hb dX0_sort_44 rfl (lv_at hl 3 rfl) ?_
      refine lv_isub hx hb dX0_sort_45 ?_
      refine xr_top (pk_sub hab) ?_
      rw [hQ]
      exact xr_iret C0 hlk hr (⟨_, _, _, _, _, rfl, rfl, hM, hR.done (by omega)⟩) hP hD hS dX0_sort_46
    | succ j ih =>
      intro i F G SF SG r' H locs ls hi hi2 hM hR hP hD hS hl
      refine lv_iload hx hb dX0_sort_19 (lv_at hl 0 rfl) ?_
      refine lv_iconst (v := 1) hx hb dX0_sort_21 (by decide) ?_
      refine lv_icmp_le hx hb dX0_sort_22 rfl (fun h => ?_) (fun h => ?_)
      · skip
        refine lv_iload_n hx hb dX0_sort_43 rfl (lv_at hl 4 rfl) ?_
        refine lv_iload_n hx hb dX0_sort_44 rfl (lv_at hl 3 rfl) ?_
        refine lv_isub hx hb dX0_sort_45 ?_
        refine xr_top (pk_sub hab) ?_
        rw [hQ]
        exact xr_iret C0 hlk hr (⟨_, _, _, _, _, rfl, rfl, hM, hR.done (Nat.le_of_not_lt (fun q => nI_ge (a := 1) q (by omega) h))⟩) hP hD hS dX0_sort_46
      · skip
        have hlt : 1 < i := by
          rcases Nat.lt_or_ge 1 i with q | q
          · exact q
          · exact absurd (nI_le (b := 1) q (by omega)) h
        refine lv_aload_n hx hb dX0_sort_25 rfl (lv_at hl 1 rfl) ?_
        refine lv_iload_n hx hb dX0_sort_26 rfl (lv_at hl 2 rfl) ?_
        refine lv_iload hx hb dX0_sort_27 (lv_at hl 0 rfl) ?_
        refine xr_vcall (As := [.int o, .int (nI i)]) (rest := []) (nA := 2) C0 (c_pairs l D q cI tyr wr _ n F G SF SG r' o i a b (by omega) hi2 hR) (gV wM_X0_X0_mergePairsOfRuns wI_X0_mergePairsOfRuns wV_X0_X0_mergePairsOfRuns wN_X0 wC_X0_mergePairsOfRuns) (by decide +kernel) rfl rfl rfl ⟨by decide, by decide⟩ hK hP hD hS hA 0 rfl rfl hl.1 rfl (Nat.le_of_ble_eq_true rfl) dX0_sort_29 ⟨Nat.le_of_ble_eq_true rfl, Nat.le_of_ble_eq_true rfl⟩ (fun v w H locs hv hP hD hz hS => ?_)
        obtain ⟨F', G', SF', SG', r2, rfl, rfl, hM2, hR2⟩ := hv
        refine lv_iload hx hb dX0_sort_32 (lv_at hl 0 rfl) ?_
        refine lv_iconst (v := 1) hx hb dX0_sort_34 (by decide) ?_
        refine lv_iadd hx hb dX0_sort_35 ?_
        refine xr_top (nI_1 i) ?_
        refine lv_iconst (v := 2) hx hb dX0_sort_36 (by decide) ?_
        refine lv_idiv hx hb dX0_sort_37 (by decide) ?_
        refine xr_top (rs_half (by omega)) ?_
        refine lv_istore hx hb dX0_sort_38 hl (by decide) rfl (fun ls hl => ?_)
        have hl : lv_has ls 5 [(4, .int (nI ((i + 1) / 2))), (0, .ref (q 0)), (1, .int o), (2, .int (nI a)), (3, .int (nI b))] := hl
        refine lv_goto hx hb dX0_sort_40 rfl ?_
        exact ih ((i + 1) / 2) F' G' SF' SG' r2 H locs ls (by omega) (by omega) (hM.tr hM2) hR2 hP hD hS hl
  refine lv_istore hx hb dX0_sort_17 hl (by decide) rfl (fun ls hl => ?_)
  have hl : lv_has ls 5 [(4, .int (nI k)), (0, .ref (q 0)), (1, .int o), (2, .int (nI a)), (3, .int (nI b))] := hl
  exact loop k k f g sf sg r1 _ _ ls (Nat.le_refl _) (by omega) rs_Mv.rf hR hP hD hS hl
set_option maxHeartbeats 4000000 in
set_option maxRecDepth 100000 in
/-- RunSorter(): five new rows, no numbers -/
theorem c_init (l : Launch) (D : va_G) (cI : ClassId) (tyr : List (ClassId × FieldType)) (sz a : Nat) : xr_Met l yX0_init (wU yX0_init cX0_init 1 none) ({ frames := 1, cells := 5, slots := 10001, locals := 20 }) [.ref a] D (rs_ty cI tyr) [(a, .inr (0, [.null, .null, .int 0, .null, .null, .null]))] sz (fun v w => v = none ∧ ∃ q : Nat → Nat, q 0 = a ∧ w = rs_X q cI 0 (fun _ => 0) (fun _ => 0) (fun _ => 0) (fun _ => 0) (fun _ => 0)) 5 10001 := by
  refine xr_start (by decide) (Nat.le_of_ble_eq_true rfl) ?_
  intro p e s m args below meth c A ls C0 hlk hr hnm hP hK hD hA hl
  have hx := C0.1
  have hb := C0.2.1
  have hS : va_S A s.heap s.heap [] := va_S.rf
  have hl : lv_has ls 1 [(0, .ref a)] := hl
  refine lv_aload_n hx hb dX0_init_0 rfl (lv_at hl 0 rfl) ?_
  refine W.objInit hx hb C0.2.2.2.1 (C0.2.2.2.2 _ wM_X0_Object_init) (C0.2.2.2.2 _ wI_Object_init) (C0.2.2.2.2 _ wC_Object_init) rfl (by rw [C0.2.2.1]; exact hl.1) rfl dX0_init_1 (Nat.le_of_ble_eq_true rfl) (Nat.le_of_ble_eq_true rfl) ?_
  refine W.eq (g2 := F0 m 4 ls []) rfl ?_
  refine lv_aload_n hx hb dX0_init_4 rfl (lv_at hl 0 rfl) ?_
  refine lv_sipush (v := 2000) hx hb dX0_init_5 (by decide) ?_
  refine xr_newa (N := 2000) C0 hK hP hD hS hA rfl (by decide) (Nat.le_of_ble_eq_true rfl) (Nat.le_of_ble_eq_true rfl) dX0_init_8 (fun q1 H hP hD hS => ?_)
  have hP : va_P D vwCl [(a, .inr (0, [.null, .null, .int 0, .null, .null, .null])), (q1, .inl (cI, 2000, .inl (fun _ => 0)))] H := hP
  have hD : va_D A [(a, .inr (0, [.null, .null, .int 0, .null, .null, .null])), (q1, .inl (cI, 2000, .inl (fun _ => 0)))] := hD
  refine x0_putF_numbers C0 hnm hK hP hD hS 0 rfl (Nat.le_of_ble_eq_true rfl) dX0_init_10 (fun H locs hP hD hS => ?_)
  have hP : va_P D vwCl [(a, .inr (0, [.ref q1, .null, .int 0, .null, .null, .null])), (q1, .inl (cI, 2000, .inl (fun _ => 0)))] H := hP
  have hD : va_D A [(a, .inr (0, [.ref q1, .null, .int 0, .null, .null, .null])), (q1, .inl (cI, 2000, .inl (fun _ => 0)))] := hD
  refine lv_aload_n hx hb dX0_init_13 rfl (lv_at hl 0 rfl) ?_
  refine lv_sipush (v := 2000) hx hb dX0_init_14 (by decide) ?_
  refine xr_newa (N := 2000) C0 hK hP hD hS hA rfl (by decide) (Nat.le_of_ble_eq_true rfl) (Nat.le_of_ble_eq_true rfl) dX0_init_17 (fun q2 H hP hD hS => ?_)
  have hP : va_P D vwCl [(a, .inr (0, [.ref q1, .null, .int 0, .null, .null, .null])), (q1, .inl (cI, 2000, .inl (fun _ => 0))), (q2, .inl (cI, 2000, .inl (fun _ => 0)))] H := hP
  have hD : va_D A [(a, .inr (0, [.ref q1, .null, .int 0, .null, .null, .null])), (q1, .inl (cI, 2000, .inl (fun _ => 0))), (q2, .inl (cI, 2000, .inl (fun _ => 0)))] := hD
  refine x0_putF_tags C0 hnm hK hP hD hS 0 rfl (Nat.le_of_ble_eq_true rfl) dX0_init_19 (fun H locs hP hD hS => ?_)
  have hP : va_P D vwCl [(a, .inr (0, [.ref q1, .ref q2, .int 0, .null, .null, .null])), (q1, .inl (cI, 2000, .inl (fun _ => 0))), (q2, .inl (cI, 2000, .inl (fun _ => 0)))] H := hP
  have hD : va_D A [(a, .inr (0, [.ref q1, .ref q2, .int 0, .null, .null, .null])), (q1, .inl (cI, 2000, .inl (fun _ => 0))), (q2, .inl (cI, 2000, .inl (fun _ => 0)))] := hD
  refine lv_aload_n hx hb dX0_init_22 rfl (lv_at hl 0 rfl) ?_
  refine lv_iconst (v := 0) hx hb dX0_init_23 (by decide) ?_
  refine x0_put_size C0 hK hP hD hS 0 rfl (Nat.le_of_ble_eq_true rfl) dX0_init_24 (fun H locs hP hD hS => ?_)
  have hP : va_P D vwCl [(a, .inr (0, [.ref q1, .ref q2, .int 0, .null, .null, .null])), (q1, .inl (cI, 2000, .inl (fun _ => 0))), (q2, .inl (cI, 2000, .inl (fun _ => 0)))] H := hP
  have hD : va_D A [(a, .inr (0, [.ref q1, .ref q2, .int 0, .null, .null, .null])), (q1, .inl (cI, 2000, .inl (fun _ => 0))), (q2, .inl (cI, 2000, .inl (fun _ => 0)))] := hD
  refine lv_aload_n hx hb dX0_init_27 rfl (lv_at hl 0 rfl) ?_
  refine lv_sipush (v := 2000) hx hb dX0_init_28 (by decide) ?_
  refine xr_newa (N := 2000) C0 hK hP hD hS hA rfl (by decide) (Nat.le_of_ble_eq_true rfl) (Nat.le_of_ble_eq_true rfl) dX0_init_31 (fun q3 H hP hD hS => ?_)
  have hP : va_P D vwCl [(a, .inr (0, [.ref q1, .ref q2, .int 0, .null, .null, .null])), (q1, .inl (cI, 2000, .inl (fun _ => 0))), (q2, .inl (cI, 2000, .inl (fun _ => 0))), (q3, .inl (cI, 2000, .inl (fun _ => 0)))] H := hP
  have hD : va_D A [(a, .inr (0, [.ref q1, .ref q2, .int 0, .null, .null, .null])), (q1, .inl (cI, 2000, .inl (fun _ => 0))), (q2, .inl (cI, 2000, .inl (fun _ => 0))), (q3, .inl (cI, 2000, .inl (fun _ => 0)))] := hD
  refine x0_putF_spareNumbers C0 hnm hK hP hD hS 0 rfl (Nat.le_of_ble_eq_true rfl) dX0_init_33 (fun H locs hP hD hS => ?_)
  have hP : va_P D vwCl [(a, .inr (0, [.ref q1, .ref q2, .int 0, .ref q3, .null, .null])), (q1, .inl (cI, 2000, .inl (fun _ => 0))), (q2, .inl (cI, 2000, .inl (fun _ => 0))), (q3, .inl (cI, 2000, .inl (fun _ => 0)))] H := hP
  have hD : va_D A [(a, .inr (0, [.ref q1, .ref q2, .int 0, .ref q3, .null, .null])), (q1, .inl (cI, 2000, .inl (fun _ => 0))), (q2, .inl (cI, 2000, .inl (fun _ => 0))), (q3, .inl (cI, 2000, .inl (fun _ => 0)))] := hD
  refine lv_aload_n hx hb dX0_init_36 rfl (lv_at hl 0 rfl) ?_
  refine lv_sipush (v := 2000) hx hb dX0_init_37 (by decide) ?_
  refine xr_newa (N := 2000) C0 hK hP hD hS hA rfl (by decide) (Nat.le_of_ble_eq_true rfl) (Nat.le_of_ble_eq_true rfl) dX0_init_40 (fun q4 H hP hD hS => ?_)
  have hP : va_P D vwCl [(a, .inr (0, [.ref q1, .ref q2, .int 0, .ref q3, .null, .null])), (q1, .inl (cI, 2000, .inl (fun _ => 0))), (q2, .inl (cI, 2000, .inl (fun _ => 0))), (q3, .inl (cI, 2000, .inl (fun _ => 0))), (q4, .inl (cI, 2000, .inl (fun _ => 0)))] H := hP
  have hD : va_D A [(a, .inr (0, [.ref q1, .ref q2, .int 0, .ref q3, .null, .null])), (q1, .inl (cI, 2000, .inl (fun _ => 0))), (q2, .inl (cI, 2000, .inl (fun _ => 0))), (q3, .inl (cI, 2000, .inl (fun _ => 0))), (q4, .inl (cI, 2000, .inl (fun _ => 0)))] := hD
  refine x0_putF_spareTags C0 hnm hK hP hD hS 0 rfl (Nat.le_of_ble_eq_true rfl) dX0_init_42 (fun H locs hP hD hS => ?_)
  have hP : va_P D vwCl [(a, .inr (0, [.ref q1, .ref q2, .int 0, .ref q3, .ref q4, .null])), (q1, .inl (cI, 2000, .inl (fun _ => 0))), (q2, .inl (cI, 2000, .inl (fun _ => 0))), (q3, .inl (cI, 2000, .inl (fun _ => 0))), (q4, .inl (cI, 2000, .inl (fun _ => 0)))] H := hP
  have hD : va_D A [(a, .inr (0, [.ref q1, .ref q2, .int 0, .ref q3, .ref q4, .null])), (q1, .inl (cI, 2000, .inl (fun _ => 0))), (q2, .inl (cI, 2000, .inl (fun _ => 0))), (q3, .inl (cI, 2000, .inl (fun _ => 0))), (q4, .inl (cI, 2000, .inl (fun _ => 0)))] := hD
  refine lv_aload_n hx hb dX0_init_45 rfl (lv_at hl 0 rfl) ?_
  refine lv_sipush (v := 2001) hx hb dX0_init_46 (by decide) ?_
  refine xr_newa (N := 2001) C0 hK hP hD hS hA rfl (by decide) (Nat.le_of_ble_eq_true rfl) (Nat.le_of_ble_eq_true rfl) dX0_init_49 (fun q5 H hP hD hS => ?_)
  have hP : va_P D vwCl [(a, .inr (0, [.ref q1, .ref q2, .int 0, .ref q3, .ref q4, .null])), (q1, .inl (cI, 2000, .inl (fun _ => 0))), (q2, .inl (cI, 2000, .inl (fun _ => 0))), (q3, .inl (cI, 2000, .inl (fun _ => 0))), (q4, .inl (cI, 2000, .inl (fun _ => 0))), (q5, .inl (cI, 2001, .inl (fun _ => 0)))] H := hP
  have hD : va_D A [(a, .inr (0, [.ref q1, .ref q2, .int 0, .ref q3, .ref q4, .null])), (q1, .inl (cI, 2000, .inl (fun _ => 0))), (q2, .inl (cI, 2000, .inl (fun _ => 0))), (q3, .inl (cI, 2000, .inl (fun _ => 0))), (q4, .inl (cI, 2000, .inl (fun _ => 0))), (q5, .inl (cI, 2001, .inl (fun _ => 0)))] := hD
  refine x0_putF_runStarts C0 hnm hK hP hD hS 0 rfl (Nat.le_of_ble_eq_true rfl) dX0_init_51 (fun H locs hP hD hS => ?_)
  have hP : va_P D vwCl [(a, .inr (0, [.ref q1, .ref q2, .int 0, .ref q3, .ref q4, .ref q5])), (q1, .inl (cI, 2000, .inl (fun _ => 0))), (q2, .inl (cI, 2000, .inl (fun _ => 0))), (q3, .inl (cI, 2000, .inl (fun _ => 0))), (q4, .inl (cI, 2000, .inl (fun _ => 0))), (q5, .inl (cI, 2001, .inl (fun _ => 0)))] H := hP
  have hD : va_D A [(a, .inr (0, [.ref q1, .ref q2, .int 0, .ref q3, .ref q4, .ref q5])), (q1, .inl (cI, 2000, .inl (fun _ => 0))), (q2, .inl (cI, 2000, .inl (fun _ => 0))), (q3, .inl (cI, 2000, .inl (fun _ => 0))), (q4, .inl (cI, 2000, .inl (fun _ => 0))), (q5, .inl (cI, 2001, .inl (fun _ => 0)))] := hD
  exact xr_vret C0 hlk hr ⟨rfl, (fun k => match k with | 0 => a | 1 => q1 | 2 => q2 | 3 => q3 | 4 => q4 | _ => q5), rfl, rfl⟩ hP hD hS dX0_init_54
end
section
/-! The reference: its methods (rows laid by wip/whole/p11.py). -/
theorem rs_dec (i : Nat) : nI (i + 1) + Int32.ofInt (-1) = nI i := by rw [litm1]; exact pk_m1 i
theorem rs_0 : (0 : Int32) = nI 0 := nI_0.symm
section XZ
variable {p : Program} {l : Launch} {e : Env} {R : Room} {s : State} {m : MethodId} {args : Array Value} {below : List Frame} {meth : Method} {c : Code} {H : Heap} {locs : List Loc} {cells slots : Nat} {Q : State → Prop}
variable {D : va_G} {tys : List (ClassId × FieldType)} {A : Nat → Prop} {ws : va_W} {cc : ByteArray} {nL pc : Nat} {own : String} {ls : Array Slot} {st0 rest : List Value}
theorem xr_zret {post : Option Value → va_W → Prop} (C0 : CallFix p m c cc nL s args lw_w own) (hlk : meth.locks = false) (hr : meth.sig.returnType = some .boolean) {v : Int32} (hv : narrow .boolean (.int v) = .int v) {w : va_W} (hpost : post (some (.int v)) w) (hP : va_P D vwCl w H) (hD : va_D A w) (hS : va_S A s.heap H locs) (hdg : decode cc pc = .ok (.ireturn, 1)) :
    W p l e R s m args below meth c H locs cells slots (MQ below (xr_Q D A post) args s cells slots A) (F0 m pc ls [.int v]) :=
  W.zret C0.1 C0.2.1 hr hv (fun t ht hW => ⟨⟨_, w, rfl, hpost, by rw [ht]; exact hP, hD⟩, hS.F ht⟩) hS.2.2 hdg hlk
end XZ
theorem rs_ord {o : Int32} (h1 : ¬ o < 0) (h2 : o ≤ 3) : o = 0 ∨ o = 1 ∨ o = 2 ∨ o = 3 := by
  obtain ⟨j, hj, rfl⟩ := nI_of2 (M := 3) (n := 3) (by decide) h1 h2
  rcases (show j = 0 ∨ j = 1 ∨ j = 2 ∨ j = 3 by omega) with rfl | rfl | rfl | rfl
  · exact Or.inl rfl
  · exact Or.inr (Or.inl rfl)
  · exact Or.inr (Or.inr (Or.inl rfl))
  · exact Or.inr (Or.inr (Or.inr rfl))
set_option maxHeartbeats 4000000 in
set_option maxRecDepth 100000 in
/-- thrown -/
theorem m_thrown (l : Launch) (D : va_G) (q : Nat → Nat) (cI : ClassId) (tyr : List (ClassId × FieldType)) (wr : va_W) (sz n : Nat) (k : Int32) (f g : Nat → Int32) : xr_Met l yX1_thrown (wU yX1_thrown cX1_thrown 1 (some .int)) ({ frames := 0, cells := 0, slots := 0, locals := 0 }) [.ref (q 0)] D (rs_ty cI tyr) (rs_M q cI (k) (n) (f) (g) ++ wr) sz (fun v w => v = some (.int k) ∧ w = rs_M q cI (k) n f g ++ wr) 0 0 := by
  refine xr_start (by decide) (Nat.le_of_ble_eq_true rfl) ?_
  intro p e s m args below meth c A ls C0 hlk hr hnm hP hK hD hA hl
  have hx := C0.1
  have hb := C0.2.1
  have hS : va_S A s.heap s.heap [] := va_S.rf
  have hl : lv_has ls 1 [(0, .ref (q 0))] := hl
  refine lv_aload_n hx hb dX1_thrown_0 rfl (lv_at hl 0 rfl) ?_
  refine x1_get_failed C0 hK hP 0 rfl rfl dX1_thrown_1 ?_
  exact xr_iret C0 hlk hr (⟨rfl, rfl⟩) hP hD hS dX1_thrown_4
set_option maxHeartbeats 4000000 in
set_option maxRecDepth 100000 in
/-- fail -/
theorem m_fail (l : Launch) (D : va_G) (q : Nat → Nat) (cI : ClassId) (tyr : List (ClassId × FieldType)) (wr : va_W) (sz n : Nat) (k : Int32) (f g : Nat → Int32) (c0 : Int32) : xr_Met l yX1_fail (wU yX1_fail cX1_fail 2 (some .int)) ({ frames := 0, cells := 0, slots := 0, locals := 0 }) [.ref (q 0), .int c0] D (rs_ty cI tyr) (rs_M q cI (k) (n) (f) (g) ++ wr) sz (fun v w => v = some (.int 0) ∧ w = rs_M q cI (c0) n f g ++ wr) 0 0 := by
  refine xr_start (by decide) (Nat.le_of_ble_eq_true rfl) ?_
  intro p e s m args below meth c A ls C0 hlk hr hnm hP hK hD hA hl
  have hx := C0.1
  have hb := C0.2.1
  have hS : va_S A s.heap s.heap [] := va_S.rf
  have hl : lv_has ls 2 [(0, .ref (q 0)), (1, .int c0)] := hl
  refine lv_aload_n hx hb dX1_fail_0 rfl (lv_at hl 0 rfl) ?_
  refine lv_iload_n hx hb dX1_fail_1 rfl (lv_at hl 1 rfl) ?_
  refine x1_put_failed C0 hK hP hD hS 0 rfl (Nat.le_of_ble_eq_true rfl) dX1_fail_2 (fun H locs hP hD hS => ?_)
  have hP : va_P D vwCl (rs_M q cI (c0) (n) (f) (g) ++ wr) H := hP
  have hD : va_D A (rs_M q cI (c0) (n) (f) (g) ++ wr) := hD
  refine lv_iconst (v := 0) hx hb dX1_fail_5 (by decide) ?_
  exact xr_iret C0 hlk hr (⟨rfl, rfl⟩) hP hD hS dX1_fail_6
set_option maxHeartbeats 4000000 in
set_option maxRecDepth 100000 in
/-- rank -/
theorem m_rank (l : Launch) (D : va_G) (q : Nat → Nat) (cI : ClassId) (tyr : List (ClassId × FieldType)) (wr : va_W) (sz n : Nat) (k : Int32) (f g : Nat → Int32) (o x : Int32) (h1 : ¬ o < 0) (h2 : o ≤ 3) : xr_Met l yX1_rank (wU yX1_rank cX1_rank 3 (some .int)) ({ frames := 0, cells := 0, slots := 0, locals := 0 }) [.ref (q 0), .int o, .int x] D (rs_ty cI tyr) (rs_M q cI (k) (n) (f) (g) ++ wr) sz (fun v w => v = some (.int (rs_rk o x)) ∧ w = rs_M q cI (k) n f g ++ wr) 0 0 := by
  refine xr_start (by decide) (Nat.le_of_ble_eq_true rfl) ?_
  intro p e s m args below meth c A ls C0 hlk hr hnm hP hK hD hA hl
  have hx := C0.1
  have hb := C0.2.1
  have hS : va_S A s.heap s.heap [] := va_S.rf
  have hl : lv_has ls 3 [(0, .ref (q 0)), (1, .int o), (2, .int x)] := hl
  rcases rs_ord h1 h2 with rfl | rfl | rfl | rfl
  · skip
    refine lv_iload_n hx hb dX1_rank_0 rfl (lv_at hl 1 rfl) ?_
    refine lv_if_ne hx hb dX1_rank_1 rfl (fun h => absurd rfl h) (fun h => ?_)
    refine lv_iload_n hx hb dX1_rank_4 rfl (lv_at hl 2 rfl) ?_
    refine lv_goto hx hb dX1_rank_5 rfl ?_
    exact xr_iret C0 hlk hr (⟨by simp [rs_rk], rfl⟩) hP hD hS dX1_rank_35
  · skip
    refine lv_iload_n hx hb dX1_rank_0 rfl (lv_at hl 1 rfl) ?_
    refine lv_if_ne hx hb dX1_rank_1 rfl (fun h => ?_) (fun h => absurd h (by decide))
    refine lv_iload_n hx hb dX1_rank_8 rfl (lv_at hl 1 rfl) ?_
    refine lv_iconst (v := 1) hx hb dX1_rank_9 (by decide) ?_
    refine lv_icmp_ne hx hb dX1_rank_10 rfl (fun h => absurd rfl h) (fun h => ?_)
    refine lv_iload_n hx hb dX1_rank_13 rfl (lv_at hl 2 rfl) ?_
    refine lv_iconst (v := -1) hx hb dX1_rank_14 (by decide) ?_
    refine lv_ixor hx hb dX1_rank_15 ?_
    refine lv_goto hx hb dX1_rank_16 rfl ?_
    exact xr_iret C0 hlk hr (⟨by simp [rs_rk], rfl⟩) hP hD hS dX1_rank_35
  · skip
    refine lv_iload_n hx hb dX1_rank_0 rfl (lv_at hl 1 rfl) ?_
    refine lv_if_ne hx hb dX1_rank_1 rfl (fun h => ?_) (fun h => absurd h (by decide))
    refine lv_iload_n hx hb dX1_rank_8 rfl (lv_at hl 1 rfl) ?_
    refine lv_iconst (v := 1) hx hb dX1_rank_9 (by decide) ?_
    refine lv_icmp_ne hx hb dX1_rank_10 rfl (fun h => ?_) (fun h => absurd h (by decide))
    refine lv_iload_n hx hb dX1_rank_19 rfl (lv_at hl 1 rfl) ?_
    refine lv_iconst (v := 2) hx hb dX1_rank_20 (by decide) ?_
    refine lv_icmp_ne hx hb dX1_rank_21 rfl (fun h => absurd rfl h) (fun h => ?_)
    refine lv_iload_n hx hb dX1_rank_24 rfl (lv_at hl 2 rfl) ?_
    refine lv_bipush (v := 15) hx hb dX1_rank_25 (by decide) ?_
    refine lv_iand hx hb dX1_rank_27 ?_
    refine lv_goto hx hb dX1_rank_28 rfl ?_
    exact xr_iret C0 hlk hr (⟨by simp [rs_rk], rfl⟩) hP hD hS dX1_rank_35
  · skip
    refine lv_iload_n hx hb dX1_rank_0 rfl (lv_at hl 1 rfl) ?_
    refine lv_if_ne hx hb dX1_rank_1 rfl (fun h => ?_) (fun h => absurd h (by decide))
    refine lv_iload_n hx hb dX1_rank_8 rfl (lv_at hl 1 rfl) ?_
    refine lv_iconst (v := 1) hx hb dX1_rank_9 (by decide) ?_
    refine lv_icmp_ne hx hb dX1_rank_10 rfl (fun h => ?_) (fun h => absurd h (by decide))
    refine lv_iload_n hx hb dX1_rank_19 rfl (lv_at hl 1 rfl) ?_
    refine lv_iconst (v := 2) hx hb dX1_rank_20 (by decide) ?_
    refine lv_icmp_ne hx hb dX1_rank_21 rfl (fun h => ?_) (fun h => absurd h (by decide))
    refine lv_iload_n hx hb dX1_rank_31 rfl (lv_at hl 2 rfl) ?_
    refine lv_ldc (v := -2147483648) hx hb C0.2.2.2.1 (C0.2.2.2.2 _ wQ_X1_20) dX1_rank_32 ?_
    refine lv_ixor hx hb dX1_rank_34 ?_
    exact xr_iret C0 hlk hr (⟨by simp [rs_rk], rfl⟩) hP hD hS dX1_rank_35
set_option maxHeartbeats 4000000 in
set_option maxRecDepth 100000 in
/-- append -/
theorem m_append (l : Launch) (D : va_G) (q : Nat → Nat) (cI : ClassId) (tyr : List (ClassId × FieldType)) (wr : va_W) (sz n : Nat) (k : Int32) (f g : Nat → Int32) (x : Int32) (hn : n < 2000) : xr_Met l yX1_append (wU yX1_append cX1_append 2 none) ({ frames := 0, cells := 0, slots := 0, locals := 0 }) [.ref (q 0), .int x] D (rs_ty cI tyr) (rs_M q cI (k) (n) (f) (g) ++ wr) sz (fun v w => v = none ∧ w = rs_M q cI k (n + 1) (upd f n x) (upd g n (nI n)) ++ wr) 0 0 := by
  refine xr_start (by decide) (Nat.le_of_ble_eq_true rfl) ?_
  intro p e s m args below meth c A ls C0 hlk hr hnm hP hK hD hA hl
  have hx := C0.1
  have hb := C0.2.1
  have hS : va_S A s.heap s.heap [] := va_S.rf
  have hl : lv_has ls 2 [(0, .ref (q 0)), (1, .int x)] := hl
  refine lv_aload_n hx hb dX1_append_0 rfl (lv_at hl 0 rfl) ?_
  refine x1_get_row C0 hK hP 0 rfl rfl dX1_append_1 ?_
  refine lv_aload_n hx hb dX1_append_4 rfl (lv_at hl 0 rfl) ?_
  refine x1_get_size C0 hK hP 0 rfl rfl dX1_append_5 ?_
  refine lv_iload_n hx hb dX1_append_8 rfl (lv_at hl 1 rfl) ?_
  refine xr_ast C0 hK hP hD hS 1 rfl (j := n) (by omega) (by decide) dX1_append_9 (fun H locs hP hD hS => ?_)
  have hP : va_P D vwCl (rs_M q cI (k) (n) (upd f n x) (g) ++ wr) H := hP
  have hD : va_D A (rs_M q cI (k) (n) (upd f n x) (g) ++ wr) := hD
  refine lv_aload_n hx hb dX1_append_10 rfl (lv_at hl 0 rfl) ?_
  refine x1_get_tags C0 hK hP 0 rfl rfl dX1_append_11 ?_
  refine lv_aload_n hx hb dX1_append_14 rfl (lv_at hl 0 rfl) ?_
  refine x1_get_size C0 hK hP 0 rfl rfl dX1_append_15 ?_
  refine lv_aload_n hx hb dX1_append_18 rfl (lv_at hl 0 rfl) ?_
  refine x1_get_size C0 hK hP 0 rfl rfl dX1_append_19 ?_
  refine xr_ast C0 hK hP hD hS 2 rfl (j := n) (by omega) (by decide) dX1_append_22 (fun H locs hP hD hS => ?_)
  have hP : va_P D vwCl (rs_M q cI (k) (n) (upd f n x) (upd g n (nI (n))) ++ wr) H := hP
  have hD : va_D A (rs_M q cI (k) (n) (upd f n x) (upd g n (nI (n))) ++ wr) := hD
  refine lv_aload_n hx hb dX1_append_23 rfl (lv_at hl 0 rfl) ?_
  refine lv_dup hx hb dX1_append_24 rfl ?_
  refine x1_get_size C0 hK hP 0 rfl rfl dX1_append_25 ?_
  refine lv_iconst (v := 1) hx hb dX1_append_28 (by decide) ?_
  refine lv_iadd hx hb dX1_append_29 ?_
  refine xr_top (nI_1 n) ?_
  refine x1_put_size C0 hK hP hD hS 0 rfl (Nat.le_of_ble_eq_true rfl) dX1_append_30 (fun H locs hP hD hS => ?_)
  have hP : va_P D vwCl (rs_M q cI (k) (n + 1) (upd f n x) (upd g n (nI (n))) ++ wr) H := hP
  have hD : va_D A (rs_M q cI (k) (n + 1) (upd f n x) (upd g n (nI (n))) ++ wr) := hD
  exact xr_vret C0 hlk hr (⟨rfl, rfl⟩) hP hD hS dX1_append_33
set_option maxHeartbeats 4000000 in
set_option maxRecDepth 100000 in
/-- bad: in range -/
theorem m_bad0 (l : Launch) (D : va_G) (q : Nat → Nat) (cI : ClassId) (tyr : List (ClassId × FieldType)) (wr : va_W) (sz n : Nat) (k : Int32) (f g : Nat → Int32) (a b : Nat) (h1 : a ≤ b) (h2 : b ≤ n) (hn : n ≤ 2000) : xr_Met l yX1_bad (wU yX1_bad cX1_bad 3 (some .boolean)) ({ frames := 0, cells := 0, slots := 0, locals := 0 }) [.ref (q 0), .int (nI a), .int (nI b)] D (rs_ty cI tyr) (rs_M q cI (k) (n) (f) (g) ++ wr) sz (fun v w => v = some (.int 0) ∧ w = rs_M q cI (k) n f g ++ wr) 0 0 := by
  refine xr_start (by decide) (Nat.le_of_ble_eq_true rfl) ?_
  intro p e s m args below meth c A ls C0 hlk hr hnm hP hK hD hA hl
  have hx := C0.1
  have hb := C0.2.1
  have hS : va_S A s.heap s.heap [] := va_S.rf
  have hl : lv_has ls 3 [(0, .ref (q 0)), (1, .int (nI a)), (2, .int (nI b))] := hl
  refine lv_iload_n hx hb dX1_bad_0 rfl (lv_at hl 1 rfl) ?_
  refine lv_if_lt hx hb dX1_bad_1 rfl (fun h => absurd h (nI_pos (by omega))) (fun h => ?_)
  refine lv_iload_n hx hb dX1_bad_4 rfl (lv_at hl 2 rfl) ?_
  refine lv_iload_n hx hb dX1_bad_5 rfl (lv_at hl 1 rfl) ?_
  refine lv_icmp_lt hx hb dX1_bad_6 rfl (fun h => absurd h (nI_nlt h1 (by omega))) (fun h => ?_)
  refine lv_iload_n hx hb dX1_bad_9 rfl (lv_at hl 2 rfl) ?_
  refine lv_aload_n hx hb dX1_bad_10 rfl (lv_at hl 0 rfl) ?_
  refine x1_get_size C0 hK hP 0 rfl rfl dX1_bad_11 ?_
  refine lv_icmp_le hx hb dX1_bad_14 rfl (fun h => ?_) (fun h => absurd (nI_le h2 (by omega)) h)
  refine lv_iconst (v := 0) hx hb dX1_bad_21 (by decide) ?_
  exact xr_zret C0 hlk hr rfl (⟨rfl, rfl⟩) hP hD hS dX1_bad_22
set_option maxHeartbeats 4000000 in
set_option maxRecDepth 100000 in
/-- bad: not in range -/
theorem m_bad1 (l : Launch) (D : va_G) (q : Nat → Nat) (cI : ClassId) (tyr : List (ClassId × FieldType)) (wr : va_W) (sz n : Nat) (k : Int32) (f g : Nat → Int32) (a b : Int32) (hn : n ≤ 2000) (hbad : a < 0 ∨ b < a ∨ nI n < b) : xr_Met l yX1_bad (wU yX1_bad cX1_bad 3 (some .boolean)) ({ frames := 0, cells := 0, slots := 0, locals := 0 }) [.ref (q 0), .int a, .int b] D (rs_ty cI tyr) (rs_M q cI (k) (n) (f) (g) ++ wr) sz (fun v w => v = some (.int 1) ∧ w = rs_M q cI (k) n f g ++ wr) 0 0 := by
  refine xr_start (by decide) (Nat.le_of_ble_eq_true rfl) ?_
  intro p e s m args below meth c A ls C0 hlk hr hnm hP hK hD hA hl
  have hx := C0.1
  have hb := C0.2.1
  have hS : va_S A s.heap s.heap [] := va_S.rf
  have hl : lv_has ls 3 [(0, .ref (q 0)), (1, .int a), (2, .int b)] := hl
  refine lv_iload_n hx hb dX1_bad_0 rfl (lv_at hl 1 rfl) ?_
  refine lv_if_lt hx hb dX1_bad_1 rfl (fun h => ?_) (fun h => ?_)
  · skip
    refine lv_iconst (v := 1) hx hb dX1_bad_17 (by decide) ?_
    refine lv_goto hx hb dX1_bad_18 rfl ?_
    exact xr_zret C0 hlk hr rfl (⟨rfl, rfl⟩) hP hD hS dX1_bad_22
  · skip
    have n1 := h
    refine lv_iload_n hx hb dX1_bad_4 rfl (lv_at hl 2 rfl) ?_
    refine lv_iload_n hx hb dX1_bad_5 rfl (lv_at hl 1 rfl) ?_
    refine lv_icmp_lt hx hb dX1_bad_6 rfl (fun h => ?_) (fun h => ?_)
    · skip
      refine lv_iconst (v := 1) hx hb dX1_bad_17 (by decide) ?_
      refine lv_goto hx hb dX1_bad_18 rfl ?_
      exact xr_zret C0 hlk hr rfl (⟨rfl, rfl⟩) hP hD hS dX1_bad_22
    · skip
      have n2 := h
      refine lv_iload_n hx hb dX1_bad_9 rfl (lv_at hl 2 rfl) ?_
      refine lv_aload_n hx hb dX1_bad_10 rfl (lv_at hl 0 rfl) ?_
      refine x1_get_size C0 hK hP 0 rfl rfl dX1_bad_11 ?_
      refine lv_icmp_le hx hb dX1_bad_14 rfl (fun h => absurd h (rs_lt_nle ((hbad.resolve_left n1).resolve_left n2))) (fun h => ?_)
      refine lv_iconst (v := 1) hx hb dX1_bad_17 (by decide) ?_
      refine lv_goto hx hb dX1_bad_18 rfl ?_
      exact xr_zret C0 hlk hr rfl (⟨rfl, rfl⟩) hP hD hS dX1_bad_22
set_option maxHeartbeats 4000000 in
set_option maxRecDepth 100000 in
/-- get, in range -/
theorem m_get0 (l : Launch) (D : va_G) (q : Nat → Nat) (cI : ClassId) (tyr : List (ClassId × FieldType)) (wr : va_W) (sz n : Nat) (k : Int32) (f g : Nat → Int32) (i : Nat) (hi : i < n) (hn : n ≤ 2000) : xr_Met l yX1_get (wU yX1_get cX1_get 2 (some .int)) ({ frames := 0, cells := 0, slots := 0, locals := 0 }) [.ref (q 0), .int (nI i)] D (rs_ty cI tyr) (rs_M q cI (k) (n) (f) (g) ++ wr) sz (fun v w => v = some (.int (f i)) ∧ w = rs_M q cI (0) n f g ++ wr) 0 0 := by
  refine xr_start (by decide) (Nat.le_of_ble_eq_true rfl) ?_
  intro p e s m args below meth c A ls C0 hlk hr hnm hP hK hD hA hl
  have hx := C0.1
  have hb := C0.2.1
  have hS : va_S A s.heap s.heap [] := va_S.rf
  have hl : lv_has ls 2 [(0, .ref (q 0)), (1, .int (nI i))] := hl
  refine lv_aload_n hx hb dX1_get_0 rfl (lv_at hl 0 rfl) ?_
  refine lv_iconst (v := 0) hx hb dX1_get_1 (by decide) ?_
  refine x1_put_failed C0 hK hP hD hS 0 rfl (Nat.le_of_ble_eq_true rfl) dX1_get_2 (fun H locs hP hD hS => ?_)
  have hP : va_P D vwCl (rs_M q cI (0) (n) (f) (g) ++ wr) H := hP
  have hD : va_D A (rs_M q cI (0) (n) (f) (g) ++ wr) := hD
  refine lv_iload_n hx hb dX1_get_5 rfl (lv_at hl 1 rfl) ?_
  refine lv_if_lt hx hb dX1_get_6 rfl (fun h => absurd h (nI_pos (by omega))) (fun h => ?_)
  refine lv_iload_n hx hb dX1_get_9 rfl (lv_at hl 1 rfl) ?_
  refine lv_aload_n hx hb dX1_get_10 rfl (lv_at hl 0 rfl) ?_
  refine x1_get_size C0 hK hP 0 rfl rfl dX1_get_11 ?_
  refine lv_icmp_lt hx hb dX1_get_14 rfl (fun h => ?_) (fun h => absurd (nI_lt hi (by omega)) h)
  refine lv_aload_n hx hb dX1_get_25 rfl (lv_at hl 0 rfl) ?_
  refine x1_get_row C0 hK hP 0 rfl rfl dX1_get_26 ?_
  refine lv_iload_n hx hb dX1_get_29 rfl (lv_at hl 1 rfl) ?_
  refine xr_ald C0 hK hP 1 rfl (j := i) (by omega) (by decide) dX1_get_30 ?_
  exact xr_iret C0 hlk hr (⟨rfl, rfl⟩) hP hD hS dX1_get_31
set_option maxHeartbeats 4000000 in
set_option maxRecDepth 100000 in
/-- get, no such index -/
theorem m_get1 (l : Launch) (D : va_G) (q : Nat → Nat) (cI : ClassId) (tyr : List (ClassId × FieldType)) (wr : va_W) (sz n : Nat) (k : Int32) (f g : Nat → Int32) (i : Int32) (hbad : i < 0 ∨ nI n ≤ i) : xr_Met l yX1_get (wU yX1_get cX1_get 2 (some .int)) ({ frames := 1, cells := 0, slots := 0, locals := 21 }) [.ref (q 0), .int i] D (rs_ty cI tyr) (rs_M q cI (k) (n) (f) (g) ++ wr) sz (fun v w => v = some (.int 0) ∧ w = rs_M q cI (1) n f g ++ wr) 0 0 := by
  refine xr_start (by decide) (Nat.le_of_ble_eq_true rfl) ?_
  intro p e s m args below meth c A ls C0 hlk hr hnm hP hK hD hA hl
  have hx := C0.1
  have hb := C0.2.1
  have hS : va_S A s.heap s.heap [] := va_S.rf
  have hl : lv_has ls 2 [(0, .ref (q 0)), (1, .int i)] := hl
  refine lv_aload_n hx hb dX1_get_0 rfl (lv_at hl 0 rfl) ?_
  refine lv_iconst (v := 0) hx hb dX1_get_1 (by decide) ?_
  refine x1_put_failed C0 hK hP hD hS 0 rfl (Nat.le_of_ble_eq_true rfl) dX1_get_2 (fun H locs hP hD hS => ?_)
  have hP : va_P D vwCl (rs_M q cI (0) (n) (f) (g) ++ wr) H := hP
  have hD : va_D A (rs_M q cI (0) (n) (f) (g) ++ wr) := hD
  refine lv_iload_n hx hb dX1_get_5 rfl (lv_at hl 1 rfl) ?_
  refine lv_if_lt hx hb dX1_get_6 rfl (fun h => ?_) (fun h => ?_)
  · skip
    refine lv_aload_n hx hb dX1_get_17 rfl (lv_at hl 0 rfl) ?_
    refine lv_iconst (v := 1) hx hb dX1_get_18 (by decide) ?_
    refine xr_vcall (As := [.int 1]) (rest := []) (nA := 1) C0 (m_fail l D q cI tyr wr _ n 0 f g 1) (gV wM_X1_X1_fail wI_X1_fail wV_X1_X1_fail wN_X1 wC_X1_fail) (by decide +kernel) rfl rfl rfl ⟨by decide, by decide⟩ hK hP hD hS hA 0 rfl rfl hl.1 rfl (Nat.le_of_ble_eq_true rfl) dX1_get_19 ⟨Nat.le_of_ble_eq_true rfl, Nat.le_of_ble_eq_true rfl⟩ (fun v w H locs hv hP hD hz hS => ?_)
    obtain ⟨rfl, rfl⟩ := hv
    refine lv_goto hx hb dX1_get_22 rfl ?_
    exact xr_iret C0 hlk hr (⟨rfl, rfl⟩) hP hD hS dX1_get_31
  · skip
    have n1 := h
    refine lv_iload_n hx hb dX1_get_9 rfl (lv_at hl 1 rfl) ?_
    refine lv_aload_n hx hb dX1_get_10 rfl (lv_at hl 0 rfl) ?_
    refine x1_get_size C0 hK hP 0 rfl rfl dX1_get_11 ?_
    refine lv_icmp_lt hx hb dX1_get_14 rfl (fun h => absurd (hbad.resolve_left n1) (rs_lt_nle h)) (fun h => ?_)
    refine lv_aload_n hx hb dX1_get_17 rfl (lv_at hl 0 rfl) ?_
    refine lv_iconst (v := 1) hx hb dX1_get_18 (by decide) ?_
    refine xr_vcall (As := [.int 1]) (rest := []) (nA := 1) C0 (m_fail l D q cI tyr wr _ n 0 f g 1) (gV wM_X1_X1_fail wI_X1_fail wV_X1_X1_fail wN_X1 wC_X1_fail) (by decide +kernel) rfl rfl rfl ⟨by decide, by decide⟩ hK hP hD hS hA 0 rfl rfl hl.1 rfl (Nat.le_of_ble_eq_true rfl) dX1_get_19 ⟨Nat.le_of_ble_eq_true rfl, Nat.le_of_ble_eq_true rfl⟩ (fun v w H locs hv hP hD hz hS => ?_)
    obtain ⟨rfl, rfl⟩ := hv
    refine lv_goto hx hb dX1_get_22 rfl ?_
    exact xr_iret C0 hlk hr (⟨rfl, rfl⟩) hP hD hS dX1_get_31
set_option maxHeartbeats 4000000 in
set_option maxRecDepth 100000 in
/-- tag, in range -/
theorem m_tag0 (l : Launch) (D : va_G) (q : Nat → Nat) (cI : ClassId) (tyr : List (ClassId × FieldType)) (wr : va_W) (sz n : Nat) (k : Int32) (f g : Nat → Int32) (i : Nat) (hi : i < n) (hn : n ≤ 2000) : xr_Met l yX1_tag (wU yX1_tag cX1_tag 2 (some .int)) ({ frames := 0, cells := 0, slots := 0, locals := 0 }) [.ref (q 0), .int (nI i)] D (rs_ty cI tyr) (rs_M q cI (k) (n) (f) (g) ++ wr) sz (fun v w => v = some (.int (g i)) ∧ w = rs_M q cI (0) n f g ++ wr) 0 0 := by
  refine xr_start (by decide) (Nat.le_of_ble_eq_true rfl) ?_
  intro p e s m args below meth c A ls C0 hlk hr hnm hP hK hD hA hl
  have hx := C0.1
  have hb := C0.2.1
  have hS : va_S A s.heap s.heap [] := va_S.rf
  have hl : lv_has ls 2 [(0, .ref (q 0)), (1, .int (nI i))] := hl
  refine lv_aload_n hx hb dX1_tag_0 rfl (lv_at hl 0 rfl) ?_
  refine lv_iconst (v := 0) hx hb dX1_tag_1 (by decide) ?_
  refine x1_put_failed C0 hK hP hD hS 0 rfl (Nat.le_of_ble_eq_true rfl) dX1_tag_2 (fun H locs hP hD hS => ?_)
  have hP : va_P D vwCl (rs_M q cI (0) (n) (f) (g) ++ wr) H := hP
  have hD : va_D A (rs_M q cI (0) (n) (f) (g) ++ wr) := hD
  refine lv_iload_n hx hb dX1_tag_5 rfl (lv_at hl 1 rfl) ?_
  refine lv_if_lt hx hb dX1_tag_6 rfl (fun h => absurd h (nI_pos (by omega))) (fun h => ?_)
  refine lv_iload_n hx hb dX1_tag_9 rfl (lv_at hl 1 rfl) ?_
  refine lv_aload_n hx hb dX1_tag_10 rfl (lv_at hl 0 rfl) ?_
  refine x1_get_size C0 hK hP 0 rfl rfl dX1_tag_11 ?_
  refine lv_icmp_lt hx hb dX1_tag_14 rfl (fun h => ?_) (fun h => absurd (nI_lt hi (by omega)) h)
  refine lv_aload_n hx hb dX1_tag_25 rfl (lv_at hl 0 rfl) ?_
  refine x1_get_tags C0 hK hP 0 rfl rfl dX1_tag_26 ?_
  refine lv_iload_n hx hb dX1_tag_29 rfl (lv_at hl 1 rfl) ?_
  refine xr_ald C0 hK hP 2 rfl (j := i) (by omega) (by decide) dX1_tag_30 ?_
  exact xr_iret C0 hlk hr (⟨rfl, rfl⟩) hP hD hS dX1_tag_31
set_option maxHeartbeats 4000000 in
set_option maxRecDepth 100000 in
/-- tag, no such index -/
theorem m_tag1 (l : Launch) (D : va_G) (q : Nat → Nat) (cI : ClassId) (tyr : List (ClassId × FieldType)) (wr : va_W) (sz n : Nat) (k : Int32) (f g : Nat → Int32) (i : Int32) (hbad : i < 0 ∨ nI n ≤ i) : xr_Met l yX1_tag (wU yX1_tag cX1_tag 2 (some .int)) ({ frames := 1, cells := 0, slots := 0, locals := 21 }) [.ref (q 0), .int i] D (rs_ty cI tyr) (rs_M q cI (k) (n) (f) (g) ++ wr) sz (fun v w => v = some (.int 0) ∧ w = rs_M q cI (1) n f g ++ wr) 0 0 := by
  refine xr_start (by decide) (Nat.le_of_ble_eq_true rfl) ?_
  intro p e s m args below meth c A ls C0 hlk hr hnm hP hK hD hA hl
  have hx := C0.1
  have hb := C0.2.1
  have hS : va_S A s.heap s.heap [] := va_S.rf
  have hl : lv_has ls 2 [(0, .ref (q 0)), (1, .int i)] := hl
  refine lv_aload_n hx hb dX1_tag_0 rfl (lv_at hl 0 rfl) ?_
  refine lv_iconst (v := 0) hx hb dX1_tag_1 (by decide) ?_
  refine x1_put_failed C0 hK hP hD hS 0 rfl (Nat.le_of_ble_eq_true rfl) dX1_tag_2 (fun H locs hP hD hS => ?_)
  have hP : va_P D vwCl (rs_M q cI (0) (n) (f) (g) ++ wr) H := hP
  have hD : va_D A (rs_M q cI (0) (n) (f) (g) ++ wr) := hD
  refine lv_iload_n hx hb dX1_tag_5 rfl (lv_at hl 1 rfl) ?_
  refine lv_if_lt hx hb dX1_tag_6 rfl (fun h => ?_) (fun h => ?_)
  · skip
    refine lv_aload_n hx hb dX1_tag_17 rfl (lv_at hl 0 rfl) ?_
    refine lv_iconst (v := 1) hx hb dX1_tag_18 (by decide) ?_
    refine xr_vcall (As := [.int 1]) (rest := []) (nA := 1) C0 (m_fail l D q cI tyr wr _ n 0 f g 1) (gV wM_X1_X1_fail wI_X1_fail wV_X1_X1_fail wN_X1 wC_X1_fail) (by decide +kernel) rfl rfl rfl ⟨by decide, by decide⟩ hK hP hD hS hA 0 rfl rfl hl.1 rfl (Nat.le_of_ble_eq_true rfl) dX1_tag_19 ⟨Nat.le_of_ble_eq_true rfl, Nat.le_of_ble_eq_true rfl⟩ (fun v w H locs hv hP hD hz hS => ?_)
    obtain ⟨rfl, rfl⟩ := hv
    refine lv_goto hx hb dX1_tag_22 rfl ?_
    exact xr_iret C0 hlk hr (⟨rfl, rfl⟩) hP hD hS dX1_tag_31
  · skip
    have n1 := h
    refine lv_iload_n hx hb dX1_tag_9 rfl (lv_at hl 1 rfl) ?_
    refine lv_aload_n hx hb dX1_tag_10 rfl (lv_at hl 0 rfl) ?_
    refine x1_get_size C0 hK hP 0 rfl rfl dX1_tag_11 ?_
    refine lv_icmp_lt hx hb dX1_tag_14 rfl (fun h => absurd (hbad.resolve_left n1) (rs_lt_nle h)) (fun h => ?_)
    refine lv_aload_n hx hb dX1_tag_17 rfl (lv_at hl 0 rfl) ?_
    refine lv_iconst (v := 1) hx hb dX1_tag_18 (by decide) ?_
    refine xr_vcall (As := [.int 1]) (rest := []) (nA := 1) C0 (m_fail l D q cI tyr wr _ n 0 f g 1) (gV wM_X1_X1_fail wI_X1_fail wV_X1_X1_fail wN_X1 wC_X1_fail) (by decide +kernel) rfl rfl rfl ⟨by decide, by decide⟩ hK hP hD hS hA 0 rfl rfl hl.1 rfl (Nat.le_of_ble_eq_true rfl) dX1_tag_19 ⟨Nat.le_of_ble_eq_true rfl, Nat.le_of_ble_eq_true rfl⟩ (fun v w H locs hv hP hD hz hS => ?_)
    obtain ⟨rfl, rfl⟩ := hv
    refine lv_goto hx hb dX1_tag_22 rfl ?_
    exact xr_iret C0 hlk hr (⟨rfl, rfl⟩) hP hD hS dX1_tag_31
set_option maxHeartbeats 4000000 in
set_option maxRecDepth 100000 in
/-- set, in range -/
theorem m_set0 (l : Launch) (D : va_G) (q : Nat → Nat) (cI : ClassId) (tyr : List (ClassId × FieldType)) (wr : va_W) (sz n : Nat) (k : Int32) (f g : Nat → Int32) (i : Nat) (x : Int32) (hi : i < n) (hn : n ≤ 2000) : xr_Met l yX1_set (wU yX1_set cX1_set 4 (some .int)) ({ frames := 0, cells := 0, slots := 0, locals := 0 }) [.ref (q 0), .int (nI i), .int x] D (rs_ty cI tyr) (rs_M q cI (k) (n) (f) (g) ++ wr) sz (fun v w => v = some (.int (f i)) ∧ w = rs_M q cI 0 n (upd f i x) g ++ wr) 0 0 := by
  refine xr_start (by decide) (Nat.le_of_ble_eq_true rfl) ?_
  intro p e s m args below meth c A ls C0 hlk hr hnm hP hK hD hA hl
  have hx := C0.1
  have hb := C0.2.1
  have hS : va_S A s.heap s.heap [] := va_S.rf
  have hl : lv_has ls 4 [(0, .ref (q 0)), (1, .int (nI i)), (2, .int x)] := hl
  refine lv_aload_n hx hb dX1_set_0 rfl (lv_at hl 0 rfl) ?_
  refine lv_iconst (v := 0) hx hb dX1_set_1 (by decide) ?_
  refine x1_put_failed C0 hK hP hD hS 0 rfl (Nat.le_of_ble_eq_true rfl) dX1_set_2 (fun H locs hP hD hS => ?_)
  have hP : va_P D vwCl (rs_M q cI (0) (n) (f) (g) ++ wr) H := hP
  have hD : va_D A (rs_M q cI (0) (n) (f) (g) ++ wr) := hD
  refine lv_iload_n hx hb dX1_set_5 rfl (lv_at hl 1 rfl) ?_
  refine lv_if_lt hx hb dX1_set_6 rfl (fun h => absurd h (nI_pos (by omega))) (fun h => ?_)
  refine lv_iload_n hx hb dX1_set_9 rfl (lv_at hl 1 rfl) ?_
  refine lv_aload_n hx hb dX1_set_10 rfl (lv_at hl 0 rfl) ?_
  refine x1_get_size C0 hK hP 0 rfl rfl dX1_set_11 ?_
  refine lv_icmp_lt hx hb dX1_set_14 rfl (fun h => ?_) (fun h => absurd (nI_lt hi (by omega)) h)
  refine lv_aload_n hx hb dX1_set_23 rfl (lv_at hl 0 rfl) ?_
  refine x1_get_row C0 hK hP 0 rfl rfl dX1_set_24 ?_
  refine lv_iload_n hx hb dX1_set_27 rfl (lv_at hl 1 rfl) ?_
  refine xr_ald C0 hK hP 1 rfl (j := i) (by omega) (by decide) dX1_set_28 ?_
  refine lv_istore_n hx hb dX1_set_29 rfl hl (by decide) rfl (fun ls hl => ?_)
  have hl : lv_has ls 4 [(3, .int (f i)), (0, .ref (q 0)), (1, .int (nI i)), (2, .int x)] := hl
  refine lv_aload_n hx hb dX1_set_30 rfl (lv_at hl 1 rfl) ?_
  refine x1_get_row C0 hK hP 0 rfl rfl dX1_set_31 ?_
  refine lv_iload_n hx hb dX1_set_34 rfl (lv_at hl 2 rfl) ?_
  refine lv_iload_n hx hb dX1_set_35 rfl (lv_at hl 3 rfl) ?_
  refine xr_ast C0 hK hP hD hS 1 rfl (j := i) (by omega) (by decide) dX1_set_36 (fun H locs hP hD hS => ?_)
  have hP : va_P D vwCl (rs_M q cI (0) (n) (upd f i x) (g) ++ wr) H := hP
  have hD : va_D A (rs_M q cI (0) (n) (upd f i x) (g) ++ wr) := hD
  refine lv_iload_n hx hb dX1_set_37 rfl (lv_at hl 0 rfl) ?_
  exact xr_iret C0 hlk hr (⟨rfl, rfl⟩) hP hD hS dX1_set_38
set_option maxHeartbeats 4000000 in
set_option maxRecDepth 100000 in
/-- set, no such index -/
theorem m_set1 (l : Launch) (D : va_G) (q : Nat → Nat) (cI : ClassId) (tyr : List (ClassId × FieldType)) (wr : va_W) (sz n : Nat) (k : Int32) (f g : Nat → Int32) (i x : Int32) (hbad : i < 0 ∨ nI n ≤ i) : xr_Met l yX1_set (wU yX1_set cX1_set 4 (some .int)) ({ frames := 1, cells := 0, slots := 0, locals := 21 }) [.ref (q 0), .int i, .int x] D (rs_ty cI tyr) (rs_M q cI (k) (n) (f) (g) ++ wr) sz (fun v w => v = some (.int 0) ∧ w = rs_M q cI (1) n f g ++ wr) 0 0 := by
  refine xr_start (by decide) (Nat.le_of_ble_eq_true rfl) ?_
  intro p e s m args below meth c A ls C0 hlk hr hnm hP hK hD hA hl
  have hx := C0.1
  have hb := C0.2.1
  have hS : va_S A s.heap s.heap [] := va_S.rf
  have hl : lv_has ls 4 [(0, .ref (q 0)), (1, .int i), (2, .int x)] := hl
  refine lv_aload_n hx hb dX1_set_0 rfl (lv_at hl 0 rfl) ?_
  refine lv_iconst (v := 0) hx hb dX1_set_1 (by decide) ?_
  refine x1_put_failed C0 hK hP hD hS 0 rfl (Nat.le_of_ble_eq_true rfl) dX1_set_2 (fun H locs hP hD hS => ?_)
  have hP : va_P D vwCl (rs_M q cI (0) (n) (f) (g) ++ wr) H := hP
  have hD : va_D A (rs_M q cI (0) (n) (f) (g) ++ wr) := hD
  refine lv_iload_n hx hb dX1_set_5 rfl (lv_at hl 1 rfl) ?_
  refine lv_if_lt hx hb dX1_set_6 rfl (fun h => ?_) (fun h => ?_)
  · skip
    refine lv_aload_n hx hb dX1_set_17 rfl (lv_at hl 0 rfl) ?_
    refine lv_iconst (v := 1) hx hb dX1_set_18 (by decide) ?_
    refine xr_vcall (As := [.int 1]) (rest := []) (nA := 1) C0 (m_fail l D q cI tyr wr _ n 0 f g 1) (gV wM_X1_X1_fail wI_X1_fail wV_X1_X1_fail wN_X1 wC_X1_fail) (by decide +kernel) rfl rfl rfl ⟨by decide, by decide⟩ hK hP hD hS hA 0 rfl rfl hl.1 rfl (Nat.le_of_ble_eq_true rfl) dX1_set_19 ⟨Nat.le_of_ble_eq_true rfl, Nat.le_of_ble_eq_true rfl⟩ (fun v w H locs hv hP hD hz hS => ?_)
    obtain ⟨rfl, rfl⟩ := hv
    exact xr_iret C0 hlk hr (⟨rfl, rfl⟩) hP hD hS dX1_set_22
  · skip
    have n1 := h
    refine lv_iload_n hx hb dX1_set_9 rfl (lv_at hl 1 rfl) ?_
    refine lv_aload_n hx hb dX1_set_10 rfl (lv_at hl 0 rfl) ?_
    refine x1_get_size C0 hK hP 0 rfl rfl dX1_set_11 ?_
    refine lv_icmp_lt hx hb dX1_set_14 rfl (fun h => absurd (hbad.resolve_left n1) (rs_lt_nle h)) (fun h => ?_)
    refine lv_aload_n hx hb dX1_set_17 rfl (lv_at hl 0 rfl) ?_
    refine lv_iconst (v := 1) hx hb dX1_set_18 (by decide) ?_
    refine xr_vcall (As := [.int 1]) (rest := []) (nA := 1) C0 (m_fail l D q cI tyr wr _ n 0 f g 1) (gV wM_X1_X1_fail wI_X1_fail wV_X1_X1_fail wN_X1 wC_X1_fail) (by decide +kernel) rfl rfl rfl ⟨by decide, by decide⟩ hK hP hD hS hA 0 rfl rfl hl.1 rfl (Nat.le_of_ble_eq_true rfl) dX1_set_19 ⟨Nat.le_of_ble_eq_true rfl, Nat.le_of_ble_eq_true rfl⟩ (fun v w H locs hv hP hD hz hS => ?_)
    obtain ⟨rfl, rfl⟩ := hv
    exact xr_iret C0 hlk hr (⟨rfl, rfl⟩) hP hD hS dX1_set_22
set_option maxHeartbeats 4000000 in
set_option maxRecDepth 100000 in
/-- clear -/
theorem m_clear (l : Launch) (D : va_G) (q : Nat → Nat) (cI : ClassId) (tyr : List (ClassId × FieldType)) (wr : va_W) (sz n : Nat) (k : Int32) (f g : Nat → Int32) : xr_Met l yX1_clear (wU yX1_clear cX1_clear 2 (some .int)) ({ frames := 0, cells := 0, slots := 0, locals := 0 }) [.ref (q 0)] D (rs_ty cI tyr) (rs_M q cI (k) (n) (f) (g) ++ wr) sz (fun v w => v = some (.int (nI n)) ∧ w = rs_M q cI 0 0 f g ++ wr) 0 0 := by
  refine xr_start (by decide) (Nat.le_of_ble_eq_true rfl) ?_
  intro p e s m args below meth c A ls C0 hlk hr hnm hP hK hD hA hl
  have hx := C0.1
  have hb := C0.2.1
  have hS : va_S A s.heap s.heap [] := va_S.rf
  have hl : lv_has ls 2 [(0, .ref (q 0))] := hl
  refine lv_aload_n hx hb dX1_clear_0 rfl (lv_at hl 0 rfl) ?_
  refine lv_iconst (v := 0) hx hb dX1_clear_1 (by decide) ?_
  refine x1_put_failed C0 hK hP hD hS 0 rfl (Nat.le_of_ble_eq_true rfl) dX1_clear_2 (fun H locs hP hD hS => ?_)
  have hP : va_P D vwCl (rs_M q cI (0) (n) (f) (g) ++ wr) H := hP
  have hD : va_D A (rs_M q cI (0) (n) (f) (g) ++ wr) := hD
  refine lv_aload_n hx hb dX1_clear_5 rfl (lv_at hl 0 rfl) ?_
  refine x1_get_size C0 hK hP 0 rfl rfl dX1_clear_6 ?_
  refine lv_istore_n hx hb dX1_clear_9 rfl hl (by decide) rfl (fun ls hl => ?_)
  have hl : lv_has ls 2 [(1, .int (nI (n))), (0, .ref (q 0))] := hl
  refine lv_aload_n hx hb dX1_clear_10 rfl (lv_at hl 1 rfl) ?_
  refine lv_iconst (v := 0) hx hb dX1_clear_11 (by decide) ?_
  refine x1_put_size C0 hK hP hD hS 0 rfl (Nat.le_of_ble_eq_true rfl) dX1_clear_12 (fun H locs hP hD hS => ?_)
  have hP : va_P D vwCl (rs_M q cI (0) (0) (f) (g) ++ wr) H := hP
  have hD : va_D A (rs_M q cI (0) (0) (f) (g) ++ wr) := hD
  refine lv_iload_n hx hb dX1_clear_15 rfl (lv_at hl 0 rfl) ?_
  exact xr_iret C0 hlk hr (⟨rfl, rfl⟩) hP hD hS dX1_clear_16
set_option maxHeartbeats 4000000 in
set_option maxRecDepth 100000 in
/-- hash -/
theorem m_hash (l : Launch) (D : va_G) (q : Nat → Nat) (cI : ClassId) (tyr : List (ClassId × FieldType)) (wr : va_W) (sz n : Nat) (k : Int32) (f g : Nat → Int32) (hn : n ≤ 2000) : xr_Met l yX1_hash (wU yX1_hash cX1_hash 3 (some .int)) ({ frames := 0, cells := 0, slots := 0, locals := 0 }) [.ref (q 0)] D (rs_ty cI tyr) (rs_M q cI (k) (n) (f) (g) ++ wr) sz (fun v w => v = some (.int (rs_hs f g n)) ∧ w = rs_M q cI (0) n f g ++ wr) 0 0 := by
  refine xr_startQ (by decide) (Nat.le_of_ble_eq_true rfl) ?_
  intro p e s m args below meth c A ls Q hQ C0 hlk hr hP hK hD hA hl
  have hx := C0.1
  have hb := C0.2.1
  have hS : va_S A s.heap s.heap [] := va_S.rf
  have hl : lv_has ls 3 [(0, .ref (q 0))] := hl
  refine lv_aload_n hx hb dX1_hash_0 rfl (lv_at hl 0 rfl) ?_
  refine lv_iconst (v := 0) hx hb dX1_hash_1 (by decide) ?_
  refine x1_put_failed C0 hK hP hD hS 0 rfl (Nat.le_of_ble_eq_true rfl) dX1_hash_2 (fun H locs hP hD hS => ?_)
  have hP : va_P D vwCl (rs_M q cI (0) (n) (f) (g) ++ wr) H := hP
  have hD : va_D A (rs_M q cI (0) (n) (f) (g) ++ wr) := hD
  have loop : ∀ (j : Nat) (i : Nat) (H : Heap) (locs : List Loc) (ls : Array Slot), i + j = n → va_P D vwCl (rs_M q cI (0) (n) (f) (g) ++ wr) H → va_D A (rs_M q cI (0) (n) (f) (g) ++ wr) → va_S A s.heap H locs → lv_has ls 3 [(2, .int (nI i)), (1, .int (rs_hs f g i)), (0, .ref (q 0))] → W p l e ({ frames := 0, cells := 0, slots := 0, locals := 0 }) s m args below meth c H locs 0 0 Q (F0 m 9 ls []) := by
    intro j
    induction j with
    | zero =>
      intro i H locs ls hi hP hD hS hl
      refine lv_iload_n hx hb dX1_hash_9 rfl (lv_at hl 0 rfl) ?_
      refine lv_aload_n hx hb dX1_hash_10 rfl (lv_at hl 2 rfl) ?_
      refine x1_get_size C0 hK hP 0 rfl rfl dX1_hash_11 ?_
      refine lv_icmp_ge hx hb dX1_hash_14 rfl (fun h => ?_) (fun h => absurd (nI_le (by omega) (by omega)) h)
      refine lv_iload_n hx hb dX1_hash_45 rfl (lv_at hl 1 rfl) ?_
      have e : i = n := by omega
      subst e
      rw [hQ]
      exact xr_iret C0 hlk hr (⟨rfl, rfl⟩) hP hD hS dX1_hash_46
    | succ j ih =>
      intro i H locs ls hi hP hD hS hl
      refine lv_iload_n hx hb dX1_hash_9 rfl (lv_at hl 0 rfl) ?_
      refine lv_aload_n hx hb dX1_hash_10 rfl (lv_at hl 2 rfl) ?_
      refine x1_get_size C0 hK hP 0 rfl rfl dX1_hash_11 ?_
      refine lv_icmp_ge hx hb dX1_hash_14 rfl (fun h => absurd h (nI_ge (by omega) (by omega))) (fun h => ?_)
      refine lv_bipush (v := 31) hx hb dX1_hash_17 (by decide) ?_
      refine lv_bipush (v := 31) hx hb dX1_hash_19 (by decide) ?_
      refine lv_iload_n hx hb dX1_hash_21 rfl (lv_at hl 1 rfl) ?_
      refine lv_imul hx hb dX1_hash_22 ?_
      refine lv_aload_n hx hb dX1_hash_23 rfl (lv_at hl 2 rfl) ?_
      refine x1_get_row C0 hK hP 0 rfl rfl dX1_hash_24 ?_
      refine lv_iload_n hx hb dX1_hash_27 rfl (lv_at hl 0 rfl) ?_
      refine xr_ald C0 hK hP 1 rfl (j := i) (by omega) (by decide) dX1_hash_28 ?_
      refine lv_iadd hx hb dX1_hash_29 ?_
      refine lv_imul hx hb dX1_hash_30 ?_
      refine lv_aload_n hx hb dX1_hash_31 rfl (lv_at hl 2 rfl) ?_
      refine x1_get_tags C0 hK hP 0 rfl rfl dX1_hash_32 ?_
      refine lv_iload_n hx hb dX1_hash_35 rfl (lv_at hl 0 rfl) ?_
      refine xr_ald C0 hK hP 2 rfl (j := i) (by omega) (by decide) dX1_hash_36 ?_
      refine lv_iadd hx hb dX1_hash_37 ?_
      refine lv_istore_n hx hb dX1_hash_38 rfl hl (by decide) rfl (fun ls hl => ?_)
      have hl : lv_has ls 3 [(1, .int (rs_hs f g (i + 1))), (2, .int (nI i)), (0, .ref (q 0))] := hl
      refine lv_iinc (k := 1) hx hb dX1_hash_39 hl rfl (rs_inc i) (by decide) rfl (fun ls hl => ?_)
      have hl : lv_has ls 3 [(2, .int (nI (i + 1))), (1, .int (rs_hs f g (i + 1))), (0, .ref (q 0))] := hl
      refine lv_goto hx hb dX1_hash_42 rfl ?_
      exact ih (i + 1) H locs ls (by omega) hP hD hS hl
  refine lv_iconst (v := 1) hx hb dX1_hash_5 (by decide) ?_
  refine lv_istore_n hx hb dX1_hash_6 rfl hl (by decide) rfl (fun ls hl => ?_)
  have hl : lv_has ls 3 [(1, .int (rs_hs f g 0)), (0, .ref (q 0))] := hl
  refine lv_iconst (v := 0) hx hb dX1_hash_7 (by decide) ?_
  refine lv_istore_n hx hb dX1_hash_8 rfl hl (by decide) rfl (fun ls hl => ?_)
  have hl : lv_has ls 3 [(2, .int (nI 0)), (1, .int (rs_hs f g 0)), (0, .ref (q 0))] := hl
  exact loop n 0 _ _ ls (by omega) hP hD hS hl
set_option maxHeartbeats 4000000 in
set_option maxRecDepth 100000 in
/-- fill, in range -/
theorem m_fill0 (l : Launch) (D : va_G) (q : Nat → Nat) (cI : ClassId) (tyr : List (ClassId × FieldType)) (wr : va_W) (sz n : Nat) (k : Int32) (f g : Nat → Int32) (x st : Int32) (c0 : Nat) (hn : n + c0 ≤ 2000) : xr_Met l yX1_fill (wU yX1_fill cX1_fill 5 (some .int)) ({ frames := 1, cells := 0, slots := 0, locals := 21 }) [.ref (q 0), .int x, .int st, .int (nI c0)] D (rs_ty cI tyr) (rs_M q cI (k) (n) (f) (g) ++ wr) sz (fun v w => v = some (.int (nI (n + c0))) ∧ w = rs_M q cI 0 (n + c0) (rs_fi f n x st c0) (rs_tg g n c0) ++ wr) 0 0 := by
  refine xr_startQ (by decide) (Nat.le_of_ble_eq_true rfl) ?_
  intro p e s m args below meth c A ls Q hQ C0 hlk hr hP hK hD hA hl
  have hx := C0.1
  have hb := C0.2.1
  have hS : va_S A s.heap s.heap [] := va_S.rf
  have hl : lv_has ls 5 [(0, .ref (q 0)), (1, .int x), (2, .int st), (3, .int (nI c0))] := hl
  refine lv_aload_n hx hb dX1_fill_0 rfl (lv_at hl 0 rfl) ?_
  refine lv_iconst (v := 0) hx hb dX1_fill_1 (by decide) ?_
  refine x1_put_failed C0 hK hP hD hS 0 rfl (Nat.le_of_ble_eq_true rfl) dX1_fill_2 (fun H locs hP hD hS => ?_)
  have hP : va_P D vwCl (rs_M q cI (0) (n) (f) (g) ++ wr) H := hP
  have hD : va_D A (rs_M q cI (0) (n) (f) (g) ++ wr) := hD
  refine lv_iload_n hx hb dX1_fill_5 rfl (lv_at hl 3 rfl) ?_
  refine lv_if_lt hx hb dX1_fill_6 rfl (fun h => absurd h (nI_pos (by omega))) (fun h => ?_)
  refine lv_iload_n hx hb dX1_fill_9 rfl (lv_at hl 3 rfl) ?_
  refine lv_sipush (v := 2000) hx hb dX1_fill_10 (by decide) ?_
  refine lv_icmp_le hx hb dX1_fill_13 rfl (fun h => ?_) (fun h => absurd (nI_le (b := 2000) (by omega) (by omega)) h)
  refine lv_aload_n hx hb dX1_fill_22 rfl (lv_at hl 0 rfl) ?_
  refine x1_get_size C0 hK hP 0 rfl rfl dX1_fill_23 ?_
  refine lv_iload_n hx hb dX1_fill_26 rfl (lv_at hl 3 rfl) ?_
  refine lv_iadd hx hb dX1_fill_27 ?_
  refine xr_top (nI_add n c0) ?_
  refine lv_sipush (v := 2000) hx hb dX1_fill_28 (by decide) ?_
  refine lv_icmp_le hx hb dX1_fill_31 rfl (fun h => ?_) (fun h => absurd (nI_le (b := 2000) (by omega) (by omega)) h)
  have loop : ∀ (j : Nat) (i : Nat) (H : Heap) (locs : List Loc) (ls : Array Slot), i + j = c0 → va_P D vwCl (rs_M q cI (0) (n + i) (rs_fi f n x st i) (rs_tg g n i) ++ wr) H → va_D A (rs_M q cI (0) (n + i) (rs_fi f n x st i) (rs_tg g n i) ++ wr) → va_S A s.heap H locs → lv_has ls 5 [(4, .int (nI i)), (0, .ref (q 0)), (1, .int x), (2, .int st), (3, .int (nI c0))] → W p l e ({ frames := 1, cells := 0, slots := 0, locals := 21 }) s m args below meth c H locs 0 0 Q (F0 m 43 ls []) := by
    intro j
    induction j with
    | zero =>
      intro i H locs ls hi hP hD hS hl
      refine lv_iload hx hb dX1_fill_43 (lv_at hl 0 rfl) ?_
      refine lv_iload_n hx hb dX1_fill_45 rfl (lv_at hl 4 rfl) ?_
      refine lv_icmp_ge hx hb dX1_fill_46 rfl (fun h => ?_) (fun h => absurd (nI_le (by omega) (by omega)) h)
      refine lv_aload_n hx hb dX1_fill_65 rfl (lv_at hl 1 rfl) ?_
      refine x1_get_size C0 hK hP 0 rfl rfl dX1_fill_66 ?_
      have e : i = c0 := by omega
      subst e
      rw [hQ]
      exact xr_iret C0 hlk hr (⟨rfl, rfl⟩) hP hD hS dX1_fill_69
    | succ j ih =>
      intro i H locs ls hi hP hD hS hl
      refine lv_iload hx hb dX1_fill_43 (lv_at hl 0 rfl) ?_
      refine lv_iload_n hx hb dX1_fill_45 rfl (lv_at hl 4 rfl) ?_
      refine lv_icmp_ge hx hb dX1_fill_46 rfl (fun h => absurd h (nI_ge (by omega) (by omega))) (fun h => ?_)
      refine lv_aload_n hx hb dX1_fill_49 rfl (lv_at hl 1 rfl) ?_
      refine lv_iload_n hx hb dX1_fill_50 rfl (lv_at hl 2 rfl) ?_
      refine lv_iload hx hb dX1_fill_51 (lv_at hl 0 rfl) ?_
      refine lv_iload_n hx hb dX1_fill_53 rfl (lv_at hl 3 rfl) ?_
      refine lv_imul hx hb dX1_fill_54 ?_
      refine lv_iadd hx hb dX1_fill_55 ?_
      refine xr_vcall (As := [.int (x + ((nI i) * st))]) (rest := []) (nA := 1) C0 (m_append l D q cI tyr wr _ (n + i) 0 _ _ (x + nI i * st) (by omega)) (gV wM_X1_X1_append wI_X1_append wV_X1_X1_append wN_X1 wC_X1_append) (by decide +kernel) rfl rfl rfl ⟨by decide, by decide⟩ hK hP hD hS hA 0 rfl rfl hl.1 rfl (Nat.le_of_ble_eq_true rfl) dX1_fill_56 ⟨Nat.le_of_ble_eq_true rfl, Nat.le_of_ble_eq_true rfl⟩ (fun v w H locs hv hP hD hz hS => ?_)
      obtain ⟨rfl, rfl⟩ := hv
      refine lv_iinc (k := 0) hx hb dX1_fill_59 hl rfl (rs_inc i) (by decide) rfl (fun ls hl => ?_)
      have hl : lv_has ls 5 [(4, .int (nI (i + 1))), (0, .ref (q 0)), (1, .int x), (2, .int st), (3, .int (nI c0))] := hl
      refine lv_goto hx hb dX1_fill_62 rfl ?_
      exact ih (i + 1) H locs ls (by omega) hP hD hS hl
  refine lv_iconst (v := 0) hx hb dX1_fill_40 (by decide) ?_
  refine lv_istore hx hb dX1_fill_41 hl (by decide) rfl (fun ls hl => ?_)
  have hl : lv_has ls 5 [(4, .int (nI 0)), (0, .ref (q 0)), (1, .int x), (2, .int st), (3, .int (nI c0))] := hl
  exact loop c0 0 _ _ ls (by omega) hP hD hS hl
set_option maxHeartbeats 4000000 in
set_option maxRecDepth 100000 in
/-- fill, n out of range -/
theorem m_fill1 (l : Launch) (D : va_G) (q : Nat → Nat) (cI : ClassId) (tyr : List (ClassId × FieldType)) (wr : va_W) (sz n : Nat) (k : Int32) (f g : Nat → Int32) (x st y : Int32) (hbad : y < 0 ∨ 2000 < y) : xr_Met l yX1_fill (wU yX1_fill cX1_fill 5 (some .int)) ({ frames := 1, cells := 0, slots := 0, locals := 21 }) [.ref (q 0), .int x, .int st, .int y] D (rs_ty cI tyr) (rs_M q cI (k) (n) (f) (g) ++ wr) sz (fun v w => v = some (.int 0) ∧ w = rs_M q cI (1) n f g ++ wr) 0 0 := by
  refine xr_start (by decide) (Nat.le_of_ble_eq_true rfl) ?_
  intro p e s m args below meth c A ls C0 hlk hr hnm hP hK hD hA hl
  have hx := C0.1
  have hb := C0.2.1
  have hS : va_S A s.heap s.heap [] := va_S.rf
  have hl : lv_has ls 5 [(0, .ref (q 0)), (1, .int x), (2, .int st), (3, .int y)] := hl
  refine lv_aload_n hx hb dX1_fill_0 rfl (lv_at hl 0 rfl) ?_
  refine lv_iconst (v := 0) hx hb dX1_fill_1 (by decide) ?_
  refine x1_put_failed C0 hK hP hD hS 0 rfl (Nat.le_of_ble_eq_true rfl) dX1_fill_2 (fun H locs hP hD hS => ?_)
  have hP : va_P D vwCl (rs_M q cI (0) (n) (f) (g) ++ wr) H := hP
  have hD : va_D A (rs_M q cI (0) (n) (f) (g) ++ wr) := hD
  refine lv_iload_n hx hb dX1_fill_5 rfl (lv_at hl 3 rfl) ?_
  refine lv_if_lt hx hb dX1_fill_6 rfl (fun h => ?_) (fun h => ?_)
  · skip
    refine lv_aload_n hx hb dX1_fill_16 rfl (lv_at hl 0 rfl) ?_
    refine lv_iconst (v := 1) hx hb dX1_fill_17 (by decide) ?_
    refine xr_vcall (As := [.int 1]) (rest := []) (nA := 1) C0 (m_fail l D q cI tyr wr _ n 0 f g 1) (gV wM_X1_X1_fail wI_X1_fail wV_X1_X1_fail wN_X1 wC_X1_fail) (by decide +kernel) rfl rfl rfl ⟨by decide, by decide⟩ hK hP hD hS hA 0 rfl rfl hl.1 rfl (Nat.le_of_ble_eq_true rfl) dX1_fill_18 ⟨Nat.le_of_ble_eq_true rfl, Nat.le_of_ble_eq_true rfl⟩ (fun v w H locs hv hP hD hz hS => ?_)
    obtain ⟨rfl, rfl⟩ := hv
    exact xr_iret C0 hlk hr (⟨rfl, rfl⟩) hP hD hS dX1_fill_21
  · skip
    have n1 := h
    refine lv_iload_n hx hb dX1_fill_9 rfl (lv_at hl 3 rfl) ?_
    refine lv_sipush (v := 2000) hx hb dX1_fill_10 (by decide) ?_
    refine lv_icmp_le hx hb dX1_fill_13 rfl (fun h => absurd h (rs_lt_nle (hbad.resolve_left n1))) (fun h => ?_)
    refine lv_aload_n hx hb dX1_fill_16 rfl (lv_at hl 0 rfl) ?_
    refine lv_iconst (v := 1) hx hb dX1_fill_17 (by decide) ?_
    refine xr_vcall (As := [.int 1]) (rest := []) (nA := 1) C0 (m_fail l D q cI tyr wr _ n 0 f g 1) (gV wM_X1_X1_fail wI_X1_fail wV_X1_X1_fail wN_X1 wC_X1_fail) (by decide +kernel) rfl rfl rfl ⟨by decide, by decide⟩ hK hP hD hS hA 0 rfl rfl hl.1 rfl (Nat.le_of_ble_eq_true rfl) dX1_fill_18 ⟨Nat.le_of_ble_eq_true rfl, Nat.le_of_ble_eq_true rfl⟩ (fun v w H locs hv hP hD hz hS => ?_)
    obtain ⟨rfl, rfl⟩ := hv
    exact xr_iret C0 hlk hr (⟨rfl, rfl⟩) hP hD hS dX1_fill_21
set_option maxHeartbeats 4000000 in
set_option maxRecDepth 100000 in
/-- fill, no room -/
theorem m_fill2 (l : Launch) (D : va_G) (q : Nat → Nat) (cI : ClassId) (tyr : List (ClassId × FieldType)) (wr : va_W) (sz n : Nat) (k : Int32) (f g : Nat → Int32) (x st : Int32) (c0 : Nat) (hc : c0 ≤ 2000) (hn2 : n ≤ 2000) (hn : 2000 < n + c0) : xr_Met l yX1_fill (wU yX1_fill cX1_fill 5 (some .int)) ({ frames := 1, cells := 0, slots := 0, locals := 21 }) [.ref (q 0), .int x, .int st, .int (nI c0)] D (rs_ty cI tyr) (rs_M q cI (k) (n) (f) (g) ++ wr) sz (fun v w => v = some (.int 0) ∧ w = rs_M q cI (2) n f g ++ wr) 0 0 := by
  refine xr_start (by decide) (Nat.le_of_ble_eq_true rfl) ?_
  intro p e s m args below meth c A ls C0 hlk hr hnm hP hK hD hA hl
  have hx := C0.1
  have hb := C0.2.1
  have hS : va_S A s.heap s.heap [] := va_S.rf
  have hl : lv_has ls 5 [(0, .ref (q 0)), (1, .int x), (2, .int st), (3, .int (nI c0))] := hl
  refine lv_aload_n hx hb dX1_fill_0 rfl (lv_at hl 0 rfl) ?_
  refine lv_iconst (v := 0) hx hb dX1_fill_1 (by decide) ?_
  refine x1_put_failed C0 hK hP hD hS 0 rfl (Nat.le_of_ble_eq_true rfl) dX1_fill_2 (fun H locs hP hD hS => ?_)
  have hP : va_P D vwCl (rs_M q cI (0) (n) (f) (g) ++ wr) H := hP
  have hD : va_D A (rs_M q cI (0) (n) (f) (g) ++ wr) := hD
  refine lv_iload_n hx hb dX1_fill_5 rfl (lv_at hl 3 rfl) ?_
  refine lv_if_lt hx hb dX1_fill_6 rfl (fun h => absurd h (nI_pos (by omega))) (fun h => ?_)
  refine lv_iload_n hx hb dX1_fill_9 rfl (lv_at hl 3 rfl) ?_
  refine lv_sipush (v := 2000) hx hb dX1_fill_10 (by decide) ?_
  refine lv_icmp_le hx hb dX1_fill_13 rfl (fun h => ?_) (fun h => absurd (nI_le (b := 2000) (by omega) (by omega)) h)
  refine lv_aload_n hx hb dX1_fill_22 rfl (lv_at hl 0 rfl) ?_
  refine x1_get_size C0 hK hP 0 rfl rfl dX1_fill_23 ?_
  refine lv_iload_n hx hb dX1_fill_26 rfl (lv_at hl 3 rfl) ?_
  refine lv_iadd hx hb dX1_fill_27 ?_
  refine xr_top (nI_add n c0) ?_
  refine lv_sipush (v := 2000) hx hb dX1_fill_28 (by decide) ?_
  refine lv_icmp_le hx hb dX1_fill_31 rfl (fun h => absurd h (nI_ge (a := 2000) (by omega) (by omega))) (fun h => ?_)
  refine lv_aload_n hx hb dX1_fill_34 rfl (lv_at hl 0 rfl) ?_
  refine lv_iconst (v := 2) hx hb dX1_fill_35 (by decide) ?_
  refine xr_vcall (As := [.int 2]) (rest := []) (nA := 1) C0 (m_fail l D q cI tyr wr _ n 0 f g 2) (gV wM_X1_X1_fail wI_X1_fail wV_X1_X1_fail wN_X1 wC_X1_fail) (by decide +kernel) rfl rfl rfl ⟨by decide, by decide⟩ hK hP hD hS hA 0 rfl rfl hl.1 rfl (Nat.le_of_ble_eq_true rfl) dX1_fill_36 ⟨Nat.le_of_ble_eq_true rfl, Nat.le_of_ble_eq_true rfl⟩ (fun v w H locs hv hP hD hz hS => ?_)
  obtain ⟨rfl, rfl⟩ := hv
  exact xr_iret C0 hlk hr (⟨rfl, rfl⟩) hP hD hS dX1_fill_39
set_option maxHeartbeats 4000000 in
set_option maxRecDepth 100000 in
/-- scatter, in range -/
theorem m_scatter0 (l : Launch) (D : va_G) (q : Nat → Nat) (cI : ClassId) (tyr : List (ClassId × FieldType)) (wr : va_W) (sz n : Nat) (k : Int32) (f g : Nat → Int32) (x b : Int32) (c0 : Nat) (hb1 : ¬ b < 1) (hb2 : b ≤ 16) (hn : n + c0 ≤ 2000) : xr_Met l yX1_scatter (wU yX1_scatter cX1_scatter 6 (some .int)) ({ frames := 1, cells := 0, slots := 0, locals := 21 }) [.ref (q 0), .int x, .int b, .int (nI c0)] D (rs_ty cI tyr) (rs_M q cI (k) (n) (f) (g) ++ wr) sz (fun v w => v = some (.int (nI (n + c0))) ∧ w = rs_M q cI 0 (n + c0) (rs_sc f n x b c0) (rs_tg g n c0) ++ wr) 0 0 := by
  refine xr_startQ (by decide) (Nat.le_of_ble_eq_true rfl) ?_
  intro p e s m args below meth c A ls Q hQ C0 hlk hr hP hK hD hA hl
  have hx := C0.1
  have hb := C0.2.1
  have hS : va_S A s.heap s.heap [] := va_S.rf
  have hl : lv_has ls 6 [(0, .ref (q 0)), (1, .int x), (2, .int b), (3, .int (nI c0))] := hl
  refine lv_aload_n hx hb dX1_scatter_0 rfl (lv_at hl 0 rfl) ?_
  refine lv_iconst (v := 0) hx hb dX1_scatter_1 (by decide) ?_
  refine x1_put_failed C0 hK hP hD hS 0 rfl (Nat.le_of_ble_eq_true rfl) dX1_scatter_2 (fun H locs hP hD hS => ?_)
  have hP : va_P D vwCl (rs_M q cI (0) (n) (f) (g) ++ wr) H := hP
  have hD : va_D A (rs_M q cI (0) (n) (f) (g) ++ wr) := hD
  refine lv_iload_n hx hb dX1_scatter_5 rfl (lv_at hl 3 rfl) ?_
  refine lv_if_lt hx hb dX1_scatter_6 rfl (fun h => absurd h (nI_pos (by omega))) (fun h => ?_)
  refine lv_iload_n hx hb dX1_scatter_9 rfl (lv_at hl 3 rfl) ?_
  refine lv_sipush (v := 2000) hx hb dX1_scatter_10 (by decide) ?_
  refine lv_icmp_gt hx hb dX1_scatter_13 rfl (fun h => absurd h (nI_nlt (a := 2000) (by omega) (by omega))) (fun h => ?_)
  refine lv_iload_n hx hb dX1_scatter_16 rfl (lv_at hl 2 rfl) ?_
  refine lv_iconst (v := 1) hx hb dX1_scatter_17 (by decide) ?_
  refine lv_icmp_lt hx hb dX1_scatter_18 rfl (fun h => absurd h hb1) (fun h => ?_)
  refine lv_iload_n hx hb dX1_scatter_21 rfl (lv_at hl 2 rfl) ?_
  refine lv_bipush (v := 16) hx hb dX1_scatter_22 (by decide) ?_
  refine lv_icmp_le hx hb dX1_scatter_24 rfl (fun h => ?_) (fun h => absurd hb2 h)
  refine lv_aload_n hx hb dX1_scatter_33 rfl (lv_at hl 0 rfl) ?_
  refine x1_get_size C0 hK hP 0 rfl rfl dX1_scatter_34 ?_
  refine lv_iload_n hx hb dX1_scatter_37 rfl (lv_at hl 3 rfl) ?_
  refine lv_iadd hx hb dX1_scatter_38 ?_
  refine xr_top (nI_add n c0) ?_
  refine lv_sipush (v := 2000) hx hb dX1_scatter_39 (by decide) ?_
  refine lv_icmp_le hx hb dX1_scatter_42 rfl (fun h => ?_) (fun h => absurd (nI_le (b := 2000) (by omega) (by omega)) h)
  have loop : ∀ (j : Nat) (i : Nat) (H : Heap) (locs : List Loc) (ls : Array Slot), i + j = c0 → va_P D vwCl (rs_M q cI (0) (n + i) (rs_sc f n x b i) (rs_tg g n i) ++ wr) H → va_D A (rs_M q cI (0) (n + i) (rs_sc f n x b i) (rs_tg g n i) ++ wr) → va_S A s.heap H locs → lv_has ls 6 [(5, .int (nI i)), (4, .int (rs_sd x i)), (0, .ref (q 0)), (1, .int x), (2, .int b), (3, .int (nI c0))] → W p l e ({ frames := 1, cells := 0, slots := 0, locals := 21 }) s m args below meth c H locs 0 0 Q (F0 m 57 ls []) := by
    intro j
    induction j with
    | zero =>
      intro i H locs ls hi hP hD hS hl
      refine lv_iload hx hb dX1_scatter_57 (lv_at hl 0 rfl) ?_
      refine lv_iload_n hx hb dX1_scatter_59 rfl (lv_at hl 5 rfl) ?_
      refine lv_icmp_ge hx hb dX1_scatter_60 rfl (fun h => ?_) (fun h => absurd (nI_le (by omega) (by omega)) h)
      refine lv_aload_n hx hb dX1_scatter_94 rfl (lv_at hl 2 rfl) ?_
      refine x1_get_size C0 hK hP 0 rfl rfl dX1_scatter_95 ?_
      have e : i = c0 := by omega
      subst e
      rw [hQ]
      exact xr_iret C0 hlk hr (⟨rfl, rfl⟩) hP hD hS dX1_scatter_98
    | succ j ih =>
      intro i H locs ls hi hP hD hS hl
      refine lv_iload hx hb dX1_scatter_57 (lv_at hl 0 rfl) ?_
      refine lv_iload_n hx hb dX1_scatter_59 rfl (lv_at hl 5 rfl) ?_
      refine lv_icmp_ge hx hb dX1_scatter_60 rfl (fun h => absurd h (nI_ge (by omega) (by omega))) (fun h => ?_)
      refine lv_ldc (v := 1664525) hx hb C0.2.2.2.1 (C0.2.2.2.2 _ wQ_X1_32) dX1_scatter_63 ?_
      refine lv_iload hx hb dX1_scatter_65 (lv_at hl 1 rfl) ?_
      refine lv_imul hx hb dX1_scatter_67 ?_
      refine lv_ldc (v := 1013904223) hx hb C0.2.2.2.1 (C0.2.2.2.2 _ wQ_X1_33) dX1_scatter_68 ?_
      refine lv_iadd hx hb dX1_scatter_70 ?_
      refine lv_istore hx hb dX1_scatter_71 hl (by decide) rfl (fun ls hl => ?_)
      have hl : lv_has ls 6 [(4, .int (rs_sd x (i + 1))), (5, .int (nI i)), (0, .ref (q 0)), (1, .int x), (2, .int b), (3, .int (nI c0))] := hl
      refine lv_aload_n hx hb dX1_scatter_73 rfl (lv_at hl 2 rfl) ?_
      refine lv_iload hx hb dX1_scatter_74 (lv_at hl 0 rfl) ?_
      refine lv_bipush (v := 16) hx hb dX1_scatter_76 (by decide) ?_
      refine lv_iushr hx hb dX1_scatter_78 rfl ?_
      refine lv_iconst (v := 1) hx hb dX1_scatter_79 (by decide) ?_
      refine lv_iload_n hx hb dX1_scatter_80 rfl (lv_at hl 4 rfl) ?_
      refine lv_ishl hx hb dX1_scatter_81 ?_
      refine lv_iconst (v := 1) hx hb dX1_scatter_82 (by decide) ?_
      refine lv_isub hx hb dX1_scatter_83 ?_
      refine lv_iand hx hb dX1_scatter_84 ?_
      refine xr_vcall (As := [.int ((((rs_sd x (i + 1)).toUInt32 >>> ((16 : Int32).toUInt32 &&& Int32.toUInt32 31)).toInt32) &&& ((1 <<< (b &&& 31)) - 1))]) (rest := []) (nA := 1) C0 (m_append l D q cI tyr wr _ (n + i) 0 _ _ _ (by omega)) (gV wM_X1_X1_append wI_X1_append wV_X1_X1_append wN_X1 wC_X1_append) (by decide +kernel) rfl rfl rfl ⟨by decide, by decide⟩ hK hP hD hS hA 0 rfl rfl hl.1 rfl (Nat.le_of_ble_eq_true rfl) dX1_scatter_85 ⟨Nat.le_of_ble_eq_true rfl, Nat.le_of_ble_eq_true rfl⟩ (fun v w H locs hv hP hD hz hS => ?_)
      obtain ⟨rfl, rfl⟩ := hv
      have hl : lv_has ls 6 [(4, .int (rs_sd x (i + 1))), (0, .ref (q 0)), (1, .int x), (2, .int b), (3, .int (nI c0)), (5, .int (nI i))] := lv_sub hl [0, 2, 3, 4, 5, 1] rfl
      refine lv_iinc (k := 5) hx hb dX1_scatter_88 hl rfl (rs_inc i) (by decide) rfl (fun ls hl => ?_)
      have hl : lv_has ls 6 [(5, .int (nI (i + 1))), (4, .int (rs_sd x (i + 1))), (0, .ref (q 0)), (1, .int x), (2, .int b), (3, .int (nI c0))] := hl
      refine lv_goto hx hb dX1_scatter_91 rfl ?_
      exact ih (i + 1) H locs ls (by omega) hP hD hS hl
  refine lv_iload_n hx hb dX1_scatter_51 rfl (lv_at hl 1 rfl) ?_
  refine lv_istore hx hb dX1_scatter_52 hl (by decide) rfl (fun ls hl => ?_)
  have hl : lv_has ls 6 [(4, .int (rs_sd x 0)), (0, .ref (q 0)), (1, .int x), (2, .int b), (3, .int (nI c0))] := hl
  refine lv_iconst (v := 0) hx hb dX1_scatter_54 (by decide) ?_
  refine lv_istore hx hb dX1_scatter_55 hl (by decide) rfl (fun ls hl => ?_)
  have hl : lv_has ls 6 [(5, .int (nI 0)), (4, .int (rs_sd x 0)), (0, .ref (q 0)), (1, .int x), (2, .int b), (3, .int (nI c0))] := hl
  exact loop c0 0 _ _ ls (by omega) hP hD hS hl
set_option maxHeartbeats 4000000 in
set_option maxRecDepth 100000 in
/-- scatter, a number out of range -/
theorem m_scatter1 (l : Launch) (D : va_G) (q : Nat → Nat) (cI : ClassId) (tyr : List (ClassId × FieldType)) (wr : va_W) (sz n : Nat) (k : Int32) (f g : Nat → Int32) (x b y : Int32) (hbad : y < 0 ∨ 2000 < y ∨ b < 1 ∨ 16 < b) : xr_Met l yX1_scatter (wU yX1_scatter cX1_scatter 6 (some .int)) ({ frames := 1, cells := 0, slots := 0, locals := 21 }) [.ref (q 0), .int x, .int b, .int y] D (rs_ty cI tyr) (rs_M q cI (k) (n) (f) (g) ++ wr) sz (fun v w => v = some (.int 0) ∧ w = rs_M q cI (1) n f g ++ wr) 0 0 := by
  refine xr_start (by decide) (Nat.le_of_ble_eq_true rfl) ?_
  intro p e s m args below meth c A ls C0 hlk hr hnm hP hK hD hA hl
  have hx := C0.1
  have hb := C0.2.1
  have hS : va_S A s.heap s.heap [] := va_S.rf
  have hl : lv_has ls 6 [(0, .ref (q 0)), (1, .int x), (2, .int b), (3, .int y)] := hl
  refine lv_aload_n hx hb dX1_scatter_0 rfl (lv_at hl 0 rfl) ?_
  refine lv_iconst (v := 0) hx hb dX1_scatter_1 (by decide) ?_
  refine x1_put_failed C0 hK hP hD hS 0 rfl (Nat.le_of_ble_eq_true rfl) dX1_scatter_2 (fun H locs hP hD hS => ?_)
  have hP : va_P D vwCl (rs_M q cI (0) (n) (f) (g) ++ wr) H := hP
  have hD : va_D A (rs_M q cI (0) (n) (f) (g) ++ wr) := hD
  refine lv_iload_n hx hb dX1_scatter_5 rfl (lv_at hl 3 rfl) ?_
  refine lv_if_lt hx hb dX1_scatter_6 rfl (fun h => ?_) (fun h => ?_)
  · skip
    refine lv_aload_n hx hb dX1_scatter_27 rfl (lv_at hl 0 rfl) ?_
    refine lv_iconst (v := 1) hx hb dX1_scatter_28 (by decide) ?_
    refine xr_vcall (As := [.int 1]) (rest := []) (nA := 1) C0 (m_fail l D q cI tyr wr _ n 0 f g 1) (gV wM_X1_X1_fail wI_X1_fail wV_X1_X1_fail wN_X1 wC_X1_fail) (by decide +kernel) rfl rfl rfl ⟨by decide, by decide⟩ hK hP hD hS hA 0 rfl rfl hl.1 rfl (Nat.le_of_ble_eq_true rfl) dX1_scatter_29 ⟨Nat.le_of_ble_eq_true rfl, Nat.le_of_ble_eq_true rfl⟩ (fun v w H locs hv hP hD hz hS => ?_)
    obtain ⟨rfl, rfl⟩ := hv
    exact xr_iret C0 hlk hr (⟨rfl, rfl⟩) hP hD hS dX1_scatter_32
  · skip
    have n1 := h
    refine lv_iload_n hx hb dX1_scatter_9 rfl (lv_at hl 3 rfl) ?_
    refine lv_sipush (v := 2000) hx hb dX1_scatter_10 (by decide) ?_
    refine lv_icmp_gt hx hb dX1_scatter_13 rfl (fun h => ?_) (fun h => ?_)
    · skip
      refine lv_aload_n hx hb dX1_scatter_27 rfl (lv_at hl 0 rfl) ?_
      refine lv_iconst (v := 1) hx hb dX1_scatter_28 (by decide) ?_
      refine xr_vcall (As := [.int 1]) (rest := []) (nA := 1) C0 (m_fail l D q cI tyr wr _ n 0 f g 1) (gV wM_X1_X1_fail wI_X1_fail wV_X1_X1_fail wN_X1 wC_X1_fail) (by decide +kernel) rfl rfl rfl ⟨by decide, by decide⟩ hK hP hD hS hA 0 rfl rfl hl.1 rfl (Nat.le_of_ble_eq_true rfl) dX1_scatter_29 ⟨Nat.le_of_ble_eq_true rfl, Nat.le_of_ble_eq_true rfl⟩ (fun v w H locs hv hP hD hz hS => ?_)
      obtain ⟨rfl, rfl⟩ := hv
      exact xr_iret C0 hlk hr (⟨rfl, rfl⟩) hP hD hS dX1_scatter_32
    · skip
      have n2 := h
      refine lv_iload_n hx hb dX1_scatter_16 rfl (lv_at hl 2 rfl) ?_
      refine lv_iconst (v := 1) hx hb dX1_scatter_17 (by decide) ?_
      refine lv_icmp_lt hx hb dX1_scatter_18 rfl (fun h => ?_) (fun h => ?_)
      · skip
        refine lv_aload_n hx hb dX1_scatter_27 rfl (lv_at hl 0 rfl) ?_
        refine lv_iconst (v := 1) hx hb dX1_scatter_28 (by decide) ?_
        refine xr_vcall (As := [.int 1]) (rest := []) (nA := 1) C0 (m_fail l D q cI tyr wr _ n 0 f g 1) (gV wM_X1_X1_fail wI_X1_fail wV_X1_X1_fail wN_X1 wC_X1_fail) (by decide +kernel) rfl rfl rfl ⟨by decide, by decide⟩ hK hP hD hS hA 0 rfl rfl hl.1 rfl (Nat.le_of_ble_eq_true rfl) dX1_scatter_29 ⟨Nat.le_of_ble_eq_true rfl, Nat.le_of_ble_eq_true rfl⟩ (fun v w H locs hv hP hD hz hS => ?_)
        obtain ⟨rfl, rfl⟩ := hv
        exact xr_iret C0 hlk hr (⟨rfl, rfl⟩) hP hD hS dX1_scatter_32
      · skip
        have n3 := h
        refine lv_iload_n hx hb dX1_scatter_21 rfl (lv_at hl 2 rfl) ?_
        refine lv_bipush (v := 16) hx hb dX1_scatter_22 (by decide) ?_
        refine lv_icmp_le hx hb dX1_scatter_24 rfl (fun h => absurd h (rs_lt_nle (((hbad.resolve_left n1).resolve_left n2).resolve_left n3))) (fun h => ?_)
        refine lv_aload_n hx hb dX1_scatter_27 rfl (lv_at hl 0 rfl) ?_
        refine lv_iconst (v := 1) hx hb dX1_scatter_28 (by decide) ?_
        refine xr_vcall (As := [.int 1]) (rest := []) (nA := 1) C0 (m_fail l D q cI tyr wr _ n 0 f g 1) (gV wM_X1_X1_fail wI_X1_fail wV_X1_X1_fail wN_X1 wC_X1_fail) (by decide +kernel) rfl rfl rfl ⟨by decide, by decide⟩ hK hP hD hS hA 0 rfl rfl hl.1 rfl (Nat.le_of_ble_eq_true rfl) dX1_scatter_29 ⟨Nat.le_of_ble_eq_true rfl, Nat.le_of_ble_eq_true rfl⟩ (fun v w H locs hv hP hD hz hS => ?_)
        obtain ⟨rfl, rfl⟩ := hv
        exact xr_iret C0 hlk hr (⟨rfl, rfl⟩) hP hD hS dX1_scatter_32
set_option maxHeartbeats 4000000 in
set_option maxRecDepth 100000 in
/-- scatter, no room -/
theorem m_scatter2 (l : Launch) (D : va_G) (q : Nat → Nat) (cI : ClassId) (tyr : List (ClassId × FieldType)) (wr : va_W) (sz n : Nat) (k : Int32) (f g : Nat → Int32) (x b : Int32) (c0 : Nat) (hb1 : ¬ b < 1) (hb2 : b ≤ 16) (hc : c0 ≤ 2000) (hn2 : n ≤ 2000) (hn : 2000 < n + c0) : xr_Met l yX1_scatter (wU yX1_scatter cX1_scatter 6 (some .int)) ({ frames := 1, cells := 0, slots := 0, locals := 21 }) [.ref (q 0), .int x, .int b, .int (nI c0)] D (rs_ty cI tyr) (rs_M q cI (k) (n) (f) (g) ++ wr) sz (fun v w => v = some (.int 0) ∧ w = rs_M q cI (2) n f g ++ wr) 0 0 := by
  refine xr_start (by decide) (Nat.le_of_ble_eq_true rfl) ?_
  intro p e s m args below meth c A ls C0 hlk hr hnm hP hK hD hA hl
  have hx := C0.1
  have hb := C0.2.1
  have hS : va_S A s.heap s.heap [] := va_S.rf
  have hl : lv_has ls 6 [(0, .ref (q 0)), (1, .int x), (2, .int b), (3, .int (nI c0))] := hl
  refine lv_aload_n hx hb dX1_scatter_0 rfl (lv_at hl 0 rfl) ?_
  refine lv_iconst (v := 0) hx hb dX1_scatter_1 (by decide) ?_
  refine x1_put_failed C0 hK hP hD hS 0 rfl (Nat.le_of_ble_eq_true rfl) dX1_scatter_2 (fun H locs hP hD hS => ?_)
  have hP : va_P D vwCl (rs_M q cI (0) (n) (f) (g) ++ wr) H := hP
  have hD : va_D A (rs_M q cI (0) (n) (f) (g) ++ wr) := hD
  refine lv_iload_n hx hb dX1_scatter_5 rfl (lv_at hl 3 rfl) ?_
  refine lv_if_lt hx hb dX1_scatter_6 rfl (fun h => absurd h (nI_pos (by omega))) (fun h => ?_)
  refine lv_iload_n hx hb dX1_scatter_9 rfl (lv_at hl 3 rfl) ?_
  refine lv_sipush (v := 2000) hx hb dX1_scatter_10 (by decide) ?_
  refine lv_icmp_gt hx hb dX1_scatter_13 rfl (fun h => absurd h (nI_nlt (a := 2000) (by omega) (by omega))) (fun h => ?_)
  refine lv_iload_n hx hb dX1_scatter_16 rfl (lv_at hl 2 rfl) ?_
  refine lv_iconst (v := 1) hx hb dX1_scatter_17 (by decide) ?_
  refine lv_icmp_lt hx hb dX1_scatter_18 rfl (fun h => absurd h hb1) (fun h => ?_)
  refine lv_iload_n hx hb dX1_scatter_21 rfl (lv_at hl 2 rfl) ?_
  refine lv_bipush (v := 16) hx hb dX1_scatter_22 (by decide) ?_
  refine lv_icmp_le hx hb dX1_scatter_24 rfl (fun h => ?_) (fun h => absurd hb2 h)
  refine lv_aload_n hx hb dX1_scatter_33 rfl (lv_at hl 0 rfl) ?_
  refine x1_get_size C0 hK hP 0 rfl rfl dX1_scatter_34 ?_
  refine lv_iload_n hx hb dX1_scatter_37 rfl (lv_at hl 3 rfl) ?_
  refine lv_iadd hx hb dX1_scatter_38 ?_
  refine xr_top (nI_add n c0) ?_
  refine lv_sipush (v := 2000) hx hb dX1_scatter_39 (by decide) ?_
  refine lv_icmp_le hx hb dX1_scatter_42 rfl (fun h => absurd h (nI_ge (a := 2000) (by omega) (by omega))) (fun h => ?_)
  refine lv_aload_n hx hb dX1_scatter_45 rfl (lv_at hl 0 rfl) ?_
  refine lv_iconst (v := 2) hx hb dX1_scatter_46 (by decide) ?_
  refine xr_vcall (As := [.int 2]) (rest := []) (nA := 1) C0 (m_fail l D q cI tyr wr _ n 0 f g 2) (gV wM_X1_X1_fail wI_X1_fail wV_X1_X1_fail wN_X1 wC_X1_fail) (by decide +kernel) rfl rfl rfl ⟨by decide, by decide⟩ hK hP hD hS hA 0 rfl rfl hl.1 rfl (Nat.le_of_ble_eq_true rfl) dX1_scatter_47 ⟨Nat.le_of_ble_eq_true rfl, Nat.le_of_ble_eq_true rfl⟩ (fun v w H locs hv hP hD hz hS => ?_)
  obtain ⟨rfl, rfl⟩ := hv
  exact xr_iret C0 hlk hr (⟨rfl, rfl⟩) hP hD hS dX1_scatter_50
end
section
/-! The reference: turn, upTo, sort, the constructor (rows laid by wip/whole/p12.py). -/
theorem rs_pred_le (a : Nat) (h : a < 2 ^ 31) : nI a - 1 ≤ nI a := by
  rcases Nat.eq_zero_or_pos a with e | e
  · subst e; decide
  · rw [rs_pre a e]; exact nI_le (by omega) h
set_option maxHeartbeats 4000000 in
set_option maxRecDepth 100000 in
/-- turn, in range -/
theorem m_turn0 (l : Launch) (D : va_G) (q : Nat → Nat) (cI : ClassId) (tyr : List (ClassId × FieldType)) (wr : va_W) (sz n : Nat) (k : Int32) (f g : Nat → Int32) (a b : Nat) (h1 : a ≤ b) (h2 : b ≤ n) (hn : n ≤ 2000) : xr_Met l yX1_turn (wU yX1_turn cX1_turn 7 (some .int)) ({ frames := 1, cells := 0, slots := 0, locals := 22 }) [.ref (q 0), .int (nI a), .int (nI b)] D (rs_ty cI tyr) (rs_M q cI (k) (n) (f) (g) ++ wr) sz (fun v w => v = some (.int (nI (b - a))) ∧ w = rs_M q cI 0 n (rs_tn f a b ((b - a) / 2)) (rs_tn g a b ((b - a) / 2)) ++ wr) 0 0 := by
  refine xr_startQ (by decide) (Nat.le_of_ble_eq_true rfl) ?_
  intro p e s m args below meth c A ls Q hQ C0 hlk hr hP hK hD hA hl
  have hx := C0.1
  have hb := C0.2.1
  have hS : va_S A s.heap s.heap [] := va_S.rf
  have hl : lv_has ls 7 [(0, .ref (q 0)), (1, .int (nI a)), (2, .int (nI b))] := hl
  refine lv_aload_n hx hb dX1_turn_0 rfl (lv_at hl 0 rfl) ?_
  refine lv_iconst (v := 0) hx hb dX1_turn_1 (by decide) ?_
  refine x1_put_failed C0 hK hP hD hS 0 rfl (Nat.le_of_ble_eq_true rfl) dX1_turn_2 (fun H locs hP hD hS => ?_)
  have hP : va_P D vwCl (rs_M q cI (0) (n) (f) (g) ++ wr) H := hP
  have hD : va_D A (rs_M q cI (0) (n) (f) (g) ++ wr) := hD
  refine lv_aload_n hx hb dX1_turn_5 rfl (lv_at hl 0 rfl) ?_
  refine lv_iload_n hx hb dX1_turn_6 rfl (lv_at hl 1 rfl) ?_
  refine lv_iload_n hx hb dX1_turn_7 rfl (lv_at hl 2 rfl) ?_
  refine xr_vcall (As := [.int (nI a), .int (nI b)]) (rest := []) (nA := 2) C0 (m_bad0 l D q cI tyr wr _ n 0 f g a b h1 h2 hn) (gV wM_X1_X1_bad wI_X1_bad wV_X1_X1_bad wN_X1 wC_X1_bad) (by decide +kernel) rfl rfl rfl ⟨by decide, by decide⟩ hK hP hD hS hA 0 rfl rfl hl.1 rfl (Nat.le_of_ble_eq_true rfl) dX1_turn_8 ⟨Nat.le_of_ble_eq_true rfl, Nat.le_of_ble_eq_true rfl⟩ (fun v w H locs hv hP hD hz hS => ?_)
  obtain ⟨rfl, rfl⟩ := hv
  refine lv_if_eq hx hb dX1_turn_11 rfl (fun h => ?_) (fun h => absurd rfl h)
  rcases Nat.eq_or_lt_of_le h1 with hab | hab
  · skip
    subst hab
    refine lv_iload_n hx hb dX1_turn_20 rfl (lv_at hl 1 rfl) ?_
    refine lv_istore_n hx hb dX1_turn_21 rfl hl (by decide) rfl (fun ls hl => ?_)
    have hl : lv_has ls 7 [(3, .int (nI a)), (0, .ref (q 0)), (1, .int (nI a)), (2, .int (nI a))] := hl
    refine lv_iload_n hx hb dX1_turn_22 rfl (lv_at hl 3 rfl) ?_
    refine lv_iconst (v := 1) hx hb dX1_turn_23 (by decide) ?_
    refine lv_isub hx hb dX1_turn_24 ?_
    refine lv_istore hx hb dX1_turn_25 hl (by decide) rfl (fun ls hl => ?_)
    have hl : lv_has ls 7 [(4, .int ((nI a) - 1)), (3, .int (nI a)), (0, .ref (q 0)), (1, .int (nI a)), (2, .int (nI a))] := hl
    refine lv_iload_n hx hb dX1_turn_27 rfl (lv_at hl 1 rfl) ?_
    refine lv_iload hx hb dX1_turn_28 (lv_at hl 0 rfl) ?_
    refine lv_icmp_ge hx hb dX1_turn_30 rfl (fun h => ?_) (fun h => absurd (rs_pred_le a (by omega)) h)
    refine lv_iload_n hx hb dX1_turn_102 rfl (lv_at hl 4 rfl) ?_
    refine lv_iload_n hx hb dX1_turn_103 rfl (lv_at hl 3 rfl) ?_
    refine lv_isub hx hb dX1_turn_104 ?_
    refine xr_top (pk_sub (Nat.le_refl a)) ?_
    rw [hQ]
    have e0 : (a - a) / 2 = 0 := by omega
    exact xr_iret C0 hlk hr (⟨rfl, by rw [e0]; rfl⟩) hP hD hS dX1_turn_105
  · skip
    have loop : ∀ (j : Nat) (i : Nat) (H : Heap) (locs : List Loc) (ls : Array Slot), i + j = (b - a) / 2 → va_P D vwCl (rs_M q cI (0) (n) (rs_tn f a b i) (rs_tn g a b i) ++ wr) H → va_D A (rs_M q cI (0) (n) (rs_tn f a b i) (rs_tn g a b i) ++ wr) → va_S A s.heap H locs → lv_has ls 7 [(4, .int (nI (b - 1 - i))), (3, .int (nI (a + i))), (0, .ref (q 0)), (1, .int (nI a)), (2, .int (nI b))] → W p l e ({ frames := 1, cells := 0, slots := 0, locals := 22 }) s m args below meth c H locs 0 0 Q (F0 m 27 ls []) := by
      intro j
      induction j with
      | zero =>
        intro i H locs ls hi hP hD hS hl
        refine lv_iload_n hx hb dX1_turn_27 rfl (lv_at hl 1 rfl) ?_
        refine lv_iload hx hb dX1_turn_28 (lv_at hl 0 rfl) ?_
        refine lv_icmp_ge hx hb dX1_turn_30 rfl (fun h => ?_) (fun h => absurd (nI_le (by omega) (by omega)) h)
        refine lv_iload_n hx hb dX1_turn_102 rfl (lv_at hl 4 rfl) ?_
        refine lv_iload_n hx hb dX1_turn_103 rfl (lv_at hl 3 rfl) ?_
        refine lv_isub hx hb dX1_turn_104 ?_
        refine xr_top (pk_sub h1) ?_
        have e : i = (b - a) / 2 := by omega
        subst e
        rw [hQ]
        exact xr_iret C0 hlk hr (⟨rfl, rfl⟩) hP hD hS dX1_turn_105
      | succ j ih =>
        intro i H locs ls hi hP hD hS hl
        refine lv_iload_n hx hb dX1_turn_27 rfl (lv_at hl 1 rfl) ?_
        refine lv_iload hx hb dX1_turn_28 (lv_at hl 0 rfl) ?_
        refine lv_icmp_ge hx hb dX1_turn_30 rfl (fun h => absurd h (nI_ge (by omega) (by omega))) (fun h => ?_)
        refine lv_aload_n hx hb dX1_turn_33 rfl (lv_at hl 2 rfl) ?_
        refine x1_get_row C0 hK hP 0 rfl rfl dX1_turn_34 ?_
        refine lv_iload_n hx hb dX1_turn_37 rfl (lv_at hl 1 rfl) ?_
        refine xr_ald C0 hK hP 1 rfl (j := a + i) (by omega) (by decide) dX1_turn_38 ?_
        refine lv_istore hx hb dX1_turn_39 hl (by decide) rfl (fun ls hl => ?_)
        have hl : lv_has ls 7 [(5, .int ((rs_tn f a b i) (a + i))), (4, .int (nI (b - 1 - i))), (3, .int (nI (a + i))), (0, .ref (q 0)), (1, .int (nI a)), (2, .int (nI b))] := hl
        refine lv_aload_n hx hb dX1_turn_41 rfl (lv_at hl 3 rfl) ?_
        refine x1_get_tags C0 hK hP 0 rfl rfl dX1_turn_42 ?_
        refine lv_iload_n hx hb dX1_turn_45 rfl (lv_at hl 2 rfl) ?_
        refine xr_ald C0 hK hP 2 rfl (j := a + i) (by omega) (by decide) dX1_turn_46 ?_
        refine lv_istore hx hb dX1_turn_47 hl (by decide) rfl (fun ls hl => ?_)
        have hl : lv_has ls 7 [(6, .int ((rs_tn g a b i) (a + i))), (5, .int ((rs_tn f a b i) (a + i))), (4, .int (nI (b - 1 - i))), (3, .int (nI (a + i))), (0, .ref (q 0)), (1, .int (nI a)), (2, .int (nI b))] := hl
        refine lv_aload_n hx hb dX1_turn_49 rfl (lv_at hl 4 rfl) ?_
        refine x1_get_row C0 hK hP 0 rfl rfl dX1_turn_50 ?_
        refine lv_iload_n hx hb dX1_turn_53 rfl (lv_at hl 3 rfl) ?_
        refine lv_aload_n hx hb dX1_turn_54 rfl (lv_at hl 4 rfl) ?_
        refine x1_get_row C0 hK hP 0 rfl rfl dX1_turn_55 ?_
        refine lv_iload hx hb dX1_turn_58 (lv_at hl 2 rfl) ?_
        refine xr_ald C0 hK hP 1 rfl (j := b - 1 - i) (by omega) (by decide) dX1_turn_60 ?_
        refine xr_ast C0 hK hP hD hS 1 rfl (j := a + i) (by omega) (by decide) dX1_turn_61 (fun H locs hP hD hS => ?_)
        have hP : va_P D vwCl (rs_M q cI (0) (n) (upd (rs_tn f a b i) (a + i) ((rs_tn f a b i) (b - 1 - i))) (rs_tn g a b i) ++ wr) H := hP
        have hD : va_D A (rs_M q cI (0) (n) (upd (rs_tn f a b i) (a + i) ((rs_tn f a b i) (b - 1 - i))) (rs_tn g a b i) ++ wr) := hD
        refine lv_aload_n hx hb dX1_turn_62 rfl (lv_at hl 4 rfl) ?_
        refine x1_get_tags C0 hK hP 0 rfl rfl dX1_turn_63 ?_
        refine lv_iload_n hx hb dX1_turn_66 rfl (lv_at hl 3 rfl) ?_
        refine lv_aload_n hx hb dX1_turn_67 rfl (lv_at hl 4 rfl) ?_
        refine x1_get_tags C0 hK hP 0 rfl rfl dX1_turn_68 ?_
        refine lv_iload hx hb dX1_turn_71 (lv_at hl 2 rfl) ?_
        refine xr_ald C0 hK hP 2 rfl (j := b - 1 - i) (by omega) (by decide) dX1_turn_73 ?_
        refine xr_ast C0 hK hP hD hS 2 rfl (j := a + i) (by omega) (by decide) dX1_turn_74 (fun H locs hP hD hS => ?_)
        have hP : va_P D vwCl (rs_M q cI (0) (n) (upd (rs_tn f a b i) (a + i) ((rs_tn f a b i) (b - 1 - i))) (upd (rs_tn g a b i) (a + i) ((rs_tn g a b i) (b - 1 - i))) ++ wr) H := hP
        have hD : va_D A (rs_M q cI (0) (n) (upd (rs_tn f a b i) (a + i) ((rs_tn f a b i) (b - 1 - i))) (upd (rs_tn g a b i) (a + i) ((rs_tn g a b i) (b - 1 - i))) ++ wr) := hD
        refine lv_aload_n hx hb dX1_turn_75 rfl (lv_at hl 4 rfl) ?_
        refine x1_get_row C0 hK hP 0 rfl rfl dX1_turn_76 ?_
        refine lv_iload hx hb dX1_turn_79 (lv_at hl 2 rfl) ?_
        refine lv_iload hx hb dX1_turn_81 (lv_at hl 1 rfl) ?_
        refine xr_ast C0 hK hP hD hS 1 rfl (j := b - 1 - i) (by omega) (by decide) dX1_turn_83 (fun H locs hP hD hS => ?_)
        have hP : va_P D vwCl (rs_M q cI (0) (n) (upd (upd (rs_tn f a b i) (a + i) ((rs_tn f a b i) (b - 1 - i))) (b - 1 - i) ((rs_tn f a b i) (a + i))) (upd (rs_tn g a b i) (a + i) ((rs_tn g a b i) (b - 1 - i))) ++ wr) H := hP
        have hD : va_D A (rs_M q cI (0) (n) (upd (upd (rs_tn f a b i) (a + i) ((rs_tn f a b i) (b - 1 - i))) (b - 1 - i) ((rs_tn f a b i) (a + i))) (upd (rs_tn g a b i) (a + i) ((rs_tn g a b i) (b - 1 - i))) ++ wr) := hD
        refine lv_aload_n hx hb dX1_turn_84 rfl (lv_at hl 4 rfl) ?_
        refine x1_get_tags C0 hK hP 0 rfl rfl dX1_turn_85 ?_
        refine lv_iload hx hb dX1_turn_88 (lv_at hl 2 rfl) ?_
        refine lv_iload hx hb dX1_turn_90 (lv_at hl 0 rfl) ?_
        refine xr_ast C0 hK hP hD hS 2 rfl (j := b - 1 - i) (by omega) (by decide) dX1_turn_92 (fun H locs hP hD hS => ?_)
        have hP : va_P D vwCl (rs_M q cI (0) (n) (upd (upd (rs_tn f a b i) (a + i) ((rs_tn f a b i) (b - 1 - i))) (b - 1 - i) ((rs_tn f a b i) (a + i))) (upd (upd (rs_tn g a b i) (a + i) ((rs_tn g a b i) (b - 1 - i))) (b - 1 - i) ((rs_tn g a b i) (a + i))) ++ wr) H := hP
        have hD : va_D A (rs_M q cI (0) (n) (upd (upd (rs_tn f a b i) (a + i) ((rs_tn f a b i) (b - 1 - i))) (b - 1 - i) ((rs_tn f a b i) (a + i))) (upd (upd (rs_tn g a b i) (a + i) ((rs_tn g a b i) (b - 1 - i))) (b - 1 - i) ((rs_tn g a b i) (a + i))) ++ wr) := hD
        have ed : nI (b - 1 - i) + Int32.ofInt (-1) = nI (b - 1 - (i + 1)) := by
          have q := rs_dec (b - 1 - (i + 1))
          rwa [show b - 1 - (i + 1) + 1 = b - 1 - i by omega] at q
        refine lv_iinc (k := 2) hx hb dX1_turn_93 hl rfl (ed) (by decide) rfl (fun ls hl => ?_)
        have hl : lv_has ls 7 [(4, .int (nI (b - 1 - (i + 1)))), (6, .int ((rs_tn g a b i) (a + i))), (5, .int ((rs_tn f a b i) (a + i))), (3, .int (nI (a + i))), (0, .ref (q 0)), (1, .int (nI a)), (2, .int (nI b))] := hl
        refine lv_iinc (k := 3) hx hb dX1_turn_96 hl rfl (rs_inc (a + i)) (by decide) rfl (fun ls hl => ?_)
        have hl : lv_has ls 7 [(3, .int (nI (a + (i + 1)))), (4, .int (nI (b - 1 - (i + 1)))), (6, .int ((rs_tn g a b i) (a + i))), (5, .int ((rs_tn f a b i) (a + i))), (0, .ref (q 0)), (1, .int (nI a)), (2, .int (nI b))] := hl
        refine lv_goto hx hb dX1_turn_99 rfl ?_
        have hl : lv_has ls 7 [(4, .int (nI (b - 1 - (i + 1)))), (3, .int (nI (a + (i + 1)))), (0, .ref (q 0)), (1, .int (nI a)), (2, .int (nI b))] := lv_sub hl [1, 0, 4, 5, 6] rfl
        have e1 : ∀ F : Nat → Int32, upd (upd F (a + i) (F (b - 1 - i))) (b - 1 - i) (F (a + i)) = upd (upd F (a + i) (F (b - 1 - i))) (b - 1 - i) (F (a + i)) := fun _ => rfl
        exact ih (i + 1) H locs ls (by omega) hP hD hS hl
    refine lv_iload_n hx hb dX1_turn_20 rfl (lv_at hl 1 rfl) ?_
    refine lv_istore_n hx hb dX1_turn_21 rfl hl (by decide) rfl (fun ls hl => ?_)
    have hl : lv_has ls 7 [(3, .int (nI a)), (0, .ref (q 0)), (1, .int (nI a)), (2, .int (nI b))] := hl
    refine lv_iload_n hx hb dX1_turn_22 rfl (lv_at hl 3 rfl) ?_
    refine lv_iconst (v := 1) hx hb dX1_turn_23 (by decide) ?_
    refine lv_isub hx hb dX1_turn_24 ?_
    refine xr_top (rs_pre b (by omega)) ?_
    refine lv_istore hx hb dX1_turn_25 hl (by decide) rfl (fun ls hl => ?_)
    have hl : lv_has ls 7 [(4, .int (nI (b - 1))), (3, .int (nI a)), (0, .ref (q 0)), (1, .int (nI a)), (2, .int (nI b))] := hl
    exact loop ((b - a) / 2) 0 _ _ ls (by omega) hP hD hS hl
set_option maxHeartbeats 4000000 in
set_option maxRecDepth 100000 in
/-- turn, not in range -/
theorem m_turn1 (l : Launch) (D : va_G) (q : Nat → Nat) (cI : ClassId) (tyr : List (ClassId × FieldType)) (wr : va_W) (sz n : Nat) (k : Int32) (f g : Nat → Int32) (a b : Int32) (hn : n ≤ 2000) (hbad : a < 0 ∨ b < a ∨ nI n < b) : xr_Met l yX1_turn (wU yX1_turn cX1_turn 7 (some .int)) ({ frames := 1, cells := 0, slots := 0, locals := 22 }) [.ref (q 0), .int a, .int b] D (rs_ty cI tyr) (rs_M q cI (k) (n) (f) (g) ++ wr) sz (fun v w => v = some (.int 0) ∧ w = rs_M q cI (1) n f g ++ wr) 0 0 := by
  refine xr_start (by decide) (Nat.le_of_ble_eq_true rfl) ?_
  intro p e s m args below meth c A ls C0 hlk hr hnm hP hK hD hA hl
  have hx := C0.1
  have hb := C0.2.1
  have hS : va_S A s.heap s.heap [] := va_S.rf
  have hl : lv_has ls 7 [(0, .ref (q 0)), (1, .int a), (2, .int b)] := hl
  refine lv_aload_n hx hb dX1_turn_0 rfl (lv_at hl 0 rfl) ?_
  refine lv_iconst (v := 0) hx hb dX1_turn_1 (by decide) ?_
  refine x1_put_failed C0 hK hP hD hS 0 rfl (Nat.le_of_ble_eq_true rfl) dX1_turn_2 (fun H locs hP hD hS => ?_)
  have hP : va_P D vwCl (rs_M q cI (0) (n) (f) (g) ++ wr) H := hP
  have hD : va_D A (rs_M q cI (0) (n) (f) (g) ++ wr) := hD
  refine lv_aload_n hx hb dX1_turn_5 rfl (lv_at hl 0 rfl) ?_
  refine lv_iload_n hx hb dX1_turn_6 rfl (lv_at hl 1 rfl) ?_
  refine lv_iload_n hx hb dX1_turn_7 rfl (lv_at hl 2 rfl) ?_
  refine xr_vcall (As := [.int a, .int b]) (rest := []) (nA := 2) C0 (m_bad1 l D q cI tyr wr _ n 0 f g a b hn hbad) (gV wM_X1_X1_bad wI_X1_bad wV_X1_X1_bad wN_X1 wC_X1_bad) (by decide +kernel) rfl rfl rfl ⟨by decide, by decide⟩ hK hP hD hS hA 0 rfl rfl hl.1 rfl (Nat.le_of_ble_eq_true rfl) dX1_turn_8 ⟨Nat.le_of_ble_eq_true rfl, Nat.le_of_ble_eq_true rfl⟩ (fun v w H locs hv hP hD hz hS => ?_)
  obtain ⟨rfl, rfl⟩ := hv
  refine lv_if_eq hx hb dX1_turn_11 rfl (fun h => absurd h (by decide)) (fun h => ?_)
  refine lv_aload_n hx hb dX1_turn_14 rfl (lv_at hl 0 rfl) ?_
  refine lv_iconst (v := 1) hx hb dX1_turn_15 (by decide) ?_
  refine xr_vcall (As := [.int 1]) (rest := []) (nA := 1) C0 (m_fail l D q cI tyr wr _ n 0 f g 1) (gV wM_X1_X1_fail wI_X1_fail wV_X1_X1_fail wN_X1 wC_X1_fail) (by decide +kernel) rfl rfl rfl ⟨by decide, by decide⟩ hK hP hD hS hA 0 rfl rfl hl.1 rfl (Nat.le_of_ble_eq_true rfl) dX1_turn_16 ⟨Nat.le_of_ble_eq_true rfl, Nat.le_of_ble_eq_true rfl⟩ (fun v w H locs hv hP hD hz hS => ?_)
  obtain ⟨rfl, rfl⟩ := hv
  exact xr_iret C0 hlk hr (⟨rfl, rfl⟩) hP hD hS dX1_turn_19
set_option maxHeartbeats 4000000 in
set_option maxRecDepth 100000 in
/-- upTo, in range -/
theorem m_upTo0 (l : Launch) (D : va_G) (q : Nat → Nat) (cI : ClassId) (tyr : List (ClassId × FieldType)) (wr : va_W) (sz n : Nat) (k : Int32) (f g : Nat → Int32) (o x b : Int32) (h1 : ¬ o < 0) (h2 : o ≤ 3) (hn : n ≤ 2000) : xr_Met l yX1_upTo (wU yX1_upTo cX1_upTo 5 (some .int)) ({ frames := 1, cells := 0, slots := 0, locals := 22 }) [.ref (q 0), .int o, .int x, .int b] D (rs_ty cI tyr) (rs_M q cI (k) (n) (f) (g) ++ wr) sz (fun v w => (∃ t, v = some (.int (nI t)) ∧ rs_uT o x b f n t) ∧ w = rs_M q cI (0) n f g ++ wr) 0 0 := by
  refine xr_startQ (by decide) (Nat.le_of_ble_eq_true rfl) ?_
  intro p e s m args below meth c A ls Q hQ C0 hlk hr hP hK hD hA hl
  have hx := C0.1
  have hb := C0.2.1
  have hS : va_S A s.heap s.heap [] := va_S.rf
  have hl : lv_has ls 5 [(0, .ref (q 0)), (1, .int o), (2, .int x), (3, .int b)] := hl
  refine lv_aload_n hx hb dX1_upTo_0 rfl (lv_at hl 0 rfl) ?_
  refine lv_iconst (v := 0) hx hb dX1_upTo_1 (by decide) ?_
  refine x1_put_failed C0 hK hP hD hS 0 rfl (Nat.le_of_ble_eq_true rfl) dX1_upTo_2 (fun H locs hP hD hS => ?_)
  have hP : va_P D vwCl (rs_M q cI (0) (n) (f) (g) ++ wr) H := hP
  have hD : va_D A (rs_M q cI (0) (n) (f) (g) ++ wr) := hD
  refine lv_iload_n hx hb dX1_upTo_5 rfl (lv_at hl 1 rfl) ?_
  refine lv_if_lt hx hb dX1_upTo_6 rfl (fun h => absurd h h1) (fun h => ?_)
  refine lv_iload_n hx hb dX1_upTo_9 rfl (lv_at hl 1 rfl) ?_
  refine lv_iconst (v := 3) hx hb dX1_upTo_10 (by decide) ?_
  refine lv_icmp_le hx hb dX1_upTo_11 rfl (fun h => ?_) (fun h => absurd h2 h)
  have loop : ∀ (j : Nat) (i : Nat) (H : Heap) (locs : List Loc) (ls : Array Slot), i + j = n → (∀ t, t < i → rs_go o x b (f t)) → va_P D vwCl (rs_M q cI (0) (n) (f) (g) ++ wr) H → va_D A (rs_M q cI (0) (n) (f) (g) ++ wr) → va_S A s.heap H locs → lv_has ls 5 [(4, .int (nI i)), (0, .ref (q 0)), (1, .int o), (2, .int x), (3, .int b)] → W p l e ({ frames := 1, cells := 0, slots := 0, locals := 22 }) s m args below meth c H locs 0 0 Q (F0 m 23 ls []) := by
    intro j
    induction j with
    | zero =>
      intro i H locs ls hi hgo hP hD hS hl
      refine lv_iload hx hb dX1_upTo_23 (lv_at hl 0 rfl) ?_
      refine lv_aload_n hx hb dX1_upTo_25 rfl (lv_at hl 1 rfl) ?_
      refine x1_get_size C0 hK hP 0 rfl rfl dX1_upTo_26 ?_
      refine lv_icmp_ge hx hb dX1_upTo_29 rfl (fun h => ?_) (fun h => absurd (nI_le (by omega) (by omega)) h)
      have e : i = n := by omega
      subst e
      refine lv_iload hx hb dX1_upTo_87 (lv_at hl 0 rfl) ?_
      rw [hQ]
      exact xr_iret C0 hlk hr (⟨⟨_, rfl, Nat.le_refl _, hgo, fun h => absurd h (by omega)⟩, rfl⟩) hP hD hS dX1_upTo_89
    | succ j ih =>
      intro i H locs ls hi hgo hP hD hS hl
      refine lv_iload hx hb dX1_upTo_23 (lv_at hl 0 rfl) ?_
      refine lv_aload_n hx hb dX1_upTo_25 rfl (lv_at hl 1 rfl) ?_
      refine x1_get_size C0 hK hP 0 rfl rfl dX1_upTo_26 ?_
      refine lv_icmp_ge hx hb dX1_upTo_29 rfl (fun h => absurd h (nI_ge (by omega) (by omega))) (fun h => ?_)
      refine lv_iload_n hx hb dX1_upTo_32 rfl (lv_at hl 4 rfl) ?_
      refine lv_if_eq hx hb dX1_upTo_33 rfl (fun h => ?_) (fun h => ?_)
      · skip
        have hb0 := h
        refine lv_aload_n hx hb dX1_upTo_60 rfl (lv_at hl 1 rfl) ?_
        refine lv_iload_n hx hb dX1_upTo_61 rfl (lv_at hl 2 rfl) ?_
        refine lv_aload_n hx hb dX1_upTo_62 rfl (lv_at hl 1 rfl) ?_
        refine x1_get_row C0 hK hP 0 rfl rfl dX1_upTo_63 ?_
        refine lv_iload hx hb dX1_upTo_66 (lv_at hl 0 rfl) ?_
        refine xr_ald C0 hK hP 1 rfl (j := i) (by omega) (by decide) dX1_upTo_68 ?_
        refine xr_vcall (As := [.int o, .int (f i)]) (rest := []) (nA := 2) C0 (m_rank l D q cI tyr wr _ n 0 f g o (f i) h1 h2) (gV wM_X1_X1_rank wI_X1_rank wV_X1_X1_rank wN_X1 wC_X1_rank) (by decide +kernel) rfl rfl rfl ⟨by decide, by decide⟩ hK hP hD hS hA 0 rfl rfl hl.1 rfl (Nat.le_of_ble_eq_true rfl) dX1_upTo_69 ⟨Nat.le_of_ble_eq_true rfl, Nat.le_of_ble_eq_true rfl⟩ (fun v w H locs hv hP hD hz hS => ?_)
        obtain ⟨rfl, rfl⟩ := hv
        refine lv_aload_n hx hb dX1_upTo_72 rfl (lv_at hl 1 rfl) ?_
        refine lv_iload_n hx hb dX1_upTo_73 rfl (lv_at hl 2 rfl) ?_
        refine lv_iload_n hx hb dX1_upTo_74 rfl (lv_at hl 3 rfl) ?_
        refine xr_vcall (As := [.int o, .int x]) (rest := [.int (rs_rk o (f i))]) (nA := 2) C0 (m_rank l D q cI tyr wr _ n 0 f g o x h1 h2) (gV wM_X1_X1_rank wI_X1_rank wV_X1_X1_rank wN_X1 wC_X1_rank) (by decide +kernel) rfl rfl rfl ⟨by decide, by decide⟩ hK hP hD hS hA 0 rfl rfl hl.1 rfl (Nat.le_of_ble_eq_true rfl) dX1_upTo_75 ⟨Nat.le_of_ble_eq_true rfl, Nat.le_of_ble_eq_true rfl⟩ (fun v w H locs hv hP hD hz hS => ?_)
        obtain ⟨rfl, rfl⟩ := hv
        refine lv_icmp_ge hx hb dX1_upTo_78 rfl (fun h => ?_) (fun h => ?_)
        · skip
          refine lv_iload hx hb dX1_upTo_87 (lv_at hl 0 rfl) ?_
          rw [hQ]
          exact xr_iret C0 hlk hr (⟨⟨i, rfl, by omega, hgo, fun _ q => q.2 ⟨rs_le_as (rs_nlt q.1) h, hb0⟩⟩, rfl⟩) hP hD hS dX1_upTo_89
        · skip
          refine lv_iinc (k := 0) hx hb dX1_upTo_81 hl rfl (rs_inc i) (by decide) rfl (fun ls hl => ?_)
          have hl : lv_has ls 5 [(4, .int (nI (i + 1))), (0, .ref (q 0)), (1, .int o), (2, .int x), (3, .int b)] := hl
          refine lv_goto hx hb dX1_upTo_84 rfl ?_
          exact ih (i + 1) H locs ls (by omega) (lt_s hgo (⟨fun q => h (rs_lt_le q), fun q => h (q.1 ▸ rs_le_rf _)⟩)) hP hD hS hl
      · skip
        have hb0 := h
        refine lv_aload_n hx hb dX1_upTo_36 rfl (lv_at hl 1 rfl) ?_
        refine lv_iload_n hx hb dX1_upTo_37 rfl (lv_at hl 2 rfl) ?_
        refine lv_aload_n hx hb dX1_upTo_38 rfl (lv_at hl 1 rfl) ?_
        refine x1_get_row C0 hK hP 0 rfl rfl dX1_upTo_39 ?_
        refine lv_iload hx hb dX1_upTo_42 (lv_at hl 0 rfl) ?_
        refine xr_ald C0 hK hP 1 rfl (j := i) (by omega) (by decide) dX1_upTo_44 ?_
        refine xr_vcall (As := [.int o, .int (f i)]) (rest := []) (nA := 2) C0 (m_rank l D q cI tyr wr _ n 0 f g o (f i) h1 h2) (gV wM_X1_X1_rank wI_X1_rank wV_X1_X1_rank wN_X1 wC_X1_rank) (by decide +kernel) rfl rfl rfl ⟨by decide, by decide⟩ hK hP hD hS hA 0 rfl rfl hl.1 rfl (Nat.le_of_ble_eq_true rfl) dX1_upTo_45 ⟨Nat.le_of_ble_eq_true rfl, Nat.le_of_ble_eq_true rfl⟩ (fun v w H locs hv hP hD hz hS => ?_)
        obtain ⟨rfl, rfl⟩ := hv
        refine lv_aload_n hx hb dX1_upTo_48 rfl (lv_at hl 1 rfl) ?_
        refine lv_iload_n hx hb dX1_upTo_49 rfl (lv_at hl 2 rfl) ?_
        refine lv_iload_n hx hb dX1_upTo_50 rfl (lv_at hl 3 rfl) ?_
        refine xr_vcall (As := [.int o, .int x]) (rest := [.int (rs_rk o (f i))]) (nA := 2) C0 (m_rank l D q cI tyr wr _ n 0 f g o x h1 h2) (gV wM_X1_X1_rank wI_X1_rank wV_X1_X1_rank wN_X1 wC_X1_rank) (by decide +kernel) rfl rfl rfl ⟨by decide, by decide⟩ hK hP hD hS hA 0 rfl rfl hl.1 rfl (Nat.le_of_ble_eq_true rfl) dX1_upTo_51 ⟨Nat.le_of_ble_eq_true rfl, Nat.le_of_ble_eq_true rfl⟩ (fun v w H locs hv hP hD hz hS => ?_)
        obtain ⟨rfl, rfl⟩ := hv
        refine lv_icmp_gt hx hb dX1_upTo_54 rfl (fun h => ?_) (fun h => ?_)
        · skip
          refine lv_iload hx hb dX1_upTo_87 (lv_at hl 0 rfl) ?_
          rw [hQ]
          exact xr_iret C0 hlk hr (⟨⟨i, rfl, by omega, hgo, fun _ q => q.1 h⟩, rfl⟩) hP hD hS dX1_upTo_89
        · skip
          refine lv_goto hx hb dX1_upTo_57 rfl ?_
          refine lv_iinc (k := 0) hx hb dX1_upTo_81 hl rfl (rs_inc i) (by decide) rfl (fun ls hl => ?_)
          have hl : lv_has ls 5 [(4, .int (nI (i + 1))), (0, .ref (q 0)), (1, .int o), (2, .int x), (3, .int b)] := hl
          refine lv_goto hx hb dX1_upTo_84 rfl ?_
          exact ih (i + 1) H locs ls (by omega) (lt_s hgo (⟨h, fun q => hb0 q.2⟩)) hP hD hS hl
  refine lv_iconst (v := 0) hx hb dX1_upTo_20 (by decide) ?_
  refine lv_istore hx hb dX1_upTo_21 hl (by decide) rfl (fun ls hl => ?_)
  have hl : lv_has ls 5 [(4, .int (nI 0)), (0, .ref (q 0)), (1, .int o), (2, .int x), (3, .int b)] := hl
  exact loop n 0 _ _ ls (by omega) lt_0 hP hD hS hl
set_option maxHeartbeats 4000000 in
set_option maxRecDepth 100000 in
/-- upTo, no such order -/
theorem m_upTo1 (l : Launch) (D : va_G) (q : Nat → Nat) (cI : ClassId) (tyr : List (ClassId × FieldType)) (wr : va_W) (sz n : Nat) (k : Int32) (f g : Nat → Int32) (o x b : Int32) (hbad : o < 0 ∨ 3 < o) : xr_Met l yX1_upTo (wU yX1_upTo cX1_upTo 5 (some .int)) ({ frames := 1, cells := 0, slots := 0, locals := 22 }) [.ref (q 0), .int o, .int x, .int b] D (rs_ty cI tyr) (rs_M q cI (k) (n) (f) (g) ++ wr) sz (fun v w => v = some (.int 0) ∧ w = rs_M q cI (1) n f g ++ wr) 0 0 := by
  refine xr_start (by decide) (Nat.le_of_ble_eq_true rfl) ?_
  intro p e s m args below meth c A ls C0 hlk hr hnm hP hK hD hA hl
  have hx := C0.1
  have hb := C0.2.1
  have hS : va_S A s.heap s.heap [] := va_S.rf
  have hl : lv_has ls 5 [(0, .ref (q 0)), (1, .int o), (2, .int x), (3, .int b)] := hl
  refine lv_aload_n hx hb dX1_upTo_0 rfl (lv_at hl 0 rfl) ?_
  refine lv_iconst (v := 0) hx hb dX1_upTo_1 (by decide) ?_
  refine x1_put_failed C0 hK hP hD hS 0 rfl (Nat.le_of_ble_eq_true rfl) dX1_upTo_2 (fun H locs hP hD hS => ?_)
  have hP : va_P D vwCl (rs_M q cI (0) (n) (f) (g) ++ wr) H := hP
  have hD : va_D A (rs_M q cI (0) (n) (f) (g) ++ wr) := hD
  refine lv_iload_n hx hb dX1_upTo_5 rfl (lv_at hl 1 rfl) ?_
  refine lv_if_lt hx hb dX1_upTo_6 rfl (fun h => ?_) (fun h => ?_)
  · skip
    refine lv_aload_n hx hb dX1_upTo_14 rfl (lv_at hl 0 rfl) ?_
    refine lv_iconst (v := 1) hx hb dX1_upTo_15 (by decide) ?_
    refine xr_vcall (As := [.int 1]) (rest := []) (nA := 1) C0 (m_fail l D q cI tyr wr _ n 0 f g 1) (gV wM_X1_X1_fail wI_X1_fail wV_X1_X1_fail wN_X1 wC_X1_fail) (by decide +kernel) rfl rfl rfl ⟨by decide, by decide⟩ hK hP hD hS hA 0 rfl rfl hl.1 rfl (Nat.le_of_ble_eq_true rfl) dX1_upTo_16 ⟨Nat.le_of_ble_eq_true rfl, Nat.le_of_ble_eq_true rfl⟩ (fun v w H locs hv hP hD hz hS => ?_)
    obtain ⟨rfl, rfl⟩ := hv
    exact xr_iret C0 hlk hr (⟨rfl, rfl⟩) hP hD hS dX1_upTo_19
  · skip
    have n1 := h
    refine lv_iload_n hx hb dX1_upTo_9 rfl (lv_at hl 1 rfl) ?_
    refine lv_iconst (v := 3) hx hb dX1_upTo_10 (by decide) ?_
    refine lv_icmp_le hx hb dX1_upTo_11 rfl (fun h => absurd h (rs_lt_nle (hbad.resolve_left n1))) (fun h => ?_)
    refine lv_aload_n hx hb dX1_upTo_14 rfl (lv_at hl 0 rfl) ?_
    refine lv_iconst (v := 1) hx hb dX1_upTo_15 (by decide) ?_
    refine xr_vcall (As := [.int 1]) (rest := []) (nA := 1) C0 (m_fail l D q cI tyr wr _ n 0 f g 1) (gV wM_X1_X1_fail wI_X1_fail wV_X1_X1_fail wN_X1 wC_X1_fail) (by decide +kernel) rfl rfl rfl ⟨by decide, by decide⟩ hK hP hD hS hA 0 rfl rfl hl.1 rfl (Nat.le_of_ble_eq_true rfl) dX1_upTo_16 ⟨Nat.le_of_ble_eq_true rfl, Nat.le_of_ble_eq_true rfl⟩ (fun v w H locs hv hP hD hz hS => ?_)
    obtain ⟨rfl, rfl⟩ := hv
    exact xr_iret C0 hlk hr (⟨rfl, rfl⟩) hP hD hS dX1_upTo_19
set_option maxHeartbeats 4000000 in
set_option maxRecDepth 100000 in
/-- sort, a number out of range -/
theorem m_sort1 (l : Launch) (D : va_G) (q : Nat → Nat) (cI : ClassId) (tyr : List (ClassId × FieldType)) (wr : va_W) (sz n : Nat) (k : Int32) (f g : Nat → Int32) (o a b : Int32) (hn : n ≤ 2000) (hbad : o < 0 ∨ 3 < o ∨ a < 0 ∨ b < a ∨ nI n < b) : xr_Met l yX1_sort (wU yX1_sort cX1_sort 8 (some .int)) ({ frames := 1, cells := 0, slots := 0, locals := 22 }) [.ref (q 0), .int o, .int a, .int b] D (rs_ty cI tyr) (rs_M q cI (k) (n) (f) (g) ++ wr) sz (fun v w => v = some (.int 0) ∧ w = rs_M q cI (1) n f g ++ wr) 0 0 := by
  refine xr_start (by decide) (Nat.le_of_ble_eq_true rfl) ?_
  intro p e s m args below meth c A ls C0 hlk hr hnm hP hK hD hA hl
  have hx := C0.1
  have hb := C0.2.1
  have hS : va_S A s.heap s.heap [] := va_S.rf
  have hl : lv_has ls 8 [(0, .ref (q 0)), (1, .int o), (2, .int a), (3, .int b)] := hl
  refine lv_aload_n hx hb dX1_sort_0 rfl (lv_at hl 0 rfl) ?_
  refine lv_iconst (v := 0) hx hb dX1_sort_1 (by decide) ?_
  refine x1_put_failed C0 hK hP hD hS 0 rfl (Nat.le_of_ble_eq_true rfl) dX1_sort_2 (fun H locs hP hD hS => ?_)
  have hP : va_P D vwCl (rs_M q cI (0) (n) (f) (g) ++ wr) H := hP
  have hD : va_D A (rs_M q cI (0) (n) (f) (g) ++ wr) := hD
  refine lv_iload_n hx hb dX1_sort_5 rfl (lv_at hl 1 rfl) ?_
  refine lv_if_lt hx hb dX1_sort_6 rfl (fun h => ?_) (fun h => ?_)
  · skip
    refine lv_aload_n hx hb dX1_sort_23 rfl (lv_at hl 0 rfl) ?_
    refine lv_iconst (v := 1) hx hb dX1_sort_24 (by decide) ?_
    refine xr_vcall (As := [.int 1]) (rest := []) (nA := 1) C0 (m_fail l D q cI tyr wr _ n 0 f g 1) (gV wM_X1_X1_fail wI_X1_fail wV_X1_X1_fail wN_X1 wC_X1_fail) (by decide +kernel) rfl rfl rfl ⟨by decide, by decide⟩ hK hP hD hS hA 0 rfl rfl hl.1 rfl (Nat.le_of_ble_eq_true rfl) dX1_sort_25 ⟨Nat.le_of_ble_eq_true rfl, Nat.le_of_ble_eq_true rfl⟩ (fun v w H locs hv hP hD hz hS => ?_)
    obtain ⟨rfl, rfl⟩ := hv
    exact xr_iret C0 hlk hr (⟨rfl, rfl⟩) hP hD hS dX1_sort_28
  · skip
    have n1 := h
    refine lv_iload_n hx hb dX1_sort_9 rfl (lv_at hl 1 rfl) ?_
    refine lv_iconst (v := 3) hx hb dX1_sort_10 (by decide) ?_
    refine lv_icmp_gt hx hb dX1_sort_11 rfl (fun h => ?_) (fun h => ?_)
    · skip
      refine lv_aload_n hx hb dX1_sort_23 rfl (lv_at hl 0 rfl) ?_
      refine lv_iconst (v := 1) hx hb dX1_sort_24 (by decide) ?_
      refine xr_vcall (As := [.int 1]) (rest := []) (nA := 1) C0 (m_fail l D q cI tyr wr _ n 0 f g 1) (gV wM_X1_X1_fail wI_X1_fail wV_X1_X1_fail wN_X1 wC_X1_fail) (by decide +kernel) rfl rfl rfl ⟨by decide, by decide⟩ hK hP hD hS hA 0 rfl rfl hl.1 rfl (Nat.le_of_ble_eq_true rfl) dX1_sort_25 ⟨Nat.le_of_ble_eq_true rfl, Nat.le_of_ble_eq_true rfl⟩ (fun v w H locs hv hP hD hz hS => ?_)
      obtain ⟨rfl, rfl⟩ := hv
      exact xr_iret C0 hlk hr (⟨rfl, rfl⟩) hP hD hS dX1_sort_28
    · skip
      have n2 := h
      refine lv_aload_n hx hb dX1_sort_14 rfl (lv_at hl 0 rfl) ?_
      refine lv_iload_n hx hb dX1_sort_15 rfl (lv_at hl 2 rfl) ?_
      refine lv_iload_n hx hb dX1_sort_16 rfl (lv_at hl 3 rfl) ?_
      refine xr_vcall (As := [.int a, .int b]) (rest := []) (nA := 2) C0 (m_bad1 l D q cI tyr wr _ n 0 f g a b hn ((hbad.resolve_left n1).resolve_left n2)) (gV wM_X1_X1_bad wI_X1_bad wV_X1_X1_bad wN_X1 wC_X1_bad) (by decide +kernel) rfl rfl rfl ⟨by decide, by decide⟩ hK hP hD hS hA 0 rfl rfl hl.1 rfl (Nat.le_of_ble_eq_true rfl) dX1_sort_17 ⟨Nat.le_of_ble_eq_true rfl, Nat.le_of_ble_eq_true rfl⟩ (fun v w H locs hv hP hD hz hS => ?_)
      obtain ⟨rfl, rfl⟩ := hv
      refine lv_if_eq hx hb dX1_sort_20 rfl (fun h => absurd h (by decide)) (fun h => ?_)
      refine lv_aload_n hx hb dX1_sort_23 rfl (lv_at hl 0 rfl) ?_
      refine lv_iconst (v := 1) hx hb dX1_sort_24 (by decide) ?_
      refine xr_vcall (As := [.int 1]) (rest := []) (nA := 1) C0 (m_fail l D q cI tyr wr _ n 0 f g 1) (gV wM_X1_X1_fail wI_X1_fail wV_X1_X1_fail wN_X1 wC_X1_fail) (by decide +kernel) rfl rfl rfl ⟨by decide, by decide⟩ hK hP hD hS hA 0 rfl rfl hl.1 rfl (Nat.le_of_ble_eq_true rfl) dX1_sort_25 ⟨Nat.le_of_ble_eq_true rfl, Nat.le_of_ble_eq_true rfl⟩ (fun v w H locs hv hP hD hz hS => ?_)
      obtain ⟨rfl, rfl⟩ := hv
      exact xr_iret C0 hlk hr (⟨rfl, rfl⟩) hP hD hS dX1_sort_28
/-- a part of at most one number, taken for the empty one -/
theorem rs_St.down {o : Int32} {a b i : Nat} {f g F G : Nat → Int32} (hab : a ≤ b) (h : rs_St o a i f g F G) (hi : i = max b (a + 1)) : rs_St o a b f g F G := by
  rcases Nat.eq_or_lt_of_le hab with e | e
  · subst e
    rw [show max a (a + 1) = a + 1 by omega] at hi
    subst hi
    have key : ∀ j, F j = f j ∧ G j = g j := by
      intro j
      by_cases hj : j = a
      · have e1 := (rs_St.zero (o := o) (a := a) (b := a + 1) (f := f) (g := g) (Nat.le_refl _)).one h
        rw [← e1.1, ← e1.2]
        exact ⟨rfl, rfl⟩
      · exact h.1.1 j (by omega)
    have eF : F = f := funext fun j => (key j).1
    have eG : G = g := funext fun j => (key j).2
    rw [eF, eG]
    exact rs_St.zero (by omega)
  · rw [show max b (a + 1) = b by omega] at hi
    subst hi
    exact h
set_option maxHeartbeats 4000000 in
set_option maxRecDepth 100000 in
/-- sort, in range -/
theorem m_sort0 (l : Launch) (D : va_G) (q : Nat → Nat) (cI : ClassId) (tyr : List (ClassId × FieldType)) (wr : va_W) (sz n : Nat) (k : Int32) (f g : Nat → Int32) (o : Int32) (a b : Nat) (h1 : ¬ o < 0) (h2 : o ≤ 3) (hab : a ≤ b) (hbn : b ≤ n) (hn : n ≤ 2000) : xr_Met l yX1_sort (wU yX1_sort cX1_sort 8 (some .int)) ({ frames := 1, cells := 0, slots := 0, locals := 22 }) [.ref (q 0), .int o, .int (nI a), .int (nI b)] D (rs_ty cI tyr) (rs_M q cI (k) (n) (f) (g) ++ wr) sz (fun v w => ∃ f' g' : Nat → Int32, v = some (.int (nI (b - a))) ∧ w = rs_M q cI 0 n f' g' ++ wr ∧ rs_St o a b f g f' g') 0 0 := by
  refine xr_startQ (by decide) (Nat.le_of_ble_eq_true rfl) ?_
  intro p e s m args below meth c A ls Q hQ C0 hlk hr hP hK hD hA hl
  have hx := C0.1
  have hb := C0.2.1
  have hS : va_S A s.heap s.heap [] := va_S.rf
  have hl : lv_has ls 8 [(0, .ref (q 0)), (1, .int o), (2, .int (nI a)), (3, .int (nI b))] := hl
  refine lv_aload_n hx hb dX1_sort_0 rfl (lv_at hl 0 rfl) ?_
  refine lv_iconst (v := 0) hx hb dX1_sort_1 (by decide) ?_
  refine x1_put_failed C0 hK hP hD hS 0 rfl (Nat.le_of_ble_eq_true rfl) dX1_sort_2 (fun H locs hP hD hS => ?_)
  have hP : va_P D vwCl (rs_M q cI (0) (n) (f) (g) ++ wr) H := hP
  have hD : va_D A (rs_M q cI (0) (n) (f) (g) ++ wr) := hD
  refine lv_iload_n hx hb dX1_sort_5 rfl (lv_at hl 1 rfl) ?_
  refine lv_if_lt hx hb dX1_sort_6 rfl (fun h => absurd h h1) (fun h => ?_)
  refine lv_iload_n hx hb dX1_sort_9 rfl (lv_at hl 1 rfl) ?_
  refine lv_iconst (v := 3) hx hb dX1_sort_10 (by decide) ?_
  refine lv_icmp_gt hx hb dX1_sort_11 rfl (fun h => absurd h2 (rs_lt_nle h)) (fun h => ?_)
  refine lv_aload_n hx hb dX1_sort_14 rfl (lv_at hl 0 rfl) ?_
  refine lv_iload_n hx hb dX1_sort_15 rfl (lv_at hl 2 rfl) ?_
  refine lv_iload_n hx hb dX1_sort_16 rfl (lv_at hl 3 rfl) ?_
  refine xr_vcall (As := [.int (nI a), .int (nI b)]) (rest := []) (nA := 2) C0 (m_bad0 l D q cI tyr wr _ n 0 f g a b hab hbn hn) (gV wM_X1_X1_bad wI_X1_bad wV_X1_X1_bad wN_X1 wC_X1_bad) (by decide +kernel) rfl rfl rfl ⟨by decide, by decide⟩ hK hP hD hS hA 0 rfl rfl hl.1 rfl (Nat.le_of_ble_eq_true rfl) dX1_sort_17 ⟨Nat.le_of_ble_eq_true rfl, Nat.le_of_ble_eq_true rfl⟩ (fun v w H locs hv hP hD hz hS => ?_)
  obtain ⟨rfl, rfl⟩ := hv
  refine lv_if_eq hx hb dX1_sort_20 rfl (fun h => ?_) (fun h => absurd rfl h)
  have loop : ∀ (j : Nat) (i : Nat) (F G : Nat → Int32) (H : Heap) (locs : List Loc) (ls : Array Slot), i + j = max b (a + 1) → a < i → rs_St o a i f g F G → va_P D vwCl (rs_M q cI (0) (n) (F) (G) ++ wr) H → va_D A (rs_M q cI (0) (n) (F) (G) ++ wr) → va_S A s.heap H locs → lv_has ls 8 [(4, .int (nI i)), (0, .ref (q 0)), (1, .int o), (2, .int (nI a)), (3, .int (nI b))] → W p l e ({ frames := 1, cells := 0, slots := 0, locals := 22 }) s m args below meth c H locs 0 0 Q (F0 m 34 ls []) := by
    intro j
    induction j with
    | zero =>
      intro i F G H locs ls hi hai hSt hP hD hS hl
      refine lv_iload hx hb dX1_sort_34 (lv_at hl 0 rfl) ?_
      refine lv_iload_n hx hb dX1_sort_36 rfl (lv_at hl 4 rfl) ?_
      refine lv_icmp_ge hx hb dX1_sort_37 rfl (fun h => ?_) (fun h => absurd (nI_le (by omega) (by omega)) h)
      refine lv_iload_n hx hb dX1_sort_154 rfl (lv_at hl 4 rfl) ?_
      refine lv_iload_n hx hb dX1_sort_155 rfl (lv_at hl 3 rfl) ?_
      refine lv_isub hx hb dX1_sort_156 ?_
      refine xr_top (pk_sub hab) ?_
      rw [hQ]
      exact xr_iret C0 hlk hr (⟨F, G, rfl, rfl, rs_St.down hab hSt (by omega)⟩) hP hD hS dX1_sort_157
    | succ j ih =>
      intro i F G H locs ls hi hai hSt hP hD hS hl
      have hib : i < b := by omega
      refine lv_iload hx hb dX1_sort_34 (lv_at hl 0 rfl) ?_
      refine lv_iload_n hx hb dX1_sort_36 rfl (lv_at hl 4 rfl) ?_
      refine lv_icmp_ge hx hb dX1_sort_37 rfl (fun h => absurd h (nI_ge hib (by omega))) (fun h => ?_)
      refine lv_aload_n hx hb dX1_sort_40 rfl (lv_at hl 1 rfl) ?_
      refine x1_get_row C0 hK hP 0 rfl rfl dX1_sort_41 ?_
      refine lv_iload hx hb dX1_sort_44 (lv_at hl 0 rfl) ?_
      refine xr_ald C0 hK hP 1 rfl (j := i) (by omega) (by decide) dX1_sort_46 ?_
      refine lv_istore hx hb dX1_sort_47 hl (by decide) rfl (fun ls hl => ?_)
      have hl : lv_has ls 8 [(5, .int (F i)), (4, .int (nI i)), (0, .ref (q 0)), (1, .int o), (2, .int (nI a)), (3, .int (nI b))] := hl
      refine lv_aload_n hx hb dX1_sort_49 rfl (lv_at hl 2 rfl) ?_
      refine x1_get_tags C0 hK hP 0 rfl rfl dX1_sort_50 ?_
      refine lv_iload hx hb dX1_sort_53 (lv_at hl 1 rfl) ?_
      refine xr_ald C0 hK hP 2 rfl (j := i) (by omega) (by decide) dX1_sort_55 ?_
      refine lv_istore hx hb dX1_sort_56 hl (by decide) rfl (fun ls hl => ?_)
      have hl : lv_has ls 8 [(6, .int (G i)), (5, .int (F i)), (4, .int (nI i)), (0, .ref (q 0)), (1, .int o), (2, .int (nI a)), (3, .int (nI b))] := hl
      refine lv_iload hx hb dX1_sort_58 (lv_at hl 2 rfl) ?_
      refine lv_istore hx hb dX1_sort_60 hl (by decide) rfl (fun ls hl => ?_)
      have hl : lv_has ls 8 [(7, .int (nI i)), (6, .int (G i)), (5, .int (F i)), (4, .int (nI i)), (0, .ref (q 0)), (1, .int o), (2, .int (nI a)), (3, .int (nI b))] := hl
      have fin : ∀ (c0 : Nat) (F' G' : Nat → Int32) (H : Heap) (locs : List Loc) (ls : Array Slot), a ≤ c0 → c0 ≤ i → (∀ u, F' u = if c0 < u ∧ u ≤ i then F (u - 1) else F u) → (∀ u, G' u = if c0 < u ∧ u ≤ i then G (u - 1) else G u) → (∀ u, c0 ≤ u → u < i → rs_rk o (F i) < rs_rk o (F u)) → (c0 = a ∨ rs_rk o (F (c0 - 1)) ≤ rs_rk o (F i)) → va_P D vwCl (rs_M q cI (0) (n) (F') (G') ++ wr) H → va_D A (rs_M q cI (0) (n) (F') (G') ++ wr) → va_S A s.heap H locs → lv_has ls 8 [(7, .int (nI c0)), (6, .int (G i)), (5, .int (F i)), (4, .int (nI i)), (0, .ref (q 0)), (1, .int o), (2, .int (nI a)), (3, .int (nI b))] → W p l e ({ frames := 1, cells := 0, slots := 0, locals := 22 }) s m args below meth c H locs 0 0 Q (F0 m 130 ls []) := by
        intro c0 F' G' H locs ls k1 k2 hF hG hgt hle hP hD hS hl
        refine lv_aload_n hx hb dX1_sort_130 rfl (lv_at hl 4 rfl) ?_
        refine x1_get_row C0 hK hP 0 rfl rfl dX1_sort_131 ?_
        refine lv_iload hx hb dX1_sort_134 (lv_at hl 0 rfl) ?_
        refine lv_iload hx hb dX1_sort_136 (lv_at hl 2 rfl) ?_
        refine xr_ast C0 hK hP hD hS 1 rfl (j := c0) (by omega) (by decide) dX1_sort_138 (fun H locs hP hD hS => ?_)
        have hP : va_P D vwCl (rs_M q cI (0) (n) (upd F' c0 (F i)) (G') ++ wr) H := hP
        have hD : va_D A (rs_M q cI (0) (n) (upd F' c0 (F i)) (G') ++ wr) := hD
        refine lv_aload_n hx hb dX1_sort_139 rfl (lv_at hl 4 rfl) ?_
        refine x1_get_tags C0 hK hP 0 rfl rfl dX1_sort_140 ?_
        refine lv_iload hx hb dX1_sort_143 (lv_at hl 0 rfl) ?_
        refine lv_iload hx hb dX1_sort_145 (lv_at hl 1 rfl) ?_
        refine xr_ast C0 hK hP hD hS 2 rfl (j := c0) (by omega) (by decide) dX1_sort_147 (fun H locs hP hD hS => ?_)
        have hP : va_P D vwCl (rs_M q cI (0) (n) (upd F' c0 (F i)) (upd G' c0 (G i)) ++ wr) H := hP
        have hD : va_D A (rs_M q cI (0) (n) (upd F' c0 (F i)) (upd G' c0 (G i)) ++ wr) := hD
        refine lv_iinc (k := 3) hx hb dX1_sort_148 hl rfl (rs_inc i) (by decide) rfl (fun ls hl => ?_)
        have hl : lv_has ls 8 [(4, .int (nI (i + 1))), (7, .int (nI c0)), (6, .int (G i)), (5, .int (F i)), (0, .ref (q 0)), (1, .int o), (2, .int (nI a)), (3, .int (nI b))] := hl
        refine lv_goto hx hb dX1_sort_151 rfl ?_
        have hl : lv_has ls 8 [(4, .int (nI (i + 1))), (0, .ref (q 0)), (1, .int o), (2, .int (nI a)), (3, .int (nI b))] := lv_sub hl [0, 4, 5, 6, 7] rfl
        refine ih (i + 1) _ _ H locs ls (by omega) (by omega) (rs_St.step (by omega) hSt (rs_ins k1 k2 hSt.2 hgt hle (fun u => ?_) (fun u => ?_))) hP hD hS hl
        · by_cases hu : u = c0
          · subst hu; rw [pk_us, if_pos rfl]
          · rw [pk_un hu, if_neg hu]; exact hF u
        · by_cases hu : u = c0
          · subst hu; rw [pk_us, if_pos rfl]
          · rw [pk_un hu, if_neg hu]; exact hG u
      have inner : ∀ (t : Nat) (F' G' : Nat → Int32) (H : Heap) (locs : List Loc) (ls : Array Slot), a ≤ (a + t) → (a + t) ≤ i → (∀ u, F' u = if (a + t) < u ∧ u ≤ i then F (u - 1) else F u) → (∀ u, G' u = if (a + t) < u ∧ u ≤ i then G (u - 1) else G u) → (∀ u, (a + t) ≤ u → u < i → rs_rk o (F i) < rs_rk o (F u)) → va_P D vwCl (rs_M q cI (0) (n) (F') (G') ++ wr) H → va_D A (rs_M q cI (0) (n) (F') (G') ++ wr) → va_S A s.heap H locs → lv_has ls 8 [(7, .int (nI (a + t))), (6, .int (G i)), (5, .int (F i)), (4, .int (nI i)), (0, .ref (q 0)), (1, .int o), (2, .int (nI a)), (3, .int (nI b))] → W p l e ({ frames := 1, cells := 0, slots := 0, locals := 22 }) s m args below meth c H locs 0 0 Q (F0 m 62 ls []) := by
        intro t
        induction t with
        | zero =>
          intro F' G' H locs ls k1 k2 hF hG hgt hP hD hS hl
          refine lv_iload hx hb dX1_sort_62 (lv_at hl 0 rfl) ?_
          refine lv_iload_n hx hb dX1_sort_64 rfl (lv_at hl 6 rfl) ?_
          refine lv_icmp_le hx hb dX1_sort_65 rfl (fun h => ?_) (fun h => absurd (nI_le (by omega) (by omega)) h)
          exact fin (a + 0) F' G' H locs ls k1 k2 hF hG hgt (Or.inl rfl) hP hD hS hl
        | succ t iht =>
          intro F' G' H locs ls k1 k2 hF hG hgt hP hD hS hl
          have hc : F' (a + t) = F (a + t) := by rw [hF, if_neg (by omega)]
          have hcG : G' (a + t) = G (a + t) := by rw [hG, if_neg (by omega)]
          refine lv_iload hx hb dX1_sort_62 (lv_at hl 0 rfl) ?_
          refine lv_iload_n hx hb dX1_sort_64 rfl (lv_at hl 6 rfl) ?_
          refine lv_icmp_le hx hb dX1_sort_65 rfl (fun h => absurd h (nI_ge (by omega) (by omega))) (fun h => ?_)
          refine lv_aload_n hx hb dX1_sort_68 rfl (lv_at hl 4 rfl) ?_
          refine lv_iload_n hx hb dX1_sort_69 rfl (lv_at hl 5 rfl) ?_
          refine lv_aload_n hx hb dX1_sort_70 rfl (lv_at hl 4 rfl) ?_
          refine x1_get_row C0 hK hP 0 rfl rfl dX1_sort_71 ?_
          refine lv_iload hx hb dX1_sort_74 (lv_at hl 0 rfl) ?_
          refine lv_iconst (v := 1) hx hb dX1_sort_76 (by decide) ?_
          refine lv_isub hx hb dX1_sort_77 ?_
          refine xr_top (nI_pred (a + t)) ?_
          refine xr_ald C0 hK hP 1 rfl (j := a + t) (by omega) (by decide) dX1_sort_78 ?_
          refine xr_vcall (As := [.int o, .int (F' (a + t))]) (rest := []) (nA := 2) C0 (m_rank l D q cI tyr wr _ n 0 F' G' o (F' (a + t)) h1 h2) (gV wM_X1_X1_rank wI_X1_rank wV_X1_X1_rank wN_X1 wC_X1_rank) (by decide +kernel) rfl rfl rfl ⟨by decide, by decide⟩ hK hP hD hS hA 0 rfl rfl hl.1 rfl (Nat.le_of_ble_eq_true rfl) dX1_sort_79 ⟨Nat.le_of_ble_eq_true rfl, Nat.le_of_ble_eq_true rfl⟩ (fun v w H locs hv hP hD hz hS => ?_)
          obtain ⟨rfl, rfl⟩ := hv
          refine lv_aload_n hx hb dX1_sort_82 rfl (lv_at hl 4 rfl) ?_
          refine lv_iload_n hx hb dX1_sort_83 rfl (lv_at hl 5 rfl) ?_
          refine lv_iload hx hb dX1_sort_84 (lv_at hl 2 rfl) ?_
          refine xr_vcall (As := [.int o, .int (F i)]) (rest := [.int (rs_rk o (F' (a + t)))]) (nA := 2) C0 (m_rank l D q cI tyr wr _ n 0 F' G' o (F i) h1 h2) (gV wM_X1_X1_rank wI_X1_rank wV_X1_X1_rank wN_X1 wC_X1_rank) (by decide +kernel) rfl rfl rfl ⟨by decide, by decide⟩ hK hP hD hS hA 0 rfl rfl hl.1 rfl (Nat.le_of_ble_eq_true rfl) dX1_sort_86 ⟨Nat.le_of_ble_eq_true rfl, Nat.le_of_ble_eq_true rfl⟩ (fun v w H locs hv hP hD hz hS => ?_)
          obtain ⟨rfl, rfl⟩ := hv
          refine lv_icmp_le hx hb dX1_sort_89 rfl (fun h => ?_) (fun h => ?_)
          · skip
            exact fin (a + (t + 1)) F' G' H locs ls k1 k2 hF hG hgt (Or.inr (by rw [show a + (t + 1) - 1 = a + t by omega, ← hc]; exact h)) hP hD hS hl
          · skip
            refine lv_aload_n hx hb dX1_sort_92 rfl (lv_at hl 4 rfl) ?_
            refine x1_get_row C0 hK hP 0 rfl rfl dX1_sort_93 ?_
            refine lv_iload hx hb dX1_sort_96 (lv_at hl 0 rfl) ?_
            refine lv_aload_n hx hb dX1_sort_98 rfl (lv_at hl 4 rfl) ?_
            refine x1_get_row C0 hK hP 0 rfl rfl dX1_sort_99 ?_
            refine lv_iload hx hb dX1_sort_102 (lv_at hl 0 rfl) ?_
            refine lv_iconst (v := 1) hx hb dX1_sort_104 (by decide) ?_
            refine lv_isub hx hb dX1_sort_105 ?_
            refine xr_top (nI_pred (a + t)) ?_
            refine xr_ald C0 hK hP 1 rfl (j := a + t) (by omega) (by decide) dX1_sort_106 ?_
            refine xr_ast C0 hK hP hD hS 1 rfl (j := a + (t + 1)) (by omega) (by decide) dX1_sort_107 (fun H locs hP hD hS => ?_)
            have hP : va_P D vwCl (rs_M q cI (0) (n) (upd F' (a + (t + 1)) (F' (a + t))) (G') ++ wr) H := hP
            have hD : va_D A (rs_M q cI (0) (n) (upd F' (a + (t + 1)) (F' (a + t))) (G') ++ wr) := hD
            refine lv_aload_n hx hb dX1_sort_108 rfl (lv_at hl 4 rfl) ?_
            refine x1_get_tags C0 hK hP 0 rfl rfl dX1_sort_109 ?_
            refine lv_iload hx hb dX1_sort_112 (lv_at hl 0 rfl) ?_
            refine lv_aload_n hx hb dX1_sort_114 rfl (lv_at hl 4 rfl) ?_
            refine x1_get_tags C0 hK hP 0 rfl rfl dX1_sort_115 ?_
            refine lv_iload hx hb dX1_sort_118 (lv_at hl 0 rfl) ?_
            refine lv_iconst (v := 1) hx hb dX1_sort_120 (by decide) ?_
            refine lv_isub hx hb dX1_sort_121 ?_
            refine xr_top (nI_pred (a + t)) ?_
            refine xr_ald C0 hK hP 2 rfl (j := a + t) (by omega) (by decide) dX1_sort_122 ?_
            refine xr_ast C0 hK hP hD hS 2 rfl (j := a + (t + 1)) (by omega) (by decide) dX1_sort_123 (fun H locs hP hD hS => ?_)
            have hP : va_P D vwCl (rs_M q cI (0) (n) (upd F' (a + (t + 1)) (F' (a + t))) (upd G' (a + (t + 1)) (G' (a + t))) ++ wr) H := hP
            have hD : va_D A (rs_M q cI (0) (n) (upd F' (a + (t + 1)) (F' (a + t))) (upd G' (a + (t + 1)) (G' (a + t))) ++ wr) := hD
            refine lv_iinc (k := 0) hx hb dX1_sort_124 hl rfl (rs_dec (a + t)) (by decide) rfl (fun ls hl => ?_)
            have hl : lv_has ls 8 [(7, .int (nI (a + t))), (6, .int (G i)), (5, .int (F i)), (4, .int (nI i)), (0, .ref (q 0)), (1, .int o), (2, .int (nI a)), (3, .int (nI b))] := hl
            refine lv_goto hx hb dX1_sort_127 rfl ?_
            refine iht _ _ H locs ls (by omega) (by omega) (fun u => ?_) (fun u => ?_) (fun u hu1 hu2 => ?_) hP hD hS hl
            · by_cases hu : u = a + (t + 1)
              · subst hu; rw [pk_us, if_pos (by omega), show a + (t + 1) - 1 = a + t by omega]; exact hc
              · rw [pk_un hu, hF u]
                by_cases hc2 : a + (t + 1) < u ∧ u ≤ i
                · rw [if_pos hc2, if_pos (by omega)]
                · rw [if_neg hc2, if_neg (by omega)]
            · by_cases hu : u = a + (t + 1)
              · subst hu; rw [pk_us, if_pos (by omega), show a + (t + 1) - 1 = a + t by omega]; exact hcG
              · rw [pk_un hu, hG u]
                by_cases hc2 : a + (t + 1) < u ∧ u ≤ i
                · rw [if_pos hc2, if_pos (by omega)]
                · rw [if_neg hc2, if_neg (by omega)]
            · rcases Nat.eq_or_lt_of_le hu1 with e | e
              · rw [← e, ← hc]; exact rs_nle h
              · exact hgt u (by omega) hu2
      have ei : i = a + (i - a) := by omega
      have hl : lv_has ls 8 [(7, .int (nI (a + (i - a)))), (6, .int (G i)), (5, .int (F i)), (4, .int (nI i)), (0, .ref (q 0)), (1, .int o), (2, .int (nI a)), (3, .int (nI b))] := by rw [← ei]; exact hl
      exact inner (i - a) F G H locs ls (by omega) (by omega) (fun u => by rw [if_neg (by omega)]) (fun u => by rw [if_neg (by omega)]) (fun u hu1 hu2 => absurd hu2 (by omega)) hP hD hS hl
  refine lv_iload_n hx hb dX1_sort_29 rfl (lv_at hl 2 rfl) ?_
  refine lv_iconst (v := 1) hx hb dX1_sort_30 (by decide) ?_
  refine lv_iadd hx hb dX1_sort_31 ?_
  refine xr_top (nI_1 a) ?_
  refine lv_istore hx hb dX1_sort_32 hl (by decide) rfl (fun ls hl => ?_)
  have hl : lv_has ls 8 [(4, .int (nI (a + 1))), (0, .ref (q 0)), (1, .int o), (2, .int (nI a)), (3, .int (nI b))] := hl
  exact loop (max b (a + 1) - (a + 1)) (a + 1) f g _ _ ls (by omega) (by omega) (rs_St.zero (Nat.le_refl _)) hP hD hS hl
set_option maxHeartbeats 4000000 in
set_option maxRecDepth 100000 in
/-- RunSorterModel(): two new rows, no numbers; the class's cells stand beside it -/
theorem m_init (l : Launch) (D : va_G) (q : Nat → Nat) (cI : ClassId) (tyr : List (ClassId × FieldType)) (sz n a : Nat) (f g sf sg r : Nat → Int32) : xr_Met l yX1_init (wU yX1_init cX1_init 1 none) ({ frames := 1, cells := 2, slots := 4000, locals := 20 }) [.ref a] D (rs_ty cI tyr) (rs_X q cI n f g sf sg r ++ [(a, .inr (1, [.int 0, .int 0, .null, .null]))]) sz (fun v w => v = none ∧ ∃ t : Nat → Nat, t 0 = a ∧ w = rs_X q cI n f g sf sg r ++ rs_M t cI 0 0 (fun _ => 0) (fun _ => 0)) 2 4000 := by
  refine xr_start (by decide) (Nat.le_of_ble_eq_true rfl) ?_
  intro p e s m args below meth c A ls C0 hlk hr hnm hP hK hD hA hl
  have hx := C0.1
  have hb := C0.2.1
  have hS : va_S A s.heap s.heap [] := va_S.rf
  have hl : lv_has ls 1 [(0, .ref a)] := hl
  refine lv_aload_n hx hb dX1_init_0 rfl (lv_at hl 0 rfl) ?_
  refine W.objInit hx hb C0.2.2.2.1 (C0.2.2.2.2 _ wM_X1_Object_init) (C0.2.2.2.2 _ wI_Object_init) (C0.2.2.2.2 _ wC_Object_init) rfl (by rw [C0.2.2.1]; exact hl.1) rfl dX1_init_1 (Nat.le_of_ble_eq_true rfl) (Nat.le_of_ble_eq_true rfl) ?_
  refine W.eq (g2 := F0 m 4 ls []) rfl ?_
  refine lv_aload_n hx hb dX1_init_4 rfl (lv_at hl 0 rfl) ?_
  refine lv_sipush (v := 2000) hx hb dX1_init_5 (by decide) ?_
  refine xr_newa (N := 2000) C0 hK hP hD hS hA rfl (by decide) (Nat.le_of_ble_eq_true rfl) (Nat.le_of_ble_eq_true rfl) dX1_init_8 (fun q1 H hP hD hS => ?_)
  have hP : va_P D vwCl (rs_X q cI n f g sf sg r ++ [(a, .inr (1, [.int 0, .int 0, .null, .null])), (q1, .inl (cI, 2000, .inl (fun _ => 0)))]) H := hP
  have hD : va_D A (rs_X q cI n f g sf sg r ++ [(a, .inr (1, [.int 0, .int 0, .null, .null])), (q1, .inl (cI, 2000, .inl (fun _ => 0)))]) := hD
  refine x1_putF_row C0 hnm hK hP hD hS 6 rfl (Nat.le_of_ble_eq_true rfl) dX1_init_10 (fun H locs hP hD hS => ?_)
  have hP : va_P D vwCl (rs_X q cI n f g sf sg r ++ [(a, .inr (1, [.int 0, .int 0, .ref q1, .null])), (q1, .inl (cI, 2000, .inl (fun _ => 0)))]) H := hP
  have hD : va_D A (rs_X q cI n f g sf sg r ++ [(a, .inr (1, [.int 0, .int 0, .ref q1, .null])), (q1, .inl (cI, 2000, .inl (fun _ => 0)))]) := hD
  refine lv_aload_n hx hb dX1_init_13 rfl (lv_at hl 0 rfl) ?_
  refine lv_sipush (v := 2000) hx hb dX1_init_14 (by decide) ?_
  refine xr_newa (N := 2000) C0 hK hP hD hS hA rfl (by decide) (Nat.le_of_ble_eq_true rfl) (Nat.le_of_ble_eq_true rfl) dX1_init_17 (fun q2 H hP hD hS => ?_)
  have hP : va_P D vwCl (rs_X q cI n f g sf sg r ++ [(a, .inr (1, [.int 0, .int 0, .ref q1, .null])), (q1, .inl (cI, 2000, .inl (fun _ => 0))), (q2, .inl (cI, 2000, .inl (fun _ => 0)))]) H := hP
  have hD : va_D A (rs_X q cI n f g sf sg r ++ [(a, .inr (1, [.int 0, .int 0, .ref q1, .null])), (q1, .inl (cI, 2000, .inl (fun _ => 0))), (q2, .inl (cI, 2000, .inl (fun _ => 0)))]) := hD
  refine x1_putF_tags C0 hnm hK hP hD hS 6 rfl (Nat.le_of_ble_eq_true rfl) dX1_init_19 (fun H locs hP hD hS => ?_)
  have hP : va_P D vwCl (rs_X q cI n f g sf sg r ++ [(a, .inr (1, [.int 0, .int 0, .ref q1, .ref q2])), (q1, .inl (cI, 2000, .inl (fun _ => 0))), (q2, .inl (cI, 2000, .inl (fun _ => 0)))]) H := hP
  have hD : va_D A (rs_X q cI n f g sf sg r ++ [(a, .inr (1, [.int 0, .int 0, .ref q1, .ref q2])), (q1, .inl (cI, 2000, .inl (fun _ => 0))), (q2, .inl (cI, 2000, .inl (fun _ => 0)))]) := hD
  exact xr_vret C0 hlk hr ⟨rfl, (fun k => match k with | 0 => a | 1 => q1 | _ => q2), rfl, rfl⟩ hP hD hS dX1_init_22
end
section
/-! The class, where it throws (rows laid by wip/whole/p13.py; they stand on the printed vx_ rows). -/
abbrev eI : String := "java/lang/IllegalArgumentException"
abbrev eO : String := "java/lang/IndexOutOfBoundsException"
abbrev eN : List String := ["java/lang/RuntimeException", "java/lang/Exception"]
abbrev yRT : MethodName := ⟨"java/lang/RuntimeException", "<init>", "(Ljava/lang/String;)V"⟩
abbrev yEX : MethodName := ⟨"java/lang/Exception", "<init>", "(Ljava/lang/String;)V"⟩
abbrev yTH : MethodName := ⟨"java/lang/Throwable", "<init>", "(Ljava/lang/String;)V"⟩
/-- what a throw needs beside the tables' words: Throwable's two statics, the class's three texts, five words of the tables that no callee's list may hold -/
def xr_Z (U : State) : Prop := vx_Zq Bundle.tN "UNASSIGNED_STACK" Bundle.steD (fun _ => False) U U.heap ∧ vx_Zq Bundle.tN "SUPPRESSED_SENTINEL" Bundle.listD (fun _ => False) U U.heap ∧ (∃ a, vk_R RX0 68 "a number is out of range" a U) ∧ (∃ a, vk_R RX0 75 "the row would be too long" a U) ∧ (∃ a, vk_R RX0 78 "there is no number at that index" a U) ∧ va_Nw (.castable eI eI) U ∧ va_Nw (.castable eO eO) U ∧ va_Nw (.declares yRT) U ∧ va_Nw (.declares yEX) U ∧ va_Nw (.declares yTH) U
theorem xr_Z.to {s U : State} (h : xr_Z s) (hU : U.heap = s.heap) (hW : s.WarmedH U.vm) : xr_Z U := by
  obtain ⟨h1, h2, ⟨a3, h3⟩, ⟨a4, h4⟩, ⟨a5, h5⟩, h6, h7, h8, h9, h10⟩ := h
  refine ⟨?_, ?_, ⟨a3, h3.warm hW⟩, ⟨a4, h4.warm hW⟩, ⟨a5, h5.warm hW⟩, va_Nw.warmC hW h6, va_Nw.warmC hW h7, va_Nw.warmD hW h8, va_Nw.warmD hW h9, va_Nw.warmD hW h10⟩
  · rw [hU]; exact vx_Zq.moved hW.alike h1
  · rw [hU]; exact vx_Zq.moved hW.alike h2
def xr_no : Array Value → State → Outcome → State → Prop := fun _ _ _ _ => False
/-- an E was thrown, and nothing that stood before has changed -/
def xr_X (E : String) : String → State → State → Prop := fun E1 st t => E1 = E ∧ st.heap.size ≤ t.heap.size ∧ ∀ q : Nat, q < st.heap.size → t.heap[q]? = st.heap[q]?
def xr_TPc (av : List Value) (D : va_G) (tys : List (ClassId × FieldType)) (ws : va_W) : Array Value → State → Prop := va_Pc av (fun U => va_P D vwCl ws U.heap ∧ va_K D vwCl tys U ∧ xr_Z U)
/-- a method throws an E -/
abbrev xr_TM (l : Launch) (y : MethodName) (wsy : List Cond) (rm : Room) (av : List Value) (D : va_G) (tys : List (ClassId × FieldType)) (ws : va_W) (E : String) : Prop := vx_Met l y wsy rm (xr_TPc av D tys ws) xr_no (xr_X E) 1 6 (fun _ => False)
/-- a method returns, and does nothing to the heap -/
abbrev xr_PM (l : Launch) (y : MethodName) (wsy : List Cond) (rm : Room) (av : List Value) : Prop := Met l y wsy rm (va_Pc av (fun _ => True)) (fun _ st o t => o = .returned none ∧ t.heap = st.heap) 0 0 (fun _ => False)
theorem xr_Tblind {av : List Value} {D : va_G} {tys : List (ClassId × FieldType)} {ws : va_W} : FrameBlind (xr_TPc av D tys ws) := fun a U g mk q => by
  obtain ⟨q0, qP, qK, qZ⟩ := q
  exact ⟨q0, qP, va_K.moved (u := U) (U := U.calling g mk a) (Vm.Alike.refl U.vm) qK, qZ.to (U := U.calling g mk a) rfl (State.WarmedH.refl U)⟩
theorem xr_tstart {l : Launch} {y : MethodName} {cc : ByteArray} {maxL : Nat} {ret : Option FieldType} {rm : Room} {av : List Value} {D : va_G} {tys : List (ClassId × FieldType)} {ws : va_W} {E : String} (hy : plainName y.cls = true) (hlen : (lg_sl av).length ≤ maxL)
    (body : ∀ (p : Program) (e : Env) (s : State) (m : MethodId) (args : Array Value) (below : List Frame) (meth : Method) (c : Code) (ls : Array Slot), CallFix p m c cc maxL s args lw_w y.cls → meth.locks = false → (∀ x ∈ c.exceptionTable.toList, False) → va_P D vwCl ws s.heap → va_K D vwCl tys s → xr_Z s → lv_has ls maxL (lv_args 0 av) →
      W p l e rm s m args below meth c s.heap [] 0 0 (vx_MQ below xr_no (xr_X E) args s 1 6 (fun _ => False)) (F0 m 0 ls [])) : xr_TM l y (wU y cc maxL ret) rm av D tys ws E := by
  refine vx_ofW (cc := cc) (maxL := maxL) (ret := ret) hy rfl ?_
  intro p e s m args below meth c s₁ B hml hout hv
  obtain ⟨rfl, hP, hK, hZ⟩ := hv
  have hts := atoms_spec (ws := wU y cc maxL ret) B.pre
  have hown : s.vm.findClass y.cls = some m.cls := findClass_of_methodNamed B.named
  have hl := lv_entry av (n := maxL) hlen
  rw [lg_entry_eq]
  exact body p e s m _ below meth c _ ⟨B.exec, B.bytes, hml, hown, fun w hw => hts w (List.mem_cons_of_mem _ hw)⟩ B.notSynchronized hout hP hK hZ hl
theorem xr_pstart {l : Launch} {y : MethodName} {cc : ByteArray} {maxL : Nat} {ret : Option FieldType} {rm : Room} {av : List Value} (hy : plainName y.cls = true) (hlen : (lg_sl av).length ≤ maxL)
    (body : ∀ (p : Program) (e : Env) (s : State) (m : MethodId) (args : Array Value) (below : List Frame) (meth : Method) (c : Code) (ls : Array Slot), CallFix p m c cc maxL s args lw_w y.cls → meth.locks = false → meth.sig.returnType = ret → lv_has ls maxL (lv_args 0 av) →
      W p l e rm s m args below meth c s.heap [] 0 0 (MQ below (fun _ st o t => o = .returned none ∧ t.heap = st.heap) args s 0 0 (fun _ => False)) (F0 m 0 ls [])) : xr_PM l y (wU y cc maxL ret) rm av := by
  refine Met.ofW (cc := cc) (maxL := maxL) (ret := ret) hy rfl ?_
  intro p e s m args below meth c s₁ B hml hv
  obtain ⟨rfl, -⟩ := hv
  have hts := atoms_spec (ws := wU y cc maxL ret) B.pre
  have hown : s.vm.findClass y.cls = some m.cls := findClass_of_methodNamed B.named
  have hl := lv_entry av (n := maxL) hlen
  rw [lg_entry_eq]
  exact body p e s m _ below meth c _ ⟨B.exec, B.bytes, hml, hown, fun w hw => hts w (List.mem_cons_of_mem _ hw)⟩ B.notSynchronized B.returns hl
theorem xr_eIg : ∀ w ∈ (vx_atS RX0 70 eI eN).filter goodWord, w ∈ lw_tbl := by decide +kernel
theorem xr_eIn : ∀ w ∈ (vx_atS RX0 70 eI eN).filter (fun w => !goodWord w), w ∈ [Cond.castable eI eI, Cond.declares yRT, Cond.declares yEX, Cond.declares yTH] := by decide +kernel
theorem xr_eIo : ∀ w ∈ Cond.classLink RX0 66 eI :: Cond.initialized eI :: vx_atS RX0 70 eI eN, vx_ot w = true := by decide +kernel
theorem xr_eOg : ∀ w ∈ (vx_atS RX0 77 eO eN).filter goodWord, w ∈ lw_tbl := by decide +kernel
theorem xr_eOn : ∀ w ∈ (vx_atS RX0 77 eO eN).filter (fun w => !goodWord w), w ∈ [Cond.castable eO eO, Cond.declares yRT, Cond.declares yEX, Cond.declares yTH] := by decide +kernel
theorem xr_eOo : ∀ w ∈ Cond.classLink RX0 73 eO :: Cond.initialized eO :: vx_atS RX0 77 eO eN, vx_ot w = true := by decide +kernel
section XT
variable {p : Program} {l : Launch} {e : Env} {R : Room} {s : State} {m : MethodId} {args : Array Value} {below : List Frame} {meth : Method} {c : Code} {H : Heap} {locs : List Loc} {cells slots : Nat} {Q : State → Prop}
variable {D : va_G} {tys : List (ClassId × FieldType)} {A : Nat → Prop} {ws : va_W} {cc : ByteArray} {nL pc : Nat} {own : String} {ls : Array Slot} {st0 rest : List Value}
theorem xr_atI (C0 : CallFix p m c cc nL s args lw_w own) (hZ : xr_Z s) : ∀ w ∈ vx_atS RX0 70 eI eN, w.before args s = true :=
  vx_hat (fun w hw => C0.2.2.2.2 w (List.mem_filter.mpr ⟨xr_eIg w hw, (List.mem_filter.mp hw).2⟩)) xr_eIn (vx_c (va_Nw.use rfl hZ.2.2.2.2.2.1) (vx_c (va_Nw.use rfl hZ.2.2.2.2.2.2.2.1) (vx_c (va_Nw.use rfl hZ.2.2.2.2.2.2.2.2.1) (vx_c (va_Nw.use rfl hZ.2.2.2.2.2.2.2.2.2) vx_n))))
theorem xr_atO (C0 : CallFix p m c cc nL s args lw_w own) (hZ : xr_Z s) : ∀ w ∈ vx_atS RX0 77 eO eN, w.before args s = true :=
  vx_hat (fun w hw => C0.2.2.2.2 w (List.mem_filter.mpr ⟨xr_eOg w hw, (List.mem_filter.mp hw).2⟩)) xr_eOn (vx_c (va_Nw.use rfl hZ.2.2.2.2.2.2.1) (vx_c (va_Nw.use rfl hZ.2.2.2.2.2.2.2.1) (vx_c (va_Nw.use rfl hZ.2.2.2.2.2.2.2.2.1) (vx_c (va_Nw.use rfl hZ.2.2.2.2.2.2.2.2.2) vx_n))))
theorem xr_throwI (hl0 : l.stackTraces = false) (C0 : CallFix p m c cc nL s args lw_w RX0) (hlk : meth.locks = false) (hout : ∀ x ∈ c.exceptionTable.toList, False) (hZ : xr_Z s) (hls : ls.size = nL)
    (d0 : decode cc pc = .ok (.new 66, 3)) (d3 : decode cc (pc + 3) = .ok (.dup, 1)) (d4 : decode cc (pc + 4) = .ok (.ldc 68, 2)) (d6 : decode cc (pc + 6) = .ok (.invokespecial 70, 3)) (d9 : decode cc (pc + 9) = .ok (.athrow, 1))
    (h1 : 5 < R.frames) (h2 : 82 ≤ R.locals) (h3 : 1 ≤ R.cells) (h4 : 6 ≤ R.slots) :
    W p l e R s m args below meth c s.heap [] 0 0 (vx_MQ below xr_no (xr_X eI) args s 1 6 (fun _ => False)) (F0 m pc ls []) := by
  obtain ⟨z1, z2, ⟨a3, z3⟩, -⟩ := id hZ
  exact vx_throwS C0.1 C0.2.1 hl0 C0.2.2.2.1 (by decide +kernel) (by decide +kernel) (C0.2.2.2.2 _ wK_X0_IllegalArgumentException) (C0.2.2.2.2 _ wN_IllegalArgumentException) z3 (xr_atI C0 hZ) xr_eIo z1 z2 va_S.rf (hls.trans C0.2.2.1.symm) d0 d3 d4 d6 d9 (fun x hx => (hout x hx).elim) h1 (by show 0 + (13 * 3 + 43) ≤ _; omega) (by omega) (by omega) hlk (fun t _ b1 b2 => ⟨rfl, b1, b2⟩) (fun z hz => by cases hz) (by decide) (by decide)
theorem xr_throwO (hl0 : l.stackTraces = false) {is : Nat} {tx : String} (hstr : ∃ a, vk_R RX0 is tx a s) (C0 : CallFix p m c cc nL s args lw_w RX0) (hlk : meth.locks = false) (hout : ∀ x ∈ c.exceptionTable.toList, False) (hZ : xr_Z s) (hls : ls.size = nL)
    (d0 : decode cc pc = .ok (.new 73, 3)) (d3 : decode cc (pc + 3) = .ok (.dup, 1)) (d4 : decode cc (pc + 4) = .ok (.ldc is, 2)) (d6 : decode cc (pc + 6) = .ok (.invokespecial 77, 3)) (d9 : decode cc (pc + 9) = .ok (.athrow, 1))
    (h1 : 5 < R.frames) (h2 : 82 ≤ R.locals) (h3 : 1 ≤ R.cells) (h4 : 6 ≤ R.slots) :
    W p l e R s m args below meth c s.heap [] 0 0 (vx_MQ below xr_no (xr_X eO) args s 1 6 (fun _ => False)) (F0 m pc ls []) := by
  obtain ⟨z1, z2, -⟩ := id hZ
  obtain ⟨a3, z3⟩ := hstr
  exact vx_throwS C0.1 C0.2.1 hl0 C0.2.2.2.1 (by decide +kernel) (by decide +kernel) (C0.2.2.2.2 _ wK_X0_IndexOutOfBoundsException) (C0.2.2.2.2 _ wN_IndexOutOfBoundsException) z3 (xr_atO C0 hZ) xr_eOo z1 z2 va_S.rf (hls.trans C0.2.2.1.symm) d0 d3 d4 d6 d9 (fun x hx => (hout x hx).elim) h1 (by show 0 + (13 * 3 + 43) ≤ _; omega) (by omega) (by omega) hlk (fun t _ b1 b2 => ⟨rfl, b1, b2⟩) (fun z hz => by cases hz) (by decide) (by decide)
/-- what the callee threw goes through -/
theorem xr_tleave {E : String} {a : Array Value} (hr : vx_Run p l e R s m args below meth c s.heap [] 0 0 1 6 (F0 m pc ls st0) rest (xr_no a) (xr_X E) (fun _ => False)) (hlk : meth.locks = false) (hout : ∀ x ∈ c.exceptionTable.toList, False) :
    W p l e R s m args below meth c s.heap [] 0 0 (vx_MQ below xr_no (xr_X E) args s 1 6 (fun _ => False)) (F0 m pc ls st0) := by
  intro T hT X
  rcases hr T hT X with ⟨v, st₀, t, T', L, -, -, -, -, -, hq, -⟩ | ⟨q, st₀, t, T', L, E1, ce, h0, X', hL, e1, e2, ⟨rfl, hz, hk⟩, hc, hv, hcl, st⟩
  · exact hq.elim
  · obtain ⟨t2, a1, b1⟩ := vx_out (rest := rest) (Qc := xr_no) (XC := xr_X E1) (free := fun _ => False) (mc := 1) (ms := 6) (pc := pc) (ls := ls) (fun x hx => (hout x hx).elim) hlk (H := T'.heap) (by rw [e1]; exact hc) hv hcl (fun u hu _ => ⟨rfl, by rw [hu, e1, ← h0]; exact hz, fun x hx => by rw [hu, e1, hk x (by rw [h0]; exact hx), h0]⟩) (fun z hz => hL z (by simpa using hz)) (by decide) (by decide) T' rfl X'
    exact ⟨t2, st.trans a1, b1⟩
theorem xr_tcallS {idx maxL nA : Nat} {y : MethodName} {bytes : ByteArray} {ret : Option FieldType} {rm : Room} {As : List Value} {E : String}
    (C0 : CallFix p m c cc nL s args lw_w own) (hM : xr_TM l y (wU y bytes maxL ret) rm As D tys ws E) (hg : GoodIn lw_w (va_wsS own idx y (wU y bytes maxL ret)))
    (hd : y.cls ≠ "java/lang/invoke/MethodHandle" ∧ y.cls ≠ "java/lang/invoke/VarHandle" ∧ (parseMethodDescriptor y.desc).map (fun d => d.parameters.length) = some nA) (hnA : As.length = nA)
    (hrc : rm.cells = 1) (hrs : rm.slots = 6) (hR : rm.frames + 1 ≤ R.frames ∧ 8 + (maxL + 11) + rm.locals ≤ R.locals) (hlk : meth.locks = false) (hout : ∀ x ∈ c.exceptionTable.toList, False)
    (hK : va_K D vwCl tys s) (hP : va_P D vwCl ws s.heap) (hZ : xr_Z s) (hls : ls.size = nL) (hst : st0 = As.reverse ++ rest) (hW : (rest.map fun v => v.category).sum ≤ 8) (hdg : decode cc pc = .ok (.invokestatic idx, 3)) (hcs : 0 + 1 ≤ R.cells ∧ 0 + 6 ≤ R.slots) :
    W p l e R s m args below meth c s.heap [] 0 0 (vx_MQ below xr_no (xr_X E) args s 1 6 (fun _ => False)) (F0 m pc ls st0) :=
  xr_tleave (rest := rest) (vx_runS (n := nA) C0 hM (va_cwS nA C0.2.2.2.2 hg rfl hrc hrs hd hR) ⟨xr_Tblind, fun U hU hW => ⟨rfl, by rw [hU]; exact hP, va_K.moved hW.alike hK, hZ.to hU hW⟩⟩ rfl hnA hls hst (lv_room hW) hdg hcs) hlk hout
theorem xr_tcallV {ci idx maxL N b nA : Nat} {C : String} {T : u_T} {y : MethodName} {bytes : ByteArray} {ret : Option FieldType} {rm : Room} {As : List Value} {fs : List Value} {E : String}
    (C0 : CallFix p m c cc nL s args lw_w own) (hM : xr_TM l y (wU y bytes maxL ret) rm (.ref b :: As) D tys ws E) (hg : GoodIn lw_w (wsV own idx C y (wU y bytes maxL ret)))
    (hd : y.cls = C ∧ y.cls ≠ "java/lang/invoke/MethodHandle" ∧ y.cls ≠ "java/lang/invoke/VarHandle" ∧ (parseMethodDescriptor y.desc).map (fun d => d.parameters.length) = some nA) (hnA : As.length = nA)
    (hrc : rm.cells = 1) (hrs : rm.slots = 6) (hR : rm.frames + 1 ≤ R.frames ∧ 8 + (maxL + 11) + rm.locals ≤ R.locals) (hlk : meth.locks = false) (hout : ∀ x ∈ c.exceptionTable.toList, False)
    (hK : va_K D vwCl tys s) (hP : va_P D vwCl ws s.heap) (hZ : xr_Z s) (q0 : Nat) (he : ws[q0]? = some (b, .inr (ci, fs))) (hc : vwCl[ci]? = some (C, T, N)) (hls : ls.size = nL) (hst : st0 = As.reverse ++ .ref b :: rest) (hW : (rest.map fun v => v.category).sum ≤ 8) (hdg : decode cc pc = .ok (.invokevirtual idx, 3)) (hcs : 0 + 1 ≤ R.cells ∧ 0 + 6 ≤ R.slots) :
    W p l e R s m args below meth c s.heap [] 0 0 (vx_MQ below xr_no (xr_X E) args s 1 6 (fun _ => False)) (F0 m pc ls st0) :=
  xr_tleave (rest := rest) (vx_runV (n := nA) C0 hM (cwV nA C0.2.2.2.2 hg rfl hrc hrs hd hR) ⟨xr_Tblind, va_recv hK hP hc he, fun U hU hW => ⟨rfl, by rw [hU]; exact hP, va_K.moved hW.alike hK, hZ.to hU hW⟩⟩ rfl hnA hls hst (lv_room hW) hdg hcs) hlk hout
/-- a call that returns and leaves the heap as it is -/
theorem xr_pcall {idx maxL nA : Nat} {y : MethodName} {bytes : ByteArray} {ret : Option FieldType} {rm : Room} {As : List Value}
    (C0 : CallFix p m c cc nL s args lw_w own) (hM : xr_PM l y (wU y bytes maxL ret) rm As) (hg : GoodIn lw_w (va_wsS own idx y (wU y bytes maxL ret)))
    (hd : y.cls ≠ "java/lang/invoke/MethodHandle" ∧ y.cls ≠ "java/lang/invoke/VarHandle" ∧ (parseMethodDescriptor y.desc).map (fun d => d.parameters.length) = some nA) (hnA : As.length = nA)
    (hrc : rm.cells = 0) (hrs : rm.slots = 0) (hR : rm.frames + 1 ≤ R.frames ∧ 8 + (maxL + 11) + rm.locals ≤ R.locals)
    (hls : ls.size = nL) (hst : st0 = As.reverse ++ rest) (hW : (rest.map fun v => v.category).sum ≤ 8) (hdg : decode cc pc = .ok (.invokestatic idx, 3)) (hcs : cells ≤ R.cells ∧ slots ≤ R.slots)
    (kk : W p l e R s m args below meth c H locs cells slots Q (F0 m (pc + 3) ls rest)) : W p l e R s m args below meth c H locs cells slots Q (F0 m pc ls st0) := by
  have hr := va_runS (p := p) (e := e) (m := m) (below := below) (meth := meth) (H := H) (locs := locs) (cells := cells) (slots := slots) (g := F0 m pc ls st0) (rest := rest) (n := nA) C0 hM (va_cwS nA C0.2.2.2.2 hg rfl hrc hrs hd hR) ⟨fun a U g mk q => q, fun U hU hW => ⟨rfl, trivial⟩⟩ rfl hnA hls hst (lv_room hW) hdg hcs
  intro T hT X
  obtain ⟨v, st₀, t, T', L, h0, X', hL, e1, e2, ⟨hv, hh⟩, st⟩ := hr T hT X
  cases hv
  obtain ⟨t2, a1, b1⟩ := kk T' (by rw [e1, hh, h0]) (Stand.forget X' (fun q h => (hL q h).elim))
  exact ⟨t2, st t2 a1, b1⟩
end XT
set_option maxHeartbeats 4000000 in
set_option maxRecDepth 100000 in
/-- requireWithin, in range, and the heap as it was -/
theorem p_within (l : Launch) (x a b : Int32) (h1 : ¬ x < a) (h2 : x ≤ b) : xr_PM l yX0_requireWithin (wU yX0_requireWithin cX0_requireWithin 3 none) ({ frames := 0, cells := 0, slots := 0, locals := 0 }) [.int x, .int a, .int b] := by
  refine xr_pstart (by decide) (Nat.le_of_ble_eq_true rfl) ?_
  intro p e s m args below meth c ls C0 hlk hr hl
  have hx := C0.1
  have hb := C0.2.1
  have hl : lv_has ls 3 [(0, .int x), (1, .int a), (2, .int b)] := hl
  refine lv_iload_n hx hb dX0_requireWithin_0 rfl (lv_at hl 0 rfl) ?_
  refine lv_iload_n hx hb dX0_requireWithin_1 rfl (lv_at hl 1 rfl) ?_
  refine lv_icmp_lt hx hb dX0_requireWithin_2 rfl (fun h => absurd h h1) (fun h => ?_)
  refine lv_iload_n hx hb dX0_requireWithin_5 rfl (lv_at hl 0 rfl) ?_
  refine lv_iload_n hx hb dX0_requireWithin_6 rfl (lv_at hl 2 rfl) ?_
  refine lv_icmp_le hx hb dX0_requireWithin_7 rfl (fun h => ?_) (fun h => absurd h2 h)
  exact W.vret hx hb hr (fun t ht hW => ⟨rfl, ht⟩) (fun q hq => by cases hq) dX0_requireWithin_20 hlk
set_option maxHeartbeats 4000000 in
set_option maxRecDepth 100000 in
/-- requireOrder, in range, and the heap as it was -/
theorem p_order (l : Launch) (o : Int32) (h1 : ¬ o < 0) (h2 : o ≤ 3) : xr_PM l yX0_requireOrder (wU yX0_requireOrder cX0_requireOrder 1 none) ({ frames := 1, cells := 0, slots := 0, locals := 22 }) [.int o] := by
  refine xr_pstart (by decide) (Nat.le_of_ble_eq_true rfl) ?_
  intro p e s m args below meth c ls C0 hlk hr hl
  have hx := C0.1
  have hb := C0.2.1
  have hl : lv_has ls 1 [(0, .int o)] := hl
  refine lv_iload_n hx hb dX0_requireOrder_0 rfl (lv_at hl 0 rfl) ?_
  refine lv_iconst (v := 0) hx hb dX0_requireOrder_1 (by decide) ?_
  refine lv_iconst (v := 3) hx hb dX0_requireOrder_2 (by decide) ?_
  refine xr_pcall (As := [.int o, .int 0, .int 3]) (rest := []) (nA := 3) C0 (p_within l o 0 3 h1 h2) (gS wM_X0_X0_requireWithin wS_X0_requireWithin wN_X0 wC_X0_requireWithin) (by decide +kernel) rfl rfl rfl ⟨by decide, by decide⟩ hl.1 rfl (Nat.le_of_ble_eq_true rfl) dX0_requireOrder_3 ⟨Nat.zero_le _, Nat.zero_le _⟩ ?_
  exact W.vret hx hb hr (fun t ht hW => ⟨rfl, ht⟩) (fun q hq => by cases hq) dX0_requireOrder_6 hlk
set_option maxHeartbeats 4000000 in
set_option maxRecDepth 100000 in
/-- requireWithin, out of range -/
theorem t_within (l : Launch) (hl0 : l.stackTraces = false) (D : va_G) (q : Nat → Nat) (cI : ClassId) (tyr : List (ClassId × FieldType)) (wr : va_W) (n : Nat) (f g sf sg r : Nat → Int32) (x a b : Int32) (hbad : x < a ∨ b < x) : xr_TM l yX0_requireWithin (wU yX0_requireWithin cX0_requireWithin 3 none) ({ frames := 6, cells := 1, slots := 6, locals := 82 }) [.int x, .int a, .int b] D (rs_ty cI tyr) (rs_X q cI n f g sf sg r ++ wr) eI := by
  refine xr_tstart (by decide) (Nat.le_of_ble_eq_true rfl) ?_
  intro p e s m args below meth c ls C0 hlk hout hP hK hZ hl
  have hx := C0.1
  have hb := C0.2.1
  have hl : lv_has ls 3 [(0, .int x), (1, .int a), (2, .int b)] := hl
  refine lv_iload_n hx hb dX0_requireWithin_0 rfl (lv_at hl 0 rfl) ?_
  refine lv_iload_n hx hb dX0_requireWithin_1 rfl (lv_at hl 1 rfl) ?_
  refine lv_icmp_lt hx hb dX0_requireWithin_2 rfl (fun h => ?_) (fun h => ?_)
  · skip
    exact xr_throwI hl0 C0 hlk hout hZ hl.1 dX0_requireWithin_10 dX0_requireWithin_13 dX0_requireWithin_14 dX0_requireWithin_16 dX0_requireWithin_19 (by decide) (by decide) (by decide) (by decide)
  · skip
    have n1 := h
    refine lv_iload_n hx hb dX0_requireWithin_5 rfl (lv_at hl 0 rfl) ?_
    refine lv_iload_n hx hb dX0_requireWithin_6 rfl (lv_at hl 2 rfl) ?_
    refine lv_icmp_le hx hb dX0_requireWithin_7 rfl (fun h => absurd h (rs_lt_nle (hbad.resolve_left n1))) (fun h => ?_)
    exact xr_throwI hl0 C0 hlk hout hZ hl.1 dX0_requireWithin_10 dX0_requireWithin_13 dX0_requireWithin_14 dX0_requireWithin_16 dX0_requireWithin_19 (by decide) (by decide) (by decide) (by decide)
set_option maxHeartbeats 4000000 in
set_option maxRecDepth 100000 in
/-- requireOrder, out of range -/
theorem t_order (l : Launch) (hl0 : l.stackTraces = false) (D : va_G) (q : Nat → Nat) (cI : ClassId) (tyr : List (ClassId × FieldType)) (wr : va_W) (n : Nat) (f g sf sg r : Nat → Int32) (o : Int32) (hbad : o < 0 ∨ 3 < o) : xr_TM l yX0_requireOrder (wU yX0_requireOrder cX0_requireOrder 1 none) ({ frames := 7, cells := 1, slots := 6, locals := 104 }) [.int o] D (rs_ty cI tyr) (rs_X q cI n f g sf sg r ++ wr) eI := by
  refine xr_tstart (by decide) (Nat.le_of_ble_eq_true rfl) ?_
  intro p e s m args below meth c ls C0 hlk hout hP hK hZ hl
  have hx := C0.1
  have hb := C0.2.1
  have hl : lv_has ls 1 [(0, .int o)] := hl
  refine lv_iload_n hx hb dX0_requireOrder_0 rfl (lv_at hl 0 rfl) ?_
  refine lv_iconst (v := 0) hx hb dX0_requireOrder_1 (by decide) ?_
  refine lv_iconst (v := 3) hx hb dX0_requireOrder_2 (by decide) ?_
  exact xr_tcallS (As := [.int o, .int 0, .int 3]) (rest := []) (nA := 3) C0 (t_within l hl0 D q cI tyr wr n f g sf sg r o 0 3 hbad) (gS wM_X0_X0_requireWithin wS_X0_requireWithin wN_X0 wC_X0_requireWithin) (by decide +kernel) rfl rfl rfl ⟨by decide, by decide⟩ hlk hout hK hP hZ hl.1 rfl (Nat.le_of_ble_eq_true rfl) dX0_requireOrder_3 ⟨by decide, by decide⟩
set_option maxHeartbeats 4000000 in
set_option maxRecDepth 100000 in
/-- requirePart, out of range -/
theorem t_part (l : Launch) (hl0 : l.stackTraces = false) (D : va_G) (q : Nat → Nat) (cI : ClassId) (tyr : List (ClassId × FieldType)) (wr : va_W) (n : Nat) (f g sf sg r : Nat → Int32) (a b : Int32) (hbad : (b < 0 ∨ nI n < b) ∨ a < 0 ∨ b < a) : xr_TM l yX0_requirePart (wU yX0_requirePart cX0_requirePart 3 none) ({ frames := 7, cells := 1, slots := 6, locals := 104 }) [.ref (q 0), .int a, .int b] D (rs_ty cI tyr) (rs_X q cI n f g sf sg r ++ wr) eI := by
  refine xr_tstart (by decide) (Nat.le_of_ble_eq_true rfl) ?_
  intro p e s m args below meth c ls C0 hlk hout hP hK hZ hl
  have hx := C0.1
  have hb := C0.2.1
  have hl : lv_has ls 3 [(0, .ref (q 0)), (1, .int a), (2, .int b)] := hl
  refine lv_iload_n hx hb dX0_requirePart_0 rfl (lv_at hl 2 rfl) ?_
  refine lv_iconst (v := 0) hx hb dX0_requirePart_1 (by decide) ?_
  refine lv_aload_n hx hb dX0_requirePart_2 rfl (lv_at hl 0 rfl) ?_
  refine x0_get_size C0 hK hP 0 rfl rfl dX0_requirePart_3 ?_
  by_cases hb1 : b < 0 ∨ nI n < b
  · skip
    exact xr_tcallS (As := [.int b, .int 0, .int (nI n)]) (rest := []) (nA := 3) C0 (t_within l hl0 D q cI tyr wr n f g sf sg r b 0 (nI n) hb1) (gS wM_X0_X0_requireWithin wS_X0_requireWithin wN_X0 wC_X0_requireWithin) (by decide +kernel) rfl rfl rfl ⟨by decide, by decide⟩ hlk hout hK hP hZ hl.1 rfl (Nat.le_of_ble_eq_true rfl) dX0_requirePart_6 ⟨by decide, by decide⟩
  · skip
    refine xr_pcall (As := [.int b, .int 0, .int (nI n)]) (rest := []) (nA := 3) C0 (p_within l b 0 (nI n) (fun q => hb1 (Or.inl q)) (rs_nlt (fun q => hb1 (Or.inr q)))) (gS wM_X0_X0_requireWithin wS_X0_requireWithin wN_X0 wC_X0_requireWithin) (by decide +kernel) rfl rfl rfl ⟨by decide, by decide⟩ hl.1 rfl (Nat.le_of_ble_eq_true rfl) dX0_requirePart_6 ⟨Nat.zero_le _, Nat.zero_le _⟩ ?_
    refine lv_iload_n hx hb dX0_requirePart_9 rfl (lv_at hl 1 rfl) ?_
    refine lv_iconst (v := 0) hx hb dX0_requirePart_10 (by decide) ?_
    refine lv_iload_n hx hb dX0_requirePart_11 rfl (lv_at hl 2 rfl) ?_
    exact xr_tcallS (As := [.int a, .int 0, .int b]) (rest := []) (nA := 3) C0 (t_within l hl0 D q cI tyr wr n f g sf sg r a 0 b (hbad.resolve_left hb1)) (gS wM_X0_X0_requireWithin wS_X0_requireWithin wN_X0 wC_X0_requireWithin) (by decide +kernel) rfl rfl rfl ⟨by decide, by decide⟩ hlk hout hK hP hZ hl.1 rfl (Nat.le_of_ble_eq_true rfl) dX0_requirePart_12 ⟨by decide, by decide⟩
set_option maxHeartbeats 4000000 in
set_option maxRecDepth 100000 in
/-- requireRoomFor, too many -/
theorem t_room (l : Launch) (hl0 : l.stackTraces = false) (D : va_G) (q : Nat → Nat) (cI : ClassId) (tyr : List (ClassId × FieldType)) (wr : va_W) (n : Nat) (f g sf sg r : Nat → Int32) (y : Int32) (hn : n ≤ 2000) (hbad : nI (2000 - n) < y) : xr_TM l yX0_requireRoomFor (wU yX0_requireRoomFor cX0_requireRoomFor 2 none) ({ frames := 6, cells := 1, slots := 6, locals := 82 }) [.ref (q 0), .int y] D (rs_ty cI tyr) (rs_X q cI n f g sf sg r ++ wr) eO := by
  refine xr_tstart (by decide) (Nat.le_of_ble_eq_true rfl) ?_
  intro p e s m args below meth c ls C0 hlk hout hP hK hZ hl
  have hx := C0.1
  have hb := C0.2.1
  have hl : lv_has ls 2 [(0, .ref (q 0)), (1, .int y)] := hl
  refine lv_iload_n hx hb dX0_requireRoomFor_0 rfl (lv_at hl 1 rfl) ?_
  refine lv_sipush (v := 2000) hx hb dX0_requireRoomFor_1 (by decide) ?_
  refine lv_aload_n hx hb dX0_requireRoomFor_4 rfl (lv_at hl 0 rfl) ?_
  refine x0_get_size C0 hK hP 0 rfl rfl dX0_requireRoomFor_5 ?_
  refine lv_isub hx hb dX0_requireRoomFor_8 ?_
  refine xr_top (pk_sub (a := 2000) (b := n) (by omega)) ?_
  refine lv_icmp_le hx hb dX0_requireRoomFor_9 rfl (fun h => absurd h (rs_lt_nle hbad)) (fun h => ?_)
  exact xr_throwO hl0 hZ.2.2.2.1 C0 hlk hout hZ hl.1 dX0_requireRoomFor_12 dX0_requireRoomFor_15 dX0_requireRoomFor_16 dX0_requireRoomFor_18 dX0_requireRoomFor_21 (by decide) (by decide) (by decide) (by decide)
set_option maxHeartbeats 4000000 in
set_option maxRecDepth 100000 in
/-- requireIndex, no such index -/
theorem t_index (l : Launch) (hl0 : l.stackTraces = false) (D : va_G) (q : Nat → Nat) (cI : ClassId) (tyr : List (ClassId × FieldType)) (wr : va_W) (n : Nat) (f g sf sg r : Nat → Int32) (i : Int32) (hbad : i < 0 ∨ nI n ≤ i) : xr_TM l yX0_requireIndex (wU yX0_requireIndex cX0_requireIndex 2 none) ({ frames := 6, cells := 1, slots := 6, locals := 82 }) [.ref (q 0), .int i] D (rs_ty cI tyr) (rs_X q cI n f g sf sg r ++ wr) eO := by
  refine xr_tstart (by decide) (Nat.le_of_ble_eq_true rfl) ?_
  intro p e s m args below meth c ls C0 hlk hout hP hK hZ hl
  have hx := C0.1
  have hb := C0.2.1
  have hl : lv_has ls 2 [(0, .ref (q 0)), (1, .int i)] := hl
  refine lv_iload_n hx hb dX0_requireIndex_0 rfl (lv_at hl 1 rfl) ?_
  refine lv_if_lt hx hb dX0_requireIndex_1 rfl (fun h => ?_) (fun h => ?_)
  · skip
    exact xr_throwO hl0 hZ.2.2.2.2.1 C0 hlk hout hZ hl.1 dX0_requireIndex_12 dX0_requireIndex_15 dX0_requireIndex_16 dX0_requireIndex_18 dX0_requireIndex_21 (by decide) (by decide) (by decide) (by decide)
  · skip
    have n1 := h
    refine lv_iload_n hx hb dX0_requireIndex_4 rfl (lv_at hl 1 rfl) ?_
    refine lv_aload_n hx hb dX0_requireIndex_5 rfl (lv_at hl 0 rfl) ?_
    refine x0_get_size C0 hK hP 0 rfl rfl dX0_requireIndex_6 ?_
    refine lv_icmp_lt hx hb dX0_requireIndex_9 rfl (fun h => absurd (hbad.resolve_left n1) (rs_lt_nle h)) (fun h => ?_)
    exact xr_throwO hl0 hZ.2.2.2.2.1 C0 hlk hout hZ hl.1 dX0_requireIndex_12 dX0_requireIndex_15 dX0_requireIndex_16 dX0_requireIndex_18 dX0_requireIndex_21 (by decide) (by decide) (by decide) (by decide)
set_option maxHeartbeats 4000000 in
set_option maxRecDepth 100000 in
/-- get, no such index -/
theorem t_get (l : Launch) (hl0 : l.stackTraces = false) (D : va_G) (q : Nat → Nat) (cI : ClassId) (tyr : List (ClassId × FieldType)) (wr : va_W) (n : Nat) (f g sf sg r : Nat → Int32) (i : Int32) (hbad : i < 0 ∨ nI n ≤ i) : xr_TM l yX0_get (wU yX0_get cX0_get 2 (some .int)) ({ frames := 7, cells := 1, slots := 6, locals := 103 }) [.ref (q 0), .int i] D (rs_ty cI tyr) (rs_X q cI n f g sf sg r ++ wr) eO := by
  refine xr_tstart (by decide) (Nat.le_of_ble_eq_true rfl) ?_
  intro p e s m args below meth c ls C0 hlk hout hP hK hZ hl
  have hx := C0.1
  have hb := C0.2.1
  have hl : lv_has ls 2 [(0, .ref (q 0)), (1, .int i)] := hl
  refine lv_aload_n hx hb dX0_get_0 rfl (lv_at hl 0 rfl) ?_
  refine lv_iload_n hx hb dX0_get_1 rfl (lv_at hl 1 rfl) ?_
  exact xr_tcallV (As := [.int i]) (rest := []) (nA := 1) C0 (t_index l hl0 D q cI tyr wr n f g sf sg r i hbad) (gV wM_X0_X0_requireIndex wI_X0_requireIndex wV_X0_X0_requireIndex wN_X0 wC_X0_requireIndex) (by decide +kernel) rfl rfl rfl ⟨by decide, by decide⟩ hlk hout hK hP hZ 0 rfl rfl hl.1 rfl (Nat.le_of_ble_eq_true rfl) dX0_get_2 ⟨by decide, by decide⟩
set_option maxHeartbeats 4000000 in
set_option maxRecDepth 100000 in
/-- tag, no such index -/
theorem t_tag (l : Launch) (hl0 : l.stackTraces = false) (D : va_G) (q : Nat → Nat) (cI : ClassId) (tyr : List (ClassId × FieldType)) (wr : va_W) (n : Nat) (f g sf sg r : Nat → Int32) (i : Int32) (hbad : i < 0 ∨ nI n ≤ i) : xr_TM l yX0_tag (wU yX0_tag cX0_tag 2 (some .int)) ({ frames := 7, cells := 1, slots := 6, locals := 103 }) [.ref (q 0), .int i] D (rs_ty cI tyr) (rs_X q cI n f g sf sg r ++ wr) eO := by
  refine xr_tstart (by decide) (Nat.le_of_ble_eq_true rfl) ?_
  intro p e s m args below meth c ls C0 hlk hout hP hK hZ hl
  have hx := C0.1
  have hb := C0.2.1
  have hl : lv_has ls 2 [(0, .ref (q 0)), (1, .int i)] := hl
  refine lv_aload_n hx hb dX0_tag_0 rfl (lv_at hl 0 rfl) ?_
  refine lv_iload_n hx hb dX0_tag_1 rfl (lv_at hl 1 rfl) ?_
  exact xr_tcallV (As := [.int i]) (rest := []) (nA := 1) C0 (t_index l hl0 D q cI tyr wr n f g sf sg r i hbad) (gV wM_X0_X0_requireIndex wI_X0_requireIndex wV_X0_X0_requireIndex wN_X0 wC_X0_requireIndex) (by decide +kernel) rfl rfl rfl ⟨by decide, by decide⟩ hlk hout hK hP hZ 0 rfl rfl hl.1 rfl (Nat.le_of_ble_eq_true rfl) dX0_tag_2 ⟨by decide, by decide⟩
set_option maxHeartbeats 4000000 in
set_option maxRecDepth 100000 in
/-- set, no such index -/
theorem tx_set (l : Launch) (hl0 : l.stackTraces = false) (D : va_G) (q : Nat → Nat) (cI : ClassId) (tyr : List (ClassId × FieldType)) (wr : va_W) (n : Nat) (f g sf sg r : Nat → Int32) (i x : Int32) (hbad : i < 0 ∨ nI n ≤ i) : xr_TM l yX0_set (wU yX0_set cX0_set 4 (some .int)) ({ frames := 7, cells := 1, slots := 6, locals := 103 }) [.ref (q 0), .int i, .int x] D (rs_ty cI tyr) (rs_X q cI n f g sf sg r ++ wr) eO := by
  refine xr_tstart (by decide) (Nat.le_of_ble_eq_true rfl) ?_
  intro p e s m args below meth c ls C0 hlk hout hP hK hZ hl
  have hx := C0.1
  have hb := C0.2.1
  have hl : lv_has ls 4 [(0, .ref (q 0)), (1, .int i), (2, .int x)] := hl
  refine lv_aload_n hx hb dX0_set_0 rfl (lv_at hl 0 rfl) ?_
  refine lv_iload_n hx hb dX0_set_1 rfl (lv_at hl 1 rfl) ?_
  exact xr_tcallV (As := [.int i]) (rest := []) (nA := 1) C0 (t_index l hl0 D q cI tyr wr n f g sf sg r i hbad) (gV wM_X0_X0_requireIndex wI_X0_requireIndex wV_X0_X0_requireIndex wN_X0 wC_X0_requireIndex) (by decide +kernel) rfl rfl rfl ⟨by decide, by decide⟩ hlk hout hK hP hZ 0 rfl rfl hl.1 rfl (Nat.le_of_ble_eq_true rfl) dX0_set_2 ⟨by decide, by decide⟩
set_option maxHeartbeats 4000000 in
set_option maxRecDepth 100000 in
/-- turn, out of range -/
theorem t_turn (l : Launch) (hl0 : l.stackTraces = false) (D : va_G) (q : Nat → Nat) (cI : ClassId) (tyr : List (ClassId × FieldType)) (wr : va_W) (n : Nat) (f g sf sg r : Nat → Int32) (a b : Int32) (hbad : (b < 0 ∨ nI n < b) ∨ a < 0 ∨ b < a) : xr_TM l yX0_turn (wU yX0_turn cX0_turn 5 (some .int)) ({ frames := 8, cells := 1, slots := 6, locals := 126 }) [.ref (q 0), .int a, .int b] D (rs_ty cI tyr) (rs_X q cI n f g sf sg r ++ wr) eI := by
  refine xr_tstart (by decide) (Nat.le_of_ble_eq_true rfl) ?_
  intro p e s m args below meth c ls C0 hlk hout hP hK hZ hl
  have hx := C0.1
  have hb := C0.2.1
  have hl : lv_has ls 5 [(0, .ref (q 0)), (1, .int a), (2, .int b)] := hl
  refine lv_aload_n hx hb dX0_turn_0 rfl (lv_at hl 0 rfl) ?_
  refine lv_iload_n hx hb dX0_turn_1 rfl (lv_at hl 1 rfl) ?_
  refine lv_iload_n hx hb dX0_turn_2 rfl (lv_at hl 2 rfl) ?_
  exact xr_tcallV (As := [.int a, .int b]) (rest := []) (nA := 2) C0 (t_part l hl0 D q cI tyr wr n f g sf sg r a b hbad) (gV wM_X0_X0_requirePart wI_X0_requirePart wV_X0_X0_requirePart wN_X0 wC_X0_requirePart) (by decide +kernel) rfl rfl rfl ⟨by decide, by decide⟩ hlk hout hK hP hZ 0 rfl rfl hl.1 rfl (Nat.le_of_ble_eq_true rfl) dX0_turn_3 ⟨by decide, by decide⟩
set_option maxHeartbeats 4000000 in
set_option maxRecDepth 100000 in
/-- upTo, no such order -/
theorem t_upTo (l : Launch) (hl0 : l.stackTraces = false) (D : va_G) (q : Nat → Nat) (cI : ClassId) (tyr : List (ClassId × FieldType)) (wr : va_W) (n : Nat) (f g sf sg r : Nat → Int32) (o x b : Int32) (hbad : o < 0 ∨ 3 < o) : xr_TM l yX0_upTo (wU yX0_upTo cX0_upTo 7 (some .int)) ({ frames := 8, cells := 1, slots := 6, locals := 124 }) [.ref (q 0), .int o, .int x, .int b] D (rs_ty cI tyr) (rs_X q cI n f g sf sg r ++ wr) eI := by
  refine xr_tstart (by decide) (Nat.le_of_ble_eq_true rfl) ?_
  intro p e s m args below meth c ls C0 hlk hout hP hK hZ hl
  have hx := C0.1
  have hb := C0.2.1
  have hl : lv_has ls 7 [(0, .ref (q 0)), (1, .int o), (2, .int x), (3, .int b)] := hl
  refine lv_iload_n hx hb dX0_upTo_0 rfl (lv_at hl 1 rfl) ?_
  exact xr_tcallS (As := [.int o]) (rest := []) (nA := 1) C0 (t_order l hl0 D q cI tyr wr n f g sf sg r o hbad) (gS wM_X0_X0_requireOrder wS_X0_requireOrder wN_X0 wC_X0_requireOrder) (by decide +kernel) rfl rfl rfl ⟨by decide, by decide⟩ hlk hout hK hP hZ hl.1 rfl (Nat.le_of_ble_eq_true rfl) dX0_upTo_1 ⟨by decide, by decide⟩
set_option maxHeartbeats 4000000 in
set_option maxRecDepth 100000 in
/-- sort, out of range -/
theorem t_sort (l : Launch) (hl0 : l.stackTraces = false) (D : va_G) (q : Nat → Nat) (cI : ClassId) (tyr : List (ClassId × FieldType)) (wr : va_W) (n : Nat) (f g sf sg r : Nat → Int32) (o a b : Int32) (hbad : (o < 0 ∨ 3 < o) ∨ (b < 0 ∨ nI n < b) ∨ a < 0 ∨ b < a) : xr_TM l yX0_sort (wU yX0_sort cX0_sort 5 (some .int)) ({ frames := 8, cells := 1, slots := 6, locals := 126 }) [.ref (q 0), .int o, .int a, .int b] D (rs_ty cI tyr) (rs_X q cI n f g sf sg r ++ wr) eI := by
  refine xr_tstart (by decide) (Nat.le_of_ble_eq_true rfl) ?_
  intro p e s m args below meth c ls C0 hlk hout hP hK hZ hl
  have hx := C0.1
  have hb := C0.2.1
  have hl : lv_has ls 5 [(0, .ref (q 0)), (1, .int o), (2, .int a), (3, .int b)] := hl
  refine lv_iload_n hx hb dX0_sort_0 rfl (lv_at hl 1 rfl) ?_
  by_cases ho : o < 0 ∨ 3 < o
  · skip
    exact xr_tcallS (As := [.int o]) (rest := []) (nA := 1) C0 (t_order l hl0 D q cI tyr wr n f g sf sg r o ho) (gS wM_X0_X0_requireOrder wS_X0_requireOrder wN_X0 wC_X0_requireOrder) (by decide +kernel) rfl rfl rfl ⟨by decide, by decide⟩ hlk hout hK hP hZ hl.1 rfl (Nat.le_of_ble_eq_true rfl) dX0_sort_1 ⟨by decide, by decide⟩
  · skip
    refine xr_pcall (As := [.int o]) (rest := []) (nA := 1) C0 (p_order l o (fun q => ho (Or.inl q)) (rs_nlt (fun q => ho (Or.inr q)))) (gS wM_X0_X0_requireOrder wS_X0_requireOrder wN_X0 wC_X0_requireOrder) (by decide +kernel) rfl rfl rfl ⟨by decide, by decide⟩ hl.1 rfl (Nat.le_of_ble_eq_true rfl) dX0_sort_1 ⟨Nat.zero_le _, Nat.zero_le _⟩ ?_
    refine lv_aload_n hx hb dX0_sort_4 rfl (lv_at hl 0 rfl) ?_
    refine lv_iload_n hx hb dX0_sort_5 rfl (lv_at hl 2 rfl) ?_
    refine lv_iload_n hx hb dX0_sort_6 rfl (lv_at hl 3 rfl) ?_
    exact xr_tcallV (As := [.int a, .int b]) (rest := []) (nA := 2) C0 (t_part l hl0 D q cI tyr wr n f g sf sg r a b (hbad.resolve_left ho)) (gV wM_X0_X0_requirePart wI_X0_requirePart wV_X0_X0_requirePart wN_X0 wC_X0_requirePart) (by decide +kernel) rfl rfl rfl ⟨by decide, by decide⟩ hlk hout hK hP hZ 0 rfl rfl hl.1 rfl (Nat.le_of_ble_eq_true rfl) dX0_sort_7 ⟨by decide, by decide⟩
set_option maxHeartbeats 4000000 in
set_option maxRecDepth 100000 in
/-- fill, n out of range -/
theorem t_fill1 (l : Launch) (hl0 : l.stackTraces = false) (D : va_G) (q : Nat → Nat) (cI : ClassId) (tyr : List (ClassId × FieldType)) (wr : va_W) (n : Nat) (f g sf sg r : Nat → Int32) (x st y : Int32) (hbad : y < 0 ∨ 2000 < y) : xr_TM l yX0_fill (wU yX0_fill cX0_fill 5 (some .int)) ({ frames := 7, cells := 1, slots := 6, locals := 104 }) [.ref (q 0), .int x, .int st, .int y] D (rs_ty cI tyr) (rs_X q cI n f g sf sg r ++ wr) eI := by
  refine xr_tstart (by decide) (Nat.le_of_ble_eq_true rfl) ?_
  intro p e s m args below meth c ls C0 hlk hout hP hK hZ hl
  have hx := C0.1
  have hb := C0.2.1
  have hl : lv_has ls 5 [(0, .ref (q 0)), (1, .int x), (2, .int st), (3, .int y)] := hl
  refine lv_iload_n hx hb dX0_fill_0 rfl (lv_at hl 3 rfl) ?_
  refine lv_iconst (v := 0) hx hb dX0_fill_1 (by decide) ?_
  refine lv_sipush (v := 2000) hx hb dX0_fill_2 (by decide) ?_
  exact xr_tcallS (As := [.int y, .int 0, .int 2000]) (rest := []) (nA := 3) C0 (t_within l hl0 D q cI tyr wr n f g sf sg r y 0 2000 hbad) (gS wM_X0_X0_requireWithin wS_X0_requireWithin wN_X0 wC_X0_requireWithin) (by decide +kernel) rfl rfl rfl ⟨by decide, by decide⟩ hlk hout hK hP hZ hl.1 rfl (Nat.le_of_ble_eq_true rfl) dX0_fill_5 ⟨by decide, by decide⟩
set_option maxHeartbeats 4000000 in
set_option maxRecDepth 100000 in
/-- fill, no room -/
theorem t_fill2 (l : Launch) (hl0 : l.stackTraces = false) (D : va_G) (q : Nat → Nat) (cI : ClassId) (tyr : List (ClassId × FieldType)) (wr : va_W) (n : Nat) (f g sf sg r : Nat → Int32) (x st y : Int32) (h1 : ¬ y < 0) (h2 : y ≤ 2000) (hn : n ≤ 2000) (hbad : nI (2000 - n) < y) : xr_TM l yX0_fill (wU yX0_fill cX0_fill 5 (some .int)) ({ frames := 7, cells := 1, slots := 6, locals := 103 }) [.ref (q 0), .int x, .int st, .int y] D (rs_ty cI tyr) (rs_X q cI n f g sf sg r ++ wr) eO := by
  refine xr_tstart (by decide) (Nat.le_of_ble_eq_true rfl) ?_
  intro p e s m args below meth c ls C0 hlk hout hP hK hZ hl
  have hx := C0.1
  have hb := C0.2.1
  have hl : lv_has ls 5 [(0, .ref (q 0)), (1, .int x), (2, .int st), (3, .int y)] := hl
  refine lv_iload_n hx hb dX0_fill_0 rfl (lv_at hl 3 rfl) ?_
  refine lv_iconst (v := 0) hx hb dX0_fill_1 (by decide) ?_
  refine lv_sipush (v := 2000) hx hb dX0_fill_2 (by decide) ?_
  refine xr_pcall (As := [.int y, .int 0, .int 2000]) (rest := []) (nA := 3) C0 (p_within l y 0 2000 h1 h2) (gS wM_X0_X0_requireWithin wS_X0_requireWithin wN_X0 wC_X0_requireWithin) (by decide +kernel) rfl rfl rfl ⟨by decide, by decide⟩ hl.1 rfl (Nat.le_of_ble_eq_true rfl) dX0_fill_5 ⟨Nat.zero_le _, Nat.zero_le _⟩ ?_
  refine lv_aload_n hx hb dX0_fill_8 rfl (lv_at hl 0 rfl) ?_
  refine lv_iload_n hx hb dX0_fill_9 rfl (lv_at hl 3 rfl) ?_
  exact xr_tcallV (As := [.int y]) (rest := []) (nA := 1) C0 (t_room l hl0 D q cI tyr wr n f g sf sg r y hn hbad) (gV wM_X0_X0_requireRoomFor wI_X0_requireRoomFor wV_X0_X0_requireRoomFor wN_X0 wC_X0_requireRoomFor) (by decide +kernel) rfl rfl rfl ⟨by decide, by decide⟩ hlk hout hK hP hZ 0 rfl rfl hl.1 rfl (Nat.le_of_ble_eq_true rfl) dX0_fill_10 ⟨by decide, by decide⟩
set_option maxHeartbeats 4000000 in
set_option maxRecDepth 100000 in
/-- scatter, a number out of range -/
theorem t_scatter1 (l : Launch) (hl0 : l.stackTraces = false) (D : va_G) (q : Nat → Nat) (cI : ClassId) (tyr : List (ClassId × FieldType)) (wr : va_W) (n : Nat) (f g sf sg r : Nat → Int32) (x b y : Int32) (hbad : (y < 0 ∨ 2000 < y) ∨ b < 1 ∨ 16 < b) : xr_TM l yX0_scatter (wU yX0_scatter cX0_scatter 7 (some .int)) ({ frames := 7, cells := 1, slots := 6, locals := 104 }) [.ref (q 0), .int x, .int b, .int y] D (rs_ty cI tyr) (rs_X q cI n f g sf sg r ++ wr) eI := by
  refine xr_tstart (by decide) (Nat.le_of_ble_eq_true rfl) ?_
  intro p e s m args below meth c ls C0 hlk hout hP hK hZ hl
  have hx := C0.1
  have hb := C0.2.1
  have hl : lv_has ls 7 [(0, .ref (q 0)), (1, .int x), (2, .int b), (3, .int y)] := hl
  refine lv_iload_n hx hb dX0_scatter_0 rfl (lv_at hl 3 rfl) ?_
  refine lv_iconst (v := 0) hx hb dX0_scatter_1 (by decide) ?_
  refine lv_sipush (v := 2000) hx hb dX0_scatter_2 (by decide) ?_
  by_cases hy : y < 0 ∨ 2000 < y
  · skip
    exact xr_tcallS (As := [.int y, .int 0, .int 2000]) (rest := []) (nA := 3) C0 (t_within l hl0 D q cI tyr wr n f g sf sg r y 0 2000 hy) (gS wM_X0_X0_requireWithin wS_X0_requireWithin wN_X0 wC_X0_requireWithin) (by decide +kernel) rfl rfl rfl ⟨by decide, by decide⟩ hlk hout hK hP hZ hl.1 rfl (Nat.le_of_ble_eq_true rfl) dX0_scatter_5 ⟨by decide, by decide⟩
  · skip
    refine xr_pcall (As := [.int y, .int 0, .int 2000]) (rest := []) (nA := 3) C0 (p_within l y 0 2000 (fun q => hy (Or.inl q)) (rs_nlt (fun q => hy (Or.inr q)))) (gS wM_X0_X0_requireWithin wS_X0_requireWithin wN_X0 wC_X0_requireWithin) (by decide +kernel) rfl rfl rfl ⟨by decide, by decide⟩ hl.1 rfl (Nat.le_of_ble_eq_true rfl) dX0_scatter_5 ⟨Nat.zero_le _, Nat.zero_le _⟩ ?_
    refine lv_iload_n hx hb dX0_scatter_8 rfl (lv_at hl 2 rfl) ?_
    refine lv_iconst (v := 1) hx hb dX0_scatter_9 (by decide) ?_
    refine lv_bipush (v := 16) hx hb dX0_scatter_10 (by decide) ?_
    exact xr_tcallS (As := [.int b, .int 1, .int 16]) (rest := []) (nA := 3) C0 (t_within l hl0 D q cI tyr wr n f g sf sg r b 1 16 (hbad.resolve_left hy)) (gS wM_X0_X0_requireWithin wS_X0_requireWithin wN_X0 wC_X0_requireWithin) (by decide +kernel) rfl rfl rfl ⟨by decide, by decide⟩ hlk hout hK hP hZ hl.1 rfl (Nat.le_of_ble_eq_true rfl) dX0_scatter_12 ⟨by decide, by decide⟩
set_option maxHeartbeats 4000000 in
set_option maxRecDepth 100000 in
/-- scatter, no room -/
theorem t_scatter2 (l : Launch) (hl0 : l.stackTraces = false) (D : va_G) (q : Nat → Nat) (cI : ClassId) (tyr : List (ClassId × FieldType)) (wr : va_W) (n : Nat) (f g sf sg r : Nat → Int32) (x b y : Int32) (h1 : ¬ y < 0) (h2 : y ≤ 2000) (h3 : ¬ b < 1) (h4 : b ≤ 16) (hn : n ≤ 2000) (hbad : nI (2000 - n) < y) : xr_TM l yX0_scatter (wU yX0_scatter cX0_scatter 7 (some .int)) ({ frames := 7, cells := 1, slots := 6, locals := 103 }) [.ref (q 0), .int x, .int b, .int y] D (rs_ty cI tyr) (rs_X q cI n f g sf sg r ++ wr) eO := by
  refine xr_tstart (by decide) (Nat.le_of_ble_eq_true rfl) ?_
  intro p e s m args below meth c ls C0 hlk hout hP hK hZ hl
  have hx := C0.1
  have hb := C0.2.1
  have hl : lv_has ls 7 [(0, .ref (q 0)), (1, .int x), (2, .int b), (3, .int y)] := hl
  refine lv_iload_n hx hb dX0_scatter_0 rfl (lv_at hl 3 rfl) ?_
  refine lv_iconst (v := 0) hx hb dX0_scatter_1 (by decide) ?_
  refine lv_sipush (v := 2000) hx hb dX0_scatter_2 (by decide) ?_
  refine xr_pcall (As := [.int y, .int 0, .int 2000]) (rest := []) (nA := 3) C0 (p_within l y 0 2000 h1 h2) (gS wM_X0_X0_requireWithin wS_X0_requireWithin wN_X0 wC_X0_requireWithin) (by decide +kernel) rfl rfl rfl ⟨by decide, by decide⟩ hl.1 rfl (Nat.le_of_ble_eq_true rfl) dX0_scatter_5 ⟨Nat.zero_le _, Nat.zero_le _⟩ ?_
  refine lv_iload_n hx hb dX0_scatter_8 rfl (lv_at hl 2 rfl) ?_
  refine lv_iconst (v := 1) hx hb dX0_scatter_9 (by decide) ?_
  refine lv_bipush (v := 16) hx hb dX0_scatter_10 (by decide) ?_
  refine xr_pcall (As := [.int b, .int 1, .int 16]) (rest := []) (nA := 3) C0 (p_within l b 1 16 h3 h4) (gS wM_X0_X0_requireWithin wS_X0_requireWithin wN_X0 wC_X0_requireWithin) (by decide +kernel) rfl rfl rfl ⟨by decide, by decide⟩ hl.1 rfl (Nat.le_of_ble_eq_true rfl) dX0_scatter_12 ⟨Nat.zero_le _, Nat.zero_le _⟩ ?_
  refine lv_aload_n hx hb dX0_scatter_15 rfl (lv_at hl 0 rfl) ?_
  refine lv_iload_n hx hb dX0_scatter_16 rfl (lv_at hl 3 rfl) ?_
  exact xr_tcallV (As := [.int y]) (rest := []) (nA := 1) C0 (t_room l hl0 D q cI tyr wr n f g sf sg r y hn hbad) (gV wM_X0_X0_requireRoomFor wI_X0_requireRoomFor wV_X0_X0_requireRoomFor wN_X0 wC_X0_requireRoomFor) (by decide +kernel) rfl rfl rfl ⟨by decide, by decide⟩ hlk hout hK hP hZ 0 rfl rfl hl.1 rfl (Nat.le_of_ble_eq_true rfl) dX0_scatter_17 ⟨by decide, by decide⟩
end
section
/-! The law's helpers: each calls the class once, and catches what it throws (rows laid by wip/whole/p14.py). -/
def xr_Zh (U : State) : Prop := xr_Z U ∧ va_Nc eO eI U
theorem xr_Zh.to {s U : State} (h : xr_Zh s) (hU : U.heap = s.heap) (hW : s.WarmedH U.vm) : xr_Zh U := ⟨h.1.to hU hW, va_Nc.moved hW.alike h.2⟩
abbrev wH (y : MethodName) (cc : ByteArray) (n : Nat) (ret : Option FieldType) (hh : List (Nat × Nat × Nat × Nat)) : List Cond := Cond.codeWith y cc n ret hh :: lw_w
def xr_HPc (av : List Value) (D : va_G) (tys : List (ClassId × FieldType)) (ws : va_W) (sz : Nat) : Array Value → State → Prop := va_Pc av (fun U => U.heap.size = sz ∧ va_P D vwCl ws U.heap ∧ va_K D vwCl tys U ∧ va_D (fun _ => True) ws ∧ xr_Zh U)
abbrev xr_HM (l : Launch) (y : MethodName) (wsy : List Cond) (av : List Value) (D : va_G) (tys : List (ClassId × FieldType)) (ws : va_W) (sz : Nat) (post : Option Value → va_W → Prop) : Prop := Met l y wsy { frames := 9, cells := 1, slots := 6, locals := 160 } (xr_HPc av D tys ws sz) (xr_Q D (va_A ws sz) post) 1 6 (va_A ws sz)
theorem xr_Hblind {av : List Value} {D : va_G} {tys : List (ClassId × FieldType)} {ws : va_W} {sz : Nat} : FrameBlind (xr_HPc av D tys ws sz) := fun a U g mk q => by
  obtain ⟨q0, q1, qP, qK, qD, qZ⟩ := q
  exact ⟨q0, q1, qP, va_K.moved (u := U) (U := U.calling g mk a) (Vm.Alike.refl U.vm) qK, qD, qZ.to (U := U.calling g mk a) rfl (State.WarmedH.refl U)⟩
theorem xr_hstart {l : Launch} {y : MethodName} {cc : ByteArray} {maxL : Nat} {ret : Option FieldType} {hh : List (Nat × Nat × Nat × Nat)} {av : List Value} {D : va_G} {tys : List (ClassId × FieldType)} {ws : va_W} {sz : Nat} {post : Option Value → va_W → Prop} (hy : plainName y.cls = true) (hlen : (lg_sl av).length ≤ maxL)
    (body : ∀ (p : Program) (e : Env) (s : State) (m : MethodId) (args : Array Value) (below : List Frame) (meth : Method) (c : Code) (A : Nat → Prop) (ls : Array Slot), CallFix p m c cc maxL s args lw_w y.cls → meth.locks = false → meth.sig.returnType = ret → c.exceptionTable.toList = tableOf hh → va_P D vwCl ws s.heap → va_K D vwCl tys s → va_D A ws → (∀ q, s.heap.size ≤ q → A q) → xr_Zh s → lv_has ls maxL (lv_args 0 av) →
      W p l e { frames := 9, cells := 1, slots := 6, locals := 160 } s m args below meth c s.heap [] 0 0 (MQ below (xr_Q D A post) args s 1 6 A) (F0 m 0 ls [])) : xr_HM l y (wH y cc maxL ret hh) av D tys ws sz post := by
  refine MetFree.of_bodyS (code := cc) (maxLocals := maxL) (ret := ret) hy ?_ ?_
  · intro args s m h hn
    obtain ⟨m9, meth, c, hn9, h1, h2, h3, h4, -, h5, h6, -⟩ := Cond.codeWith_spec (atoms_spec (ws := wH y cc maxL ret hh) h _ List.mem_cons_self)
    cases hn.symm.trans hn9
    exact ⟨meth, c, h1, h2, h3, h4, h5, h6⟩
  · intro p e s m args below meth c s₁ B hml hv _
    obtain ⟨rfl, hsz, hP, hK, hD0, hZ⟩ := hv
    have hh0 : s₁.heap = s.heap := by rw [B.state]; rfl
    have hts := atoms_spec (ws := wH y cc maxL ret hh) B.pre
    have hown : s.vm.findClass y.cls = some m.cls := findClass_of_methodNamed B.named
    have htab : c.exceptionTable.toList = tableOf hh := vx_table (x := y) B (hts _ List.mem_cons_self)
    subst hsz
    have hD := hD0.self (sz := s.heap.size)
    have hl := lv_entry av (n := maxL) hlen
    have K := body p e s m _ below meth c _ _ ⟨B.exec, B.bytes, hml, hown, fun w hw => hts w (List.mem_cons_of_mem _ hw)⟩ B.notSynchronized B.returns htab hP hK hD (fun q h => Or.inr h) hZ hl
    rw [← lg_entry_eq] at K
    obtain ⟨t, a1, o, b1, b2, b3⟩ := K s₁ hh0 (Stand.of_body B)
    exact ⟨t, o, a1, b1, b2, ⟨b3.1, b3.2⟩⟩
section XH
variable {p : Program} {l : Launch} {e : Env} {R : Room} {s : State} {m : MethodId} {args : Array Value} {below : List Frame} {meth : Method} {c : Code} {H : Heap} {locs : List Loc} {cells slots : Nat} {Q : State → Prop}
variable {D : va_G} {tys : List (ClassId × FieldType)} {A : Nat → Prop} {ws : va_W} {cc : ByteArray} {nL pc : Nat} {own : String} {ls : Array Slot} {st0 rest : List Value}
theorem xr_last0 {cI cL : ClassId} {tyr : List (ClassId × FieldType)} {a : Nat} {fo : Nat → Int64} {x : Int64} (C0 : CallFix p m c cc nL s args lw_w own) (hK : va_K D vwCl ((cI, .int) :: (cL, .long) :: tyr) s) (hP : va_P D vwCl ws H) (hD : va_D A ws) (hS : va_S A s.heap H locs) (q0 : Nat) (ha : ws[q0]? = some (a, .inl (cL, 1, .inr (.inl fo)))) (hdg : decode cc pc = .ok (.lastore, 1))
    (kk : ∀ (H1 : Heap) (locs1 : List Loc), va_P D vwCl (ws.set q0 (a, .inl (cL, 1, .inr (.inl (vp_updL fo 0 x))))) H1 → va_D A (ws.set q0 (a, .inl (cL, 1, .inr (.inl (vp_updL fo 0 x))))) → va_S A s.heap H1 locs1 → W p l e R s m args below meth c H1 locs1 cells slots Q (F0 m (pc + 1) ls rest)) : W p l e R s m args below meth c H locs cells slots Q (F0 m pc ls (.long x :: .int 0 :: .ref a :: rest)) :=
  va_last C0.1 C0.2.1 hK hP hD hS q0 1 ha rfl (i := 0) (vp_in_nI (n := 0) (N := 1) (by decide) (by decide)) hdg kk
/-- the class throws in a helper -/
theorem xr_hthrow {ci idx maxL N b nA : Nat} {C : String} {T : u_T} {y : MethodName} {bytes : ByteArray} {ret : Option FieldType} {rm : Room} {As : List Value} {fs : List Value} {E : String}
    (C0 : CallFix p m c cc nL s args lw_w own) (hM : xr_TM l y (wU y bytes maxL ret) rm (.ref b :: As) D tys ws E) (hg : GoodIn lw_w (wsV own idx C y (wU y bytes maxL ret)))
    (hd : y.cls = C ∧ y.cls ≠ "java/lang/invoke/MethodHandle" ∧ y.cls ≠ "java/lang/invoke/VarHandle" ∧ (parseMethodDescriptor y.desc).map (fun d => d.parameters.length) = some nA) (hnA : As.length = nA)
    (hrc : rm.cells = 1) (hrs : rm.slots = 6) (hR : rm.frames + 1 ≤ R.frames ∧ 8 + (maxL + 11) + rm.locals ≤ R.locals)
    (hK : va_K D vwCl tys s) (hP : va_P D vwCl ws s.heap) (hZ : xr_Z s) (q0 : Nat) (he : ws[q0]? = some (b, .inr (ci, fs))) (hc : vwCl[ci]? = some (C, T, N)) (hls : ls.size = nL) (hst : st0 = As.reverse ++ .ref b :: rest) (hW : (rest.map fun v => v.category).sum ≤ 8) (hdg : decode cc pc = .ok (.invokevirtual idx, 3)) (hcs : 0 + 1 ≤ R.cells ∧ 0 + 6 ≤ R.slots)
    (kk : ∀ (qx : Nat) (H1 : Heap) (ce : Cell), s.heap.size ≤ H1.size → (∀ q : Nat, q < s.heap.size → H1[q]? = s.heap[q]?) → H1[qx]? = some ce → ce.vm = .none → s.vm.findClass E = some ce.cls → vx_W p l e R s m args below meth c H1 [] 1 6 Q (F0 m pc ls rest) qx) :
    W p l e R s m args below meth c s.heap [] 0 0 Q (F0 m pc ls st0) := by
  have hr := vx_runV (p := p) (e := e) (m := m) (below := below) (meth := meth) (H := s.heap) (locs := []) (cells := 0) (slots := 0) (g := F0 m pc ls st0) (rest := rest) (n := nA) C0 hM (cwV nA C0.2.2.2.2 hg rfl hrc hrs hd hR) ⟨xr_Tblind, va_recv hK hP hc he, fun U hU hW => ⟨rfl, by rw [hU]; exact hP, va_K.moved hW.alike hK, hZ.to hU hW⟩⟩ rfl hnA hls hst (lv_room hW) hdg hcs
  intro T hT X
  rcases hr T hT X with ⟨v, st₀, t, T', L, -, -, -, -, -, hq, -⟩ | ⟨q, st₀, t, T', L, E1, ce, h0, X', hL, e1, e2, ⟨rfl, hz, hk⟩, hc, hv, hcl, st⟩
  · exact hq.elim
  · have X2 := Stand.forget (locs := []) X' (fun z hz => (hL z hz).elim)
    obtain ⟨t2, a1, b1⟩ := kk q T'.heap ce (by rw [e1, ← h0]; exact hz) (fun x hx => by rw [e1, hk x (by rw [h0]; exact hx), h0]) (by rw [e1]; exact hc) hv hcl T' rfl X2
    exact ⟨t2, st.trans a1, b1⟩
end XH
set_option maxHeartbeats 4000000 in
set_option maxRecDepth 100000 in
/-- fill returns -/
theorem h_fill0 (l : Launch) (hl0 : l.stackTraces = false) (D : va_G) (q : Nat → Nat) (qo : Nat) (cI cL : ClassId) (tyr : List (ClassId × FieldType)) (wr : va_W) (sz n : Nat) (f g sf sg r : Nat → Int32) (fo : Nat → Int64) (x st : Int32) (k : Nat) (hn : n + k ≤ 2000) : xr_HM l yL_fill (wH yL_fill cL_fill 6 (some .int) [(0, 12, 15, 13), (0, 12, 19, 15)]) [.ref (q 0), .int x, .int st, .int (nI k), .ref qo] D (rs_ty cI ((cL, .long) :: tyr)) (rs_X q cI n f g sf sg r ++ ((qo, .inl (cL, 1, .inr (.inl fo))) :: wr)) sz (fun v w => v = some (.int 0) ∧ w = rs_X q cI (n + k) (rs_fi f n x st k) (rs_tg g n k) (sf) (sg) (r) ++ ((qo, .inl (cL, 1, .inr (.inl (vp_updL fo 0 (nI (n + k)).toInt64)))) :: wr)) := by
  refine xr_hstart (by decide) (Nat.le_of_ble_eq_true rfl) ?_
  intro p e s m args below meth c A ls C0 hlk hr htab hP hK hD hA hZ hl
  have hx := C0.1
  have hb := C0.2.1
  have hS : va_S A s.heap s.heap [] := va_S.rf
  have hl : lv_has ls 6 [(0, .ref (q 0)), (1, .int x), (2, .int st), (3, .int (nI k)), (4, .ref qo)] := hl
  refine lv_aload hx hb dL_fill_0 (lv_at hl 4 rfl) ?_
  refine lv_iconst (v := 0) hx hb dL_fill_2 (by decide) ?_
  refine lv_aload_n hx hb dL_fill_3 rfl (lv_at hl 0 rfl) ?_
  refine lv_iload_n hx hb dL_fill_4 rfl (lv_at hl 1 rfl) ?_
  refine lv_iload_n hx hb dL_fill_5 rfl (lv_at hl 2 rfl) ?_
  refine lv_iload_n hx hb dL_fill_6 rfl (lv_at hl 3 rfl) ?_
  refine xr_vcall (As := [.int x, .int st, .int (nI k)]) (rest := [.int 0, .ref qo]) (nA := 3) C0 (c_fill l D q cI ((cL, .long) :: tyr) ((qo, .inl (cL, 1, .inr (.inl (fo)))) :: wr) _ n f g sf sg r x st k hn) (gV wM_L_X0_fill wI_X0_fill wV_X0_X0_fill wN_X0 wC_X0_fill) (by decide +kernel) rfl rfl rfl ⟨by decide, by decide⟩ hK hP hD hS hA 0 rfl rfl hl.1 rfl (Nat.le_of_ble_eq_true rfl) dL_fill_7 ⟨Nat.le_of_ble_eq_true rfl, Nat.le_of_ble_eq_true rfl⟩ (fun v w H locs hv hP hD hz hS => ?_)
  obtain ⟨rfl, rfl⟩ := hv
  refine lv_i2l hx hb dL_fill_10 rfl ?_
  refine xr_last0 C0 hK hP hD hS 6 rfl dL_fill_11 (fun H locs hP hD hS => ?_)
  have hP : va_P D vwCl (rs_X q cI (n + k) (rs_fi f n x st k) (rs_tg g n k) (sf) (sg) (r) ++ ((qo, .inl (cL, 1, .inr (.inl (vp_updL fo 0 (nI (n + k)).toInt64)))) :: wr)) H := hP
  have hD : va_D A (rs_X q cI (n + k) (rs_fi f n x st k) (rs_tg g n k) (sf) (sg) (r) ++ ((qo, .inl (cL, 1, .inr (.inl (vp_updL fo 0 (nI (n + k)).toInt64)))) :: wr)) := hD
  refine lv_goto hx hb dL_fill_12 rfl ?_
  refine lv_iconst (v := 0) hx hb dL_fill_23 (by decide) ?_
  refine W.widen (k := 1) (n := 6) (by decide) (by decide) ?_
  exact xr_iret C0 hlk hr (⟨rfl, rfl⟩) hP hD hS dL_fill_24
set_option maxHeartbeats 4000000 in
set_option maxRecDepth 100000 in
/-- fill: a number out of range -/
theorem h_fill1 (l : Launch) (hl0 : l.stackTraces = false) (D : va_G) (q : Nat → Nat) (qo : Nat) (cI cL : ClassId) (tyr : List (ClassId × FieldType)) (wr : va_W) (sz n : Nat) (f g sf sg r : Nat → Int32) (fo : Nat → Int64) (x st y : Int32) (hbad : y < 0 ∨ 2000 < y) : xr_HM l yL_fill (wH yL_fill cL_fill 6 (some .int) [(0, 12, 15, 13), (0, 12, 19, 15)]) [.ref (q 0), .int x, .int st, .int y, .ref qo] D (rs_ty cI ((cL, .long) :: tyr)) (rs_X q cI n f g sf sg r ++ ((qo, .inl (cL, 1, .inr (.inl fo))) :: wr)) sz (fun v w => v = some (.int 1) ∧ w = rs_X q cI n f g sf sg r ++ ((qo, .inl (cL, 1, .inr (.inl (fo)))) :: wr)) := by
  refine xr_hstart (by decide) (Nat.le_of_ble_eq_true rfl) ?_
  intro p e s m args below meth c A ls C0 hlk hr htab hP hK hD hA hZ hl
  have hx := C0.1
  have hb := C0.2.1
  have hS : va_S A s.heap s.heap [] := va_S.rf
  have hl : lv_has ls 6 [(0, .ref (q 0)), (1, .int x), (2, .int st), (3, .int y), (4, .ref qo)] := hl
  refine lv_aload hx hb dL_fill_0 (lv_at hl 4 rfl) ?_
  refine lv_iconst (v := 0) hx hb dL_fill_2 (by decide) ?_
  refine lv_aload_n hx hb dL_fill_3 rfl (lv_at hl 0 rfl) ?_
  refine lv_iload_n hx hb dL_fill_4 rfl (lv_at hl 1 rfl) ?_
  refine lv_iload_n hx hb dL_fill_5 rfl (lv_at hl 2 rfl) ?_
  refine lv_iload_n hx hb dL_fill_6 rfl (lv_at hl 3 rfl) ?_
  refine xr_hthrow (As := [.int x, .int st, .int y]) (rest := [.int 0, .ref qo]) (nA := 3) C0 (t_fill1 l hl0 D q cI ((cL, .long) :: tyr) ((qo, .inl (cL, 1, .inr (.inl (fo)))) :: wr) n f g sf sg r x st y hbad) (gV wM_L_X0_fill wI_X0_fill wV_X0_X0_fill wN_X0 wC_X0_fill) (by decide +kernel) rfl rfl rfl ⟨by decide, by decide⟩ hK hP hZ.1 0 rfl rfl hl.1 rfl (Nat.le_of_ble_eq_true rfl) dL_fill_7 ⟨by decide, by decide⟩ (fun qx H ce hz hk hc hv hcl => ?_)
  refine vx_catch C0.2.2.2.1 [] ⟨0, 12, 15, 13⟩ [⟨0, 12, 19, 15⟩] htab (fun z hz => absurd hz List.not_mem_nil) (by decide) (by decide) (C0.2.2.2.2 _ wK_L_IllegalArgumentException) (va_Nw.use rfl hZ.1.2.2.2.2.2.1) hc hv hcl ?_
  have hP : va_P D vwCl (rs_X q cI (n) (f) (g) (sf) (sg) (r) ++ ((qo, .inl (cL, 1, .inr (.inl (fo)))) :: wr)) H := hP.kept (fun k x hx => hk x.1 ((hP k x hx).lt))
  have hS : va_S A s.heap H [] := ⟨hz, fun q h1 _ => hk q h1, fun q hq => by cases hq⟩
  refine lv_astore hx hb dL_fill_15 hl (by decide) rfl (fun ls hl => ?_)
  have hl : lv_has ls 6 [(5, .ref qx), (0, .ref (q 0)), (1, .int x), (2, .int st), (3, .int y), (4, .ref qo)] := hl
  refine lv_iconst (v := 1) hx hb dL_fill_17 (by decide) ?_
  exact xr_iret C0 hlk hr (⟨rfl, rfl⟩) hP hD hS dL_fill_18
set_option maxHeartbeats 4000000 in
set_option maxRecDepth 100000 in
/-- fill: no room -/
theorem h_fill2 (l : Launch) (hl0 : l.stackTraces = false) (D : va_G) (q : Nat → Nat) (qo : Nat) (cI cL : ClassId) (tyr : List (ClassId × FieldType)) (wr : va_W) (sz n : Nat) (f g sf sg r : Nat → Int32) (fo : Nat → Int64) (x st y : Int32) (h1 : ¬ y < 0) (h2 : y ≤ 2000) (hn : n ≤ 2000) (hbad : nI (2000 - n) < y) : xr_HM l yL_fill (wH yL_fill cL_fill 6 (some .int) [(0, 12, 15, 13), (0, 12, 19, 15)]) [.ref (q 0), .int x, .int st, .int y, .ref qo] D (rs_ty cI ((cL, .long) :: tyr)) (rs_X q cI n f g sf sg r ++ ((qo, .inl (cL, 1, .inr (.inl fo))) :: wr)) sz (fun v w => v = some (.int 2) ∧ w = rs_X q cI n f g sf sg r ++ ((qo, .inl (cL, 1, .inr (.inl (fo)))) :: wr)) := by
  refine xr_hstart (by decide) (Nat.le_of_ble_eq_true rfl) ?_
  intro p e s m args below meth c A ls C0 hlk hr htab hP hK hD hA hZ hl
  have hx := C0.1
  have hb := C0.2.1
  have hS : va_S A s.heap s.heap [] := va_S.rf
  have hl : lv_has ls 6 [(0, .ref (q 0)), (1, .int x), (2, .int st), (3, .int y), (4, .ref qo)] := hl
  refine lv_aload hx hb dL_fill_0 (lv_at hl 4 rfl) ?_
  refine lv_iconst (v := 0) hx hb dL_fill_2 (by decide) ?_
  refine lv_aload_n hx hb dL_fill_3 rfl (lv_at hl 0 rfl) ?_
  refine lv_iload_n hx hb dL_fill_4 rfl (lv_at hl 1 rfl) ?_
  refine lv_iload_n hx hb dL_fill_5 rfl (lv_at hl 2 rfl) ?_
  refine lv_iload_n hx hb dL_fill_6 rfl (lv_at hl 3 rfl) ?_
  refine xr_hthrow (As := [.int x, .int st, .int y]) (rest := [.int 0, .ref qo]) (nA := 3) C0 (t_fill2 l hl0 D q cI ((cL, .long) :: tyr) ((qo, .inl (cL, 1, .inr (.inl (fo)))) :: wr) n f g sf sg r x st y h1 h2 hn hbad) (gV wM_L_X0_fill wI_X0_fill wV_X0_X0_fill wN_X0 wC_X0_fill) (by decide +kernel) rfl rfl rfl ⟨by decide, by decide⟩ hK hP hZ.1 0 rfl rfl hl.1 rfl (Nat.le_of_ble_eq_true rfl) dL_fill_7 ⟨by decide, by decide⟩ (fun qx H ce hz hk hc hv hcl => ?_)
  refine vx_catch C0.2.2.2.1 [⟨0, 12, 15, 13⟩] ⟨0, 12, 19, 15⟩ [] htab (fun z hz => by rcases List.mem_singleton.mp hz with rfl; exact Or.inr ⟨by decide, eI, C0.2.2.2.2 _ wK_L_IllegalArgumentException, hZ.2⟩) (by decide) (by decide) (C0.2.2.2.2 _ wK_L_IndexOutOfBoundsException) (va_Nw.use rfl hZ.1.2.2.2.2.2.2.1) hc hv hcl ?_
  have hP : va_P D vwCl (rs_X q cI (n) (f) (g) (sf) (sg) (r) ++ ((qo, .inl (cL, 1, .inr (.inl (fo)))) :: wr)) H := hP.kept (fun k x hx => hk x.1 ((hP k x hx).lt))
  have hS : va_S A s.heap H [] := ⟨hz, fun q h1 _ => hk q h1, fun q hq => by cases hq⟩
  refine lv_astore hx hb dL_fill_19 hl (by decide) rfl (fun ls hl => ?_)
  have hl : lv_has ls 6 [(5, .ref qx), (0, .ref (q 0)), (1, .int x), (2, .int st), (3, .int y), (4, .ref qo)] := hl
  refine lv_iconst (v := 2) hx hb dL_fill_21 (by decide) ?_
  exact xr_iret C0 hlk hr (⟨rfl, rfl⟩) hP hD hS dL_fill_22
set_option maxHeartbeats 4000000 in
set_option maxRecDepth 100000 in
/-- scatter returns -/
theorem h_scatter0 (l : Launch) (hl0 : l.stackTraces = false) (D : va_G) (q : Nat → Nat) (qo : Nat) (cI cL : ClassId) (tyr : List (ClassId × FieldType)) (wr : va_W) (sz n : Nat) (f g sf sg r : Nat → Int32) (fo : Nat → Int64) (x b : Int32) (k : Nat) (hb1 : ¬ b < 1) (hb2 : b ≤ 16) (hn : n + k ≤ 2000) : xr_HM l yL_scatter (wH yL_scatter cL_scatter 6 (some .int) [(0, 12, 15, 13), (0, 12, 19, 15)]) [.ref (q 0), .int x, .int b, .int (nI k), .ref qo] D (rs_ty cI ((cL, .long) :: tyr)) (rs_X q cI n f g sf sg r ++ ((qo, .inl (cL, 1, .inr (.inl fo))) :: wr)) sz (fun v w => v = some (.int 0) ∧ w = rs_X q cI (n + k) (rs_sc f n x b k) (rs_tg g n k) (sf) (sg) (r) ++ ((qo, .inl (cL, 1, .inr (.inl (vp_updL fo 0 (nI (n + k)).toInt64)))) :: wr)) := by
  refine xr_hstart (by decide) (Nat.le_of_ble_eq_true rfl) ?_
  intro p e s m args below meth c A ls C0 hlk hr htab hP hK hD hA hZ hl
  have hx := C0.1
  have hb := C0.2.1
  have hS : va_S A s.heap s.heap [] := va_S.rf
  have hl : lv_has ls 6 [(0, .ref (q 0)), (1, .int x), (2, .int b), (3, .int (nI k)), (4, .ref qo)] := hl
  refine lv_aload hx hb dL_scatter_0 (lv_at hl 4 rfl) ?_
  refine lv_iconst (v := 0) hx hb dL_scatter_2 (by decide) ?_
  refine lv_aload_n hx hb dL_scatter_3 rfl (lv_at hl 0 rfl) ?_
  refine lv_iload_n hx hb dL_scatter_4 rfl (lv_at hl 1 rfl) ?_
  refine lv_iload_n hx hb dL_scatter_5 rfl (lv_at hl 2 rfl) ?_
  refine lv_iload_n hx hb dL_scatter_6 rfl (lv_at hl 3 rfl) ?_
  refine xr_vcall (As := [.int x, .int b, .int (nI k)]) (rest := [.int 0, .ref qo]) (nA := 3) C0 (c_scatter l D q cI ((cL, .long) :: tyr) ((qo, .inl (cL, 1, .inr (.inl (fo)))) :: wr) _ n f g sf sg r x b k hb1 hb2 hn) (gV wM_L_X0_scatter wI_X0_scatter wV_X0_X0_scatter wN_X0 wC_X0_scatter) (by decide +kernel) rfl rfl rfl ⟨by decide, by decide⟩ hK hP hD hS hA 0 rfl rfl hl.1 rfl (Nat.le_of_ble_eq_true rfl) dL_scatter_7 ⟨Nat.le_of_ble_eq_true rfl, Nat.le_of_ble_eq_true rfl⟩ (fun v w H locs hv hP hD hz hS => ?_)
  obtain ⟨rfl, rfl⟩ := hv
  refine lv_i2l hx hb dL_scatter_10 rfl ?_
  refine xr_last0 C0 hK hP hD hS 6 rfl dL_scatter_11 (fun H locs hP hD hS => ?_)
  have hP : va_P D vwCl (rs_X q cI (n + k) (rs_sc f n x b k) (rs_tg g n k) (sf) (sg) (r) ++ ((qo, .inl (cL, 1, .inr (.inl (vp_updL fo 0 (nI (n + k)).toInt64)))) :: wr)) H := hP
  have hD : va_D A (rs_X q cI (n + k) (rs_sc f n x b k) (rs_tg g n k) (sf) (sg) (r) ++ ((qo, .inl (cL, 1, .inr (.inl (vp_updL fo 0 (nI (n + k)).toInt64)))) :: wr)) := hD
  refine lv_goto hx hb dL_scatter_12 rfl ?_
  refine lv_iconst (v := 0) hx hb dL_scatter_23 (by decide) ?_
  refine W.widen (k := 1) (n := 6) (by decide) (by decide) ?_
  exact xr_iret C0 hlk hr (⟨rfl, rfl⟩) hP hD hS dL_scatter_24
set_option maxHeartbeats 4000000 in
set_option maxRecDepth 100000 in
/-- scatter: a number out of range -/
theorem h_scatter1 (l : Launch) (hl0 : l.stackTraces = false) (D : va_G) (q : Nat → Nat) (qo : Nat) (cI cL : ClassId) (tyr : List (ClassId × FieldType)) (wr : va_W) (sz n : Nat) (f g sf sg r : Nat → Int32) (fo : Nat → Int64) (x b y : Int32) (hbad : (y < 0 ∨ 2000 < y) ∨ b < 1 ∨ 16 < b) : xr_HM l yL_scatter (wH yL_scatter cL_scatter 6 (some .int) [(0, 12, 15, 13), (0, 12, 19, 15)]) [.ref (q 0), .int x, .int b, .int y, .ref qo] D (rs_ty cI ((cL, .long) :: tyr)) (rs_X q cI n f g sf sg r ++ ((qo, .inl (cL, 1, .inr (.inl fo))) :: wr)) sz (fun v w => v = some (.int 1) ∧ w = rs_X q cI n f g sf sg r ++ ((qo, .inl (cL, 1, .inr (.inl (fo)))) :: wr)) := by
  refine xr_hstart (by decide) (Nat.le_of_ble_eq_true rfl) ?_
  intro p e s m args below meth c A ls C0 hlk hr htab hP hK hD hA hZ hl
  have hx := C0.1
  have hb := C0.2.1
  have hS : va_S A s.heap s.heap [] := va_S.rf
  have hl : lv_has ls 6 [(0, .ref (q 0)), (1, .int x), (2, .int b), (3, .int y), (4, .ref qo)] := hl
  refine lv_aload hx hb dL_scatter_0 (lv_at hl 4 rfl) ?_
  refine lv_iconst (v := 0) hx hb dL_scatter_2 (by decide) ?_
  refine lv_aload_n hx hb dL_scatter_3 rfl (lv_at hl 0 rfl) ?_
  refine lv_iload_n hx hb dL_scatter_4 rfl (lv_at hl 1 rfl) ?_
  refine lv_iload_n hx hb dL_scatter_5 rfl (lv_at hl 2 rfl) ?_
  refine lv_iload_n hx hb dL_scatter_6 rfl (lv_at hl 3 rfl) ?_
  refine xr_hthrow (As := [.int x, .int b, .int y]) (rest := [.int 0, .ref qo]) (nA := 3) C0 (t_scatter1 l hl0 D q cI ((cL, .long) :: tyr) ((qo, .inl (cL, 1, .inr (.inl (fo)))) :: wr) n f g sf sg r x b y hbad) (gV wM_L_X0_scatter wI_X0_scatter wV_X0_X0_scatter wN_X0 wC_X0_scatter) (by decide +kernel) rfl rfl rfl ⟨by decide, by decide⟩ hK hP hZ.1 0 rfl rfl hl.1 rfl (Nat.le_of_ble_eq_true rfl) dL_scatter_7 ⟨by decide, by decide⟩ (fun qx H ce hz hk hc hv hcl => ?_)
  refine vx_catch C0.2.2.2.1 [] ⟨0, 12, 15, 13⟩ [⟨0, 12, 19, 15⟩] htab (fun z hz => absurd hz List.not_mem_nil) (by decide) (by decide) (C0.2.2.2.2 _ wK_L_IllegalArgumentException) (va_Nw.use rfl hZ.1.2.2.2.2.2.1) hc hv hcl ?_
  have hP : va_P D vwCl (rs_X q cI (n) (f) (g) (sf) (sg) (r) ++ ((qo, .inl (cL, 1, .inr (.inl (fo)))) :: wr)) H := hP.kept (fun k x hx => hk x.1 ((hP k x hx).lt))
  have hS : va_S A s.heap H [] := ⟨hz, fun q h1 _ => hk q h1, fun q hq => by cases hq⟩
  refine lv_astore hx hb dL_scatter_15 hl (by decide) rfl (fun ls hl => ?_)
  have hl : lv_has ls 6 [(5, .ref qx), (0, .ref (q 0)), (1, .int x), (2, .int b), (3, .int y), (4, .ref qo)] := hl
  refine lv_iconst (v := 1) hx hb dL_scatter_17 (by decide) ?_
  exact xr_iret C0 hlk hr (⟨rfl, rfl⟩) hP hD hS dL_scatter_18
set_option maxHeartbeats 4000000 in
set_option maxRecDepth 100000 in
/-- scatter: no room -/
theorem h_scatter2 (l : Launch) (hl0 : l.stackTraces = false) (D : va_G) (q : Nat → Nat) (qo : Nat) (cI cL : ClassId) (tyr : List (ClassId × FieldType)) (wr : va_W) (sz n : Nat) (f g sf sg r : Nat → Int32) (fo : Nat → Int64) (x b y : Int32) (h1 : ¬ y < 0) (h2 : y ≤ 2000) (h3 : ¬ b < 1) (h4 : b ≤ 16) (hn : n ≤ 2000) (hbad : nI (2000 - n) < y) : xr_HM l yL_scatter (wH yL_scatter cL_scatter 6 (some .int) [(0, 12, 15, 13), (0, 12, 19, 15)]) [.ref (q 0), .int x, .int b, .int y, .ref qo] D (rs_ty cI ((cL, .long) :: tyr)) (rs_X q cI n f g sf sg r ++ ((qo, .inl (cL, 1, .inr (.inl fo))) :: wr)) sz (fun v w => v = some (.int 2) ∧ w = rs_X q cI n f g sf sg r ++ ((qo, .inl (cL, 1, .inr (.inl (fo)))) :: wr)) := by
  refine xr_hstart (by decide) (Nat.le_of_ble_eq_true rfl) ?_
  intro p e s m args below meth c A ls C0 hlk hr htab hP hK hD hA hZ hl
  have hx := C0.1
  have hb := C0.2.1
  have hS : va_S A s.heap s.heap [] := va_S.rf
  have hl : lv_has ls 6 [(0, .ref (q 0)), (1, .int x), (2, .int b), (3, .int y), (4, .ref qo)] := hl
  refine lv_aload hx hb dL_scatter_0 (lv_at hl 4 rfl) ?_
  refine lv_iconst (v := 0) hx hb dL_scatter_2 (by decide) ?_
  refine lv_aload_n hx hb dL_scatter_3 rfl (lv_at hl 0 rfl) ?_
  refine lv_iload_n hx hb dL_scatter_4 rfl (lv_at hl 1 rfl) ?_
  refine lv_iload_n hx hb dL_scatter_5 rfl (lv_at hl 2 rfl) ?_
  refine lv_iload_n hx hb dL_scatter_6 rfl (lv_at hl 3 rfl) ?_
  refine xr_hthrow (As := [.int x, .int b, .int y]) (rest := [.int 0, .ref qo]) (nA := 3) C0 (t_scatter2 l hl0 D q cI ((cL, .long) :: tyr) ((qo, .inl (cL, 1, .inr (.inl (fo)))) :: wr) n f g sf sg r x b y h1 h2 h3 h4 hn hbad) (gV wM_L_X0_scatter wI_X0_scatter wV_X0_X0_scatter wN_X0 wC_X0_scatter) (by decide +kernel) rfl rfl rfl ⟨by decide, by decide⟩ hK hP hZ.1 0 rfl rfl hl.1 rfl (Nat.le_of_ble_eq_true rfl) dL_scatter_7 ⟨by decide, by decide⟩ (fun qx H ce hz hk hc hv hcl => ?_)
  refine vx_catch C0.2.2.2.1 [⟨0, 12, 15, 13⟩] ⟨0, 12, 19, 15⟩ [] htab (fun z hz => by rcases List.mem_singleton.mp hz with rfl; exact Or.inr ⟨by decide, eI, C0.2.2.2.2 _ wK_L_IllegalArgumentException, hZ.2⟩) (by decide) (by decide) (C0.2.2.2.2 _ wK_L_IndexOutOfBoundsException) (va_Nw.use rfl hZ.1.2.2.2.2.2.2.1) hc hv hcl ?_
  have hP : va_P D vwCl (rs_X q cI (n) (f) (g) (sf) (sg) (r) ++ ((qo, .inl (cL, 1, .inr (.inl (fo)))) :: wr)) H := hP.kept (fun k x hx => hk x.1 ((hP k x hx).lt))
  have hS : va_S A s.heap H [] := ⟨hz, fun q h1 _ => hk q h1, fun q hq => by cases hq⟩
  refine lv_astore hx hb dL_scatter_19 hl (by decide) rfl (fun ls hl => ?_)
  have hl : lv_has ls 6 [(5, .ref qx), (0, .ref (q 0)), (1, .int x), (2, .int b), (3, .int y), (4, .ref qo)] := hl
  refine lv_iconst (v := 2) hx hb dL_scatter_21 (by decide) ?_
  exact xr_iret C0 hlk hr (⟨rfl, rfl⟩) hP hD hS dL_scatter_22
set_option maxHeartbeats 4000000 in
set_option maxRecDepth 100000 in
/-- sort returns -/
theorem h_sort0 (l : Launch) (hl0 : l.stackTraces = false) (D : va_G) (q : Nat → Nat) (qo : Nat) (cI cL : ClassId) (tyr : List (ClassId × FieldType)) (wr : va_W) (sz n : Nat) (f g sf sg r : Nat → Int32) (fo : Nat → Int64) (o : Int32) (a b : Nat) (h1 : ¬ o < 0) (h2 : o ≤ 3) (hab : a ≤ b) (hbn : b ≤ n) (hn : n ≤ 2000) : xr_HM l yL_sort (wH yL_sort cL_sort 6 (some .int) [(0, 12, 15, 13)]) [.ref (q 0), .int o, .int (nI a), .int (nI b), .ref qo] D (rs_ty cI ((cL, .long) :: tyr)) (rs_X q cI n f g sf sg r ++ ((qo, .inl (cL, 1, .inr (.inl fo))) :: wr)) sz (fun v w => ∃ f' g' sf' sg' r' : Nat → Int32, v = some (.int 0) ∧ w = rs_X q cI (n) (f') (g') (sf') (sg') (r') ++ ((qo, .inl (cL, 1, .inr (.inl (vp_updL fo 0 (nI (b - a)).toInt64)))) :: wr) ∧ rs_St o a b f g f' g') := by
  refine xr_hstart (by decide) (Nat.le_of_ble_eq_true rfl) ?_
  intro p e s m args below meth c A ls C0 hlk hr htab hP hK hD hA hZ hl
  have hx := C0.1
  have hb := C0.2.1
  have hS : va_S A s.heap s.heap [] := va_S.rf
  have hl : lv_has ls 6 [(0, .ref (q 0)), (1, .int o), (2, .int (nI a)), (3, .int (nI b)), (4, .ref qo)] := hl
  refine lv_aload hx hb dL_sort_0 (lv_at hl 4 rfl) ?_
  refine lv_iconst (v := 0) hx hb dL_sort_2 (by decide) ?_
  refine lv_aload_n hx hb dL_sort_3 rfl (lv_at hl 0 rfl) ?_
  refine lv_iload_n hx hb dL_sort_4 rfl (lv_at hl 1 rfl) ?_
  refine lv_iload_n hx hb dL_sort_5 rfl (lv_at hl 2 rfl) ?_
  refine lv_iload_n hx hb dL_sort_6 rfl (lv_at hl 3 rfl) ?_
  refine xr_vcall (As := [.int o, .int (nI a), .int (nI b)]) (rest := [.int 0, .ref qo]) (nA := 3) C0 (c_sort l D q cI ((cL, .long) :: tyr) ((qo, .inl (cL, 1, .inr (.inl (fo)))) :: wr) _ n f g sf sg r o a b h1 h2 hab hbn hn) (gV wM_L_X0_sort wI_X0_sort wV_X0_X0_sort wN_X0 wC_X0_sort) (by decide +kernel) rfl rfl rfl ⟨by decide, by decide⟩ hK hP hD hS hA 0 rfl rfl hl.1 rfl (Nat.le_of_ble_eq_true rfl) dL_sort_7 ⟨Nat.le_of_ble_eq_true rfl, Nat.le_of_ble_eq_true rfl⟩ (fun v w H locs hv hP hD hz hS => ?_)
  obtain ⟨f', g', sf', sg', r', rfl, rfl, hSt⟩ := hv
  refine lv_i2l hx hb dL_sort_10 rfl ?_
  refine xr_last0 C0 hK hP hD hS 6 rfl dL_sort_11 (fun H locs hP hD hS => ?_)
  have hP : va_P D vwCl (rs_X q cI (n) (f') (g') (sf') (sg') (r') ++ ((qo, .inl (cL, 1, .inr (.inl (vp_updL fo 0 (nI (b - a)).toInt64)))) :: wr)) H := hP
  have hD : va_D A (rs_X q cI (n) (f') (g') (sf') (sg') (r') ++ ((qo, .inl (cL, 1, .inr (.inl (vp_updL fo 0 (nI (b - a)).toInt64)))) :: wr)) := hD
  refine lv_goto hx hb dL_sort_12 rfl ?_
  refine lv_iconst (v := 0) hx hb dL_sort_19 (by decide) ?_
  refine W.widen (k := 1) (n := 6) (by decide) (by decide) ?_
  exact xr_iret C0 hlk hr (⟨f', g', sf', sg', r', rfl, rfl, hSt⟩) hP hD hS dL_sort_20
set_option maxHeartbeats 4000000 in
set_option maxRecDepth 100000 in
/-- sort: a number out of range -/
theorem h_sort1 (l : Launch) (hl0 : l.stackTraces = false) (D : va_G) (q : Nat → Nat) (qo : Nat) (cI cL : ClassId) (tyr : List (ClassId × FieldType)) (wr : va_W) (sz n : Nat) (f g sf sg r : Nat → Int32) (fo : Nat → Int64) (o a b : Int32) (hbad : (o < 0 ∨ 3 < o) ∨ (b < 0 ∨ nI n < b) ∨ a < 0 ∨ b < a) : xr_HM l yL_sort (wH yL_sort cL_sort 6 (some .int) [(0, 12, 15, 13)]) [.ref (q 0), .int o, .int a, .int b, .ref qo] D (rs_ty cI ((cL, .long) :: tyr)) (rs_X q cI n f g sf sg r ++ ((qo, .inl (cL, 1, .inr (.inl fo))) :: wr)) sz (fun v w => v = some (.int 1) ∧ w = rs_X q cI n f g sf sg r ++ ((qo, .inl (cL, 1, .inr (.inl (fo)))) :: wr)) := by
  refine xr_hstart (by decide) (Nat.le_of_ble_eq_true rfl) ?_
  intro p e s m args below meth c A ls C0 hlk hr htab hP hK hD hA hZ hl
  have hx := C0.1
  have hb := C0.2.1
  have hS : va_S A s.heap s.heap [] := va_S.rf
  have hl : lv_has ls 6 [(0, .ref (q 0)), (1, .int o), (2, .int a), (3, .int b), (4, .ref qo)] := hl
  refine lv_aload hx hb dL_sort_0 (lv_at hl 4 rfl) ?_
  refine lv_iconst (v := 0) hx hb dL_sort_2 (by decide) ?_
  refine lv_aload_n hx hb dL_sort_3 rfl (lv_at hl 0 rfl) ?_
  refine lv_iload_n hx hb dL_sort_4 rfl (lv_at hl 1 rfl) ?_
  refine lv_iload_n hx hb dL_sort_5 rfl (lv_at hl 2 rfl) ?_
  refine lv_iload_n hx hb dL_sort_6 rfl (lv_at hl 3 rfl) ?_
  refine xr_hthrow (As := [.int o, .int a, .int b]) (rest := [.int 0, .ref qo]) (nA := 3) C0 (t_sort l hl0 D q cI ((cL, .long) :: tyr) ((qo, .inl (cL, 1, .inr (.inl (fo)))) :: wr) n f g sf sg r o a b hbad) (gV wM_L_X0_sort wI_X0_sort wV_X0_X0_sort wN_X0 wC_X0_sort) (by decide +kernel) rfl rfl rfl ⟨by decide, by decide⟩ hK hP hZ.1 0 rfl rfl hl.1 rfl (Nat.le_of_ble_eq_true rfl) dL_sort_7 ⟨by decide, by decide⟩ (fun qx H ce hz hk hc hv hcl => ?_)
  refine vx_catch C0.2.2.2.1 [] ⟨0, 12, 15, 13⟩ [] htab (fun z hz => absurd hz List.not_mem_nil) (by decide) (by decide) (C0.2.2.2.2 _ wK_L_IllegalArgumentException) (va_Nw.use rfl hZ.1.2.2.2.2.2.1) hc hv hcl ?_
  have hP : va_P D vwCl (rs_X q cI (n) (f) (g) (sf) (sg) (r) ++ ((qo, .inl (cL, 1, .inr (.inl (fo)))) :: wr)) H := hP.kept (fun k x hx => hk x.1 ((hP k x hx).lt))
  have hS : va_S A s.heap H [] := ⟨hz, fun q h1 _ => hk q h1, fun q hq => by cases hq⟩
  refine lv_astore hx hb dL_sort_15 hl (by decide) rfl (fun ls hl => ?_)
  have hl : lv_has ls 6 [(5, .ref qx), (0, .ref (q 0)), (1, .int o), (2, .int a), (3, .int b), (4, .ref qo)] := hl
  refine lv_iconst (v := 1) hx hb dL_sort_17 (by decide) ?_
  exact xr_iret C0 hlk hr (⟨rfl, rfl⟩) hP hD hS dL_sort_18
set_option maxHeartbeats 4000000 in
set_option maxRecDepth 100000 in
/-- get returns -/
theorem h_get0 (l : Launch) (hl0 : l.stackTraces = false) (D : va_G) (q : Nat → Nat) (qo : Nat) (cI cL : ClassId) (tyr : List (ClassId × FieldType)) (wr : va_W) (sz n : Nat) (f g sf sg r : Nat → Int32) (fo : Nat → Int64) (i : Nat) (hi : i < n) (hn : n ≤ 2000) : xr_HM l yL_get (wH yL_get cL_get 4 (some .int) [(0, 9, 12, 15)]) [.ref (q 0), .int (nI i), .ref qo] D (rs_ty cI ((cL, .long) :: tyr)) (rs_X q cI n f g sf sg r ++ ((qo, .inl (cL, 1, .inr (.inl fo))) :: wr)) sz (fun v w => v = some (.int 0) ∧ w = rs_X q cI (n) (f) (g) (sf) (sg) (r) ++ ((qo, .inl (cL, 1, .inr (.inl (vp_updL fo 0 (f i).toInt64)))) :: wr)) := by
  refine xr_hstart (by decide) (Nat.le_of_ble_eq_true rfl) ?_
  intro p e s m args below meth c A ls C0 hlk hr htab hP hK hD hA hZ hl
  have hx := C0.1
  have hb := C0.2.1
  have hS : va_S A s.heap s.heap [] := va_S.rf
  have hl : lv_has ls 4 [(0, .ref (q 0)), (1, .int (nI i)), (2, .ref qo)] := hl
  refine lv_aload_n hx hb dL_get_0 rfl (lv_at hl 2 rfl) ?_
  refine lv_iconst (v := 0) hx hb dL_get_1 (by decide) ?_
  refine lv_aload_n hx hb dL_get_2 rfl (lv_at hl 0 rfl) ?_
  refine lv_iload_n hx hb dL_get_3 rfl (lv_at hl 1 rfl) ?_
  refine xr_vcall (As := [.int (nI i)]) (rest := [.int 0, .ref qo]) (nA := 1) C0 (c_get l D q cI ((cL, .long) :: tyr) ((qo, .inl (cL, 1, .inr (.inl (fo)))) :: wr) _ n f g sf sg r i hi hn) (gV wM_L_X0_get wI_X0_get wV_X0_X0_get wN_X0 wC_X0_get) (by decide +kernel) rfl rfl rfl ⟨by decide, by decide⟩ hK hP hD hS hA 0 rfl rfl hl.1 rfl (Nat.le_of_ble_eq_true rfl) dL_get_4 ⟨Nat.le_of_ble_eq_true rfl, Nat.le_of_ble_eq_true rfl⟩ (fun v w H locs hv hP hD hz hS => ?_)
  obtain ⟨rfl, rfl⟩ := hv
  refine lv_i2l hx hb dL_get_7 rfl ?_
  refine xr_last0 C0 hK hP hD hS 6 rfl dL_get_8 (fun H locs hP hD hS => ?_)
  have hP : va_P D vwCl (rs_X q cI (n) (f) (g) (sf) (sg) (r) ++ ((qo, .inl (cL, 1, .inr (.inl (vp_updL fo 0 (f i).toInt64)))) :: wr)) H := hP
  have hD : va_D A (rs_X q cI (n) (f) (g) (sf) (sg) (r) ++ ((qo, .inl (cL, 1, .inr (.inl (vp_updL fo 0 (f i).toInt64)))) :: wr)) := hD
  refine lv_goto hx hb dL_get_9 rfl ?_
  refine lv_iconst (v := 0) hx hb dL_get_15 (by decide) ?_
  refine W.widen (k := 1) (n := 6) (by decide) (by decide) ?_
  exact xr_iret C0 hlk hr (⟨rfl, rfl⟩) hP hD hS dL_get_16
set_option maxHeartbeats 4000000 in
set_option maxRecDepth 100000 in
/-- get: no such index -/
theorem h_get1 (l : Launch) (hl0 : l.stackTraces = false) (D : va_G) (q : Nat → Nat) (qo : Nat) (cI cL : ClassId) (tyr : List (ClassId × FieldType)) (wr : va_W) (sz n : Nat) (f g sf sg r : Nat → Int32) (fo : Nat → Int64) (i : Int32) (hbad : i < 0 ∨ nI n ≤ i) : xr_HM l yL_get (wH yL_get cL_get 4 (some .int) [(0, 9, 12, 15)]) [.ref (q 0), .int i, .ref qo] D (rs_ty cI ((cL, .long) :: tyr)) (rs_X q cI n f g sf sg r ++ ((qo, .inl (cL, 1, .inr (.inl fo))) :: wr)) sz (fun v w => v = some (.int 1) ∧ w = rs_X q cI n f g sf sg r ++ ((qo, .inl (cL, 1, .inr (.inl (fo)))) :: wr)) := by
  refine xr_hstart (by decide) (Nat.le_of_ble_eq_true rfl) ?_
  intro p e s m args below meth c A ls C0 hlk hr htab hP hK hD hA hZ hl
  have hx := C0.1
  have hb := C0.2.1
  have hS : va_S A s.heap s.heap [] := va_S.rf
  have hl : lv_has ls 4 [(0, .ref (q 0)), (1, .int i), (2, .ref qo)] := hl
  refine lv_aload_n hx hb dL_get_0 rfl (lv_at hl 2 rfl) ?_
  refine lv_iconst (v := 0) hx hb dL_get_1 (by decide) ?_
  refine lv_aload_n hx hb dL_get_2 rfl (lv_at hl 0 rfl) ?_
  refine lv_iload_n hx hb dL_get_3 rfl (lv_at hl 1 rfl) ?_
  refine xr_hthrow (As := [.int i]) (rest := [.int 0, .ref qo]) (nA := 1) C0 (t_get l hl0 D q cI ((cL, .long) :: tyr) ((qo, .inl (cL, 1, .inr (.inl (fo)))) :: wr) n f g sf sg r i hbad) (gV wM_L_X0_get wI_X0_get wV_X0_X0_get wN_X0 wC_X0_get) (by decide +kernel) rfl rfl rfl ⟨by decide, by decide⟩ hK hP hZ.1 0 rfl rfl hl.1 rfl (Nat.le_of_ble_eq_true rfl) dL_get_4 ⟨by decide, by decide⟩ (fun qx H ce hz hk hc hv hcl => ?_)
  refine vx_catch C0.2.2.2.1 [] ⟨0, 9, 12, 15⟩ [] htab (fun z hz => absurd hz List.not_mem_nil) (by decide) (by decide) (C0.2.2.2.2 _ wK_L_IndexOutOfBoundsException) (va_Nw.use rfl hZ.1.2.2.2.2.2.2.1) hc hv hcl ?_
  have hP : va_P D vwCl (rs_X q cI (n) (f) (g) (sf) (sg) (r) ++ ((qo, .inl (cL, 1, .inr (.inl (fo)))) :: wr)) H := hP.kept (fun k x hx => hk x.1 ((hP k x hx).lt))
  have hS : va_S A s.heap H [] := ⟨hz, fun q h1 _ => hk q h1, fun q hq => by cases hq⟩
  refine lv_astore_n hx hb dL_get_12 rfl hl (by decide) rfl (fun ls hl => ?_)
  have hl : lv_has ls 4 [(3, .ref qx), (0, .ref (q 0)), (1, .int i), (2, .ref qo)] := hl
  refine lv_iconst (v := 1) hx hb dL_get_13 (by decide) ?_
  exact xr_iret C0 hlk hr (⟨rfl, rfl⟩) hP hD hS dL_get_14
set_option maxHeartbeats 4000000 in
set_option maxRecDepth 100000 in
/-- tag returns -/
theorem h_tag0 (l : Launch) (hl0 : l.stackTraces = false) (D : va_G) (q : Nat → Nat) (qo : Nat) (cI cL : ClassId) (tyr : List (ClassId × FieldType)) (wr : va_W) (sz n : Nat) (f g sf sg r : Nat → Int32) (fo : Nat → Int64) (i : Nat) (hi : i < n) (hn : n ≤ 2000) : xr_HM l yL_tag (wH yL_tag cL_tag 4 (some .int) [(0, 9, 12, 15)]) [.ref (q 0), .int (nI i), .ref qo] D (rs_ty cI ((cL, .long) :: tyr)) (rs_X q cI n f g sf sg r ++ ((qo, .inl (cL, 1, .inr (.inl fo))) :: wr)) sz (fun v w => v = some (.int 0) ∧ w = rs_X q cI (n) (f) (g) (sf) (sg) (r) ++ ((qo, .inl (cL, 1, .inr (.inl (vp_updL fo 0 (g i).toInt64)))) :: wr)) := by
  refine xr_hstart (by decide) (Nat.le_of_ble_eq_true rfl) ?_
  intro p e s m args below meth c A ls C0 hlk hr htab hP hK hD hA hZ hl
  have hx := C0.1
  have hb := C0.2.1
  have hS : va_S A s.heap s.heap [] := va_S.rf
  have hl : lv_has ls 4 [(0, .ref (q 0)), (1, .int (nI i)), (2, .ref qo)] := hl
  refine lv_aload_n hx hb dL_tag_0 rfl (lv_at hl 2 rfl) ?_
  refine lv_iconst (v := 0) hx hb dL_tag_1 (by decide) ?_
  refine lv_aload_n hx hb dL_tag_2 rfl (lv_at hl 0 rfl) ?_
  refine lv_iload_n hx hb dL_tag_3 rfl (lv_at hl 1 rfl) ?_
  refine xr_vcall (As := [.int (nI i)]) (rest := [.int 0, .ref qo]) (nA := 1) C0 (c_tag l D q cI ((cL, .long) :: tyr) ((qo, .inl (cL, 1, .inr (.inl (fo)))) :: wr) _ n f g sf sg r i hi hn) (gV wM_L_X0_tag wI_X0_tag wV_X0_X0_tag wN_X0 wC_X0_tag) (by decide +kernel) rfl rfl rfl ⟨by decide, by decide⟩ hK hP hD hS hA 0 rfl rfl hl.1 rfl (Nat.le_of_ble_eq_true rfl) dL_tag_4 ⟨Nat.le_of_ble_eq_true rfl, Nat.le_of_ble_eq_true rfl⟩ (fun v w H locs hv hP hD hz hS => ?_)
  obtain ⟨rfl, rfl⟩ := hv
  refine lv_i2l hx hb dL_tag_7 rfl ?_
  refine xr_last0 C0 hK hP hD hS 6 rfl dL_tag_8 (fun H locs hP hD hS => ?_)
  have hP : va_P D vwCl (rs_X q cI (n) (f) (g) (sf) (sg) (r) ++ ((qo, .inl (cL, 1, .inr (.inl (vp_updL fo 0 (g i).toInt64)))) :: wr)) H := hP
  have hD : va_D A (rs_X q cI (n) (f) (g) (sf) (sg) (r) ++ ((qo, .inl (cL, 1, .inr (.inl (vp_updL fo 0 (g i).toInt64)))) :: wr)) := hD
  refine lv_goto hx hb dL_tag_9 rfl ?_
  refine lv_iconst (v := 0) hx hb dL_tag_15 (by decide) ?_
  refine W.widen (k := 1) (n := 6) (by decide) (by decide) ?_
  exact xr_iret C0 hlk hr (⟨rfl, rfl⟩) hP hD hS dL_tag_16
set_option maxHeartbeats 4000000 in
set_option maxRecDepth 100000 in
/-- tag: no such index -/
theorem h_tag1 (l : Launch) (hl0 : l.stackTraces = false) (D : va_G) (q : Nat → Nat) (qo : Nat) (cI cL : ClassId) (tyr : List (ClassId × FieldType)) (wr : va_W) (sz n : Nat) (f g sf sg r : Nat → Int32) (fo : Nat → Int64) (i : Int32) (hbad : i < 0 ∨ nI n ≤ i) : xr_HM l yL_tag (wH yL_tag cL_tag 4 (some .int) [(0, 9, 12, 15)]) [.ref (q 0), .int i, .ref qo] D (rs_ty cI ((cL, .long) :: tyr)) (rs_X q cI n f g sf sg r ++ ((qo, .inl (cL, 1, .inr (.inl fo))) :: wr)) sz (fun v w => v = some (.int 1) ∧ w = rs_X q cI n f g sf sg r ++ ((qo, .inl (cL, 1, .inr (.inl (fo)))) :: wr)) := by
  refine xr_hstart (by decide) (Nat.le_of_ble_eq_true rfl) ?_
  intro p e s m args below meth c A ls C0 hlk hr htab hP hK hD hA hZ hl
  have hx := C0.1
  have hb := C0.2.1
  have hS : va_S A s.heap s.heap [] := va_S.rf
  have hl : lv_has ls 4 [(0, .ref (q 0)), (1, .int i), (2, .ref qo)] := hl
  refine lv_aload_n hx hb dL_tag_0 rfl (lv_at hl 2 rfl) ?_
  refine lv_iconst (v := 0) hx hb dL_tag_1 (by decide) ?_
  refine lv_aload_n hx hb dL_tag_2 rfl (lv_at hl 0 rfl) ?_
  refine lv_iload_n hx hb dL_tag_3 rfl (lv_at hl 1 rfl) ?_
  refine xr_hthrow (As := [.int i]) (rest := [.int 0, .ref qo]) (nA := 1) C0 (t_tag l hl0 D q cI ((cL, .long) :: tyr) ((qo, .inl (cL, 1, .inr (.inl (fo)))) :: wr) n f g sf sg r i hbad) (gV wM_L_X0_tag wI_X0_tag wV_X0_X0_tag wN_X0 wC_X0_tag) (by decide +kernel) rfl rfl rfl ⟨by decide, by decide⟩ hK hP hZ.1 0 rfl rfl hl.1 rfl (Nat.le_of_ble_eq_true rfl) dL_tag_4 ⟨by decide, by decide⟩ (fun qx H ce hz hk hc hv hcl => ?_)
  refine vx_catch C0.2.2.2.1 [] ⟨0, 9, 12, 15⟩ [] htab (fun z hz => absurd hz List.not_mem_nil) (by decide) (by decide) (C0.2.2.2.2 _ wK_L_IndexOutOfBoundsException) (va_Nw.use rfl hZ.1.2.2.2.2.2.2.1) hc hv hcl ?_
  have hP : va_P D vwCl (rs_X q cI (n) (f) (g) (sf) (sg) (r) ++ ((qo, .inl (cL, 1, .inr (.inl (fo)))) :: wr)) H := hP.kept (fun k x hx => hk x.1 ((hP k x hx).lt))
  have hS : va_S A s.heap H [] := ⟨hz, fun q h1 _ => hk q h1, fun q hq => by cases hq⟩
  refine lv_astore_n hx hb dL_tag_12 rfl hl (by decide) rfl (fun ls hl => ?_)
  have hl : lv_has ls 4 [(3, .ref qx), (0, .ref (q 0)), (1, .int i), (2, .ref qo)] := hl
  refine lv_iconst (v := 1) hx hb dL_tag_13 (by decide) ?_
  exact xr_iret C0 hlk hr (⟨rfl, rfl⟩) hP hD hS dL_tag_14
set_option maxHeartbeats 4000000 in
set_option maxRecDepth 100000 in
/-- set returns -/
theorem h_set0 (l : Launch) (hl0 : l.stackTraces = false) (D : va_G) (q : Nat → Nat) (qo : Nat) (cI cL : ClassId) (tyr : List (ClassId × FieldType)) (wr : va_W) (sz n : Nat) (f g sf sg r : Nat → Int32) (fo : Nat → Int64) (i : Nat) (x : Int32) (hi : i < n) (hn : n ≤ 2000) : xr_HM l yL_set (wH yL_set cL_set 5 (some .int) [(0, 10, 13, 15)]) [.ref (q 0), .int (nI i), .int x, .ref qo] D (rs_ty cI ((cL, .long) :: tyr)) (rs_X q cI n f g sf sg r ++ ((qo, .inl (cL, 1, .inr (.inl fo))) :: wr)) sz (fun v w => v = some (.int 0) ∧ w = rs_X q cI (n) (upd f i x) (g) (sf) (sg) (r) ++ ((qo, .inl (cL, 1, .inr (.inl (vp_updL fo 0 (f i).toInt64)))) :: wr)) := by
  refine xr_hstart (by decide) (Nat.le_of_ble_eq_true rfl) ?_
  intro p e s m args below meth c A ls C0 hlk hr htab hP hK hD hA hZ hl
  have hx := C0.1
  have hb := C0.2.1
  have hS : va_S A s.heap s.heap [] := va_S.rf
  have hl : lv_has ls 5 [(0, .ref (q 0)), (1, .int (nI i)), (2, .int x), (3, .ref qo)] := hl
  refine lv_aload_n hx hb dL_set_0 rfl (lv_at hl 3 rfl) ?_
  refine lv_iconst (v := 0) hx hb dL_set_1 (by decide) ?_
  refine lv_aload_n hx hb dL_set_2 rfl (lv_at hl 0 rfl) ?_
  refine lv_iload_n hx hb dL_set_3 rfl (lv_at hl 1 rfl) ?_
  refine lv_iload_n hx hb dL_set_4 rfl (lv_at hl 2 rfl) ?_
  refine xr_vcall (As := [.int (nI i), .int x]) (rest := [.int 0, .ref qo]) (nA := 2) C0 (c_set l D q cI ((cL, .long) :: tyr) ((qo, .inl (cL, 1, .inr (.inl (fo)))) :: wr) _ n f g sf sg r i x hi hn) (gV wM_L_X0_set wI_X0_set wV_X0_X0_set wN_X0 wC_X0_set) (by decide +kernel) rfl rfl rfl ⟨by decide, by decide⟩ hK hP hD hS hA 0 rfl rfl hl.1 rfl (Nat.le_of_ble_eq_true rfl) dL_set_5 ⟨Nat.le_of_ble_eq_true rfl, Nat.le_of_ble_eq_true rfl⟩ (fun v w H locs hv hP hD hz hS => ?_)
  obtain ⟨rfl, rfl⟩ := hv
  refine lv_i2l hx hb dL_set_8 rfl ?_
  refine xr_last0 C0 hK hP hD hS 6 rfl dL_set_9 (fun H locs hP hD hS => ?_)
  have hP : va_P D vwCl (rs_X q cI (n) (upd f i x) (g) (sf) (sg) (r) ++ ((qo, .inl (cL, 1, .inr (.inl (vp_updL fo 0 (f i).toInt64)))) :: wr)) H := hP
  have hD : va_D A (rs_X q cI (n) (upd f i x) (g) (sf) (sg) (r) ++ ((qo, .inl (cL, 1, .inr (.inl (vp_updL fo 0 (f i).toInt64)))) :: wr)) := hD
  refine lv_goto hx hb dL_set_10 rfl ?_
  refine lv_iconst (v := 0) hx hb dL_set_17 (by decide) ?_
  refine W.widen (k := 1) (n := 6) (by decide) (by decide) ?_
  exact xr_iret C0 hlk hr (⟨rfl, rfl⟩) hP hD hS dL_set_18
set_option maxHeartbeats 4000000 in
set_option maxRecDepth 100000 in
/-- set: no such index -/
theorem h_set1 (l : Launch) (hl0 : l.stackTraces = false) (D : va_G) (q : Nat → Nat) (qo : Nat) (cI cL : ClassId) (tyr : List (ClassId × FieldType)) (wr : va_W) (sz n : Nat) (f g sf sg r : Nat → Int32) (fo : Nat → Int64) (i x : Int32) (hbad : i < 0 ∨ nI n ≤ i) : xr_HM l yL_set (wH yL_set cL_set 5 (some .int) [(0, 10, 13, 15)]) [.ref (q 0), .int i, .int x, .ref qo] D (rs_ty cI ((cL, .long) :: tyr)) (rs_X q cI n f g sf sg r ++ ((qo, .inl (cL, 1, .inr (.inl fo))) :: wr)) sz (fun v w => v = some (.int 1) ∧ w = rs_X q cI n f g sf sg r ++ ((qo, .inl (cL, 1, .inr (.inl (fo)))) :: wr)) := by
  refine xr_hstart (by decide) (Nat.le_of_ble_eq_true rfl) ?_
  intro p e s m args below meth c A ls C0 hlk hr htab hP hK hD hA hZ hl
  have hx := C0.1
  have hb := C0.2.1
  have hS : va_S A s.heap s.heap [] := va_S.rf
  have hl : lv_has ls 5 [(0, .ref (q 0)), (1, .int i), (2, .int x), (3, .ref qo)] := hl
  refine lv_aload_n hx hb dL_set_0 rfl (lv_at hl 3 rfl) ?_
  refine lv_iconst (v := 0) hx hb dL_set_1 (by decide) ?_
  refine lv_aload_n hx hb dL_set_2 rfl (lv_at hl 0 rfl) ?_
  refine lv_iload_n hx hb dL_set_3 rfl (lv_at hl 1 rfl) ?_
  refine lv_iload_n hx hb dL_set_4 rfl (lv_at hl 2 rfl) ?_
  refine xr_hthrow (As := [.int i, .int x]) (rest := [.int 0, .ref qo]) (nA := 2) C0 (tx_set l hl0 D q cI ((cL, .long) :: tyr) ((qo, .inl (cL, 1, .inr (.inl (fo)))) :: wr) n f g sf sg r i x hbad) (gV wM_L_X0_set wI_X0_set wV_X0_X0_set wN_X0 wC_X0_set) (by decide +kernel) rfl rfl rfl ⟨by decide, by decide⟩ hK hP hZ.1 0 rfl rfl hl.1 rfl (Nat.le_of_ble_eq_true rfl) dL_set_5 ⟨by decide, by decide⟩ (fun qx H ce hz hk hc hv hcl => ?_)
  refine vx_catch C0.2.2.2.1 [] ⟨0, 10, 13, 15⟩ [] htab (fun z hz => absurd hz List.not_mem_nil) (by decide) (by decide) (C0.2.2.2.2 _ wK_L_IndexOutOfBoundsException) (va_Nw.use rfl hZ.1.2.2.2.2.2.2.1) hc hv hcl ?_
  have hP : va_P D vwCl (rs_X q cI (n) (f) (g) (sf) (sg) (r) ++ ((qo, .inl (cL, 1, .inr (.inl (fo)))) :: wr)) H := hP.kept (fun k x hx => hk x.1 ((hP k x hx).lt))
  have hS : va_S A s.heap H [] := ⟨hz, fun q h1 _ => hk q h1, fun q hq => by cases hq⟩
  refine lv_astore hx hb dL_set_13 hl (by decide) rfl (fun ls hl => ?_)
  have hl : lv_has ls 5 [(4, .ref qx), (0, .ref (q 0)), (1, .int i), (2, .int x), (3, .ref qo)] := hl
  refine lv_iconst (v := 1) hx hb dL_set_15 (by decide) ?_
  exact xr_iret C0 hlk hr (⟨rfl, rfl⟩) hP hD hS dL_set_16
set_option maxHeartbeats 4000000 in
set_option maxRecDepth 100000 in
/-- turn returns -/
theorem h_turn0 (l : Launch) (hl0 : l.stackTraces = false) (D : va_G) (q : Nat → Nat) (qo : Nat) (cI cL : ClassId) (tyr : List (ClassId × FieldType)) (wr : va_W) (sz n : Nat) (f g sf sg r : Nat → Int32) (fo : Nat → Int64) (a b : Nat) (h1 : a ≤ b) (h2 : b ≤ n) (hn : n ≤ 2000) : xr_HM l yL_turn (wH yL_turn cL_turn 5 (some .int) [(0, 10, 13, 13)]) [.ref (q 0), .int (nI a), .int (nI b), .ref qo] D (rs_ty cI ((cL, .long) :: tyr)) (rs_X q cI n f g sf sg r ++ ((qo, .inl (cL, 1, .inr (.inl fo))) :: wr)) sz (fun v w => v = some (.int 0) ∧ w = rs_X q cI (n) (rs_tn f a b ((b - a) / 2)) (rs_tn g a b ((b - a) / 2)) (sf) (sg) (r) ++ ((qo, .inl (cL, 1, .inr (.inl (vp_updL fo 0 (nI (b - a)).toInt64)))) :: wr)) := by
  refine xr_hstart (by decide) (Nat.le_of_ble_eq_true rfl) ?_
  intro p e s m args below meth c A ls C0 hlk hr htab hP hK hD hA hZ hl
  have hx := C0.1
  have hb := C0.2.1
  have hS : va_S A s.heap s.heap [] := va_S.rf
  have hl : lv_has ls 5 [(0, .ref (q 0)), (1, .int (nI a)), (2, .int (nI b)), (3, .ref qo)] := hl
  refine lv_aload_n hx hb dL_turn_0 rfl (lv_at hl 3 rfl) ?_
  refine lv_iconst (v := 0) hx hb dL_turn_1 (by decide) ?_
  refine lv_aload_n hx hb dL_turn_2 rfl (lv_at hl 0 rfl) ?_
  refine lv_iload_n hx hb dL_turn_3 rfl (lv_at hl 1 rfl) ?_
  refine lv_iload_n hx hb dL_turn_4 rfl (lv_at hl 2 rfl) ?_
  refine xr_vcall (As := [.int (nI a), .int (nI b)]) (rest := [.int 0, .ref qo]) (nA := 2) C0 (c_turn l D q cI ((cL, .long) :: tyr) ((qo, .inl (cL, 1, .inr (.inl (fo)))) :: wr) _ n f g sf sg r a b h1 h2 hn) (gV wM_L_X0_turn wI_X0_turn wV_X0_X0_turn wN_X0 wC_X0_turn) (by decide +kernel) rfl rfl rfl ⟨by decide, by decide⟩ hK hP hD hS hA 0 rfl rfl hl.1 rfl (Nat.le_of_ble_eq_true rfl) dL_turn_5 ⟨Nat.le_of_ble_eq_true rfl, Nat.le_of_ble_eq_true rfl⟩ (fun v w H locs hv hP hD hz hS => ?_)
  obtain ⟨rfl, rfl⟩ := hv
  refine lv_i2l hx hb dL_turn_8 rfl ?_
  refine xr_last0 C0 hK hP hD hS 6 rfl dL_turn_9 (fun H locs hP hD hS => ?_)
  have hP : va_P D vwCl (rs_X q cI (n) (rs_tn f a b ((b - a) / 2)) (rs_tn g a b ((b - a) / 2)) (sf) (sg) (r) ++ ((qo, .inl (cL, 1, .inr (.inl (vp_updL fo 0 (nI (b - a)).toInt64)))) :: wr)) H := hP
  have hD : va_D A (rs_X q cI (n) (rs_tn f a b ((b - a) / 2)) (rs_tn g a b ((b - a) / 2)) (sf) (sg) (r) ++ ((qo, .inl (cL, 1, .inr (.inl (vp_updL fo 0 (nI (b - a)).toInt64)))) :: wr)) := hD
  refine lv_goto hx hb dL_turn_10 rfl ?_
  refine lv_iconst (v := 0) hx hb dL_turn_17 (by decide) ?_
  refine W.widen (k := 1) (n := 6) (by decide) (by decide) ?_
  exact xr_iret C0 hlk hr (⟨rfl, rfl⟩) hP hD hS dL_turn_18
set_option maxHeartbeats 4000000 in
set_option maxRecDepth 100000 in
/-- turn: a number out of range -/
theorem h_turn1 (l : Launch) (hl0 : l.stackTraces = false) (D : va_G) (q : Nat → Nat) (qo : Nat) (cI cL : ClassId) (tyr : List (ClassId × FieldType)) (wr : va_W) (sz n : Nat) (f g sf sg r : Nat → Int32) (fo : Nat → Int64) (a b : Int32) (hbad : (b < 0 ∨ nI n < b) ∨ a < 0 ∨ b < a) : xr_HM l yL_turn (wH yL_turn cL_turn 5 (some .int) [(0, 10, 13, 13)]) [.ref (q 0), .int a, .int b, .ref qo] D (rs_ty cI ((cL, .long) :: tyr)) (rs_X q cI n f g sf sg r ++ ((qo, .inl (cL, 1, .inr (.inl fo))) :: wr)) sz (fun v w => v = some (.int 1) ∧ w = rs_X q cI n f g sf sg r ++ ((qo, .inl (cL, 1, .inr (.inl (fo)))) :: wr)) := by
  refine xr_hstart (by decide) (Nat.le_of_ble_eq_true rfl) ?_
  intro p e s m args below meth c A ls C0 hlk hr htab hP hK hD hA hZ hl
  have hx := C0.1
  have hb := C0.2.1
  have hS : va_S A s.heap s.heap [] := va_S.rf
  have hl : lv_has ls 5 [(0, .ref (q 0)), (1, .int a), (2, .int b), (3, .ref qo)] := hl
  refine lv_aload_n hx hb dL_turn_0 rfl (lv_at hl 3 rfl) ?_
  refine lv_iconst (v := 0) hx hb dL_turn_1 (by decide) ?_
  refine lv_aload_n hx hb dL_turn_2 rfl (lv_at hl 0 rfl) ?_
  refine lv_iload_n hx hb dL_turn_3 rfl (lv_at hl 1 rfl) ?_
  refine lv_iload_n hx hb dL_turn_4 rfl (lv_at hl 2 rfl) ?_
  refine xr_hthrow (As := [.int a, .int b]) (rest := [.int 0, .ref qo]) (nA := 2) C0 (t_turn l hl0 D q cI ((cL, .long) :: tyr) ((qo, .inl (cL, 1, .inr (.inl (fo)))) :: wr) n f g sf sg r a b hbad) (gV wM_L_X0_turn wI_X0_turn wV_X0_X0_turn wN_X0 wC_X0_turn) (by decide +kernel) rfl rfl rfl ⟨by decide, by decide⟩ hK hP hZ.1 0 rfl rfl hl.1 rfl (Nat.le_of_ble_eq_true rfl) dL_turn_5 ⟨by decide, by decide⟩ (fun qx H ce hz hk hc hv hcl => ?_)
  refine vx_catch C0.2.2.2.1 [] ⟨0, 10, 13, 13⟩ [] htab (fun z hz => absurd hz List.not_mem_nil) (by decide) (by decide) (C0.2.2.2.2 _ wK_L_IllegalArgumentException) (va_Nw.use rfl hZ.1.2.2.2.2.2.1) hc hv hcl ?_
  have hP : va_P D vwCl (rs_X q cI (n) (f) (g) (sf) (sg) (r) ++ ((qo, .inl (cL, 1, .inr (.inl (fo)))) :: wr)) H := hP.kept (fun k x hx => hk x.1 ((hP k x hx).lt))
  have hS : va_S A s.heap H [] := ⟨hz, fun q h1 _ => hk q h1, fun q hq => by cases hq⟩
  refine lv_astore hx hb dL_turn_13 hl (by decide) rfl (fun ls hl => ?_)
  have hl : lv_has ls 5 [(4, .ref qx), (0, .ref (q 0)), (1, .int a), (2, .int b), (3, .ref qo)] := hl
  refine lv_iconst (v := 1) hx hb dL_turn_15 (by decide) ?_
  exact xr_iret C0 hlk hr (⟨rfl, rfl⟩) hP hD hS dL_turn_16
set_option maxHeartbeats 4000000 in
set_option maxRecDepth 100000 in
/-- upTo returns -/
theorem h_upTo0 (l : Launch) (hl0 : l.stackTraces = false) (D : va_G) (q : Nat → Nat) (qo : Nat) (cI cL : ClassId) (tyr : List (ClassId × FieldType)) (wr : va_W) (sz n : Nat) (f g sf sg r : Nat → Int32) (fo : Nat → Int64) (o x b : Int32) (h1 : ¬ o < 0) (h2 : o ≤ 3) (hn : n ≤ 2000) : xr_HM l yL_upTo (wH yL_upTo cL_upTo 6 (some .int) [(0, 12, 15, 13)]) [.ref (q 0), .int o, .int x, .int b, .ref qo] D (rs_ty cI ((cL, .long) :: tyr)) (rs_X q cI n f g sf sg r ++ ((qo, .inl (cL, 1, .inr (.inl fo))) :: wr)) sz (fun v w => ∃ t, v = some (.int 0) ∧ w = rs_X q cI (n) (f) (g) (sf) (sg) (r) ++ ((qo, .inl (cL, 1, .inr (.inl (vp_updL fo 0 (nI t).toInt64)))) :: wr) ∧ rs_uT o x b f n t) := by
  refine xr_hstart (by decide) (Nat.le_of_ble_eq_true rfl) ?_
  intro p e s m args below meth c A ls C0 hlk hr htab hP hK hD hA hZ hl
  have hx := C0.1
  have hb := C0.2.1
  have hS : va_S A s.heap s.heap [] := va_S.rf
  have hl : lv_has ls 6 [(0, .ref (q 0)), (1, .int o), (2, .int x), (3, .int b), (4, .ref qo)] := hl
  refine lv_aload hx hb dL_upTo_0 (lv_at hl 4 rfl) ?_
  refine lv_iconst (v := 0) hx hb dL_upTo_2 (by decide) ?_
  refine lv_aload_n hx hb dL_upTo_3 rfl (lv_at hl 0 rfl) ?_
  refine lv_iload_n hx hb dL_upTo_4 rfl (lv_at hl 1 rfl) ?_
  refine lv_iload_n hx hb dL_upTo_5 rfl (lv_at hl 2 rfl) ?_
  refine lv_iload_n hx hb dL_upTo_6 rfl (lv_at hl 3 rfl) ?_
  refine xr_vcall (As := [.int o, .int x, .int b]) (rest := [.int 0, .ref qo]) (nA := 3) C0 (c_upTo l D q cI ((cL, .long) :: tyr) ((qo, .inl (cL, 1, .inr (.inl (fo)))) :: wr) _ n f g sf sg r o x b h1 h2 hn) (gV wM_L_X0_upTo wI_X0_upTo wV_X0_X0_upTo wN_X0 wC_X0_upTo) (by decide +kernel) rfl rfl rfl ⟨by decide, by decide⟩ hK hP hD hS hA 0 rfl rfl hl.1 rfl (Nat.le_of_ble_eq_true rfl) dL_upTo_7 ⟨Nat.le_of_ble_eq_true rfl, Nat.le_of_ble_eq_true rfl⟩ (fun v w H locs hv hP hD hz hS => ?_)
  obtain ⟨⟨t, rfl, hT⟩, rfl⟩ := hv
  refine lv_i2l hx hb dL_upTo_10 rfl ?_
  refine xr_last0 C0 hK hP hD hS 6 rfl dL_upTo_11 (fun H locs hP hD hS => ?_)
  have hP : va_P D vwCl (rs_X q cI (n) (f) (g) (sf) (sg) (r) ++ ((qo, .inl (cL, 1, .inr (.inl (vp_updL fo 0 (nI t).toInt64)))) :: wr)) H := hP
  have hD : va_D A (rs_X q cI (n) (f) (g) (sf) (sg) (r) ++ ((qo, .inl (cL, 1, .inr (.inl (vp_updL fo 0 (nI t).toInt64)))) :: wr)) := hD
  refine lv_goto hx hb dL_upTo_12 rfl ?_
  refine lv_iconst (v := 0) hx hb dL_upTo_19 (by decide) ?_
  refine W.widen (k := 1) (n := 6) (by decide) (by decide) ?_
  exact xr_iret C0 hlk hr (⟨t, rfl, rfl, hT⟩) hP hD hS dL_upTo_20
set_option maxHeartbeats 4000000 in
set_option maxRecDepth 100000 in
/-- upTo: no such order -/
theorem h_upTo1 (l : Launch) (hl0 : l.stackTraces = false) (D : va_G) (q : Nat → Nat) (qo : Nat) (cI cL : ClassId) (tyr : List (ClassId × FieldType)) (wr : va_W) (sz n : Nat) (f g sf sg r : Nat → Int32) (fo : Nat → Int64) (o x b : Int32) (hbad : o < 0 ∨ 3 < o) : xr_HM l yL_upTo (wH yL_upTo cL_upTo 6 (some .int) [(0, 12, 15, 13)]) [.ref (q 0), .int o, .int x, .int b, .ref qo] D (rs_ty cI ((cL, .long) :: tyr)) (rs_X q cI n f g sf sg r ++ ((qo, .inl (cL, 1, .inr (.inl fo))) :: wr)) sz (fun v w => v = some (.int 1) ∧ w = rs_X q cI n f g sf sg r ++ ((qo, .inl (cL, 1, .inr (.inl (fo)))) :: wr)) := by
  refine xr_hstart (by decide) (Nat.le_of_ble_eq_true rfl) ?_
  intro p e s m args below meth c A ls C0 hlk hr htab hP hK hD hA hZ hl
  have hx := C0.1
  have hb := C0.2.1
  have hS : va_S A s.heap s.heap [] := va_S.rf
  have hl : lv_has ls 6 [(0, .ref (q 0)), (1, .int o), (2, .int x), (3, .int b), (4, .ref qo)] := hl
  refine lv_aload hx hb dL_upTo_0 (lv_at hl 4 rfl) ?_
  refine lv_iconst (v := 0) hx hb dL_upTo_2 (by decide) ?_
  refine lv_aload_n hx hb dL_upTo_3 rfl (lv_at hl 0 rfl) ?_
  refine lv_iload_n hx hb dL_upTo_4 rfl (lv_at hl 1 rfl) ?_
  refine lv_iload_n hx hb dL_upTo_5 rfl (lv_at hl 2 rfl) ?_
  refine lv_iload_n hx hb dL_upTo_6 rfl (lv_at hl 3 rfl) ?_
  refine xr_hthrow (As := [.int o, .int x, .int b]) (rest := [.int 0, .ref qo]) (nA := 3) C0 (t_upTo l hl0 D q cI ((cL, .long) :: tyr) ((qo, .inl (cL, 1, .inr (.inl (fo)))) :: wr) n f g sf sg r o x b hbad) (gV wM_L_X0_upTo wI_X0_upTo wV_X0_X0_upTo wN_X0 wC_X0_upTo) (by decide +kernel) rfl rfl rfl ⟨by decide, by decide⟩ hK hP hZ.1 0 rfl rfl hl.1 rfl (Nat.le_of_ble_eq_true rfl) dL_upTo_7 ⟨by decide, by decide⟩ (fun qx H ce hz hk hc hv hcl => ?_)
  refine vx_catch C0.2.2.2.1 [] ⟨0, 12, 15, 13⟩ [] htab (fun z hz => absurd hz List.not_mem_nil) (by decide) (by decide) (C0.2.2.2.2 _ wK_L_IllegalArgumentException) (va_Nw.use rfl hZ.1.2.2.2.2.2.1) hc hv hcl ?_
  have hP : va_P D vwCl (rs_X q cI (n) (f) (g) (sf) (sg) (r) ++ ((qo, .inl (cL, 1, .inr (.inl (fo)))) :: wr)) H := hP.kept (fun k x hx => hk x.1 ((hP k x hx).lt))
  have hS : va_S A s.heap H [] := ⟨hz, fun q h1 _ => hk q h1, fun q hq => by cases hq⟩
  refine lv_astore hx hb dL_upTo_15 hl (by decide) rfl (fun ls hl => ?_)
  have hl : lv_has ls 6 [(5, .ref qx), (0, .ref (q 0)), (1, .int o), (2, .int x), (3, .int b), (4, .ref qo)] := hl
  refine lv_iconst (v := 1) hx hb dL_upTo_17 (by decide) ?_
  exact xr_iret C0 hlk hr (⟨rfl, rfl⟩) hP hD hS dL_upTo_18
end
section
/-! The law: rows of its own, and one theorem for each kind of call in its loop (rows laid by wip/whole/p15.py). -/
/-- all the law's cells: the class's, out, the reference's, with the same numbers -/
abbrev rs_L (q t : Nat → Nat) (qo : Nat) (cI cL : ClassId) (n : Nat) (f g sf sg r : Nat → Int32) (fo : Nat → Int64) (k : Int32) (n2 : Nat) (f2 g2 : Nat → Int32) : va_W := rs_X q cI n f g sf sg r ++ ((qo, .inl (cL, 1, .inr (.inl fo))) :: rs_M t cI k n2 f2 g2)
abbrev rs_LM (q t : Nat → Nat) (qo : Nat) (cI cL : ClassId) (n : Nat) (f g sf sg r : Nat → Int32) (fo : Nat → Int64) (k : Int32) (n2 : Nat) (f2 g2 : Nat → Int32) : va_W := rs_M t cI k n2 f2 g2 ++ (rs_X q cI n f g sf sg r ++ [(qo, .inl (cL, 1, .inr (.inl fo)))])
theorem rs_cmp (x : Int64) : lg_cmp x x = 0 := by
  have h : ¬ x < x := by rw [Int64.lt_iff_toInt_lt]; omega
  simp [lg_cmp, h]
theorem gH {own : String} {idx : Nat} {y : MethodName} {cc : ByteArray} {n : Nat} {ret : Option FieldType} {hh : List (Nat × Nat × Nat × Nat)} (h1 : Cond.methodLink own idx y ∈ lw_w) (h2 : Cond.static y ∈ lw_w) (h4 : Cond.initialized y.cls ∈ lw_w) (h5 : Cond.codeWith y cc n ret hh ∈ lw_w) : GoodIn lw_w (va_wsS own idx y (wH y cc n ret hh)) := gU (fun w hw => by
  unfold va_wsS at hw
  rcases List.mem_append.mp hw with h | h
  · simp only [List.mem_cons, List.not_mem_nil, or_false] at h
    rcases h with rfl | rfl | rfl
    · exact h1
    · exact h2
    · exact h4
  · exact (List.mem_cons.mp h).elim (fun e => e ▸ h5) id)
/-- a number is out of 0 .. M, or it is a counted one -/
theorem rs_in (y : Int32) {M : Int32} {N : Nat} (hM : M.toInt = N) (hN : N < 2 ^ 31) : (y < 0 ∨ M < y) ∨ ∃ j : Nat, j ≤ N ∧ y = nI j ∧ ¬ y < 0 ∧ y ≤ M := by
  by_cases h1 : y < 0
  · exact Or.inl (Or.inl h1)
  · by_cases h2 : M < y
    · exact Or.inl (Or.inr h2)
    · obtain ⟨j, a1, a2⟩ := nI_of2 hM h1 (rs_nlt h2)
      exact Or.inr ⟨j, a1, a2, h1, rs_nlt h2⟩
theorem rs_ix (y : Int32) {n : Nat} (hn : n < 2 ^ 31) : (y < 0 ∨ nI n ≤ y) ∨ ∃ j : Nat, j < n ∧ y = nI j := by
  rcases pk_ix y hn with h | h | h
  · exact Or.inl (Or.inl h)
  · exact Or.inl (Or.inr h)
  · exact Or.inr h
/-- the part from .. to of a row of n numbers: out of range, or counted -/
theorem rs_ab (x y : Int32) {n : Nat} (hn : n ≤ 2000) : ((y < 0 ∨ nI n < y) ∨ x < 0 ∨ y < x) ∨ ∃ a b : Nat, a ≤ b ∧ b ≤ n ∧ x = nI a ∧ y = nI b := by
  rcases rs_in y (M := nI n) (N := n) (nI_toInt (by omega)) (by omega) with h | ⟨b, hb, rfl, h1, h2⟩
  · exact Or.inl (Or.inl h)
  · rcases rs_in x (M := nI b) (N := b) (nI_toInt (by omega)) (by omega) with h | ⟨a, ha, rfl, h3, h4⟩
    · exact Or.inl (Or.inr h)
    · exact Or.inr ⟨a, b, ha, hb, rfl, rfl⟩
/-- the class's wording of 'out of range' in the reference's -/
theorem rs_bad {x y : Int32} {n : Nat} (hn : n ≤ 2000) (h : (y < 0 ∨ nI n < y) ∨ x < 0 ∨ y < x) : x < 0 ∨ y < x ∨ nI n < y := by
  rcases h with (h | h) | h | h
  · by_cases hx : x < 0
    · exact Or.inl hx
    · refine Or.inr (Or.inl ?_)
      have h0 := rs_nlt hx
      rw [Int32.lt_iff_toInt_lt] at h ⊢
      rw [Int32.le_iff_toInt_le] at h0
      omega
  · exact Or.inr (Or.inr h)
  · exact Or.inl h
  · exact Or.inr (Or.inl h)
section XL
variable {p : Program} {l : Launch} {e : Env} {R : Room} {s : State} {m : MethodId} {args : Array Value} {below : List Frame} {meth : Method} {c : Code} {H : Heap} {locs : List Loc} {cells slots : Nat} {Q : State → Prop}
variable {D : va_G} {tys : List (ClassId × FieldType)} {A : Nat → Prop} {ws : va_W} {cc : ByteArray} {nL pc : Nat} {own : String} {ls : Array Slot} {st0 rest : List Value}
theorem xr_sld {b L : Nat} {xs : Nat → Int32} (C0 : CallFix p m c cc nL s args lw_w own) (hX : va_X b L xs s s.heap) (hbl : b < s.heap.size) (hbA : ¬ A b) (hS : va_S A s.heap H locs) {j : Nat} (hj : j < L) (hL : L < 2 ^ 31) (hdg : decode cc pc = .ok (.iaload, 1))
    (kk : W p l e R s m args below meth c H locs cells slots Q (F0 m (pc + 1) ls (.int (xs j) :: rest))) : W p l e R s m args below meth c H locs cells slots Q (F0 m pc ls (.int (nI j) :: .ref b :: rest)) :=
  va_sld C0.1 C0.2.1 hX hbl hbA hS (vp_in_nI hj hL) hdg (by rw [nI_clamp (Nat.lt_trans hj hL)]; exact kk)
theorem xr_lald0 {cI cL : ClassId} {tyr : List (ClassId × FieldType)} {a : Nat} {fo : Nat → Int64} (C0 : CallFix p m c cc nL s args lw_w own) (hK : va_K D vwCl ((cI, .int) :: (cL, .long) :: tyr) s) (hP : va_P D vwCl ws H) (q0 : Nat) (ha : ws[q0]? = some (a, .inl (cL, 1, .inr (.inl fo)))) (hdg : decode cc pc = .ok (.laload, 1))
    (kk : W p l e R s m args below meth c H locs cells slots Q (F0 m (pc + 1) ls (.long (fo 0) :: rest))) : W p l e R s m args below meth c H locs cells slots Q (F0 m pc ls (.int 0 :: .ref a :: rest)) :=
  va_lald C0.1 C0.2.1 hK hP q0 1 ha rfl (i := 0) (vp_in_nI (n := 0) (N := 1) (by decide) (by decide)) hdg kk
/-- a call of a helper -/
theorem xr_lcall {idx maxL nA : Nat} {y : MethodName} {bytes : ByteArray} {ret : Option FieldType} {hh : List (Nat × Nat × Nat × Nat)} {As : List Value} {post : Option Value → va_W → Prop}
    (C0 : CallFix p m c cc nL s args lw_w own) (hM : xr_HM l y (wH y bytes maxL ret hh) As D tys ws H.size post)
    (hg : GoodIn lw_w (va_wsS own idx y (wH y bytes maxL ret hh)))
    (hd : y.cls ≠ "java/lang/invoke/MethodHandle" ∧ y.cls ≠ "java/lang/invoke/VarHandle" ∧ (parseMethodDescriptor y.desc).map (fun d => d.parameters.length) = some nA) (hnA : As.length = nA)
    (hR : 9 + 1 ≤ R.frames ∧ 8 + (maxL + 11) + 160 ≤ R.locals)
    (hK : va_K D vwCl tys s) (hP : va_P D vwCl ws H) (hD : va_D A ws) (hS : va_S A s.heap H locs) (hA : ∀ q, s.heap.size ≤ q → A q) (hZ : ∀ U : State, U.heap = H → s.WarmedH U.vm → xr_Zh U)
    (hls : ls.size = nL) (hst : st0 = As.reverse ++ rest) (hW : (rest.map fun v => v.category).sum ≤ 8) (hdg : decode cc pc = .ok (.invokestatic idx, 3)) (hcs : cells + 1 ≤ R.cells ∧ slots + 6 ≤ R.slots)
    (kk : ∀ (v : Option Value) (w : va_W) (H1 : Heap) (locs1 : List Loc), post v w → va_P D vwCl w H1 → va_D A w → H.size ≤ H1.size → va_S A s.heap H1 locs1 → W p l e R s m args below meth c H1 locs1 (cells + 1) (slots + 6) Q (F0 m (pc + 3) ls (v.toList ++ rest))) : W p l e R s m args below meth c H locs cells slots Q (F0 m pc ls st0) :=
  xr_call (vx_runSW (n := nA) C0 hM (vx_cwSW nA C0.2.2.2.2 hg rfl rfl rfl hd hR) ⟨xr_Hblind, fun U hU hW => ⟨rfl, by rw [hU], by rw [hU]; exact hP, va_K.moved hW.alike hK, hD.weaken (fun _ _ _ _ => trivial), hZ U hU hW⟩⟩ rfl hnA hls hst (lv_room hW) hdg hcs) hS (xr_free hD hS hA) kk
end XL
set_option maxHeartbeats 4000000 in
set_option maxRecDepth 100000 in
/-- the law calls fill -/
theorem law_fill {p : Program} {l : Launch} {e : Env} {s : State} {m : MethodId} {args : Array Value} {below : List Frame} {meth : Method} {c : Code} {Q : State → Prop} {D : va_G} {A : Nat → Prop} {q t : Nat → Nat} {qo b L : Nat} {cI cL : ClassId} {xs : Nat → Int32} (hl0 : l.stackTraces = false) (C0 : CallFix p m c cL_law 7 s args lw_w RL) (hK : va_K D vwCl [(cI, .int), (cL, .long)] s) (hA : ∀ q, s.heap.size ≤ q → A q) (hX : va_X b L xs s s.heap) (hbl : b < s.heap.size) (hbA : ¬ A b) (hL : L ≤ 2048)
    (hZ : ∀ (H : Heap) (locs : List Loc), va_S A s.heap H locs → ∀ U : State, U.heap = H → s.WarmedH U.vm → xr_Zh U) {i n cells slots : Nat} {f g sf sg r : Nat → Int32} {fo : Nat → Int64} {k : Int32} {H : Heap} {locs : List Loc} {ls : Array Slot} (hi : i + 4 ≤ L) (hn : n ≤ 2000) (hcs : cells + 1 ≤ 1037 ∧ slots + 6 ≤ 22222)
    (hP : va_P D vwCl (rs_L q t qo cI cL n f g sf sg r fo k n f g) H) (hD : va_D A (rs_L q t qo cI cL n f g sf sg r fo k n f g)) (hS : va_S A s.heap H locs) (hl : lv_has ls 7 [(4, .int (nI i)), (3, .ref qo), (2, .ref (t 0)), (1, .ref (q 0)), (0, .ref b)])
    (kk : ∀ (n : Nat) (f g sf sg r : Nat → Int32) (fo : Nat → Int64) (k : Int32) (H : Heap) (locs : List Loc) (ls : Array Slot), n ≤ 2000 → va_P D vwCl (rs_L q t qo cI cL n f g sf sg r fo k n f g) H → va_D A (rs_L q t qo cI cL n f g sf sg r fo k n f g) → va_S A s.heap H locs → lv_has ls 7 [(4, .int (nI i)), (3, .ref qo), (2, .ref (t 0)), (1, .ref (q 0)), (0, .ref b)] → W p l e room_1 s m args below meth c H locs (cells + 1) (slots + 6) Q (F0 m 702 ls [])) : W p l e room_1 s m args below meth c H locs cells slots Q (F0 m 92 ls []) := by
  have hx := C0.1
  have hb := C0.2.1
  rcases rs_in (xs (i + 3)) (M := 2000) (N := 2000) (by decide) (by decide) with hbad | ⟨c0, hc, e3, h1, h2⟩
  · skip
    refine lv_aload_n hx hb dL_law_92 rfl (lv_at hl 3 rfl) ?_
    refine lv_aload_n hx hb dL_law_93 rfl (lv_at hl 4 rfl) ?_
    refine lv_iload hx hb dL_law_94 (lv_at hl 0 rfl) ?_
    refine lv_iconst (v := 1) hx hb dL_law_96 (by decide) ?_
    refine lv_iadd hx hb dL_law_97 ?_
    refine xr_top (nI_add i 1) ?_
    refine xr_sld C0 hX hbl hbA hS (j := i + 1) (by omega) (by omega) dL_law_98 ?_
    refine lv_aload_n hx hb dL_law_99 rfl (lv_at hl 4 rfl) ?_
    refine lv_iload hx hb dL_law_100 (lv_at hl 0 rfl) ?_
    refine lv_iconst (v := 2) hx hb dL_law_102 (by decide) ?_
    refine lv_iadd hx hb dL_law_103 ?_
    refine xr_top (nI_add i 2) ?_
    refine xr_sld C0 hX hbl hbA hS (j := i + 2) (by omega) (by omega) dL_law_104 ?_
    refine lv_aload_n hx hb dL_law_105 rfl (lv_at hl 4 rfl) ?_
    refine lv_iload hx hb dL_law_106 (lv_at hl 0 rfl) ?_
    refine lv_iconst (v := 3) hx hb dL_law_108 (by decide) ?_
    refine lv_iadd hx hb dL_law_109 ?_
    refine xr_top (nI_add i 3) ?_
    refine xr_sld C0 hX hbl hbA hS (j := i + 3) (by omega) (by omega) dL_law_110 ?_
    refine lv_aload_n hx hb dL_law_111 rfl (lv_at hl 1 rfl) ?_
    refine xr_lcall (As := [.ref (q 0), .int (xs (i + 1)), .int (xs (i + 2)), .int (xs (i + 3)), .ref qo]) (rest := []) (nA := 5) C0 (h_fill1 l hl0 D q qo cI cL [] (rs_M t cI k n f g) _ n f g sf sg r fo (xs (i + 1)) (xs (i + 2)) (xs (i + 3)) hbad) (gH wM_L_L_fill wS_L_fill wN_L wC_L_fill) (by decide +kernel) rfl ⟨by decide, by decide⟩ hK hP hD hS hA (hZ _ _ hS) hl.1 rfl (Nat.le_of_ble_eq_true rfl) dL_law_112 hcs (fun v w H locs hv hP hD hz hS => ?_)
    obtain ⟨rfl, rfl⟩ := hv
    refine lv_istore hx hb dL_law_115 hl (by decide) rfl (fun ls hl => ?_)
    have hl : lv_has ls 7 [(5, .int 1), (4, .int (nI i)), (3, .ref qo), (2, .ref (t 0)), (1, .ref (q 0)), (0, .ref b)] := hl
    refine lv_aload_n hx hb dL_law_117 rfl (lv_at hl 3 rfl) ?_
    refine lv_aload_n hx hb dL_law_118 rfl (lv_at hl 5 rfl) ?_
    refine lv_iload hx hb dL_law_119 (lv_at hl 1 rfl) ?_
    refine lv_iconst (v := 1) hx hb dL_law_121 (by decide) ?_
    refine lv_iadd hx hb dL_law_122 ?_
    refine xr_top (nI_add i 1) ?_
    refine xr_sld C0 hX hbl hbA hS (j := i + 1) (by omega) (by omega) dL_law_123 ?_
    refine lv_aload_n hx hb dL_law_124 rfl (lv_at hl 5 rfl) ?_
    refine lv_iload hx hb dL_law_125 (lv_at hl 1 rfl) ?_
    refine lv_iconst (v := 2) hx hb dL_law_127 (by decide) ?_
    refine lv_iadd hx hb dL_law_128 ?_
    refine xr_top (nI_add i 2) ?_
    refine xr_sld C0 hX hbl hbA hS (j := i + 2) (by omega) (by omega) dL_law_129 ?_
    refine lv_aload_n hx hb dL_law_130 rfl (lv_at hl 5 rfl) ?_
    refine lv_iload hx hb dL_law_131 (lv_at hl 1 rfl) ?_
    refine lv_iconst (v := 3) hx hb dL_law_133 (by decide) ?_
    refine lv_iadd hx hb dL_law_134 ?_
    refine xr_top (nI_add i 3) ?_
    refine xr_sld C0 hX hbl hbA hS (j := i + 3) (by omega) (by omega) dL_law_135 ?_
    have hP := hP.sub (ws' := rs_LM q t qo cI cL (n) (f) (g) (sf) (sg) (r) (fo) (k) (n) (f) (g)) [7, 8, 9, 0, 1, 2, 3, 4, 5, 6] rfl
    have hD := hD.sub (ws' := rs_LM q t qo cI cL (n) (f) (g) (sf) (sg) (r) (fo) (k) (n) (f) (g)) [7, 8, 9, 0, 1, 2, 3, 4, 5, 6] (by decide) rfl
    refine xr_vcall (As := [.int (xs (i + 1)), .int (xs (i + 2)), .int (xs (i + 3))]) (rest := []) (nA := 3) C0 (m_fill1 l D t cI [(cL, .long)] (rs_X q cI (n) (f) (g) (sf) (sg) (r) ++ [(qo, .inl (cL, 1, .inr (.inl (fo))))]) _ (n) (k) (f) (g) (xs (i + 1)) (xs (i + 2)) (xs (i + 3)) hbad) (gV wM_L_X1_fill wI_X1_fill wV_X1_X1_fill wN_X1 wC_X1_fill) (by decide +kernel) rfl rfl rfl ⟨by decide, by decide⟩ hK hP hD hS hA 0 rfl rfl hl.1 rfl (Nat.le_of_ble_eq_true rfl) dL_law_136 (⟨hcs.1, hcs.2⟩) (fun v w H locs hv hP hD hz hS => ?_)
    obtain ⟨rfl, rfl⟩ := hv
    have hP := hP.sub (ws' := rs_L q t qo cI cL (n) (f) (g) (sf) (sg) (r) (fo) (1) (n) (f) (g)) [3, 4, 5, 6, 7, 8, 9, 0, 1, 2] rfl
    have hD := hD.sub (ws' := rs_L q t qo cI cL (n) (f) (g) (sf) (sg) (r) (fo) (1) (n) (f) (g)) [3, 4, 5, 6, 7, 8, 9, 0, 1, 2] (by decide) rfl
    refine lv_istore hx hb dL_law_139 hl (by decide) rfl (fun ls hl => ?_)
    have hl : lv_has ls 7 [(6, .int (0)), (5, .int 1), (4, .int (nI i)), (3, .ref qo), (2, .ref (t 0)), (1, .ref (q 0)), (0, .ref b)] := hl
    refine lv_aload_n hx hb dL_law_141 rfl (lv_at hl 4 rfl) ?_
    have hP := hP.sub (ws' := rs_LM q t qo cI cL (n) (f) (g) (sf) (sg) (r) (fo) (1) (n) (f) (g)) [7, 8, 9, 0, 1, 2, 3, 4, 5, 6] rfl
    have hD := hD.sub (ws' := rs_LM q t qo cI cL (n) (f) (g) (sf) (sg) (r) (fo) (1) (n) (f) (g)) [7, 8, 9, 0, 1, 2, 3, 4, 5, 6] (by decide) rfl
    refine xr_vcall (As := []) (rest := []) (nA := 0) C0 (m_thrown l D t cI [(cL, .long)] (rs_X q cI (n) (f) (g) (sf) (sg) (r) ++ [(qo, .inl (cL, 1, .inr (.inl (fo))))]) _ (n) (1) (f) (g) ) (gV wM_L_X1_thrown wI_X1_thrown wV_X1_X1_thrown wN_X1 wC_X1_thrown) (by decide +kernel) rfl rfl rfl ⟨by decide, by decide⟩ hK hP hD hS hA 0 rfl rfl hl.1 rfl (Nat.le_of_ble_eq_true rfl) dL_law_142 (⟨hcs.1, hcs.2⟩) (fun v w H locs hv hP hD hz hS => ?_)
    obtain ⟨rfl, rfl⟩ := hv
    have hP := hP.sub (ws' := rs_L q t qo cI cL (n) (f) (g) (sf) (sg) (r) (fo) (1) (n) (f) (g)) [3, 4, 5, 6, 7, 8, 9, 0, 1, 2] rfl
    have hD := hD.sub (ws' := rs_L q t qo cI cL (n) (f) (g) (sf) (sg) (r) (fo) (1) (n) (f) (g)) [3, 4, 5, 6, 7, 8, 9, 0, 1, 2] (by decide) rfl
    refine lv_iload hx hb dL_law_145 (lv_at hl 1 rfl) ?_
    refine lv_icmp_eq hx hb dL_law_147 rfl (fun h => ?_) (fun h => absurd rfl h)
    refine lv_iload hx hb dL_law_152 (lv_at hl 1 rfl) ?_
    refine lv_if_ne hx hb dL_law_154 rfl (fun h => ?_) (fun h => absurd h (by decide))
    refine lv_goto hx hb dL_law_169 rfl ?_
    have hl : lv_has ls 7 [(4, .int (nI i)), (3, .ref qo), (2, .ref (t 0)), (1, .ref (q 0)), (0, .ref b)] := lv_sub hl [2, 3, 4, 5, 6] rfl
    exact kk (n) (f) (g) (sf) (sg) (r) (fo) (1) H locs ls (hn) hP hD hS hl
  · skip
    by_cases hr : n + c0 ≤ 2000
    · skip
      refine lv_aload_n hx hb dL_law_92 rfl (lv_at hl 3 rfl) ?_
      refine lv_aload_n hx hb dL_law_93 rfl (lv_at hl 4 rfl) ?_
      refine lv_iload hx hb dL_law_94 (lv_at hl 0 rfl) ?_
      refine lv_iconst (v := 1) hx hb dL_law_96 (by decide) ?_
      refine lv_iadd hx hb dL_law_97 ?_
      refine xr_top (nI_add i 1) ?_
      refine xr_sld C0 hX hbl hbA hS (j := i + 1) (by omega) (by omega) dL_law_98 ?_
      refine lv_aload_n hx hb dL_law_99 rfl (lv_at hl 4 rfl) ?_
      refine lv_iload hx hb dL_law_100 (lv_at hl 0 rfl) ?_
      refine lv_iconst (v := 2) hx hb dL_law_102 (by decide) ?_
      refine lv_iadd hx hb dL_law_103 ?_
      refine xr_top (nI_add i 2) ?_
      refine xr_sld C0 hX hbl hbA hS (j := i + 2) (by omega) (by omega) dL_law_104 ?_
      refine lv_aload_n hx hb dL_law_105 rfl (lv_at hl 4 rfl) ?_
      refine lv_iload hx hb dL_law_106 (lv_at hl 0 rfl) ?_
      refine lv_iconst (v := 3) hx hb dL_law_108 (by decide) ?_
      refine lv_iadd hx hb dL_law_109 ?_
      refine xr_top (nI_add i 3) ?_
      refine xr_sld C0 hX hbl hbA hS (j := i + 3) (by omega) (by omega) dL_law_110 ?_
      refine xr_top (e3) ?_
      refine lv_aload_n hx hb dL_law_111 rfl (lv_at hl 1 rfl) ?_
      refine xr_lcall (As := [.ref (q 0), .int (xs (i + 1)), .int (xs (i + 2)), .int (nI c0), .ref qo]) (rest := []) (nA := 5) C0 (h_fill0 l hl0 D q qo cI cL [] (rs_M t cI k n f g) _ n f g sf sg r fo (xs (i + 1)) (xs (i + 2)) c0 hr) (gH wM_L_L_fill wS_L_fill wN_L wC_L_fill) (by decide +kernel) rfl ⟨by decide, by decide⟩ hK hP hD hS hA (hZ _ _ hS) hl.1 rfl (Nat.le_of_ble_eq_true rfl) dL_law_112 hcs (fun v w H locs hv hP hD hz hS => ?_)
      obtain ⟨rfl, rfl⟩ := hv
      refine lv_istore hx hb dL_law_115 hl (by decide) rfl (fun ls hl => ?_)
      have hl : lv_has ls 7 [(5, .int 0), (4, .int (nI i)), (3, .ref qo), (2, .ref (t 0)), (1, .ref (q 0)), (0, .ref b)] := hl
      refine lv_aload_n hx hb dL_law_117 rfl (lv_at hl 3 rfl) ?_
      refine lv_aload_n hx hb dL_law_118 rfl (lv_at hl 5 rfl) ?_
      refine lv_iload hx hb dL_law_119 (lv_at hl 1 rfl) ?_
      refine lv_iconst (v := 1) hx hb dL_law_121 (by decide) ?_
      refine lv_iadd hx hb dL_law_122 ?_
      refine xr_top (nI_add i 1) ?_
      refine xr_sld C0 hX hbl hbA hS (j := i + 1) (by omega) (by omega) dL_law_123 ?_
      refine lv_aload_n hx hb dL_law_124 rfl (lv_at hl 5 rfl) ?_
      refine lv_iload hx hb dL_law_125 (lv_at hl 1 rfl) ?_
      refine lv_iconst (v := 2) hx hb dL_law_127 (by decide) ?_
      refine lv_iadd hx hb dL_law_128 ?_
      refine xr_top (nI_add i 2) ?_
      refine xr_sld C0 hX hbl hbA hS (j := i + 2) (by omega) (by omega) dL_law_129 ?_
      refine lv_aload_n hx hb dL_law_130 rfl (lv_at hl 5 rfl) ?_
      refine lv_iload hx hb dL_law_131 (lv_at hl 1 rfl) ?_
      refine lv_iconst (v := 3) hx hb dL_law_133 (by decide) ?_
      refine lv_iadd hx hb dL_law_134 ?_
      refine xr_top (nI_add i 3) ?_
      refine xr_sld C0 hX hbl hbA hS (j := i + 3) (by omega) (by omega) dL_law_135 ?_
      refine xr_top (e3) ?_
      have hP := hP.sub (ws' := rs_LM q t qo cI cL (n + c0) (rs_fi f n (xs (i + 1)) (xs (i + 2)) c0) (rs_tg g n c0) (sf) (sg) (r) (vp_updL fo 0 (nI (n + c0)).toInt64) (k) (n) (f) (g)) [7, 8, 9, 0, 1, 2, 3, 4, 5, 6] rfl
      have hD := hD.sub (ws' := rs_LM q t qo cI cL (n + c0) (rs_fi f n (xs (i + 1)) (xs (i + 2)) c0) (rs_tg g n c0) (sf) (sg) (r) (vp_updL fo 0 (nI (n + c0)).toInt64) (k) (n) (f) (g)) [7, 8, 9, 0, 1, 2, 3, 4, 5, 6] (by decide) rfl
      refine xr_vcall (As := [.int (xs (i + 1)), .int (xs (i + 2)), .int (nI c0)]) (rest := []) (nA := 3) C0 (m_fill0 l D t cI [(cL, .long)] (rs_X q cI (n + c0) (rs_fi f n (xs (i + 1)) (xs (i + 2)) c0) (rs_tg g n c0) (sf) (sg) (r) ++ [(qo, .inl (cL, 1, .inr (.inl (vp_updL fo 0 (nI (n + c0)).toInt64))))]) _ (n) (k) (f) (g) (xs (i + 1)) (xs (i + 2)) c0 hr) (gV wM_L_X1_fill wI_X1_fill wV_X1_X1_fill wN_X1 wC_X1_fill) (by decide +kernel) rfl rfl rfl ⟨by decide, by decide⟩ hK hP hD hS hA 0 rfl rfl hl.1 rfl (Nat.le_of_ble_eq_true rfl) dL_law_136 (⟨hcs.1, hcs.2⟩) (fun v w H locs hv hP hD hz hS => ?_)
      obtain ⟨rfl, rfl⟩ := hv
      have hP := hP.sub (ws' := rs_L q t qo cI cL (n + c0) (rs_fi f n (xs (i + 1)) (xs (i + 2)) c0) (rs_tg g n c0) (sf) (sg) (r) (vp_updL fo 0 (nI (n + c0)).toInt64) (0) (n + c0) (rs_fi f n (xs (i + 1)) (xs (i + 2)) c0) (rs_tg g n c0)) [3, 4, 5, 6, 7, 8, 9, 0, 1, 2] rfl
      have hD := hD.sub (ws' := rs_L q t qo cI cL (n + c0) (rs_fi f n (xs (i + 1)) (xs (i + 2)) c0) (rs_tg g n c0) (sf) (sg) (r) (vp_updL fo 0 (nI (n + c0)).toInt64) (0) (n + c0) (rs_fi f n (xs (i + 1)) (xs (i + 2)) c0) (rs_tg g n c0)) [3, 4, 5, 6, 7, 8, 9, 0, 1, 2] (by decide) rfl
      refine lv_istore hx hb dL_law_139 hl (by decide) rfl (fun ls hl => ?_)
      have hl : lv_has ls 7 [(6, .int (nI (n + c0))), (5, .int 0), (4, .int (nI i)), (3, .ref qo), (2, .ref (t 0)), (1, .ref (q 0)), (0, .ref b)] := hl
      refine lv_aload_n hx hb dL_law_141 rfl (lv_at hl 4 rfl) ?_
      have hP := hP.sub (ws' := rs_LM q t qo cI cL (n + c0) (rs_fi f n (xs (i + 1)) (xs (i + 2)) c0) (rs_tg g n c0) (sf) (sg) (r) (vp_updL fo 0 (nI (n + c0)).toInt64) (0) (n + c0) (rs_fi f n (xs (i + 1)) (xs (i + 2)) c0) (rs_tg g n c0)) [7, 8, 9, 0, 1, 2, 3, 4, 5, 6] rfl
      have hD := hD.sub (ws' := rs_LM q t qo cI cL (n + c0) (rs_fi f n (xs (i + 1)) (xs (i + 2)) c0) (rs_tg g n c0) (sf) (sg) (r) (vp_updL fo 0 (nI (n + c0)).toInt64) (0) (n + c0) (rs_fi f n (xs (i + 1)) (xs (i + 2)) c0) (rs_tg g n c0)) [7, 8, 9, 0, 1, 2, 3, 4, 5, 6] (by decide) rfl
      refine xr_vcall (As := []) (rest := []) (nA := 0) C0 (m_thrown l D t cI [(cL, .long)] (rs_X q cI (n + c0) (rs_fi f n (xs (i + 1)) (xs (i + 2)) c0) (rs_tg g n c0) (sf) (sg) (r) ++ [(qo, .inl (cL, 1, .inr (.inl (vp_updL fo 0 (nI (n + c0)).toInt64))))]) _ (n + c0) (0) (rs_fi f n (xs (i + 1)) (xs (i + 2)) c0) (rs_tg g n c0) ) (gV wM_L_X1_thrown wI_X1_thrown wV_X1_X1_thrown wN_X1 wC_X1_thrown) (by decide +kernel) rfl rfl rfl ⟨by decide, by decide⟩ hK hP hD hS hA 0 rfl rfl hl.1 rfl (Nat.le_of_ble_eq_true rfl) dL_law_142 (⟨hcs.1, hcs.2⟩) (fun v w H locs hv hP hD hz hS => ?_)
      obtain ⟨rfl, rfl⟩ := hv
      have hP := hP.sub (ws' := rs_L q t qo cI cL (n + c0) (rs_fi f n (xs (i + 1)) (xs (i + 2)) c0) (rs_tg g n c0) (sf) (sg) (r) (vp_updL fo 0 (nI (n + c0)).toInt64) (0) (n + c0) (rs_fi f n (xs (i + 1)) (xs (i + 2)) c0) (rs_tg g n c0)) [3, 4, 5, 6, 7, 8, 9, 0, 1, 2] rfl
      have hD := hD.sub (ws' := rs_L q t qo cI cL (n + c0) (rs_fi f n (xs (i + 1)) (xs (i + 2)) c0) (rs_tg g n c0) (sf) (sg) (r) (vp_updL fo 0 (nI (n + c0)).toInt64) (0) (n + c0) (rs_fi f n (xs (i + 1)) (xs (i + 2)) c0) (rs_tg g n c0)) [3, 4, 5, 6, 7, 8, 9, 0, 1, 2] (by decide) rfl
      refine lv_iload hx hb dL_law_145 (lv_at hl 1 rfl) ?_
      refine lv_icmp_eq hx hb dL_law_147 rfl (fun h => ?_) (fun h => absurd rfl h)
      refine lv_iload hx hb dL_law_152 (lv_at hl 1 rfl) ?_
      refine lv_if_ne hx hb dL_law_154 rfl (fun h => absurd rfl h) (fun h => ?_)
      refine lv_aload_n hx hb dL_law_157 rfl (lv_at hl 3 rfl) ?_
      refine lv_iconst (v := 0) hx hb dL_law_158 (by decide) ?_
      refine xr_lald0 C0 hK hP 6 rfl dL_law_159 ?_
      refine xr_topl pk_uLs ?_
      refine lv_iload hx hb dL_law_160 (lv_at hl 0 rfl) ?_
      refine lv_i2l hx hb dL_law_162 rfl ?_
      refine W.lcmp hx hb dL_law_163 ?_
      refine xr_top (rs_cmp _) ?_
      refine lv_if_eq hx hb dL_law_164 rfl (fun h => ?_) (fun h => absurd rfl h)
      refine lv_goto hx hb dL_law_169 rfl ?_
      have hl : lv_has ls 7 [(4, .int (nI i)), (3, .ref qo), (2, .ref (t 0)), (1, .ref (q 0)), (0, .ref b)] := lv_sub hl [2, 3, 4, 5, 6] rfl
      exact kk (n + c0) (rs_fi f n (xs (i + 1)) (xs (i + 2)) c0) (rs_tg g n c0) (sf) (sg) (r) (vp_updL fo 0 (nI (n + c0)).toInt64) (0) H locs ls (hr) hP hD hS hl
    · skip
      have hbad : nI (2000 - n) < nI c0 := nI_lt (by omega) (by omega)
      rw [e3] at h1 h2
      refine lv_aload_n hx hb dL_law_92 rfl (lv_at hl 3 rfl) ?_
      refine lv_aload_n hx hb dL_law_93 rfl (lv_at hl 4 rfl) ?_
      refine lv_iload hx hb dL_law_94 (lv_at hl 0 rfl) ?_
      refine lv_iconst (v := 1) hx hb dL_law_96 (by decide) ?_
      refine lv_iadd hx hb dL_law_97 ?_
      refine xr_top (nI_add i 1) ?_
      refine xr_sld C0 hX hbl hbA hS (j := i + 1) (by omega) (by omega) dL_law_98 ?_
      refine lv_aload_n hx hb dL_law_99 rfl (lv_at hl 4 rfl) ?_
      refine lv_iload hx hb dL_law_100 (lv_at hl 0 rfl) ?_
      refine lv_iconst (v := 2) hx hb dL_law_102 (by decide) ?_
      refine lv_iadd hx hb dL_law_103 ?_
      refine xr_top (nI_add i 2) ?_
      refine xr_sld C0 hX hbl hbA hS (j := i + 2) (by omega) (by omega) dL_law_104 ?_
      refine lv_aload_n hx hb dL_law_105 rfl (lv_at hl 4 rfl) ?_
      refine lv_iload hx hb dL_law_106 (lv_at hl 0 rfl) ?_
      refine lv_iconst (v := 3) hx hb dL_law_108 (by decide) ?_
      refine lv_iadd hx hb dL_law_109 ?_
      refine xr_top (nI_add i 3) ?_
      refine xr_sld C0 hX hbl hbA hS (j := i + 3) (by omega) (by omega) dL_law_110 ?_
      refine xr_top (e3) ?_
      refine lv_aload_n hx hb dL_law_111 rfl (lv_at hl 1 rfl) ?_
      refine xr_lcall (As := [.ref (q 0), .int (xs (i + 1)), .int (xs (i + 2)), .int (nI c0), .ref qo]) (rest := []) (nA := 5) C0 (h_fill2 l hl0 D q qo cI cL [] (rs_M t cI k n f g) _ n f g sf sg r fo (xs (i + 1)) (xs (i + 2)) (nI c0) h1 h2 hn hbad) (gH wM_L_L_fill wS_L_fill wN_L wC_L_fill) (by decide +kernel) rfl ⟨by decide, by decide⟩ hK hP hD hS hA (hZ _ _ hS) hl.1 rfl (Nat.le_of_ble_eq_true rfl) dL_law_112 hcs (fun v w H locs hv hP hD hz hS => ?_)
      obtain ⟨rfl, rfl⟩ := hv
      refine lv_istore hx hb dL_law_115 hl (by decide) rfl (fun ls hl => ?_)
      have hl : lv_has ls 7 [(5, .int 2), (4, .int (nI i)), (3, .ref qo), (2, .ref (t 0)), (1, .ref (q 0)), (0, .ref b)] := hl
      refine lv_aload_n hx hb dL_law_117 rfl (lv_at hl 3 rfl) ?_
      refine lv_aload_n hx hb dL_law_118 rfl (lv_at hl 5 rfl) ?_
      refine lv_iload hx hb dL_law_119 (lv_at hl 1 rfl) ?_
      refine lv_iconst (v := 1) hx hb dL_law_121 (by decide) ?_
      refine lv_iadd hx hb dL_law_122 ?_
      refine xr_top (nI_add i 1) ?_
      refine xr_sld C0 hX hbl hbA hS (j := i + 1) (by omega) (by omega) dL_law_123 ?_
      refine lv_aload_n hx hb dL_law_124 rfl (lv_at hl 5 rfl) ?_
      refine lv_iload hx hb dL_law_125 (lv_at hl 1 rfl) ?_
      refine lv_iconst (v := 2) hx hb dL_law_127 (by decide) ?_
      refine lv_iadd hx hb dL_law_128 ?_
      refine xr_top (nI_add i 2) ?_
      refine xr_sld C0 hX hbl hbA hS (j := i + 2) (by omega) (by omega) dL_law_129 ?_
      refine lv_aload_n hx hb dL_law_130 rfl (lv_at hl 5 rfl) ?_
      refine lv_iload hx hb dL_law_131 (lv_at hl 1 rfl) ?_
      refine lv_iconst (v := 3) hx hb dL_law_133 (by decide) ?_
      refine lv_iadd hx hb dL_law_134 ?_
      refine xr_top (nI_add i 3) ?_
      refine xr_sld C0 hX hbl hbA hS (j := i + 3) (by omega) (by omega) dL_law_135 ?_
      refine xr_top (e3) ?_
      have hP := hP.sub (ws' := rs_LM q t qo cI cL (n) (f) (g) (sf) (sg) (r) (fo) (k) (n) (f) (g)) [7, 8, 9, 0, 1, 2, 3, 4, 5, 6] rfl
      have hD := hD.sub (ws' := rs_LM q t qo cI cL (n) (f) (g) (sf) (sg) (r) (fo) (k) (n) (f) (g)) [7, 8, 9, 0, 1, 2, 3, 4, 5, 6] (by decide) rfl
      refine xr_vcall (As := [.int (xs (i + 1)), .int (xs (i + 2)), .int (nI c0)]) (rest := []) (nA := 3) C0 (m_fill2 l D t cI [(cL, .long)] (rs_X q cI (n) (f) (g) (sf) (sg) (r) ++ [(qo, .inl (cL, 1, .inr (.inl (fo))))]) _ (n) (k) (f) (g) (xs (i + 1)) (xs (i + 2)) c0 hc hn (by omega)) (gV wM_L_X1_fill wI_X1_fill wV_X1_X1_fill wN_X1 wC_X1_fill) (by decide +kernel) rfl rfl rfl ⟨by decide, by decide⟩ hK hP hD hS hA 0 rfl rfl hl.1 rfl (Nat.le_of_ble_eq_true rfl) dL_law_136 (⟨hcs.1, hcs.2⟩) (fun v w H locs hv hP hD hz hS => ?_)
      obtain ⟨rfl, rfl⟩ := hv
      have hP := hP.sub (ws' := rs_L q t qo cI cL (n) (f) (g) (sf) (sg) (r) (fo) (2) (n) (f) (g)) [3, 4, 5, 6, 7, 8, 9, 0, 1, 2] rfl
      have hD := hD.sub (ws' := rs_L q t qo cI cL (n) (f) (g) (sf) (sg) (r) (fo) (2) (n) (f) (g)) [3, 4, 5, 6, 7, 8, 9, 0, 1, 2] (by decide) rfl
      refine lv_istore hx hb dL_law_139 hl (by decide) rfl (fun ls hl => ?_)
      have hl : lv_has ls 7 [(6, .int (0)), (5, .int 2), (4, .int (nI i)), (3, .ref qo), (2, .ref (t 0)), (1, .ref (q 0)), (0, .ref b)] := hl
      refine lv_aload_n hx hb dL_law_141 rfl (lv_at hl 4 rfl) ?_
      have hP := hP.sub (ws' := rs_LM q t qo cI cL (n) (f) (g) (sf) (sg) (r) (fo) (2) (n) (f) (g)) [7, 8, 9, 0, 1, 2, 3, 4, 5, 6] rfl
      have hD := hD.sub (ws' := rs_LM q t qo cI cL (n) (f) (g) (sf) (sg) (r) (fo) (2) (n) (f) (g)) [7, 8, 9, 0, 1, 2, 3, 4, 5, 6] (by decide) rfl
      refine xr_vcall (As := []) (rest := []) (nA := 0) C0 (m_thrown l D t cI [(cL, .long)] (rs_X q cI (n) (f) (g) (sf) (sg) (r) ++ [(qo, .inl (cL, 1, .inr (.inl (fo))))]) _ (n) (2) (f) (g) ) (gV wM_L_X1_thrown wI_X1_thrown wV_X1_X1_thrown wN_X1 wC_X1_thrown) (by decide +kernel) rfl rfl rfl ⟨by decide, by decide⟩ hK hP hD hS hA 0 rfl rfl hl.1 rfl (Nat.le_of_ble_eq_true rfl) dL_law_142 (⟨hcs.1, hcs.2⟩) (fun v w H locs hv hP hD hz hS => ?_)
      obtain ⟨rfl, rfl⟩ := hv
      have hP := hP.sub (ws' := rs_L q t qo cI cL (n) (f) (g) (sf) (sg) (r) (fo) (2) (n) (f) (g)) [3, 4, 5, 6, 7, 8, 9, 0, 1, 2] rfl
      have hD := hD.sub (ws' := rs_L q t qo cI cL (n) (f) (g) (sf) (sg) (r) (fo) (2) (n) (f) (g)) [3, 4, 5, 6, 7, 8, 9, 0, 1, 2] (by decide) rfl
      refine lv_iload hx hb dL_law_145 (lv_at hl 1 rfl) ?_
      refine lv_icmp_eq hx hb dL_law_147 rfl (fun h => ?_) (fun h => absurd rfl h)
      refine lv_iload hx hb dL_law_152 (lv_at hl 1 rfl) ?_
      refine lv_if_ne hx hb dL_law_154 rfl (fun h => ?_) (fun h => absurd h (by decide))
      refine lv_goto hx hb dL_law_169 rfl ?_
      have hl : lv_has ls 7 [(4, .int (nI i)), (3, .ref qo), (2, .ref (t 0)), (1, .ref (q 0)), (0, .ref b)] := lv_sub hl [2, 3, 4, 5, 6] rfl
      exact kk (n) (f) (g) (sf) (sg) (r) (fo) (2) H locs ls (hn) hP hD hS hl
set_option maxHeartbeats 4000000 in
set_option maxRecDepth 100000 in
/-- the law calls scatter -/
theorem law_scatter {p : Program} {l : Launch} {e : Env} {s : State} {m : MethodId} {args : Array Value} {below : List Frame} {meth : Method} {c : Code} {Q : State → Prop} {D : va_G} {A : Nat → Prop} {q t : Nat → Nat} {qo b L : Nat} {cI cL : ClassId} {xs : Nat → Int32} (hl0 : l.stackTraces = false) (C0 : CallFix p m c cL_law 7 s args lw_w RL) (hK : va_K D vwCl [(cI, .int), (cL, .long)] s) (hA : ∀ q, s.heap.size ≤ q → A q) (hX : va_X b L xs s s.heap) (hbl : b < s.heap.size) (hbA : ¬ A b) (hL : L ≤ 2048)
    (hZ : ∀ (H : Heap) (locs : List Loc), va_S A s.heap H locs → ∀ U : State, U.heap = H → s.WarmedH U.vm → xr_Zh U) {i n cells slots : Nat} {f g sf sg r : Nat → Int32} {fo : Nat → Int64} {k : Int32} {H : Heap} {locs : List Loc} {ls : Array Slot} (hi : i + 4 ≤ L) (hn : n ≤ 2000) (hcs : cells + 1 ≤ 1037 ∧ slots + 6 ≤ 22222)
    (hP : va_P D vwCl (rs_L q t qo cI cL n f g sf sg r fo k n f g) H) (hD : va_D A (rs_L q t qo cI cL n f g sf sg r fo k n f g)) (hS : va_S A s.heap H locs) (hl : lv_has ls 7 [(4, .int (nI i)), (3, .ref qo), (2, .ref (t 0)), (1, .ref (q 0)), (0, .ref b)])
    (kk : ∀ (n : Nat) (f g sf sg r : Nat → Int32) (fo : Nat → Int64) (k : Int32) (H : Heap) (locs : List Loc) (ls : Array Slot), n ≤ 2000 → va_P D vwCl (rs_L q t qo cI cL n f g sf sg r fo k n f g) H → va_D A (rs_L q t qo cI cL n f g sf sg r fo k n f g) → va_S A s.heap H locs → lv_has ls 7 [(4, .int (nI i)), (3, .ref qo), (2, .ref (t 0)), (1, .ref (q 0)), (0, .ref b)] → W p l e room_1 s m args below meth c H locs (cells + 1) (slots + 6) Q (F0 m 702 ls [])) : W p l e room_1 s m args below meth c H locs cells slots Q (F0 m 172 ls []) := by
  have hx := C0.1
  have hb := C0.2.1
  by_cases hb2 : (xs (i + 2)) < 1 ∨ 16 < (xs (i + 2))
  · skip
    refine lv_aload_n hx hb dL_law_172 rfl (lv_at hl 3 rfl) ?_
    refine lv_aload_n hx hb dL_law_173 rfl (lv_at hl 4 rfl) ?_
    refine lv_iload hx hb dL_law_174 (lv_at hl 0 rfl) ?_
    refine lv_iconst (v := 1) hx hb dL_law_176 (by decide) ?_
    refine lv_iadd hx hb dL_law_177 ?_
    refine xr_top (nI_add i 1) ?_
    refine xr_sld C0 hX hbl hbA hS (j := i + 1) (by omega) (by omega) dL_law_178 ?_
    refine lv_aload_n hx hb dL_law_179 rfl (lv_at hl 4 rfl) ?_
    refine lv_iload hx hb dL_law_180 (lv_at hl 0 rfl) ?_
    refine lv_iconst (v := 2) hx hb dL_law_182 (by decide) ?_
    refine lv_iadd hx hb dL_law_183 ?_
    refine xr_top (nI_add i 2) ?_
    refine xr_sld C0 hX hbl hbA hS (j := i + 2) (by omega) (by omega) dL_law_184 ?_
    refine lv_aload_n hx hb dL_law_185 rfl (lv_at hl 4 rfl) ?_
    refine lv_iload hx hb dL_law_186 (lv_at hl 0 rfl) ?_
    refine lv_iconst (v := 3) hx hb dL_law_188 (by decide) ?_
    refine lv_iadd hx hb dL_law_189 ?_
    refine xr_top (nI_add i 3) ?_
    refine xr_sld C0 hX hbl hbA hS (j := i + 3) (by omega) (by omega) dL_law_190 ?_
    refine lv_aload_n hx hb dL_law_191 rfl (lv_at hl 1 rfl) ?_
    refine xr_lcall (As := [.ref (q 0), .int (xs (i + 1)), .int (xs (i + 2)), .int (xs (i + 3)), .ref qo]) (rest := []) (nA := 5) C0 (h_scatter1 l hl0 D q qo cI cL [] (rs_M t cI k n f g) _ n f g sf sg r fo (xs (i + 1)) (xs (i + 2)) (xs (i + 3)) (Or.inr hb2)) (gH wM_L_L_scatter wS_L_scatter wN_L wC_L_scatter) (by decide +kernel) rfl ⟨by decide, by decide⟩ hK hP hD hS hA (hZ _ _ hS) hl.1 rfl (Nat.le_of_ble_eq_true rfl) dL_law_192 hcs (fun v w H locs hv hP hD hz hS => ?_)
    obtain ⟨rfl, rfl⟩ := hv
    refine lv_istore hx hb dL_law_195 hl (by decide) rfl (fun ls hl => ?_)
    have hl : lv_has ls 7 [(5, .int 1), (4, .int (nI i)), (3, .ref qo), (2, .ref (t 0)), (1, .ref (q 0)), (0, .ref b)] := hl
    refine lv_aload_n hx hb dL_law_197 rfl (lv_at hl 3 rfl) ?_
    refine lv_aload_n hx hb dL_law_198 rfl (lv_at hl 5 rfl) ?_
    refine lv_iload hx hb dL_law_199 (lv_at hl 1 rfl) ?_
    refine lv_iconst (v := 1) hx hb dL_law_201 (by decide) ?_
    refine lv_iadd hx hb dL_law_202 ?_
    refine xr_top (nI_add i 1) ?_
    refine xr_sld C0 hX hbl hbA hS (j := i + 1) (by omega) (by omega) dL_law_203 ?_
    refine lv_aload_n hx hb dL_law_204 rfl (lv_at hl 5 rfl) ?_
    refine lv_iload hx hb dL_law_205 (lv_at hl 1 rfl) ?_
    refine lv_iconst (v := 2) hx hb dL_law_207 (by decide) ?_
    refine lv_iadd hx hb dL_law_208 ?_
    refine xr_top (nI_add i 2) ?_
    refine xr_sld C0 hX hbl hbA hS (j := i + 2) (by omega) (by omega) dL_law_209 ?_
    refine lv_aload_n hx hb dL_law_210 rfl (lv_at hl 5 rfl) ?_
    refine lv_iload hx hb dL_law_211 (lv_at hl 1 rfl) ?_
    refine lv_iconst (v := 3) hx hb dL_law_213 (by decide) ?_
    refine lv_iadd hx hb dL_law_214 ?_
    refine xr_top (nI_add i 3) ?_
    refine xr_sld C0 hX hbl hbA hS (j := i + 3) (by omega) (by omega) dL_law_215 ?_
    have hP := hP.sub (ws' := rs_LM q t qo cI cL (n) (f) (g) (sf) (sg) (r) (fo) (k) (n) (f) (g)) [7, 8, 9, 0, 1, 2, 3, 4, 5, 6] rfl
    have hD := hD.sub (ws' := rs_LM q t qo cI cL (n) (f) (g) (sf) (sg) (r) (fo) (k) (n) (f) (g)) [7, 8, 9, 0, 1, 2, 3, 4, 5, 6] (by decide) rfl
    refine xr_vcall (As := [.int (xs (i + 1)), .int (xs (i + 2)), .int (xs (i + 3))]) (rest := []) (nA := 3) C0 (m_scatter1 l D t cI [(cL, .long)] (rs_X q cI (n) (f) (g) (sf) (sg) (r) ++ [(qo, .inl (cL, 1, .inr (.inl (fo))))]) _ (n) (k) (f) (g) (xs (i + 1)) (xs (i + 2)) (xs (i + 3)) (Or.inr (Or.inr hb2))) (gV wM_L_X1_scatter wI_X1_scatter wV_X1_X1_scatter wN_X1 wC_X1_scatter) (by decide +kernel) rfl rfl rfl ⟨by decide, by decide⟩ hK hP hD hS hA 0 rfl rfl hl.1 rfl (Nat.le_of_ble_eq_true rfl) dL_law_216 (⟨hcs.1, hcs.2⟩) (fun v w H locs hv hP hD hz hS => ?_)
    obtain ⟨rfl, rfl⟩ := hv
    have hP := hP.sub (ws' := rs_L q t qo cI cL (n) (f) (g) (sf) (sg) (r) (fo) (1) (n) (f) (g)) [3, 4, 5, 6, 7, 8, 9, 0, 1, 2] rfl
    have hD := hD.sub (ws' := rs_L q t qo cI cL (n) (f) (g) (sf) (sg) (r) (fo) (1) (n) (f) (g)) [3, 4, 5, 6, 7, 8, 9, 0, 1, 2] (by decide) rfl
    refine lv_istore hx hb dL_law_219 hl (by decide) rfl (fun ls hl => ?_)
    have hl : lv_has ls 7 [(6, .int (0)), (5, .int 1), (4, .int (nI i)), (3, .ref qo), (2, .ref (t 0)), (1, .ref (q 0)), (0, .ref b)] := hl
    refine lv_aload_n hx hb dL_law_221 rfl (lv_at hl 4 rfl) ?_
    have hP := hP.sub (ws' := rs_LM q t qo cI cL (n) (f) (g) (sf) (sg) (r) (fo) (1) (n) (f) (g)) [7, 8, 9, 0, 1, 2, 3, 4, 5, 6] rfl
    have hD := hD.sub (ws' := rs_LM q t qo cI cL (n) (f) (g) (sf) (sg) (r) (fo) (1) (n) (f) (g)) [7, 8, 9, 0, 1, 2, 3, 4, 5, 6] (by decide) rfl
    refine xr_vcall (As := []) (rest := []) (nA := 0) C0 (m_thrown l D t cI [(cL, .long)] (rs_X q cI (n) (f) (g) (sf) (sg) (r) ++ [(qo, .inl (cL, 1, .inr (.inl (fo))))]) _ (n) (1) (f) (g) ) (gV wM_L_X1_thrown wI_X1_thrown wV_X1_X1_thrown wN_X1 wC_X1_thrown) (by decide +kernel) rfl rfl rfl ⟨by decide, by decide⟩ hK hP hD hS hA 0 rfl rfl hl.1 rfl (Nat.le_of_ble_eq_true rfl) dL_law_222 (⟨hcs.1, hcs.2⟩) (fun v w H locs hv hP hD hz hS => ?_)
    obtain ⟨rfl, rfl⟩ := hv
    have hP := hP.sub (ws' := rs_L q t qo cI cL (n) (f) (g) (sf) (sg) (r) (fo) (1) (n) (f) (g)) [3, 4, 5, 6, 7, 8, 9, 0, 1, 2] rfl
    have hD := hD.sub (ws' := rs_L q t qo cI cL (n) (f) (g) (sf) (sg) (r) (fo) (1) (n) (f) (g)) [3, 4, 5, 6, 7, 8, 9, 0, 1, 2] (by decide) rfl
    refine lv_iload hx hb dL_law_225 (lv_at hl 1 rfl) ?_
    refine lv_icmp_eq hx hb dL_law_227 rfl (fun h => ?_) (fun h => absurd rfl h)
    refine lv_iload hx hb dL_law_232 (lv_at hl 1 rfl) ?_
    refine lv_if_ne hx hb dL_law_234 rfl (fun h => ?_) (fun h => absurd h (by decide))
    refine lv_goto hx hb dL_law_249 rfl ?_
    have hl : lv_has ls 7 [(4, .int (nI i)), (3, .ref qo), (2, .ref (t 0)), (1, .ref (q 0)), (0, .ref b)] := lv_sub hl [2, 3, 4, 5, 6] rfl
    exact kk (n) (f) (g) (sf) (sg) (r) (fo) (1) H locs ls (hn) hP hD hS hl
  · skip
    have hb3 : ¬ xs (i + 2) < 1 := fun q => hb2 (Or.inl q)
    have hb4 : xs (i + 2) ≤ 16 := rs_nlt (fun q => hb2 (Or.inr q))
    rcases rs_in (xs (i + 3)) (M := 2000) (N := 2000) (by decide) (by decide) with hbad | ⟨c0, hc, e3, h1, h2⟩
    · skip
      refine lv_aload_n hx hb dL_law_172 rfl (lv_at hl 3 rfl) ?_
      refine lv_aload_n hx hb dL_law_173 rfl (lv_at hl 4 rfl) ?_
      refine lv_iload hx hb dL_law_174 (lv_at hl 0 rfl) ?_
      refine lv_iconst (v := 1) hx hb dL_law_176 (by decide) ?_
      refine lv_iadd hx hb dL_law_177 ?_
      refine xr_top (nI_add i 1) ?_
      refine xr_sld C0 hX hbl hbA hS (j := i + 1) (by omega) (by omega) dL_law_178 ?_
      refine lv_aload_n hx hb dL_law_179 rfl (lv_at hl 4 rfl) ?_
      refine lv_iload hx hb dL_law_180 (lv_at hl 0 rfl) ?_
      refine lv_iconst (v := 2) hx hb dL_law_182 (by decide) ?_
      refine lv_iadd hx hb dL_law_183 ?_
      refine xr_top (nI_add i 2) ?_
      refine xr_sld C0 hX hbl hbA hS (j := i + 2) (by omega) (by omega) dL_law_184 ?_
      refine lv_aload_n hx hb dL_law_185 rfl (lv_at hl 4 rfl) ?_
      refine lv_iload hx hb dL_law_186 (lv_at hl 0 rfl) ?_
      refine lv_iconst (v := 3) hx hb dL_law_188 (by decide) ?_
      refine lv_iadd hx hb dL_law_189 ?_
      refine xr_top (nI_add i 3) ?_
      refine xr_sld C0 hX hbl hbA hS (j := i + 3) (by omega) (by omega) dL_law_190 ?_
      refine lv_aload_n hx hb dL_law_191 rfl (lv_at hl 1 rfl) ?_
      refine xr_lcall (As := [.ref (q 0), .int (xs (i + 1)), .int (xs (i + 2)), .int (xs (i + 3)), .ref qo]) (rest := []) (nA := 5) C0 (h_scatter1 l hl0 D q qo cI cL [] (rs_M t cI k n f g) _ n f g sf sg r fo (xs (i + 1)) (xs (i + 2)) (xs (i + 3)) (Or.inl hbad)) (gH wM_L_L_scatter wS_L_scatter wN_L wC_L_scatter) (by decide +kernel) rfl ⟨by decide, by decide⟩ hK hP hD hS hA (hZ _ _ hS) hl.1 rfl (Nat.le_of_ble_eq_true rfl) dL_law_192 hcs (fun v w H locs hv hP hD hz hS => ?_)
      obtain ⟨rfl, rfl⟩ := hv
      refine lv_istore hx hb dL_law_195 hl (by decide) rfl (fun ls hl => ?_)
      have hl : lv_has ls 7 [(5, .int 1), (4, .int (nI i)), (3, .ref qo), (2, .ref (t 0)), (1, .ref (q 0)), (0, .ref b)] := hl
      refine lv_aload_n hx hb dL_law_197 rfl (lv_at hl 3 rfl) ?_
      refine lv_aload_n hx hb dL_law_198 rfl (lv_at hl 5 rfl) ?_
      refine lv_iload hx hb dL_law_199 (lv_at hl 1 rfl) ?_
      refine lv_iconst (v := 1) hx hb dL_law_201 (by decide) ?_
      refine lv_iadd hx hb dL_law_202 ?_
      refine xr_top (nI_add i 1) ?_
      refine xr_sld C0 hX hbl hbA hS (j := i + 1) (by omega) (by omega) dL_law_203 ?_
      refine lv_aload_n hx hb dL_law_204 rfl (lv_at hl 5 rfl) ?_
      refine lv_iload hx hb dL_law_205 (lv_at hl 1 rfl) ?_
      refine lv_iconst (v := 2) hx hb dL_law_207 (by decide) ?_
      refine lv_iadd hx hb dL_law_208 ?_
      refine xr_top (nI_add i 2) ?_
      refine xr_sld C0 hX hbl hbA hS (j := i + 2) (by omega) (by omega) dL_law_209 ?_
      refine lv_aload_n hx hb dL_law_210 rfl (lv_at hl 5 rfl) ?_
      refine lv_iload hx hb dL_law_211 (lv_at hl 1 rfl) ?_
      refine lv_iconst (v := 3) hx hb dL_law_213 (by decide) ?_
      refine lv_iadd hx hb dL_law_214 ?_
      refine xr_top (nI_add i 3) ?_
      refine xr_sld C0 hX hbl hbA hS (j := i + 3) (by omega) (by omega) dL_law_215 ?_
      have hP := hP.sub (ws' := rs_LM q t qo cI cL (n) (f) (g) (sf) (sg) (r) (fo) (k) (n) (f) (g)) [7, 8, 9, 0, 1, 2, 3, 4, 5, 6] rfl
      have hD := hD.sub (ws' := rs_LM q t qo cI cL (n) (f) (g) (sf) (sg) (r) (fo) (k) (n) (f) (g)) [7, 8, 9, 0, 1, 2, 3, 4, 5, 6] (by decide) rfl
      refine xr_vcall (As := [.int (xs (i + 1)), .int (xs (i + 2)), .int (xs (i + 3))]) (rest := []) (nA := 3) C0 (m_scatter1 l D t cI [(cL, .long)] (rs_X q cI (n) (f) (g) (sf) (sg) (r) ++ [(qo, .inl (cL, 1, .inr (.inl (fo))))]) _ (n) (k) (f) (g) (xs (i + 1)) (xs (i + 2)) (xs (i + 3)) (hbad.elim Or.inl (fun q => Or.inr (Or.inl q)))) (gV wM_L_X1_scatter wI_X1_scatter wV_X1_X1_scatter wN_X1 wC_X1_scatter) (by decide +kernel) rfl rfl rfl ⟨by decide, by decide⟩ hK hP hD hS hA 0 rfl rfl hl.1 rfl (Nat.le_of_ble_eq_true rfl) dL_law_216 (⟨hcs.1, hcs.2⟩) (fun v w H locs hv hP hD hz hS => ?_)
      obtain ⟨rfl, rfl⟩ := hv
      have hP := hP.sub (ws' := rs_L q t qo cI cL (n) (f) (g) (sf) (sg) (r) (fo) (1) (n) (f) (g)) [3, 4, 5, 6, 7, 8, 9, 0, 1, 2] rfl
      have hD := hD.sub (ws' := rs_L q t qo cI cL (n) (f) (g) (sf) (sg) (r) (fo) (1) (n) (f) (g)) [3, 4, 5, 6, 7, 8, 9, 0, 1, 2] (by decide) rfl
      refine lv_istore hx hb dL_law_219 hl (by decide) rfl (fun ls hl => ?_)
      have hl : lv_has ls 7 [(6, .int (0)), (5, .int 1), (4, .int (nI i)), (3, .ref qo), (2, .ref (t 0)), (1, .ref (q 0)), (0, .ref b)] := hl
      refine lv_aload_n hx hb dL_law_221 rfl (lv_at hl 4 rfl) ?_
      have hP := hP.sub (ws' := rs_LM q t qo cI cL (n) (f) (g) (sf) (sg) (r) (fo) (1) (n) (f) (g)) [7, 8, 9, 0, 1, 2, 3, 4, 5, 6] rfl
      have hD := hD.sub (ws' := rs_LM q t qo cI cL (n) (f) (g) (sf) (sg) (r) (fo) (1) (n) (f) (g)) [7, 8, 9, 0, 1, 2, 3, 4, 5, 6] (by decide) rfl
      refine xr_vcall (As := []) (rest := []) (nA := 0) C0 (m_thrown l D t cI [(cL, .long)] (rs_X q cI (n) (f) (g) (sf) (sg) (r) ++ [(qo, .inl (cL, 1, .inr (.inl (fo))))]) _ (n) (1) (f) (g) ) (gV wM_L_X1_thrown wI_X1_thrown wV_X1_X1_thrown wN_X1 wC_X1_thrown) (by decide +kernel) rfl rfl rfl ⟨by decide, by decide⟩ hK hP hD hS hA 0 rfl rfl hl.1 rfl (Nat.le_of_ble_eq_true rfl) dL_law_222 (⟨hcs.1, hcs.2⟩) (fun v w H locs hv hP hD hz hS => ?_)
      obtain ⟨rfl, rfl⟩ := hv
      have hP := hP.sub (ws' := rs_L q t qo cI cL (n) (f) (g) (sf) (sg) (r) (fo) (1) (n) (f) (g)) [3, 4, 5, 6, 7, 8, 9, 0, 1, 2] rfl
      have hD := hD.sub (ws' := rs_L q t qo cI cL (n) (f) (g) (sf) (sg) (r) (fo) (1) (n) (f) (g)) [3, 4, 5, 6, 7, 8, 9, 0, 1, 2] (by decide) rfl
      refine lv_iload hx hb dL_law_225 (lv_at hl 1 rfl) ?_
      refine lv_icmp_eq hx hb dL_law_227 rfl (fun h => ?_) (fun h => absurd rfl h)
      refine lv_iload hx hb dL_law_232 (lv_at hl 1 rfl) ?_
      refine lv_if_ne hx hb dL_law_234 rfl (fun h => ?_) (fun h => absurd h (by decide))
      refine lv_goto hx hb dL_law_249 rfl ?_
      have hl : lv_has ls 7 [(4, .int (nI i)), (3, .ref qo), (2, .ref (t 0)), (1, .ref (q 0)), (0, .ref b)] := lv_sub hl [2, 3, 4, 5, 6] rfl
      exact kk (n) (f) (g) (sf) (sg) (r) (fo) (1) H locs ls (hn) hP hD hS hl
    · skip
      by_cases hr : n + c0 ≤ 2000
      · skip
        refine lv_aload_n hx hb dL_law_172 rfl (lv_at hl 3 rfl) ?_
        refine lv_aload_n hx hb dL_law_173 rfl (lv_at hl 4 rfl) ?_
        refine lv_iload hx hb dL_law_174 (lv_at hl 0 rfl) ?_
        refine lv_iconst (v := 1) hx hb dL_law_176 (by decide) ?_
        refine lv_iadd hx hb dL_law_177 ?_
        refine xr_top (nI_add i 1) ?_
        refine xr_sld C0 hX hbl hbA hS (j := i + 1) (by omega) (by omega) dL_law_178 ?_
        refine lv_aload_n hx hb dL_law_179 rfl (lv_at hl 4 rfl) ?_
        refine lv_iload hx hb dL_law_180 (lv_at hl 0 rfl) ?_
        refine lv_iconst (v := 2) hx hb dL_law_182 (by decide) ?_
        refine lv_iadd hx hb dL_law_183 ?_
        refine xr_top (nI_add i 2) ?_
        refine xr_sld C0 hX hbl hbA hS (j := i + 2) (by omega) (by omega) dL_law_184 ?_
        refine lv_aload_n hx hb dL_law_185 rfl (lv_at hl 4 rfl) ?_
        refine lv_iload hx hb dL_law_186 (lv_at hl 0 rfl) ?_
        refine lv_iconst (v := 3) hx hb dL_law_188 (by decide) ?_
        refine lv_iadd hx hb dL_law_189 ?_
        refine xr_top (nI_add i 3) ?_
        refine xr_sld C0 hX hbl hbA hS (j := i + 3) (by omega) (by omega) dL_law_190 ?_
        refine xr_top (e3) ?_
        refine lv_aload_n hx hb dL_law_191 rfl (lv_at hl 1 rfl) ?_
        refine xr_lcall (As := [.ref (q 0), .int (xs (i + 1)), .int (xs (i + 2)), .int (nI c0), .ref qo]) (rest := []) (nA := 5) C0 (h_scatter0 l hl0 D q qo cI cL [] (rs_M t cI k n f g) _ n f g sf sg r fo (xs (i + 1)) (xs (i + 2)) c0 hb3 hb4 hr) (gH wM_L_L_scatter wS_L_scatter wN_L wC_L_scatter) (by decide +kernel) rfl ⟨by decide, by decide⟩ hK hP hD hS hA (hZ _ _ hS) hl.1 rfl (Nat.le_of_ble_eq_true rfl) dL_law_192 hcs (fun v w H locs hv hP hD hz hS => ?_)
        obtain ⟨rfl, rfl⟩ := hv
        refine lv_istore hx hb dL_law_195 hl (by decide) rfl (fun ls hl => ?_)
        have hl : lv_has ls 7 [(5, .int 0), (4, .int (nI i)), (3, .ref qo), (2, .ref (t 0)), (1, .ref (q 0)), (0, .ref b)] := hl
        refine lv_aload_n hx hb dL_law_197 rfl (lv_at hl 3 rfl) ?_
        refine lv_aload_n hx hb dL_law_198 rfl (lv_at hl 5 rfl) ?_
        refine lv_iload hx hb dL_law_199 (lv_at hl 1 rfl) ?_
        refine lv_iconst (v := 1) hx hb dL_law_201 (by decide) ?_
        refine lv_iadd hx hb dL_law_202 ?_
        refine xr_top (nI_add i 1) ?_
        refine xr_sld C0 hX hbl hbA hS (j := i + 1) (by omega) (by omega) dL_law_203 ?_
        refine lv_aload_n hx hb dL_law_204 rfl (lv_at hl 5 rfl) ?_
        refine lv_iload hx hb dL_law_205 (lv_at hl 1 rfl) ?_
        refine lv_iconst (v := 2) hx hb dL_law_207 (by decide) ?_
        refine lv_iadd hx hb dL_law_208 ?_
        refine xr_top (nI_add i 2) ?_
        refine xr_sld C0 hX hbl hbA hS (j := i + 2) (by omega) (by omega) dL_law_209 ?_
        refine lv_aload_n hx hb dL_law_210 rfl (lv_at hl 5 rfl) ?_
        refine lv_iload hx hb dL_law_211 (lv_at hl 1 rfl) ?_
        refine lv_iconst (v := 3) hx hb dL_law_213 (by decide) ?_
        refine lv_iadd hx hb dL_law_214 ?_
        refine xr_top (nI_add i 3) ?_
        refine xr_sld C0 hX hbl hbA hS (j := i + 3) (by omega) (by omega) dL_law_215 ?_
        refine xr_top (e3) ?_
        have hP := hP.sub (ws' := rs_LM q t qo cI cL (n + c0) (rs_sc f n (xs (i + 1)) (xs (i + 2)) c0) (rs_tg g n c0) (sf) (sg) (r) (vp_updL fo 0 (nI (n + c0)).toInt64) (k) (n) (f) (g)) [7, 8, 9, 0, 1, 2, 3, 4, 5, 6] rfl
        have hD := hD.sub (ws' := rs_LM q t qo cI cL (n + c0) (rs_sc f n (xs (i + 1)) (xs (i + 2)) c0) (rs_tg g n c0) (sf) (sg) (r) (vp_updL fo 0 (nI (n + c0)).toInt64) (k) (n) (f) (g)) [7, 8, 9, 0, 1, 2, 3, 4, 5, 6] (by decide) rfl
        refine xr_vcall (As := [.int (xs (i + 1)), .int (xs (i + 2)), .int (nI c0)]) (rest := []) (nA := 3) C0 (m_scatter0 l D t cI [(cL, .long)] (rs_X q cI (n + c0) (rs_sc f n (xs (i + 1)) (xs (i + 2)) c0) (rs_tg g n c0) (sf) (sg) (r) ++ [(qo, .inl (cL, 1, .inr (.inl (vp_updL fo 0 (nI (n + c0)).toInt64))))]) _ (n) (k) (f) (g) (xs (i + 1)) (xs (i + 2)) c0 hb3 hb4 hr) (gV wM_L_X1_scatter wI_X1_scatter wV_X1_X1_scatter wN_X1 wC_X1_scatter) (by decide +kernel) rfl rfl rfl ⟨by decide, by decide⟩ hK hP hD hS hA 0 rfl rfl hl.1 rfl (Nat.le_of_ble_eq_true rfl) dL_law_216 (⟨hcs.1, hcs.2⟩) (fun v w H locs hv hP hD hz hS => ?_)
        obtain ⟨rfl, rfl⟩ := hv
        have hP := hP.sub (ws' := rs_L q t qo cI cL (n + c0) (rs_sc f n (xs (i + 1)) (xs (i + 2)) c0) (rs_tg g n c0) (sf) (sg) (r) (vp_updL fo 0 (nI (n + c0)).toInt64) (0) (n + c0) (rs_sc f n (xs (i + 1)) (xs (i + 2)) c0) (rs_tg g n c0)) [3, 4, 5, 6, 7, 8, 9, 0, 1, 2] rfl
        have hD := hD.sub (ws' := rs_L q t qo cI cL (n + c0) (rs_sc f n (xs (i + 1)) (xs (i + 2)) c0) (rs_tg g n c0) (sf) (sg) (r) (vp_updL fo 0 (nI (n + c0)).toInt64) (0) (n + c0) (rs_sc f n (xs (i + 1)) (xs (i + 2)) c0) (rs_tg g n c0)) [3, 4, 5, 6, 7, 8, 9, 0, 1, 2] (by decide) rfl
        refine lv_istore hx hb dL_law_219 hl (by decide) rfl (fun ls hl => ?_)
        have hl : lv_has ls 7 [(6, .int (nI (n + c0))), (5, .int 0), (4, .int (nI i)), (3, .ref qo), (2, .ref (t 0)), (1, .ref (q 0)), (0, .ref b)] := hl
        refine lv_aload_n hx hb dL_law_221 rfl (lv_at hl 4 rfl) ?_
        have hP := hP.sub (ws' := rs_LM q t qo cI cL (n + c0) (rs_sc f n (xs (i + 1)) (xs (i + 2)) c0) (rs_tg g n c0) (sf) (sg) (r) (vp_updL fo 0 (nI (n + c0)).toInt64) (0) (n + c0) (rs_sc f n (xs (i + 1)) (xs (i + 2)) c0) (rs_tg g n c0)) [7, 8, 9, 0, 1, 2, 3, 4, 5, 6] rfl
        have hD := hD.sub (ws' := rs_LM q t qo cI cL (n + c0) (rs_sc f n (xs (i + 1)) (xs (i + 2)) c0) (rs_tg g n c0) (sf) (sg) (r) (vp_updL fo 0 (nI (n + c0)).toInt64) (0) (n + c0) (rs_sc f n (xs (i + 1)) (xs (i + 2)) c0) (rs_tg g n c0)) [7, 8, 9, 0, 1, 2, 3, 4, 5, 6] (by decide) rfl
        refine xr_vcall (As := []) (rest := []) (nA := 0) C0 (m_thrown l D t cI [(cL, .long)] (rs_X q cI (n + c0) (rs_sc f n (xs (i + 1)) (xs (i + 2)) c0) (rs_tg g n c0) (sf) (sg) (r) ++ [(qo, .inl (cL, 1, .inr (.inl (vp_updL fo 0 (nI (n + c0)).toInt64))))]) _ (n + c0) (0) (rs_sc f n (xs (i + 1)) (xs (i + 2)) c0) (rs_tg g n c0) ) (gV wM_L_X1_thrown wI_X1_thrown wV_X1_X1_thrown wN_X1 wC_X1_thrown) (by decide +kernel) rfl rfl rfl ⟨by decide, by decide⟩ hK hP hD hS hA 0 rfl rfl hl.1 rfl (Nat.le_of_ble_eq_true rfl) dL_law_222 (⟨hcs.1, hcs.2⟩) (fun v w H locs hv hP hD hz hS => ?_)
        obtain ⟨rfl, rfl⟩ := hv
        have hP := hP.sub (ws' := rs_L q t qo cI cL (n + c0) (rs_sc f n (xs (i + 1)) (xs (i + 2)) c0) (rs_tg g n c0) (sf) (sg) (r) (vp_updL fo 0 (nI (n + c0)).toInt64) (0) (n + c0) (rs_sc f n (xs (i + 1)) (xs (i + 2)) c0) (rs_tg g n c0)) [3, 4, 5, 6, 7, 8, 9, 0, 1, 2] rfl
        have hD := hD.sub (ws' := rs_L q t qo cI cL (n + c0) (rs_sc f n (xs (i + 1)) (xs (i + 2)) c0) (rs_tg g n c0) (sf) (sg) (r) (vp_updL fo 0 (nI (n + c0)).toInt64) (0) (n + c0) (rs_sc f n (xs (i + 1)) (xs (i + 2)) c0) (rs_tg g n c0)) [3, 4, 5, 6, 7, 8, 9, 0, 1, 2] (by decide) rfl
        refine lv_iload hx hb dL_law_225 (lv_at hl 1 rfl) ?_
        refine lv_icmp_eq hx hb dL_law_227 rfl (fun h => ?_) (fun h => absurd rfl h)
        refine lv_iload hx hb dL_law_232 (lv_at hl 1 rfl) ?_
        refine lv_if_ne hx hb dL_law_234 rfl (fun h => absurd rfl h) (fun h => ?_)
        refine lv_aload_n hx hb dL_law_237 rfl (lv_at hl 3 rfl) ?_
        refine lv_iconst (v := 0) hx hb dL_law_238 (by decide) ?_
        refine xr_lald0 C0 hK hP 6 rfl dL_law_239 ?_
        refine xr_topl pk_uLs ?_
        refine lv_iload hx hb dL_law_240 (lv_at hl 0 rfl) ?_
        refine lv_i2l hx hb dL_law_242 rfl ?_
        refine W.lcmp hx hb dL_law_243 ?_
        refine xr_top (rs_cmp _) ?_
        refine lv_if_eq hx hb dL_law_244 rfl (fun h => ?_) (fun h => absurd rfl h)
        refine lv_goto hx hb dL_law_249 rfl ?_
        have hl : lv_has ls 7 [(4, .int (nI i)), (3, .ref qo), (2, .ref (t 0)), (1, .ref (q 0)), (0, .ref b)] := lv_sub hl [2, 3, 4, 5, 6] rfl
        exact kk (n + c0) (rs_sc f n (xs (i + 1)) (xs (i + 2)) c0) (rs_tg g n c0) (sf) (sg) (r) (vp_updL fo 0 (nI (n + c0)).toInt64) (0) H locs ls (hr) hP hD hS hl
      · skip
        have hbad : nI (2000 - n) < nI c0 := nI_lt (by omega) (by omega)
        rw [e3] at h1 h2
        refine lv_aload_n hx hb dL_law_172 rfl (lv_at hl 3 rfl) ?_
        refine lv_aload_n hx hb dL_law_173 rfl (lv_at hl 4 rfl) ?_
        refine lv_iload hx hb dL_law_174 (lv_at hl 0 rfl) ?_
        refine lv_iconst (v := 1) hx hb dL_law_176 (by decide) ?_
        refine lv_iadd hx hb dL_law_177 ?_
        refine xr_top (nI_add i 1) ?_
        refine xr_sld C0 hX hbl hbA hS (j := i + 1) (by omega) (by omega) dL_law_178 ?_
        refine lv_aload_n hx hb dL_law_179 rfl (lv_at hl 4 rfl) ?_
        refine lv_iload hx hb dL_law_180 (lv_at hl 0 rfl) ?_
        refine lv_iconst (v := 2) hx hb dL_law_182 (by decide) ?_
        refine lv_iadd hx hb dL_law_183 ?_
        refine xr_top (nI_add i 2) ?_
        refine xr_sld C0 hX hbl hbA hS (j := i + 2) (by omega) (by omega) dL_law_184 ?_
        refine lv_aload_n hx hb dL_law_185 rfl (lv_at hl 4 rfl) ?_
        refine lv_iload hx hb dL_law_186 (lv_at hl 0 rfl) ?_
        refine lv_iconst (v := 3) hx hb dL_law_188 (by decide) ?_
        refine lv_iadd hx hb dL_law_189 ?_
        refine xr_top (nI_add i 3) ?_
        refine xr_sld C0 hX hbl hbA hS (j := i + 3) (by omega) (by omega) dL_law_190 ?_
        refine xr_top (e3) ?_
        refine lv_aload_n hx hb dL_law_191 rfl (lv_at hl 1 rfl) ?_
        refine xr_lcall (As := [.ref (q 0), .int (xs (i + 1)), .int (xs (i + 2)), .int (nI c0), .ref qo]) (rest := []) (nA := 5) C0 (h_scatter2 l hl0 D q qo cI cL [] (rs_M t cI k n f g) _ n f g sf sg r fo (xs (i + 1)) (xs (i + 2)) (nI c0) h1 h2 hb3 hb4 hn hbad) (gH wM_L_L_scatter wS_L_scatter wN_L wC_L_scatter) (by decide +kernel) rfl ⟨by decide, by decide⟩ hK hP hD hS hA (hZ _ _ hS) hl.1 rfl (Nat.le_of_ble_eq_true rfl) dL_law_192 hcs (fun v w H locs hv hP hD hz hS => ?_)
        obtain ⟨rfl, rfl⟩ := hv
        refine lv_istore hx hb dL_law_195 hl (by decide) rfl (fun ls hl => ?_)
        have hl : lv_has ls 7 [(5, .int 2), (4, .int (nI i)), (3, .ref qo), (2, .ref (t 0)), (1, .ref (q 0)), (0, .ref b)] := hl
        refine lv_aload_n hx hb dL_law_197 rfl (lv_at hl 3 rfl) ?_
        refine lv_aload_n hx hb dL_law_198 rfl (lv_at hl 5 rfl) ?_
        refine lv_iload hx hb dL_law_199 (lv_at hl 1 rfl) ?_
        refine lv_iconst (v := 1) hx hb dL_law_201 (by decide) ?_
        refine lv_iadd hx hb dL_law_202 ?_
        refine xr_top (nI_add i 1) ?_
        refine xr_sld C0 hX hbl hbA hS (j := i + 1) (by omega) (by omega) dL_law_203 ?_
        refine lv_aload_n hx hb dL_law_204 rfl (lv_at hl 5 rfl) ?_
        refine lv_iload hx hb dL_law_205 (lv_at hl 1 rfl) ?_
        refine lv_iconst (v := 2) hx hb dL_law_207 (by decide) ?_
        refine lv_iadd hx hb dL_law_208 ?_
        refine xr_top (nI_add i 2) ?_
        refine xr_sld C0 hX hbl hbA hS (j := i + 2) (by omega) (by omega) dL_law_209 ?_
        refine lv_aload_n hx hb dL_law_210 rfl (lv_at hl 5 rfl) ?_
        refine lv_iload hx hb dL_law_211 (lv_at hl 1 rfl) ?_
        refine lv_iconst (v := 3) hx hb dL_law_213 (by decide) ?_
        refine lv_iadd hx hb dL_law_214 ?_
        refine xr_top (nI_add i 3) ?_
        refine xr_sld C0 hX hbl hbA hS (j := i + 3) (by omega) (by omega) dL_law_215 ?_
        refine xr_top (e3) ?_
        have hP := hP.sub (ws' := rs_LM q t qo cI cL (n) (f) (g) (sf) (sg) (r) (fo) (k) (n) (f) (g)) [7, 8, 9, 0, 1, 2, 3, 4, 5, 6] rfl
        have hD := hD.sub (ws' := rs_LM q t qo cI cL (n) (f) (g) (sf) (sg) (r) (fo) (k) (n) (f) (g)) [7, 8, 9, 0, 1, 2, 3, 4, 5, 6] (by decide) rfl
        refine xr_vcall (As := [.int (xs (i + 1)), .int (xs (i + 2)), .int (nI c0)]) (rest := []) (nA := 3) C0 (m_scatter2 l D t cI [(cL, .long)] (rs_X q cI (n) (f) (g) (sf) (sg) (r) ++ [(qo, .inl (cL, 1, .inr (.inl (fo))))]) _ (n) (k) (f) (g) (xs (i + 1)) (xs (i + 2)) c0 hb3 hb4 hc hn (by omega)) (gV wM_L_X1_scatter wI_X1_scatter wV_X1_X1_scatter wN_X1 wC_X1_scatter) (by decide +kernel) rfl rfl rfl ⟨by decide, by decide⟩ hK hP hD hS hA 0 rfl rfl hl.1 rfl (Nat.le_of_ble_eq_true rfl) dL_law_216 (⟨hcs.1, hcs.2⟩) (fun v w H locs hv hP hD hz hS => ?_)
        obtain ⟨rfl, rfl⟩ := hv
        have hP := hP.sub (ws' := rs_L q t qo cI cL (n) (f) (g) (sf) (sg) (r) (fo) (2) (n) (f) (g)) [3, 4, 5, 6, 7, 8, 9, 0, 1, 2] rfl
        have hD := hD.sub (ws' := rs_L q t qo cI cL (n) (f) (g) (sf) (sg) (r) (fo) (2) (n) (f) (g)) [3, 4, 5, 6, 7, 8, 9, 0, 1, 2] (by decide) rfl
        refine lv_istore hx hb dL_law_219 hl (by decide) rfl (fun ls hl => ?_)
        have hl : lv_has ls 7 [(6, .int (0)), (5, .int 2), (4, .int (nI i)), (3, .ref qo), (2, .ref (t 0)), (1, .ref (q 0)), (0, .ref b)] := hl
        refine lv_aload_n hx hb dL_law_221 rfl (lv_at hl 4 rfl) ?_
        have hP := hP.sub (ws' := rs_LM q t qo cI cL (n) (f) (g) (sf) (sg) (r) (fo) (2) (n) (f) (g)) [7, 8, 9, 0, 1, 2, 3, 4, 5, 6] rfl
        have hD := hD.sub (ws' := rs_LM q t qo cI cL (n) (f) (g) (sf) (sg) (r) (fo) (2) (n) (f) (g)) [7, 8, 9, 0, 1, 2, 3, 4, 5, 6] (by decide) rfl
        refine xr_vcall (As := []) (rest := []) (nA := 0) C0 (m_thrown l D t cI [(cL, .long)] (rs_X q cI (n) (f) (g) (sf) (sg) (r) ++ [(qo, .inl (cL, 1, .inr (.inl (fo))))]) _ (n) (2) (f) (g) ) (gV wM_L_X1_thrown wI_X1_thrown wV_X1_X1_thrown wN_X1 wC_X1_thrown) (by decide +kernel) rfl rfl rfl ⟨by decide, by decide⟩ hK hP hD hS hA 0 rfl rfl hl.1 rfl (Nat.le_of_ble_eq_true rfl) dL_law_222 (⟨hcs.1, hcs.2⟩) (fun v w H locs hv hP hD hz hS => ?_)
        obtain ⟨rfl, rfl⟩ := hv
        have hP := hP.sub (ws' := rs_L q t qo cI cL (n) (f) (g) (sf) (sg) (r) (fo) (2) (n) (f) (g)) [3, 4, 5, 6, 7, 8, 9, 0, 1, 2] rfl
        have hD := hD.sub (ws' := rs_L q t qo cI cL (n) (f) (g) (sf) (sg) (r) (fo) (2) (n) (f) (g)) [3, 4, 5, 6, 7, 8, 9, 0, 1, 2] (by decide) rfl
        refine lv_iload hx hb dL_law_225 (lv_at hl 1 rfl) ?_
        refine lv_icmp_eq hx hb dL_law_227 rfl (fun h => ?_) (fun h => absurd rfl h)
        refine lv_iload hx hb dL_law_232 (lv_at hl 1 rfl) ?_
        refine lv_if_ne hx hb dL_law_234 rfl (fun h => ?_) (fun h => absurd h (by decide))
        refine lv_goto hx hb dL_law_249 rfl ?_
        have hl : lv_has ls 7 [(4, .int (nI i)), (3, .ref qo), (2, .ref (t 0)), (1, .ref (q 0)), (0, .ref b)] := lv_sub hl [2, 3, 4, 5, 6] rfl
        exact kk (n) (f) (g) (sf) (sg) (r) (fo) (2) H locs ls (hn) hP hD hS hl
end
section
/-! The law calls sort, get, tag, set, turn, upTo, clear, hash (rows laid by wip/whole/p15.py). -/
set_option maxHeartbeats 4000000 in
set_option maxRecDepth 100000 in
/-- the law calls sort -/
theorem law_sort {p : Program} {l : Launch} {e : Env} {s : State} {m : MethodId} {args : Array Value} {below : List Frame} {meth : Method} {c : Code} {Q : State → Prop} {D : va_G} {A : Nat → Prop} {q t : Nat → Nat} {qo b L : Nat} {cI cL : ClassId} {xs : Nat → Int32} (hl0 : l.stackTraces = false) (C0 : CallFix p m c cL_law 7 s args lw_w RL) (hK : va_K D vwCl [(cI, .int), (cL, .long)] s) (hA : ∀ q, s.heap.size ≤ q → A q) (hX : va_X b L xs s s.heap) (hbl : b < s.heap.size) (hbA : ¬ A b) (hL : L ≤ 2048)
    (hZ : ∀ (H : Heap) (locs : List Loc), va_S A s.heap H locs → ∀ U : State, U.heap = H → s.WarmedH U.vm → xr_Zh U) {i n cells slots : Nat} {f g sf sg r : Nat → Int32} {fo : Nat → Int64} {k : Int32} {H : Heap} {locs : List Loc} {ls : Array Slot} (hi : i + 4 ≤ L) (hn : n ≤ 2000) (hcs : cells + 1 ≤ 1037 ∧ slots + 6 ≤ 22222)
    (hP : va_P D vwCl (rs_L q t qo cI cL n f g sf sg r fo k n f g) H) (hD : va_D A (rs_L q t qo cI cL n f g sf sg r fo k n f g)) (hS : va_S A s.heap H locs) (hl : lv_has ls 7 [(4, .int (nI i)), (3, .ref qo), (2, .ref (t 0)), (1, .ref (q 0)), (0, .ref b)])
    (kk : ∀ (n : Nat) (f g sf sg r : Nat → Int32) (fo : Nat → Int64) (k : Int32) (H : Heap) (locs : List Loc) (ls : Array Slot), n ≤ 2000 → va_P D vwCl (rs_L q t qo cI cL n f g sf sg r fo k n f g) H → va_D A (rs_L q t qo cI cL n f g sf sg r fo k n f g) → va_S A s.heap H locs → lv_has ls 7 [(4, .int (nI i)), (3, .ref qo), (2, .ref (t 0)), (1, .ref (q 0)), (0, .ref b)] → W p l e room_1 s m args below meth c H locs (cells + 1) (slots + 6) Q (F0 m 702 ls [])) : W p l e room_1 s m args below meth c H locs cells slots Q (F0 m 252 ls []) := by
  have hx := C0.1
  have hb := C0.2.1
  by_cases ho : (xs (i + 1)) < 0 ∨ 3 < (xs (i + 1))
  · skip
    refine lv_aload_n hx hb dL_law_252 rfl (lv_at hl 3 rfl) ?_
    refine lv_aload_n hx hb dL_law_253 rfl (lv_at hl 4 rfl) ?_
    refine lv_iload hx hb dL_law_254 (lv_at hl 0 rfl) ?_
    refine lv_iconst (v := 1) hx hb dL_law_256 (by decide) ?_
    refine lv_iadd hx hb dL_law_257 ?_
    refine xr_top (nI_add i 1) ?_
    refine xr_sld C0 hX hbl hbA hS (j := i + 1) (by omega) (by omega) dL_law_258 ?_
    refine lv_aload_n hx hb dL_law_259 rfl (lv_at hl 4 rfl) ?_
    refine lv_iload hx hb dL_law_260 (lv_at hl 0 rfl) ?_
    refine lv_iconst (v := 2) hx hb dL_law_262 (by decide) ?_
    refine lv_iadd hx hb dL_law_263 ?_
    refine xr_top (nI_add i 2) ?_
    refine xr_sld C0 hX hbl hbA hS (j := i + 2) (by omega) (by omega) dL_law_264 ?_
    refine lv_aload_n hx hb dL_law_265 rfl (lv_at hl 4 rfl) ?_
    refine lv_iload hx hb dL_law_266 (lv_at hl 0 rfl) ?_
    refine lv_iconst (v := 3) hx hb dL_law_268 (by decide) ?_
    refine lv_iadd hx hb dL_law_269 ?_
    refine xr_top (nI_add i 3) ?_
    refine xr_sld C0 hX hbl hbA hS (j := i + 3) (by omega) (by omega) dL_law_270 ?_
    refine lv_aload_n hx hb dL_law_271 rfl (lv_at hl 1 rfl) ?_
    refine xr_lcall (As := [.ref (q 0), .int (xs (i + 1)), .int (xs (i + 2)), .int (xs (i + 3)), .ref qo]) (rest := []) (nA := 5) C0 (h_sort1 l hl0 D q qo cI cL [] (rs_M t cI k n f g) _ n f g sf sg r fo (xs (i + 1)) (xs (i + 2)) (xs (i + 3)) (Or.inl ho)) (gH wM_L_L_sort wS_L_sort wN_L wC_L_sort) (by decide +kernel) rfl ⟨by decide, by decide⟩ hK hP hD hS hA (hZ _ _ hS) hl.1 rfl (Nat.le_of_ble_eq_true rfl) dL_law_272 hcs (fun v w H locs hv hP hD hz hS => ?_)
    obtain ⟨rfl, rfl⟩ := hv
    refine lv_istore hx hb dL_law_275 hl (by decide) rfl (fun ls hl => ?_)
    have hl : lv_has ls 7 [(5, .int 1), (4, .int (nI i)), (3, .ref qo), (2, .ref (t 0)), (1, .ref (q 0)), (0, .ref b)] := hl
    refine lv_aload_n hx hb dL_law_277 rfl (lv_at hl 3 rfl) ?_
    refine lv_aload_n hx hb dL_law_278 rfl (lv_at hl 5 rfl) ?_
    refine lv_iload hx hb dL_law_279 (lv_at hl 1 rfl) ?_
    refine lv_iconst (v := 1) hx hb dL_law_281 (by decide) ?_
    refine lv_iadd hx hb dL_law_282 ?_
    refine xr_top (nI_add i 1) ?_
    refine xr_sld C0 hX hbl hbA hS (j := i + 1) (by omega) (by omega) dL_law_283 ?_
    refine lv_aload_n hx hb dL_law_284 rfl (lv_at hl 5 rfl) ?_
    refine lv_iload hx hb dL_law_285 (lv_at hl 1 rfl) ?_
    refine lv_iconst (v := 2) hx hb dL_law_287 (by decide) ?_
    refine lv_iadd hx hb dL_law_288 ?_
    refine xr_top (nI_add i 2) ?_
    refine xr_sld C0 hX hbl hbA hS (j := i + 2) (by omega) (by omega) dL_law_289 ?_
    refine lv_aload_n hx hb dL_law_290 rfl (lv_at hl 5 rfl) ?_
    refine lv_iload hx hb dL_law_291 (lv_at hl 1 rfl) ?_
    refine lv_iconst (v := 3) hx hb dL_law_293 (by decide) ?_
    refine lv_iadd hx hb dL_law_294 ?_
    refine xr_top (nI_add i 3) ?_
    refine xr_sld C0 hX hbl hbA hS (j := i + 3) (by omega) (by omega) dL_law_295 ?_
    have hP := hP.sub (ws' := rs_LM q t qo cI cL (n) (f) (g) (sf) (sg) (r) (fo) (k) (n) (f) (g)) [7, 8, 9, 0, 1, 2, 3, 4, 5, 6] rfl
    have hD := hD.sub (ws' := rs_LM q t qo cI cL (n) (f) (g) (sf) (sg) (r) (fo) (k) (n) (f) (g)) [7, 8, 9, 0, 1, 2, 3, 4, 5, 6] (by decide) rfl
    refine xr_vcall (As := [.int (xs (i + 1)), .int (xs (i + 2)), .int (xs (i + 3))]) (rest := []) (nA := 3) C0 (m_sort1 l D t cI [(cL, .long)] (rs_X q cI (n) (f) (g) (sf) (sg) (r) ++ [(qo, .inl (cL, 1, .inr (.inl (fo))))]) _ (n) (k) (f) (g) (xs (i + 1)) (xs (i + 2)) (xs (i + 3)) hn (ho.elim Or.inl (fun q => Or.inr (Or.inl q)))) (gV wM_L_X1_sort wI_X1_sort wV_X1_X1_sort wN_X1 wC_X1_sort) (by decide +kernel) rfl rfl rfl ⟨by decide, by decide⟩ hK hP hD hS hA 0 rfl rfl hl.1 rfl (Nat.le_of_ble_eq_true rfl) dL_law_296 (⟨hcs.1, hcs.2⟩) (fun v w H locs hv hP hD hz hS => ?_)
    obtain ⟨rfl, rfl⟩ := hv
    have hP := hP.sub (ws' := rs_L q t qo cI cL (n) (f) (g) (sf) (sg) (r) (fo) (1) (n) (f) (g)) [3, 4, 5, 6, 7, 8, 9, 0, 1, 2] rfl
    have hD := hD.sub (ws' := rs_L q t qo cI cL (n) (f) (g) (sf) (sg) (r) (fo) (1) (n) (f) (g)) [3, 4, 5, 6, 7, 8, 9, 0, 1, 2] (by decide) rfl
    refine lv_istore hx hb dL_law_299 hl (by decide) rfl (fun ls hl => ?_)
    have hl : lv_has ls 7 [(6, .int (0)), (5, .int 1), (4, .int (nI i)), (3, .ref qo), (2, .ref (t 0)), (1, .ref (q 0)), (0, .ref b)] := hl
    refine lv_aload_n hx hb dL_law_301 rfl (lv_at hl 4 rfl) ?_
    have hP := hP.sub (ws' := rs_LM q t qo cI cL (n) (f) (g) (sf) (sg) (r) (fo) (1) (n) (f) (g)) [7, 8, 9, 0, 1, 2, 3, 4, 5, 6] rfl
    have hD := hD.sub (ws' := rs_LM q t qo cI cL (n) (f) (g) (sf) (sg) (r) (fo) (1) (n) (f) (g)) [7, 8, 9, 0, 1, 2, 3, 4, 5, 6] (by decide) rfl
    refine xr_vcall (As := []) (rest := []) (nA := 0) C0 (m_thrown l D t cI [(cL, .long)] (rs_X q cI (n) (f) (g) (sf) (sg) (r) ++ [(qo, .inl (cL, 1, .inr (.inl (fo))))]) _ (n) (1) (f) (g) ) (gV wM_L_X1_thrown wI_X1_thrown wV_X1_X1_thrown wN_X1 wC_X1_thrown) (by decide +kernel) rfl rfl rfl ⟨by decide, by decide⟩ hK hP hD hS hA 0 rfl rfl hl.1 rfl (Nat.le_of_ble_eq_true rfl) dL_law_302 (⟨hcs.1, hcs.2⟩) (fun v w H locs hv hP hD hz hS => ?_)
    obtain ⟨rfl, rfl⟩ := hv
    have hP := hP.sub (ws' := rs_L q t qo cI cL (n) (f) (g) (sf) (sg) (r) (fo) (1) (n) (f) (g)) [3, 4, 5, 6, 7, 8, 9, 0, 1, 2] rfl
    have hD := hD.sub (ws' := rs_L q t qo cI cL (n) (f) (g) (sf) (sg) (r) (fo) (1) (n) (f) (g)) [3, 4, 5, 6, 7, 8, 9, 0, 1, 2] (by decide) rfl
    refine lv_iload hx hb dL_law_305 (lv_at hl 1 rfl) ?_
    refine lv_icmp_eq hx hb dL_law_307 rfl (fun h => ?_) (fun h => absurd rfl h)
    refine lv_iload hx hb dL_law_312 (lv_at hl 1 rfl) ?_
    refine lv_if_ne hx hb dL_law_314 rfl (fun h => ?_) (fun h => absurd h (by decide))
    refine lv_goto hx hb dL_law_329 rfl ?_
    have hl : lv_has ls 7 [(4, .int (nI i)), (3, .ref qo), (2, .ref (t 0)), (1, .ref (q 0)), (0, .ref b)] := lv_sub hl [2, 3, 4, 5, 6] rfl
    exact kk (n) (f) (g) (sf) (sg) (r) (fo) (1) H locs ls (hn) hP hD hS hl
  · skip
    have h1 : ¬ xs (i + 1) < 0 := fun q => ho (Or.inl q)
    have h2 : xs (i + 1) ≤ 3 := rs_nlt (fun q => ho (Or.inr q))
    rcases rs_ab (xs (i + 2)) (xs (i + 3)) hn with hbad | ⟨a, d, had, hdn, e2, e3⟩
    · skip
      refine lv_aload_n hx hb dL_law_252 rfl (lv_at hl 3 rfl) ?_
      refine lv_aload_n hx hb dL_law_253 rfl (lv_at hl 4 rfl) ?_
      refine lv_iload hx hb dL_law_254 (lv_at hl 0 rfl) ?_
      refine lv_iconst (v := 1) hx hb dL_law_256 (by decide) ?_
      refine lv_iadd hx hb dL_law_257 ?_
      refine xr_top (nI_add i 1) ?_
      refine xr_sld C0 hX hbl hbA hS (j := i + 1) (by omega) (by omega) dL_law_258 ?_
      refine lv_aload_n hx hb dL_law_259 rfl (lv_at hl 4 rfl) ?_
      refine lv_iload hx hb dL_law_260 (lv_at hl 0 rfl) ?_
      refine lv_iconst (v := 2) hx hb dL_law_262 (by decide) ?_
      refine lv_iadd hx hb dL_law_263 ?_
      refine xr_top (nI_add i 2) ?_
      refine xr_sld C0 hX hbl hbA hS (j := i + 2) (by omega) (by omega) dL_law_264 ?_
      refine lv_aload_n hx hb dL_law_265 rfl (lv_at hl 4 rfl) ?_
      refine lv_iload hx hb dL_law_266 (lv_at hl 0 rfl) ?_
      refine lv_iconst (v := 3) hx hb dL_law_268 (by decide) ?_
      refine lv_iadd hx hb dL_law_269 ?_
      refine xr_top (nI_add i 3) ?_
      refine xr_sld C0 hX hbl hbA hS (j := i + 3) (by omega) (by omega) dL_law_270 ?_
      refine lv_aload_n hx hb dL_law_271 rfl (lv_at hl 1 rfl) ?_
      refine xr_lcall (As := [.ref (q 0), .int (xs (i + 1)), .int (xs (i + 2)), .int (xs (i + 3)), .ref qo]) (rest := []) (nA := 5) C0 (h_sort1 l hl0 D q qo cI cL [] (rs_M t cI k n f g) _ n f g sf sg r fo (xs (i + 1)) (xs (i + 2)) (xs (i + 3)) (Or.inr hbad)) (gH wM_L_L_sort wS_L_sort wN_L wC_L_sort) (by decide +kernel) rfl ⟨by decide, by decide⟩ hK hP hD hS hA (hZ _ _ hS) hl.1 rfl (Nat.le_of_ble_eq_true rfl) dL_law_272 hcs (fun v w H locs hv hP hD hz hS => ?_)
      obtain ⟨rfl, rfl⟩ := hv
      refine lv_istore hx hb dL_law_275 hl (by decide) rfl (fun ls hl => ?_)
      have hl : lv_has ls 7 [(5, .int 1), (4, .int (nI i)), (3, .ref qo), (2, .ref (t 0)), (1, .ref (q 0)), (0, .ref b)] := hl
      refine lv_aload_n hx hb dL_law_277 rfl (lv_at hl 3 rfl) ?_
      refine lv_aload_n hx hb dL_law_278 rfl (lv_at hl 5 rfl) ?_
      refine lv_iload hx hb dL_law_279 (lv_at hl 1 rfl) ?_
      refine lv_iconst (v := 1) hx hb dL_law_281 (by decide) ?_
      refine lv_iadd hx hb dL_law_282 ?_
      refine xr_top (nI_add i 1) ?_
      refine xr_sld C0 hX hbl hbA hS (j := i + 1) (by omega) (by omega) dL_law_283 ?_
      refine lv_aload_n hx hb dL_law_284 rfl (lv_at hl 5 rfl) ?_
      refine lv_iload hx hb dL_law_285 (lv_at hl 1 rfl) ?_
      refine lv_iconst (v := 2) hx hb dL_law_287 (by decide) ?_
      refine lv_iadd hx hb dL_law_288 ?_
      refine xr_top (nI_add i 2) ?_
      refine xr_sld C0 hX hbl hbA hS (j := i + 2) (by omega) (by omega) dL_law_289 ?_
      refine lv_aload_n hx hb dL_law_290 rfl (lv_at hl 5 rfl) ?_
      refine lv_iload hx hb dL_law_291 (lv_at hl 1 rfl) ?_
      refine lv_iconst (v := 3) hx hb dL_law_293 (by decide) ?_
      refine lv_iadd hx hb dL_law_294 ?_
      refine xr_top (nI_add i 3) ?_
      refine xr_sld C0 hX hbl hbA hS (j := i + 3) (by omega) (by omega) dL_law_295 ?_
      have hP := hP.sub (ws' := rs_LM q t qo cI cL (n) (f) (g) (sf) (sg) (r) (fo) (k) (n) (f) (g)) [7, 8, 9, 0, 1, 2, 3, 4, 5, 6] rfl
      have hD := hD.sub (ws' := rs_LM q t qo cI cL (n) (f) (g) (sf) (sg) (r) (fo) (k) (n) (f) (g)) [7, 8, 9, 0, 1, 2, 3, 4, 5, 6] (by decide) rfl
      refine xr_vcall (As := [.int (xs (i + 1)), .int (xs (i + 2)), .int (xs (i + 3))]) (rest := []) (nA := 3) C0 (m_sort1 l D t cI [(cL, .long)] (rs_X q cI (n) (f) (g) (sf) (sg) (r) ++ [(qo, .inl (cL, 1, .inr (.inl (fo))))]) _ (n) (k) (f) (g) (xs (i + 1)) (xs (i + 2)) (xs (i + 3)) hn (Or.inr (Or.inr (rs_bad hn hbad)))) (gV wM_L_X1_sort wI_X1_sort wV_X1_X1_sort wN_X1 wC_X1_sort) (by decide +kernel) rfl rfl rfl ⟨by decide, by decide⟩ hK hP hD hS hA 0 rfl rfl hl.1 rfl (Nat.le_of_ble_eq_true rfl) dL_law_296 (⟨hcs.1, hcs.2⟩) (fun v w H locs hv hP hD hz hS => ?_)
      obtain ⟨rfl, rfl⟩ := hv
      have hP := hP.sub (ws' := rs_L q t qo cI cL (n) (f) (g) (sf) (sg) (r) (fo) (1) (n) (f) (g)) [3, 4, 5, 6, 7, 8, 9, 0, 1, 2] rfl
      have hD := hD.sub (ws' := rs_L q t qo cI cL (n) (f) (g) (sf) (sg) (r) (fo) (1) (n) (f) (g)) [3, 4, 5, 6, 7, 8, 9, 0, 1, 2] (by decide) rfl
      refine lv_istore hx hb dL_law_299 hl (by decide) rfl (fun ls hl => ?_)
      have hl : lv_has ls 7 [(6, .int (0)), (5, .int 1), (4, .int (nI i)), (3, .ref qo), (2, .ref (t 0)), (1, .ref (q 0)), (0, .ref b)] := hl
      refine lv_aload_n hx hb dL_law_301 rfl (lv_at hl 4 rfl) ?_
      have hP := hP.sub (ws' := rs_LM q t qo cI cL (n) (f) (g) (sf) (sg) (r) (fo) (1) (n) (f) (g)) [7, 8, 9, 0, 1, 2, 3, 4, 5, 6] rfl
      have hD := hD.sub (ws' := rs_LM q t qo cI cL (n) (f) (g) (sf) (sg) (r) (fo) (1) (n) (f) (g)) [7, 8, 9, 0, 1, 2, 3, 4, 5, 6] (by decide) rfl
      refine xr_vcall (As := []) (rest := []) (nA := 0) C0 (m_thrown l D t cI [(cL, .long)] (rs_X q cI (n) (f) (g) (sf) (sg) (r) ++ [(qo, .inl (cL, 1, .inr (.inl (fo))))]) _ (n) (1) (f) (g) ) (gV wM_L_X1_thrown wI_X1_thrown wV_X1_X1_thrown wN_X1 wC_X1_thrown) (by decide +kernel) rfl rfl rfl ⟨by decide, by decide⟩ hK hP hD hS hA 0 rfl rfl hl.1 rfl (Nat.le_of_ble_eq_true rfl) dL_law_302 (⟨hcs.1, hcs.2⟩) (fun v w H locs hv hP hD hz hS => ?_)
      obtain ⟨rfl, rfl⟩ := hv
      have hP := hP.sub (ws' := rs_L q t qo cI cL (n) (f) (g) (sf) (sg) (r) (fo) (1) (n) (f) (g)) [3, 4, 5, 6, 7, 8, 9, 0, 1, 2] rfl
      have hD := hD.sub (ws' := rs_L q t qo cI cL (n) (f) (g) (sf) (sg) (r) (fo) (1) (n) (f) (g)) [3, 4, 5, 6, 7, 8, 9, 0, 1, 2] (by decide) rfl
      refine lv_iload hx hb dL_law_305 (lv_at hl 1 rfl) ?_
      refine lv_icmp_eq hx hb dL_law_307 rfl (fun h => ?_) (fun h => absurd rfl h)
      refine lv_iload hx hb dL_law_312 (lv_at hl 1 rfl) ?_
      refine lv_if_ne hx hb dL_law_314 rfl (fun h => ?_) (fun h => absurd h (by decide))
      refine lv_goto hx hb dL_law_329 rfl ?_
      have hl : lv_has ls 7 [(4, .int (nI i)), (3, .ref qo), (2, .ref (t 0)), (1, .ref (q 0)), (0, .ref b)] := lv_sub hl [2, 3, 4, 5, 6] rfl
      exact kk (n) (f) (g) (sf) (sg) (r) (fo) (1) H locs ls (hn) hP hD hS hl
    · skip
      refine lv_aload_n hx hb dL_law_252 rfl (lv_at hl 3 rfl) ?_
      refine lv_aload_n hx hb dL_law_253 rfl (lv_at hl 4 rfl) ?_
      refine lv_iload hx hb dL_law_254 (lv_at hl 0 rfl) ?_
      refine lv_iconst (v := 1) hx hb dL_law_256 (by decide) ?_
      refine lv_iadd hx hb dL_law_257 ?_
      refine xr_top (nI_add i 1) ?_
      refine xr_sld C0 hX hbl hbA hS (j := i + 1) (by omega) (by omega) dL_law_258 ?_
      refine lv_aload_n hx hb dL_law_259 rfl (lv_at hl 4 rfl) ?_
      refine lv_iload hx hb dL_law_260 (lv_at hl 0 rfl) ?_
      refine lv_iconst (v := 2) hx hb dL_law_262 (by decide) ?_
      refine lv_iadd hx hb dL_law_263 ?_
      refine xr_top (nI_add i 2) ?_
      refine xr_sld C0 hX hbl hbA hS (j := i + 2) (by omega) (by omega) dL_law_264 ?_
      refine xr_top (e2) ?_
      refine lv_aload_n hx hb dL_law_265 rfl (lv_at hl 4 rfl) ?_
      refine lv_iload hx hb dL_law_266 (lv_at hl 0 rfl) ?_
      refine lv_iconst (v := 3) hx hb dL_law_268 (by decide) ?_
      refine lv_iadd hx hb dL_law_269 ?_
      refine xr_top (nI_add i 3) ?_
      refine xr_sld C0 hX hbl hbA hS (j := i + 3) (by omega) (by omega) dL_law_270 ?_
      refine xr_top (e3) ?_
      refine lv_aload_n hx hb dL_law_271 rfl (lv_at hl 1 rfl) ?_
      refine xr_lcall (As := [.ref (q 0), .int (xs (i + 1)), .int (nI a), .int (nI d), .ref qo]) (rest := []) (nA := 5) C0 (h_sort0 l hl0 D q qo cI cL [] (rs_M t cI k n f g) _ n f g sf sg r fo (xs (i + 1)) a d h1 h2 had hdn hn) (gH wM_L_L_sort wS_L_sort wN_L wC_L_sort) (by decide +kernel) rfl ⟨by decide, by decide⟩ hK hP hD hS hA (hZ _ _ hS) hl.1 rfl (Nat.le_of_ble_eq_true rfl) dL_law_272 hcs (fun v w H locs hv hP hD hz hS => ?_)
      obtain ⟨f', g', sf', sg', r', rfl, rfl, hSt⟩ := hv
      refine lv_istore hx hb dL_law_275 hl (by decide) rfl (fun ls hl => ?_)
      have hl : lv_has ls 7 [(5, .int 0), (4, .int (nI i)), (3, .ref qo), (2, .ref (t 0)), (1, .ref (q 0)), (0, .ref b)] := hl
      refine lv_aload_n hx hb dL_law_277 rfl (lv_at hl 3 rfl) ?_
      refine lv_aload_n hx hb dL_law_278 rfl (lv_at hl 5 rfl) ?_
      refine lv_iload hx hb dL_law_279 (lv_at hl 1 rfl) ?_
      refine lv_iconst (v := 1) hx hb dL_law_281 (by decide) ?_
      refine lv_iadd hx hb dL_law_282 ?_
      refine xr_top (nI_add i 1) ?_
      refine xr_sld C0 hX hbl hbA hS (j := i + 1) (by omega) (by omega) dL_law_283 ?_
      refine lv_aload_n hx hb dL_law_284 rfl (lv_at hl 5 rfl) ?_
      refine lv_iload hx hb dL_law_285 (lv_at hl 1 rfl) ?_
      refine lv_iconst (v := 2) hx hb dL_law_287 (by decide) ?_
      refine lv_iadd hx hb dL_law_288 ?_
      refine xr_top (nI_add i 2) ?_
      refine xr_sld C0 hX hbl hbA hS (j := i + 2) (by omega) (by omega) dL_law_289 ?_
      refine xr_top (e2) ?_
      refine lv_aload_n hx hb dL_law_290 rfl (lv_at hl 5 rfl) ?_
      refine lv_iload hx hb dL_law_291 (lv_at hl 1 rfl) ?_
      refine lv_iconst (v := 3) hx hb dL_law_293 (by decide) ?_
      refine lv_iadd hx hb dL_law_294 ?_
      refine xr_top (nI_add i 3) ?_
      refine xr_sld C0 hX hbl hbA hS (j := i + 3) (by omega) (by omega) dL_law_295 ?_
      refine xr_top (e3) ?_
      have hP := hP.sub (ws' := rs_LM q t qo cI cL (n) (f') (g') (sf') (sg') (r') (vp_updL fo 0 (nI (d - a)).toInt64) (k) (n) (f) (g)) [7, 8, 9, 0, 1, 2, 3, 4, 5, 6] rfl
      have hD := hD.sub (ws' := rs_LM q t qo cI cL (n) (f') (g') (sf') (sg') (r') (vp_updL fo 0 (nI (d - a)).toInt64) (k) (n) (f) (g)) [7, 8, 9, 0, 1, 2, 3, 4, 5, 6] (by decide) rfl
      refine xr_vcall (As := [.int (xs (i + 1)), .int (nI a), .int (nI d)]) (rest := []) (nA := 3) C0 (m_sort0 l D t cI [(cL, .long)] (rs_X q cI (n) (f') (g') (sf') (sg') (r') ++ [(qo, .inl (cL, 1, .inr (.inl (vp_updL fo 0 (nI (d - a)).toInt64))))]) _ (n) (k) (f) (g) (xs (i + 1)) a d h1 h2 had hdn hn) (gV wM_L_X1_sort wI_X1_sort wV_X1_X1_sort wN_X1 wC_X1_sort) (by decide +kernel) rfl rfl rfl ⟨by decide, by decide⟩ hK hP hD hS hA 0 rfl rfl hl.1 rfl (Nat.le_of_ble_eq_true rfl) dL_law_296 (⟨hcs.1, hcs.2⟩) (fun v w H locs hv hP hD hz hS => ?_)
      obtain ⟨f2, g2, rfl, rfl, hSt2⟩ := hv
      obtain ⟨rfl, rfl⟩ := hSt.one hSt2
      have hP := hP.sub (ws' := rs_L q t qo cI cL (n) (f') (g') (sf') (sg') (r') (vp_updL fo 0 (nI (d - a)).toInt64) (0) (n) (f') (g')) [3, 4, 5, 6, 7, 8, 9, 0, 1, 2] rfl
      have hD := hD.sub (ws' := rs_L q t qo cI cL (n) (f') (g') (sf') (sg') (r') (vp_updL fo 0 (nI (d - a)).toInt64) (0) (n) (f') (g')) [3, 4, 5, 6, 7, 8, 9, 0, 1, 2] (by decide) rfl
      refine lv_istore hx hb dL_law_299 hl (by decide) rfl (fun ls hl => ?_)
      have hl : lv_has ls 7 [(6, .int (nI (d - a))), (5, .int 0), (4, .int (nI i)), (3, .ref qo), (2, .ref (t 0)), (1, .ref (q 0)), (0, .ref b)] := hl
      refine lv_aload_n hx hb dL_law_301 rfl (lv_at hl 4 rfl) ?_
      have hP := hP.sub (ws' := rs_LM q t qo cI cL (n) (f') (g') (sf') (sg') (r') (vp_updL fo 0 (nI (d - a)).toInt64) (0) (n) (f') (g')) [7, 8, 9, 0, 1, 2, 3, 4, 5, 6] rfl
      have hD := hD.sub (ws' := rs_LM q t qo cI cL (n) (f') (g') (sf') (sg') (r') (vp_updL fo 0 (nI (d - a)).toInt64) (0) (n) (f') (g')) [7, 8, 9, 0, 1, 2, 3, 4, 5, 6] (by decide) rfl
      refine xr_vcall (As := []) (rest := []) (nA := 0) C0 (m_thrown l D t cI [(cL, .long)] (rs_X q cI (n) (f') (g') (sf') (sg') (r') ++ [(qo, .inl (cL, 1, .inr (.inl (vp_updL fo 0 (nI (d - a)).toInt64))))]) _ (n) (0) (f') (g') ) (gV wM_L_X1_thrown wI_X1_thrown wV_X1_X1_thrown wN_X1 wC_X1_thrown) (by decide +kernel) rfl rfl rfl ⟨by decide, by decide⟩ hK hP hD hS hA 0 rfl rfl hl.1 rfl (Nat.le_of_ble_eq_true rfl) dL_law_302 (⟨hcs.1, hcs.2⟩) (fun v w H locs hv hP hD hz hS => ?_)
      obtain ⟨rfl, rfl⟩ := hv
      have hP := hP.sub (ws' := rs_L q t qo cI cL (n) (f') (g') (sf') (sg') (r') (vp_updL fo 0 (nI (d - a)).toInt64) (0) (n) (f') (g')) [3, 4, 5, 6, 7, 8, 9, 0, 1, 2] rfl
      have hD := hD.sub (ws' := rs_L q t qo cI cL (n) (f') (g') (sf') (sg') (r') (vp_updL fo 0 (nI (d - a)).toInt64) (0) (n) (f') (g')) [3, 4, 5, 6, 7, 8, 9, 0, 1, 2] (by decide) rfl
      refine lv_iload hx hb dL_law_305 (lv_at hl 1 rfl) ?_
      refine lv_icmp_eq hx hb dL_law_307 rfl (fun h => ?_) (fun h => absurd rfl h)
      refine lv_iload hx hb dL_law_312 (lv_at hl 1 rfl) ?_
      refine lv_if_ne hx hb dL_law_314 rfl (fun h => absurd rfl h) (fun h => ?_)
      refine lv_aload_n hx hb dL_law_317 rfl (lv_at hl 3 rfl) ?_
      refine lv_iconst (v := 0) hx hb dL_law_318 (by decide) ?_
      refine xr_lald0 C0 hK hP 6 rfl dL_law_319 ?_
      refine xr_topl pk_uLs ?_
      refine lv_iload hx hb dL_law_320 (lv_at hl 0 rfl) ?_
      refine lv_i2l hx hb dL_law_322 rfl ?_
      refine W.lcmp hx hb dL_law_323 ?_
      refine xr_top (rs_cmp _) ?_
      refine lv_if_eq hx hb dL_law_324 rfl (fun h => ?_) (fun h => absurd rfl h)
      refine lv_goto hx hb dL_law_329 rfl ?_
      have hl : lv_has ls 7 [(4, .int (nI i)), (3, .ref qo), (2, .ref (t 0)), (1, .ref (q 0)), (0, .ref b)] := lv_sub hl [2, 3, 4, 5, 6] rfl
      exact kk (n) (f') (g') (sf') (sg') (r') (vp_updL fo 0 (nI (d - a)).toInt64) (0) H locs ls (hn) hP hD hS hl
set_option maxHeartbeats 4000000 in
set_option maxRecDepth 100000 in
/-- the law calls get -/
theorem law_get {p : Program} {l : Launch} {e : Env} {s : State} {m : MethodId} {args : Array Value} {below : List Frame} {meth : Method} {c : Code} {Q : State → Prop} {D : va_G} {A : Nat → Prop} {q t : Nat → Nat} {qo b L : Nat} {cI cL : ClassId} {xs : Nat → Int32} (hl0 : l.stackTraces = false) (C0 : CallFix p m c cL_law 7 s args lw_w RL) (hK : va_K D vwCl [(cI, .int), (cL, .long)] s) (hA : ∀ q, s.heap.size ≤ q → A q) (hX : va_X b L xs s s.heap) (hbl : b < s.heap.size) (hbA : ¬ A b) (hL : L ≤ 2048)
    (hZ : ∀ (H : Heap) (locs : List Loc), va_S A s.heap H locs → ∀ U : State, U.heap = H → s.WarmedH U.vm → xr_Zh U) {i n cells slots : Nat} {f g sf sg r : Nat → Int32} {fo : Nat → Int64} {k : Int32} {H : Heap} {locs : List Loc} {ls : Array Slot} (hi : i + 4 ≤ L) (hn : n ≤ 2000) (hcs : cells + 1 ≤ 1037 ∧ slots + 6 ≤ 22222)
    (hP : va_P D vwCl (rs_L q t qo cI cL n f g sf sg r fo k n f g) H) (hD : va_D A (rs_L q t qo cI cL n f g sf sg r fo k n f g)) (hS : va_S A s.heap H locs) (hl : lv_has ls 7 [(4, .int (nI i)), (3, .ref qo), (2, .ref (t 0)), (1, .ref (q 0)), (0, .ref b)])
    (kk : ∀ (n : Nat) (f g sf sg r : Nat → Int32) (fo : Nat → Int64) (k : Int32) (H : Heap) (locs : List Loc) (ls : Array Slot), n ≤ 2000 → va_P D vwCl (rs_L q t qo cI cL n f g sf sg r fo k n f g) H → va_D A (rs_L q t qo cI cL n f g sf sg r fo k n f g) → va_S A s.heap H locs → lv_has ls 7 [(4, .int (nI i)), (3, .ref qo), (2, .ref (t 0)), (1, .ref (q 0)), (0, .ref b)] → W p l e room_1 s m args below meth c H locs (cells + 1) (slots + 6) Q (F0 m 702 ls [])) : W p l e room_1 s m args below meth c H locs cells slots Q (F0 m 332 ls []) := by
  have hx := C0.1
  have hb := C0.2.1
  rcases rs_ix (xs (i + 1)) (n := n) (by omega) with hbad | ⟨j, hj, e1⟩
  · skip
    refine lv_aload_n hx hb dL_law_332 rfl (lv_at hl 3 rfl) ?_
    refine lv_aload_n hx hb dL_law_333 rfl (lv_at hl 4 rfl) ?_
    refine lv_iload hx hb dL_law_334 (lv_at hl 0 rfl) ?_
    refine lv_iconst (v := 1) hx hb dL_law_336 (by decide) ?_
    refine lv_iadd hx hb dL_law_337 ?_
    refine xr_top (nI_add i 1) ?_
    refine xr_sld C0 hX hbl hbA hS (j := i + 1) (by omega) (by omega) dL_law_338 ?_
    refine lv_aload_n hx hb dL_law_339 rfl (lv_at hl 1 rfl) ?_
    refine xr_lcall (As := [.ref (q 0), .int (xs (i + 1)), .ref qo]) (rest := []) (nA := 3) C0 (h_get1 l hl0 D q qo cI cL [] (rs_M t cI k n f g) _ n f g sf sg r fo (xs (i + 1)) hbad) (gH wM_L_L_get wS_L_get wN_L wC_L_get) (by decide +kernel) rfl ⟨by decide, by decide⟩ hK hP hD hS hA (hZ _ _ hS) hl.1 rfl (Nat.le_of_ble_eq_true rfl) dL_law_340 hcs (fun v w H locs hv hP hD hz hS => ?_)
    obtain ⟨rfl, rfl⟩ := hv
    refine lv_istore hx hb dL_law_343 hl (by decide) rfl (fun ls hl => ?_)
    have hl : lv_has ls 7 [(5, .int 1), (4, .int (nI i)), (3, .ref qo), (2, .ref (t 0)), (1, .ref (q 0)), (0, .ref b)] := hl
    refine lv_aload_n hx hb dL_law_345 rfl (lv_at hl 3 rfl) ?_
    refine lv_aload_n hx hb dL_law_346 rfl (lv_at hl 5 rfl) ?_
    refine lv_iload hx hb dL_law_347 (lv_at hl 1 rfl) ?_
    refine lv_iconst (v := 1) hx hb dL_law_349 (by decide) ?_
    refine lv_iadd hx hb dL_law_350 ?_
    refine xr_top (nI_add i 1) ?_
    refine xr_sld C0 hX hbl hbA hS (j := i + 1) (by omega) (by omega) dL_law_351 ?_
    have hP := hP.sub (ws' := rs_LM q t qo cI cL (n) (f) (g) (sf) (sg) (r) (fo) (k) (n) (f) (g)) [7, 8, 9, 0, 1, 2, 3, 4, 5, 6] rfl
    have hD := hD.sub (ws' := rs_LM q t qo cI cL (n) (f) (g) (sf) (sg) (r) (fo) (k) (n) (f) (g)) [7, 8, 9, 0, 1, 2, 3, 4, 5, 6] (by decide) rfl
    refine xr_vcall (As := [.int (xs (i + 1))]) (rest := []) (nA := 1) C0 (m_get1 l D t cI [(cL, .long)] (rs_X q cI (n) (f) (g) (sf) (sg) (r) ++ [(qo, .inl (cL, 1, .inr (.inl (fo))))]) _ (n) (k) (f) (g) (xs (i + 1)) hbad) (gV wM_L_X1_get wI_X1_get wV_X1_X1_get wN_X1 wC_X1_get) (by decide +kernel) rfl rfl rfl ⟨by decide, by decide⟩ hK hP hD hS hA 0 rfl rfl hl.1 rfl (Nat.le_of_ble_eq_true rfl) dL_law_352 (⟨hcs.1, hcs.2⟩) (fun v w H locs hv hP hD hz hS => ?_)
    obtain ⟨rfl, rfl⟩ := hv
    have hP := hP.sub (ws' := rs_L q t qo cI cL (n) (f) (g) (sf) (sg) (r) (fo) (1) (n) (f) (g)) [3, 4, 5, 6, 7, 8, 9, 0, 1, 2] rfl
    have hD := hD.sub (ws' := rs_L q t qo cI cL (n) (f) (g) (sf) (sg) (r) (fo) (1) (n) (f) (g)) [3, 4, 5, 6, 7, 8, 9, 0, 1, 2] (by decide) rfl
    refine lv_istore hx hb dL_law_355 hl (by decide) rfl (fun ls hl => ?_)
    have hl : lv_has ls 7 [(6, .int (0)), (5, .int 1), (4, .int (nI i)), (3, .ref qo), (2, .ref (t 0)), (1, .ref (q 0)), (0, .ref b)] := hl
    refine lv_aload_n hx hb dL_law_357 rfl (lv_at hl 4 rfl) ?_
    have hP := hP.sub (ws' := rs_LM q t qo cI cL (n) (f) (g) (sf) (sg) (r) (fo) (1) (n) (f) (g)) [7, 8, 9, 0, 1, 2, 3, 4, 5, 6] rfl
    have hD := hD.sub (ws' := rs_LM q t qo cI cL (n) (f) (g) (sf) (sg) (r) (fo) (1) (n) (f) (g)) [7, 8, 9, 0, 1, 2, 3, 4, 5, 6] (by decide) rfl
    refine xr_vcall (As := []) (rest := []) (nA := 0) C0 (m_thrown l D t cI [(cL, .long)] (rs_X q cI (n) (f) (g) (sf) (sg) (r) ++ [(qo, .inl (cL, 1, .inr (.inl (fo))))]) _ (n) (1) (f) (g) ) (gV wM_L_X1_thrown wI_X1_thrown wV_X1_X1_thrown wN_X1 wC_X1_thrown) (by decide +kernel) rfl rfl rfl ⟨by decide, by decide⟩ hK hP hD hS hA 0 rfl rfl hl.1 rfl (Nat.le_of_ble_eq_true rfl) dL_law_358 (⟨hcs.1, hcs.2⟩) (fun v w H locs hv hP hD hz hS => ?_)
    obtain ⟨rfl, rfl⟩ := hv
    have hP := hP.sub (ws' := rs_L q t qo cI cL (n) (f) (g) (sf) (sg) (r) (fo) (1) (n) (f) (g)) [3, 4, 5, 6, 7, 8, 9, 0, 1, 2] rfl
    have hD := hD.sub (ws' := rs_L q t qo cI cL (n) (f) (g) (sf) (sg) (r) (fo) (1) (n) (f) (g)) [3, 4, 5, 6, 7, 8, 9, 0, 1, 2] (by decide) rfl
    refine lv_iload hx hb dL_law_361 (lv_at hl 1 rfl) ?_
    refine lv_icmp_eq hx hb dL_law_363 rfl (fun h => ?_) (fun h => absurd rfl h)
    refine lv_iload hx hb dL_law_368 (lv_at hl 1 rfl) ?_
    refine lv_if_ne hx hb dL_law_370 rfl (fun h => ?_) (fun h => absurd h (by decide))
    refine lv_goto hx hb dL_law_385 rfl ?_
    have hl : lv_has ls 7 [(4, .int (nI i)), (3, .ref qo), (2, .ref (t 0)), (1, .ref (q 0)), (0, .ref b)] := lv_sub hl [2, 3, 4, 5, 6] rfl
    exact kk (n) (f) (g) (sf) (sg) (r) (fo) (1) H locs ls (hn) hP hD hS hl
  · skip
    refine lv_aload_n hx hb dL_law_332 rfl (lv_at hl 3 rfl) ?_
    refine lv_aload_n hx hb dL_law_333 rfl (lv_at hl 4 rfl) ?_
    refine lv_iload hx hb dL_law_334 (lv_at hl 0 rfl) ?_
    refine lv_iconst (v := 1) hx hb dL_law_336 (by decide) ?_
    refine lv_iadd hx hb dL_law_337 ?_
    refine xr_top (nI_add i 1) ?_
    refine xr_sld C0 hX hbl hbA hS (j := i + 1) (by omega) (by omega) dL_law_338 ?_
    refine xr_top (e1) ?_
    refine lv_aload_n hx hb dL_law_339 rfl (lv_at hl 1 rfl) ?_
    refine xr_lcall (As := [.ref (q 0), .int (nI j), .ref qo]) (rest := []) (nA := 3) C0 (h_get0 l hl0 D q qo cI cL [] (rs_M t cI k n f g) _ n f g sf sg r fo j hj hn) (gH wM_L_L_get wS_L_get wN_L wC_L_get) (by decide +kernel) rfl ⟨by decide, by decide⟩ hK hP hD hS hA (hZ _ _ hS) hl.1 rfl (Nat.le_of_ble_eq_true rfl) dL_law_340 hcs (fun v w H locs hv hP hD hz hS => ?_)
    obtain ⟨rfl, rfl⟩ := hv
    refine lv_istore hx hb dL_law_343 hl (by decide) rfl (fun ls hl => ?_)
    have hl : lv_has ls 7 [(5, .int 0), (4, .int (nI i)), (3, .ref qo), (2, .ref (t 0)), (1, .ref (q 0)), (0, .ref b)] := hl
    refine lv_aload_n hx hb dL_law_345 rfl (lv_at hl 3 rfl) ?_
    refine lv_aload_n hx hb dL_law_346 rfl (lv_at hl 5 rfl) ?_
    refine lv_iload hx hb dL_law_347 (lv_at hl 1 rfl) ?_
    refine lv_iconst (v := 1) hx hb dL_law_349 (by decide) ?_
    refine lv_iadd hx hb dL_law_350 ?_
    refine xr_top (nI_add i 1) ?_
    refine xr_sld C0 hX hbl hbA hS (j := i + 1) (by omega) (by omega) dL_law_351 ?_
    refine xr_top (e1) ?_
    have hP := hP.sub (ws' := rs_LM q t qo cI cL (n) (f) (g) (sf) (sg) (r) (vp_updL fo 0 (f j).toInt64) (k) (n) (f) (g)) [7, 8, 9, 0, 1, 2, 3, 4, 5, 6] rfl
    have hD := hD.sub (ws' := rs_LM q t qo cI cL (n) (f) (g) (sf) (sg) (r) (vp_updL fo 0 (f j).toInt64) (k) (n) (f) (g)) [7, 8, 9, 0, 1, 2, 3, 4, 5, 6] (by decide) rfl
    refine xr_vcall (As := [.int (nI j)]) (rest := []) (nA := 1) C0 (m_get0 l D t cI [(cL, .long)] (rs_X q cI (n) (f) (g) (sf) (sg) (r) ++ [(qo, .inl (cL, 1, .inr (.inl (vp_updL fo 0 (f j).toInt64))))]) _ (n) (k) (f) (g) j hj hn) (gV wM_L_X1_get wI_X1_get wV_X1_X1_get wN_X1 wC_X1_get) (by decide +kernel) rfl rfl rfl ⟨by decide, by decide⟩ hK hP hD hS hA 0 rfl rfl hl.1 rfl (Nat.le_of_ble_eq_true rfl) dL_law_352 (⟨hcs.1, hcs.2⟩) (fun v w H locs hv hP hD hz hS => ?_)
    obtain ⟨rfl, rfl⟩ := hv
    have hP := hP.sub (ws' := rs_L q t qo cI cL (n) (f) (g) (sf) (sg) (r) (vp_updL fo 0 (f j).toInt64) (0) (n) (f) (g)) [3, 4, 5, 6, 7, 8, 9, 0, 1, 2] rfl
    have hD := hD.sub (ws' := rs_L q t qo cI cL (n) (f) (g) (sf) (sg) (r) (vp_updL fo 0 (f j).toInt64) (0) (n) (f) (g)) [3, 4, 5, 6, 7, 8, 9, 0, 1, 2] (by decide) rfl
    refine lv_istore hx hb dL_law_355 hl (by decide) rfl (fun ls hl => ?_)
    have hl : lv_has ls 7 [(6, .int (f j)), (5, .int 0), (4, .int (nI i)), (3, .ref qo), (2, .ref (t 0)), (1, .ref (q 0)), (0, .ref b)] := hl
    refine lv_aload_n hx hb dL_law_357 rfl (lv_at hl 4 rfl) ?_
    have hP := hP.sub (ws' := rs_LM q t qo cI cL (n) (f) (g) (sf) (sg) (r) (vp_updL fo 0 (f j).toInt64) (0) (n) (f) (g)) [7, 8, 9, 0, 1, 2, 3, 4, 5, 6] rfl
    have hD := hD.sub (ws' := rs_LM q t qo cI cL (n) (f) (g) (sf) (sg) (r) (vp_updL fo 0 (f j).toInt64) (0) (n) (f) (g)) [7, 8, 9, 0, 1, 2, 3, 4, 5, 6] (by decide) rfl
    refine xr_vcall (As := []) (rest := []) (nA := 0) C0 (m_thrown l D t cI [(cL, .long)] (rs_X q cI (n) (f) (g) (sf) (sg) (r) ++ [(qo, .inl (cL, 1, .inr (.inl (vp_updL fo 0 (f j).toInt64))))]) _ (n) (0) (f) (g) ) (gV wM_L_X1_thrown wI_X1_thrown wV_X1_X1_thrown wN_X1 wC_X1_thrown) (by decide +kernel) rfl rfl rfl ⟨by decide, by decide⟩ hK hP hD hS hA 0 rfl rfl hl.1 rfl (Nat.le_of_ble_eq_true rfl) dL_law_358 (⟨hcs.1, hcs.2⟩) (fun v w H locs hv hP hD hz hS => ?_)
    obtain ⟨rfl, rfl⟩ := hv
    have hP := hP.sub (ws' := rs_L q t qo cI cL (n) (f) (g) (sf) (sg) (r) (vp_updL fo 0 (f j).toInt64) (0) (n) (f) (g)) [3, 4, 5, 6, 7, 8, 9, 0, 1, 2] rfl
    have hD := hD.sub (ws' := rs_L q t qo cI cL (n) (f) (g) (sf) (sg) (r) (vp_updL fo 0 (f j).toInt64) (0) (n) (f) (g)) [3, 4, 5, 6, 7, 8, 9, 0, 1, 2] (by decide) rfl
    refine lv_iload hx hb dL_law_361 (lv_at hl 1 rfl) ?_
    refine lv_icmp_eq hx hb dL_law_363 rfl (fun h => ?_) (fun h => absurd rfl h)
    refine lv_iload hx hb dL_law_368 (lv_at hl 1 rfl) ?_
    refine lv_if_ne hx hb dL_law_370 rfl (fun h => absurd rfl h) (fun h => ?_)
    refine lv_aload_n hx hb dL_law_373 rfl (lv_at hl 3 rfl) ?_
    refine lv_iconst (v := 0) hx hb dL_law_374 (by decide) ?_
    refine xr_lald0 C0 hK hP 6 rfl dL_law_375 ?_
    refine xr_topl pk_uLs ?_
    refine lv_iload hx hb dL_law_376 (lv_at hl 0 rfl) ?_
    refine lv_i2l hx hb dL_law_378 rfl ?_
    refine W.lcmp hx hb dL_law_379 ?_
    refine xr_top (rs_cmp _) ?_
    refine lv_if_eq hx hb dL_law_380 rfl (fun h => ?_) (fun h => absurd rfl h)
    refine lv_goto hx hb dL_law_385 rfl ?_
    have hl : lv_has ls 7 [(4, .int (nI i)), (3, .ref qo), (2, .ref (t 0)), (1, .ref (q 0)), (0, .ref b)] := lv_sub hl [2, 3, 4, 5, 6] rfl
    exact kk (n) (f) (g) (sf) (sg) (r) (vp_updL fo 0 (f j).toInt64) (0) H locs ls (hn) hP hD hS hl
set_option maxHeartbeats 4000000 in
set_option maxRecDepth 100000 in
/-- the law calls tag -/
theorem law_tag {p : Program} {l : Launch} {e : Env} {s : State} {m : MethodId} {args : Array Value} {below : List Frame} {meth : Method} {c : Code} {Q : State → Prop} {D : va_G} {A : Nat → Prop} {q t : Nat → Nat} {qo b L : Nat} {cI cL : ClassId} {xs : Nat → Int32} (hl0 : l.stackTraces = false) (C0 : CallFix p m c cL_law 7 s args lw_w RL) (hK : va_K D vwCl [(cI, .int), (cL, .long)] s) (hA : ∀ q, s.heap.size ≤ q → A q) (hX : va_X b L xs s s.heap) (hbl : b < s.heap.size) (hbA : ¬ A b) (hL : L ≤ 2048)
    (hZ : ∀ (H : Heap) (locs : List Loc), va_S A s.heap H locs → ∀ U : State, U.heap = H → s.WarmedH U.vm → xr_Zh U) {i n cells slots : Nat} {f g sf sg r : Nat → Int32} {fo : Nat → Int64} {k : Int32} {H : Heap} {locs : List Loc} {ls : Array Slot} (hi : i + 4 ≤ L) (hn : n ≤ 2000) (hcs : cells + 1 ≤ 1037 ∧ slots + 6 ≤ 22222)
    (hP : va_P D vwCl (rs_L q t qo cI cL n f g sf sg r fo k n f g) H) (hD : va_D A (rs_L q t qo cI cL n f g sf sg r fo k n f g)) (hS : va_S A s.heap H locs) (hl : lv_has ls 7 [(4, .int (nI i)), (3, .ref qo), (2, .ref (t 0)), (1, .ref (q 0)), (0, .ref b)])
    (kk : ∀ (n : Nat) (f g sf sg r : Nat → Int32) (fo : Nat → Int64) (k : Int32) (H : Heap) (locs : List Loc) (ls : Array Slot), n ≤ 2000 → va_P D vwCl (rs_L q t qo cI cL n f g sf sg r fo k n f g) H → va_D A (rs_L q t qo cI cL n f g sf sg r fo k n f g) → va_S A s.heap H locs → lv_has ls 7 [(4, .int (nI i)), (3, .ref qo), (2, .ref (t 0)), (1, .ref (q 0)), (0, .ref b)] → W p l e room_1 s m args below meth c H locs (cells + 1) (slots + 6) Q (F0 m 702 ls [])) : W p l e room_1 s m args below meth c H locs cells slots Q (F0 m 388 ls []) := by
  have hx := C0.1
  have hb := C0.2.1
  rcases rs_ix (xs (i + 1)) (n := n) (by omega) with hbad | ⟨j, hj, e1⟩
  · skip
    refine lv_aload_n hx hb dL_law_388 rfl (lv_at hl 3 rfl) ?_
    refine lv_aload_n hx hb dL_law_389 rfl (lv_at hl 4 rfl) ?_
    refine lv_iload hx hb dL_law_390 (lv_at hl 0 rfl) ?_
    refine lv_iconst (v := 1) hx hb dL_law_392 (by decide) ?_
    refine lv_iadd hx hb dL_law_393 ?_
    refine xr_top (nI_add i 1) ?_
    refine xr_sld C0 hX hbl hbA hS (j := i + 1) (by omega) (by omega) dL_law_394 ?_
    refine lv_aload_n hx hb dL_law_395 rfl (lv_at hl 1 rfl) ?_
    refine xr_lcall (As := [.ref (q 0), .int (xs (i + 1)), .ref qo]) (rest := []) (nA := 3) C0 (h_tag1 l hl0 D q qo cI cL [] (rs_M t cI k n f g) _ n f g sf sg r fo (xs (i + 1)) hbad) (gH wM_L_L_tag wS_L_tag wN_L wC_L_tag) (by decide +kernel) rfl ⟨by decide, by decide⟩ hK hP hD hS hA (hZ _ _ hS) hl.1 rfl (Nat.le_of_ble_eq_true rfl) dL_law_396 hcs (fun v w H locs hv hP hD hz hS => ?_)
    obtain ⟨rfl, rfl⟩ := hv
    refine lv_istore hx hb dL_law_399 hl (by decide) rfl (fun ls hl => ?_)
    have hl : lv_has ls 7 [(5, .int 1), (4, .int (nI i)), (3, .ref qo), (2, .ref (t 0)), (1, .ref (q 0)), (0, .ref b)] := hl
    refine lv_aload_n hx hb dL_law_401 rfl (lv_at hl 3 rfl) ?_
    refine lv_aload_n hx hb dL_law_402 rfl (lv_at hl 5 rfl) ?_
    refine lv_iload hx hb dL_law_403 (lv_at hl 1 rfl) ?_
    refine lv_iconst (v := 1) hx hb dL_law_405 (by decide) ?_
    refine lv_iadd hx hb dL_law_406 ?_
    refine xr_top (nI_add i 1) ?_
    refine xr_sld C0 hX hbl hbA hS (j := i + 1) (by omega) (by omega) dL_law_407 ?_
    have hP := hP.sub (ws' := rs_LM q t qo cI cL (n) (f) (g) (sf) (sg) (r) (fo) (k) (n) (f) (g)) [7, 8, 9, 0, 1, 2, 3, 4, 5, 6] rfl
    have hD := hD.sub (ws' := rs_LM q t qo cI cL (n) (f) (g) (sf) (sg) (r) (fo) (k) (n) (f) (g)) [7, 8, 9, 0, 1, 2, 3, 4, 5, 6] (by decide) rfl
    refine xr_vcall (As := [.int (xs (i + 1))]) (rest := []) (nA := 1) C0 (m_tag1 l D t cI [(cL, .long)] (rs_X q cI (n) (f) (g) (sf) (sg) (r) ++ [(qo, .inl (cL, 1, .inr (.inl (fo))))]) _ (n) (k) (f) (g) (xs (i + 1)) hbad) (gV wM_L_X1_tag wI_X1_tag wV_X1_X1_tag wN_X1 wC_X1_tag) (by decide +kernel) rfl rfl rfl ⟨by decide, by decide⟩ hK hP hD hS hA 0 rfl rfl hl.1 rfl (Nat.le_of_ble_eq_true rfl) dL_law_408 (⟨hcs.1, hcs.2⟩) (fun v w H locs hv hP hD hz hS => ?_)
    obtain ⟨rfl, rfl⟩ := hv
    have hP := hP.sub (ws' := rs_L q t qo cI cL (n) (f) (g) (sf) (sg) (r) (fo) (1) (n) (f) (g)) [3, 4, 5, 6, 7, 8, 9, 0, 1, 2] rfl
    have hD := hD.sub (ws' := rs_L q t qo cI cL (n) (f) (g) (sf) (sg) (r) (fo) (1) (n) (f) (g)) [3, 4, 5, 6, 7, 8, 9, 0, 1, 2] (by decide) rfl
    refine lv_istore hx hb dL_law_411 hl (by decide) rfl (fun ls hl => ?_)
    have hl : lv_has ls 7 [(6, .int (0)), (5, .int 1), (4, .int (nI i)), (3, .ref qo), (2, .ref (t 0)), (1, .ref (q 0)), (0, .ref b)] := hl
    refine lv_aload_n hx hb dL_law_413 rfl (lv_at hl 4 rfl) ?_
    have hP := hP.sub (ws' := rs_LM q t qo cI cL (n) (f) (g) (sf) (sg) (r) (fo) (1) (n) (f) (g)) [7, 8, 9, 0, 1, 2, 3, 4, 5, 6] rfl
    have hD := hD.sub (ws' := rs_LM q t qo cI cL (n) (f) (g) (sf) (sg) (r) (fo) (1) (n) (f) (g)) [7, 8, 9, 0, 1, 2, 3, 4, 5, 6] (by decide) rfl
    refine xr_vcall (As := []) (rest := []) (nA := 0) C0 (m_thrown l D t cI [(cL, .long)] (rs_X q cI (n) (f) (g) (sf) (sg) (r) ++ [(qo, .inl (cL, 1, .inr (.inl (fo))))]) _ (n) (1) (f) (g) ) (gV wM_L_X1_thrown wI_X1_thrown wV_X1_X1_thrown wN_X1 wC_X1_thrown) (by decide +kernel) rfl rfl rfl ⟨by decide, by decide⟩ hK hP hD hS hA 0 rfl rfl hl.1 rfl (Nat.le_of_ble_eq_true rfl) dL_law_414 (⟨hcs.1, hcs.2⟩) (fun v w H locs hv hP hD hz hS => ?_)
    obtain ⟨rfl, rfl⟩ := hv
    have hP := hP.sub (ws' := rs_L q t qo cI cL (n) (f) (g) (sf) (sg) (r) (fo) (1) (n) (f) (g)) [3, 4, 5, 6, 7, 8, 9, 0, 1, 2] rfl
    have hD := hD.sub (ws' := rs_L q t qo cI cL (n) (f) (g) (sf) (sg) (r) (fo) (1) (n) (f) (g)) [3, 4, 5, 6, 7, 8, 9, 0, 1, 2] (by decide) rfl
    refine lv_iload hx hb dL_law_417 (lv_at hl 1 rfl) ?_
    refine lv_icmp_eq hx hb dL_law_419 rfl (fun h => ?_) (fun h => absurd rfl h)
    refine lv_iload hx hb dL_law_424 (lv_at hl 1 rfl) ?_
    refine lv_if_ne hx hb dL_law_426 rfl (fun h => ?_) (fun h => absurd h (by decide))
    refine lv_goto hx hb dL_law_441 rfl ?_
    have hl : lv_has ls 7 [(4, .int (nI i)), (3, .ref qo), (2, .ref (t 0)), (1, .ref (q 0)), (0, .ref b)] := lv_sub hl [2, 3, 4, 5, 6] rfl
    exact kk (n) (f) (g) (sf) (sg) (r) (fo) (1) H locs ls (hn) hP hD hS hl
  · skip
    refine lv_aload_n hx hb dL_law_388 rfl (lv_at hl 3 rfl) ?_
    refine lv_aload_n hx hb dL_law_389 rfl (lv_at hl 4 rfl) ?_
    refine lv_iload hx hb dL_law_390 (lv_at hl 0 rfl) ?_
    refine lv_iconst (v := 1) hx hb dL_law_392 (by decide) ?_
    refine lv_iadd hx hb dL_law_393 ?_
    refine xr_top (nI_add i 1) ?_
    refine xr_sld C0 hX hbl hbA hS (j := i + 1) (by omega) (by omega) dL_law_394 ?_
    refine xr_top (e1) ?_
    refine lv_aload_n hx hb dL_law_395 rfl (lv_at hl 1 rfl) ?_
    refine xr_lcall (As := [.ref (q 0), .int (nI j), .ref qo]) (rest := []) (nA := 3) C0 (h_tag0 l hl0 D q qo cI cL [] (rs_M t cI k n f g) _ n f g sf sg r fo j hj hn) (gH wM_L_L_tag wS_L_tag wN_L wC_L_tag) (by decide +kernel) rfl ⟨by decide, by decide⟩ hK hP hD hS hA (hZ _ _ hS) hl.1 rfl (Nat.le_of_ble_eq_true rfl) dL_law_396 hcs (fun v w H locs hv hP hD hz hS => ?_)
    obtain ⟨rfl, rfl⟩ := hv
    refine lv_istore hx hb dL_law_399 hl (by decide) rfl (fun ls hl => ?_)
    have hl : lv_has ls 7 [(5, .int 0), (4, .int (nI i)), (3, .ref qo), (2, .ref (t 0)), (1, .ref (q 0)), (0, .ref b)] := hl
    refine lv_aload_n hx hb dL_law_401 rfl (lv_at hl 3 rfl) ?_
    refine lv_aload_n hx hb dL_law_402 rfl (lv_at hl 5 rfl) ?_
    refine lv_iload hx hb dL_law_403 (lv_at hl 1 rfl) ?_
    refine lv_iconst (v := 1) hx hb dL_law_405 (by decide) ?_
    refine lv_iadd hx hb dL_law_406 ?_
    refine xr_top (nI_add i 1) ?_
    refine xr_sld C0 hX hbl hbA hS (j := i + 1) (by omega) (by omega) dL_law_407 ?_
    refine xr_top (e1) ?_
    have hP := hP.sub (ws' := rs_LM q t qo cI cL (n) (f) (g) (sf) (sg) (r) (vp_updL fo 0 (g j).toInt64) (k) (n) (f) (g)) [7, 8, 9, 0, 1, 2, 3, 4, 5, 6] rfl
    have hD := hD.sub (ws' := rs_LM q t qo cI cL (n) (f) (g) (sf) (sg) (r) (vp_updL fo 0 (g j).toInt64) (k) (n) (f) (g)) [7, 8, 9, 0, 1, 2, 3, 4, 5, 6] (by decide) rfl
    refine xr_vcall (As := [.int (nI j)]) (rest := []) (nA := 1) C0 (m_tag0 l D t cI [(cL, .long)] (rs_X q cI (n) (f) (g) (sf) (sg) (r) ++ [(qo, .inl (cL, 1, .inr (.inl (vp_updL fo 0 (g j).toInt64))))]) _ (n) (k) (f) (g) j hj hn) (gV wM_L_X1_tag wI_X1_tag wV_X1_X1_tag wN_X1 wC_X1_tag) (by decide +kernel) rfl rfl rfl ⟨by decide, by decide⟩ hK hP hD hS hA 0 rfl rfl hl.1 rfl (Nat.le_of_ble_eq_true rfl) dL_law_408 (⟨hcs.1, hcs.2⟩) (fun v w H locs hv hP hD hz hS => ?_)
    obtain ⟨rfl, rfl⟩ := hv
    have hP := hP.sub (ws' := rs_L q t qo cI cL (n) (f) (g) (sf) (sg) (r) (vp_updL fo 0 (g j).toInt64) (0) (n) (f) (g)) [3, 4, 5, 6, 7, 8, 9, 0, 1, 2] rfl
    have hD := hD.sub (ws' := rs_L q t qo cI cL (n) (f) (g) (sf) (sg) (r) (vp_updL fo 0 (g j).toInt64) (0) (n) (f) (g)) [3, 4, 5, 6, 7, 8, 9, 0, 1, 2] (by decide) rfl
    refine lv_istore hx hb dL_law_411 hl (by decide) rfl (fun ls hl => ?_)
    have hl : lv_has ls 7 [(6, .int (g j)), (5, .int 0), (4, .int (nI i)), (3, .ref qo), (2, .ref (t 0)), (1, .ref (q 0)), (0, .ref b)] := hl
    refine lv_aload_n hx hb dL_law_413 rfl (lv_at hl 4 rfl) ?_
    have hP := hP.sub (ws' := rs_LM q t qo cI cL (n) (f) (g) (sf) (sg) (r) (vp_updL fo 0 (g j).toInt64) (0) (n) (f) (g)) [7, 8, 9, 0, 1, 2, 3, 4, 5, 6] rfl
    have hD := hD.sub (ws' := rs_LM q t qo cI cL (n) (f) (g) (sf) (sg) (r) (vp_updL fo 0 (g j).toInt64) (0) (n) (f) (g)) [7, 8, 9, 0, 1, 2, 3, 4, 5, 6] (by decide) rfl
    refine xr_vcall (As := []) (rest := []) (nA := 0) C0 (m_thrown l D t cI [(cL, .long)] (rs_X q cI (n) (f) (g) (sf) (sg) (r) ++ [(qo, .inl (cL, 1, .inr (.inl (vp_updL fo 0 (g j).toInt64))))]) _ (n) (0) (f) (g) ) (gV wM_L_X1_thrown wI_X1_thrown wV_X1_X1_thrown wN_X1 wC_X1_thrown) (by decide +kernel) rfl rfl rfl ⟨by decide, by decide⟩ hK hP hD hS hA 0 rfl rfl hl.1 rfl (Nat.le_of_ble_eq_true rfl) dL_law_414 (⟨hcs.1, hcs.2⟩) (fun v w H locs hv hP hD hz hS => ?_)
    obtain ⟨rfl, rfl⟩ := hv
    have hP := hP.sub (ws' := rs_L q t qo cI cL (n) (f) (g) (sf) (sg) (r) (vp_updL fo 0 (g j).toInt64) (0) (n) (f) (g)) [3, 4, 5, 6, 7, 8, 9, 0, 1, 2] rfl
    have hD := hD.sub (ws' := rs_L q t qo cI cL (n) (f) (g) (sf) (sg) (r) (vp_updL fo 0 (g j).toInt64) (0) (n) (f) (g)) [3, 4, 5, 6, 7, 8, 9, 0, 1, 2] (by decide) rfl
    refine lv_iload hx hb dL_law_417 (lv_at hl 1 rfl) ?_
    refine lv_icmp_eq hx hb dL_law_419 rfl (fun h => ?_) (fun h => absurd rfl h)
    refine lv_iload hx hb dL_law_424 (lv_at hl 1 rfl) ?_
    refine lv_if_ne hx hb dL_law_426 rfl (fun h => absurd rfl h) (fun h => ?_)
    refine lv_aload_n hx hb dL_law_429 rfl (lv_at hl 3 rfl) ?_
    refine lv_iconst (v := 0) hx hb dL_law_430 (by decide) ?_
    refine xr_lald0 C0 hK hP 6 rfl dL_law_431 ?_
    refine xr_topl pk_uLs ?_
    refine lv_iload hx hb dL_law_432 (lv_at hl 0 rfl) ?_
    refine lv_i2l hx hb dL_law_434 rfl ?_
    refine W.lcmp hx hb dL_law_435 ?_
    refine xr_top (rs_cmp _) ?_
    refine lv_if_eq hx hb dL_law_436 rfl (fun h => ?_) (fun h => absurd rfl h)
    refine lv_goto hx hb dL_law_441 rfl ?_
    have hl : lv_has ls 7 [(4, .int (nI i)), (3, .ref qo), (2, .ref (t 0)), (1, .ref (q 0)), (0, .ref b)] := lv_sub hl [2, 3, 4, 5, 6] rfl
    exact kk (n) (f) (g) (sf) (sg) (r) (vp_updL fo 0 (g j).toInt64) (0) H locs ls (hn) hP hD hS hl
set_option maxHeartbeats 4000000 in
set_option maxRecDepth 100000 in
/-- the law calls set -/
theorem law_set {p : Program} {l : Launch} {e : Env} {s : State} {m : MethodId} {args : Array Value} {below : List Frame} {meth : Method} {c : Code} {Q : State → Prop} {D : va_G} {A : Nat → Prop} {q t : Nat → Nat} {qo b L : Nat} {cI cL : ClassId} {xs : Nat → Int32} (hl0 : l.stackTraces = false) (C0 : CallFix p m c cL_law 7 s args lw_w RL) (hK : va_K D vwCl [(cI, .int), (cL, .long)] s) (hA : ∀ q, s.heap.size ≤ q → A q) (hX : va_X b L xs s s.heap) (hbl : b < s.heap.size) (hbA : ¬ A b) (hL : L ≤ 2048)
    (hZ : ∀ (H : Heap) (locs : List Loc), va_S A s.heap H locs → ∀ U : State, U.heap = H → s.WarmedH U.vm → xr_Zh U) {i n cells slots : Nat} {f g sf sg r : Nat → Int32} {fo : Nat → Int64} {k : Int32} {H : Heap} {locs : List Loc} {ls : Array Slot} (hi : i + 4 ≤ L) (hn : n ≤ 2000) (hcs : cells + 1 ≤ 1037 ∧ slots + 6 ≤ 22222)
    (hP : va_P D vwCl (rs_L q t qo cI cL n f g sf sg r fo k n f g) H) (hD : va_D A (rs_L q t qo cI cL n f g sf sg r fo k n f g)) (hS : va_S A s.heap H locs) (hl : lv_has ls 7 [(4, .int (nI i)), (3, .ref qo), (2, .ref (t 0)), (1, .ref (q 0)), (0, .ref b)])
    (kk : ∀ (n : Nat) (f g sf sg r : Nat → Int32) (fo : Nat → Int64) (k : Int32) (H : Heap) (locs : List Loc) (ls : Array Slot), n ≤ 2000 → va_P D vwCl (rs_L q t qo cI cL n f g sf sg r fo k n f g) H → va_D A (rs_L q t qo cI cL n f g sf sg r fo k n f g) → va_S A s.heap H locs → lv_has ls 7 [(4, .int (nI i)), (3, .ref qo), (2, .ref (t 0)), (1, .ref (q 0)), (0, .ref b)] → W p l e room_1 s m args below meth c H locs (cells + 1) (slots + 6) Q (F0 m 702 ls [])) : W p l e room_1 s m args below meth c H locs cells slots Q (F0 m 444 ls []) := by
  have hx := C0.1
  have hb := C0.2.1
  rcases rs_ix (xs (i + 1)) (n := n) (by omega) with hbad | ⟨j, hj, e1⟩
  · skip
    refine lv_aload_n hx hb dL_law_444 rfl (lv_at hl 3 rfl) ?_
    refine lv_aload_n hx hb dL_law_445 rfl (lv_at hl 4 rfl) ?_
    refine lv_iload hx hb dL_law_446 (lv_at hl 0 rfl) ?_
    refine lv_iconst (v := 1) hx hb dL_law_448 (by decide) ?_
    refine lv_iadd hx hb dL_law_449 ?_
    refine xr_top (nI_add i 1) ?_
    refine xr_sld C0 hX hbl hbA hS (j := i + 1) (by omega) (by omega) dL_law_450 ?_
    refine lv_aload_n hx hb dL_law_451 rfl (lv_at hl 4 rfl) ?_
    refine lv_iload hx hb dL_law_452 (lv_at hl 0 rfl) ?_
    refine lv_iconst (v := 2) hx hb dL_law_454 (by decide) ?_
    refine lv_iadd hx hb dL_law_455 ?_
    refine xr_top (nI_add i 2) ?_
    refine xr_sld C0 hX hbl hbA hS (j := i + 2) (by omega) (by omega) dL_law_456 ?_
    refine lv_aload_n hx hb dL_law_457 rfl (lv_at hl 1 rfl) ?_
    refine xr_lcall (As := [.ref (q 0), .int (xs (i + 1)), .int (xs (i + 2)), .ref qo]) (rest := []) (nA := 4) C0 (h_set1 l hl0 D q qo cI cL [] (rs_M t cI k n f g) _ n f g sf sg r fo (xs (i + 1)) (xs (i + 2)) hbad) (gH wM_L_L_set wS_L_set wN_L wC_L_set) (by decide +kernel) rfl ⟨by decide, by decide⟩ hK hP hD hS hA (hZ _ _ hS) hl.1 rfl (Nat.le_of_ble_eq_true rfl) dL_law_458 hcs (fun v w H locs hv hP hD hz hS => ?_)
    obtain ⟨rfl, rfl⟩ := hv
    refine lv_istore hx hb dL_law_461 hl (by decide) rfl (fun ls hl => ?_)
    have hl : lv_has ls 7 [(5, .int 1), (4, .int (nI i)), (3, .ref qo), (2, .ref (t 0)), (1, .ref (q 0)), (0, .ref b)] := hl
    refine lv_aload_n hx hb dL_law_463 rfl (lv_at hl 3 rfl) ?_
    refine lv_aload_n hx hb dL_law_464 rfl (lv_at hl 5 rfl) ?_
    refine lv_iload hx hb dL_law_465 (lv_at hl 1 rfl) ?_
    refine lv_iconst (v := 1) hx hb dL_law_467 (by decide) ?_
    refine lv_iadd hx hb dL_law_468 ?_
    refine xr_top (nI_add i 1) ?_
    refine xr_sld C0 hX hbl hbA hS (j := i + 1) (by omega) (by omega) dL_law_469 ?_
    refine lv_aload_n hx hb dL_law_470 rfl (lv_at hl 5 rfl) ?_
    refine lv_iload hx hb dL_law_471 (lv_at hl 1 rfl) ?_
    refine lv_iconst (v := 2) hx hb dL_law_473 (by decide) ?_
    refine lv_iadd hx hb dL_law_474 ?_
    refine xr_top (nI_add i 2) ?_
    refine xr_sld C0 hX hbl hbA hS (j := i + 2) (by omega) (by omega) dL_law_475 ?_
    have hP := hP.sub (ws' := rs_LM q t qo cI cL (n) (f) (g) (sf) (sg) (r) (fo) (k) (n) (f) (g)) [7, 8, 9, 0, 1, 2, 3, 4, 5, 6] rfl
    have hD := hD.sub (ws' := rs_LM q t qo cI cL (n) (f) (g) (sf) (sg) (r) (fo) (k) (n) (f) (g)) [7, 8, 9, 0, 1, 2, 3, 4, 5, 6] (by decide) rfl
    refine xr_vcall (As := [.int (xs (i + 1)), .int (xs (i + 2))]) (rest := []) (nA := 2) C0 (m_set1 l D t cI [(cL, .long)] (rs_X q cI (n) (f) (g) (sf) (sg) (r) ++ [(qo, .inl (cL, 1, .inr (.inl (fo))))]) _ (n) (k) (f) (g) (xs (i + 1)) (xs (i + 2)) hbad) (gV wM_L_X1_set wI_X1_set wV_X1_X1_set wN_X1 wC_X1_set) (by decide +kernel) rfl rfl rfl ⟨by decide, by decide⟩ hK hP hD hS hA 0 rfl rfl hl.1 rfl (Nat.le_of_ble_eq_true rfl) dL_law_476 (⟨hcs.1, hcs.2⟩) (fun v w H locs hv hP hD hz hS => ?_)
    obtain ⟨rfl, rfl⟩ := hv
    have hP := hP.sub (ws' := rs_L q t qo cI cL (n) (f) (g) (sf) (sg) (r) (fo) (1) (n) (f) (g)) [3, 4, 5, 6, 7, 8, 9, 0, 1, 2] rfl
    have hD := hD.sub (ws' := rs_L q t qo cI cL (n) (f) (g) (sf) (sg) (r) (fo) (1) (n) (f) (g)) [3, 4, 5, 6, 7, 8, 9, 0, 1, 2] (by decide) rfl
    refine lv_istore hx hb dL_law_479 hl (by decide) rfl (fun ls hl => ?_)
    have hl : lv_has ls 7 [(6, .int (0)), (5, .int 1), (4, .int (nI i)), (3, .ref qo), (2, .ref (t 0)), (1, .ref (q 0)), (0, .ref b)] := hl
    refine lv_aload_n hx hb dL_law_481 rfl (lv_at hl 4 rfl) ?_
    have hP := hP.sub (ws' := rs_LM q t qo cI cL (n) (f) (g) (sf) (sg) (r) (fo) (1) (n) (f) (g)) [7, 8, 9, 0, 1, 2, 3, 4, 5, 6] rfl
    have hD := hD.sub (ws' := rs_LM q t qo cI cL (n) (f) (g) (sf) (sg) (r) (fo) (1) (n) (f) (g)) [7, 8, 9, 0, 1, 2, 3, 4, 5, 6] (by decide) rfl
    refine xr_vcall (As := []) (rest := []) (nA := 0) C0 (m_thrown l D t cI [(cL, .long)] (rs_X q cI (n) (f) (g) (sf) (sg) (r) ++ [(qo, .inl (cL, 1, .inr (.inl (fo))))]) _ (n) (1) (f) (g) ) (gV wM_L_X1_thrown wI_X1_thrown wV_X1_X1_thrown wN_X1 wC_X1_thrown) (by decide +kernel) rfl rfl rfl ⟨by decide, by decide⟩ hK hP hD hS hA 0 rfl rfl hl.1 rfl (Nat.le_of_ble_eq_true rfl) dL_law_482 (⟨hcs.1, hcs.2⟩) (fun v w H locs hv hP hD hz hS => ?_)
    obtain ⟨rfl, rfl⟩ := hv
    have hP := hP.sub (ws' := rs_L q t qo cI cL (n) (f) (g) (sf) (sg) (r) (fo) (1) (n) (f) (g)) [3, 4, 5, 6, 7, 8, 9, 0, 1, 2] rfl
    have hD := hD.sub (ws' := rs_L q t qo cI cL (n) (f) (g) (sf) (sg) (r) (fo) (1) (n) (f) (g)) [3, 4, 5, 6, 7, 8, 9, 0, 1, 2] (by decide) rfl
    refine lv_iload hx hb dL_law_485 (lv_at hl 1 rfl) ?_
    refine lv_icmp_eq hx hb dL_law_487 rfl (fun h => ?_) (fun h => absurd rfl h)
    refine lv_iload hx hb dL_law_492 (lv_at hl 1 rfl) ?_
    refine lv_if_ne hx hb dL_law_494 rfl (fun h => ?_) (fun h => absurd h (by decide))
    refine lv_goto hx hb dL_law_509 rfl ?_
    have hl : lv_has ls 7 [(4, .int (nI i)), (3, .ref qo), (2, .ref (t 0)), (1, .ref (q 0)), (0, .ref b)] := lv_sub hl [2, 3, 4, 5, 6] rfl
    exact kk (n) (f) (g) (sf) (sg) (r) (fo) (1) H locs ls (hn) hP hD hS hl
  · skip
    refine lv_aload_n hx hb dL_law_444 rfl (lv_at hl 3 rfl) ?_
    refine lv_aload_n hx hb dL_law_445 rfl (lv_at hl 4 rfl) ?_
    refine lv_iload hx hb dL_law_446 (lv_at hl 0 rfl) ?_
    refine lv_iconst (v := 1) hx hb dL_law_448 (by decide) ?_
    refine lv_iadd hx hb dL_law_449 ?_
    refine xr_top (nI_add i 1) ?_
    refine xr_sld C0 hX hbl hbA hS (j := i + 1) (by omega) (by omega) dL_law_450 ?_
    refine xr_top (e1) ?_
    refine lv_aload_n hx hb dL_law_451 rfl (lv_at hl 4 rfl) ?_
    refine lv_iload hx hb dL_law_452 (lv_at hl 0 rfl) ?_
    refine lv_iconst (v := 2) hx hb dL_law_454 (by decide) ?_
    refine lv_iadd hx hb dL_law_455 ?_
    refine xr_top (nI_add i 2) ?_
    refine xr_sld C0 hX hbl hbA hS (j := i + 2) (by omega) (by omega) dL_law_456 ?_
    refine lv_aload_n hx hb dL_law_457 rfl (lv_at hl 1 rfl) ?_
    refine xr_lcall (As := [.ref (q 0), .int (nI j), .int (xs (i + 2)), .ref qo]) (rest := []) (nA := 4) C0 (h_set0 l hl0 D q qo cI cL [] (rs_M t cI k n f g) _ n f g sf sg r fo j (xs (i + 2)) hj hn) (gH wM_L_L_set wS_L_set wN_L wC_L_set) (by decide +kernel) rfl ⟨by decide, by decide⟩ hK hP hD hS hA (hZ _ _ hS) hl.1 rfl (Nat.le_of_ble_eq_true rfl) dL_law_458 hcs (fun v w H locs hv hP hD hz hS => ?_)
    obtain ⟨rfl, rfl⟩ := hv
    refine lv_istore hx hb dL_law_461 hl (by decide) rfl (fun ls hl => ?_)
    have hl : lv_has ls 7 [(5, .int 0), (4, .int (nI i)), (3, .ref qo), (2, .ref (t 0)), (1, .ref (q 0)), (0, .ref b)] := hl
    refine lv_aload_n hx hb dL_law_463 rfl (lv_at hl 3 rfl) ?_
    refine lv_aload_n hx hb dL_law_464 rfl (lv_at hl 5 rfl) ?_
    refine lv_iload hx hb dL_law_465 (lv_at hl 1 rfl) ?_
    refine lv_iconst (v := 1) hx hb dL_law_467 (by decide) ?_
    refine lv_iadd hx hb dL_law_468 ?_
    refine xr_top (nI_add i 1) ?_
    refine xr_sld C0 hX hbl hbA hS (j := i + 1) (by omega) (by omega) dL_law_469 ?_
    refine xr_top (e1) ?_
    refine lv_aload_n hx hb dL_law_470 rfl (lv_at hl 5 rfl) ?_
    refine lv_iload hx hb dL_law_471 (lv_at hl 1 rfl) ?_
    refine lv_iconst (v := 2) hx hb dL_law_473 (by decide) ?_
    refine lv_iadd hx hb dL_law_474 ?_
    refine xr_top (nI_add i 2) ?_
    refine xr_sld C0 hX hbl hbA hS (j := i + 2) (by omega) (by omega) dL_law_475 ?_
    have hP := hP.sub (ws' := rs_LM q t qo cI cL (n) (upd f j (xs (i + 2))) (g) (sf) (sg) (r) (vp_updL fo 0 (f j).toInt64) (k) (n) (f) (g)) [7, 8, 9, 0, 1, 2, 3, 4, 5, 6] rfl
    have hD := hD.sub (ws' := rs_LM q t qo cI cL (n) (upd f j (xs (i + 2))) (g) (sf) (sg) (r) (vp_updL fo 0 (f j).toInt64) (k) (n) (f) (g)) [7, 8, 9, 0, 1, 2, 3, 4, 5, 6] (by decide) rfl
    refine xr_vcall (As := [.int (nI j), .int (xs (i + 2))]) (rest := []) (nA := 2) C0 (m_set0 l D t cI [(cL, .long)] (rs_X q cI (n) (upd f j (xs (i + 2))) (g) (sf) (sg) (r) ++ [(qo, .inl (cL, 1, .inr (.inl (vp_updL fo 0 (f j).toInt64))))]) _ (n) (k) (f) (g) j (xs (i + 2)) hj hn) (gV wM_L_X1_set wI_X1_set wV_X1_X1_set wN_X1 wC_X1_set) (by decide +kernel) rfl rfl rfl ⟨by decide, by decide⟩ hK hP hD hS hA 0 rfl rfl hl.1 rfl (Nat.le_of_ble_eq_true rfl) dL_law_476 (⟨hcs.1, hcs.2⟩) (fun v w H locs hv hP hD hz hS => ?_)
    obtain ⟨rfl, rfl⟩ := hv
    have hP := hP.sub (ws' := rs_L q t qo cI cL (n) (upd f j (xs (i + 2))) (g) (sf) (sg) (r) (vp_updL fo 0 (f j).toInt64) (0) (n) (upd f j (xs (i + 2))) (g)) [3, 4, 5, 6, 7, 8, 9, 0, 1, 2] rfl
    have hD := hD.sub (ws' := rs_L q t qo cI cL (n) (upd f j (xs (i + 2))) (g) (sf) (sg) (r) (vp_updL fo 0 (f j).toInt64) (0) (n) (upd f j (xs (i + 2))) (g)) [3, 4, 5, 6, 7, 8, 9, 0, 1, 2] (by decide) rfl
    refine lv_istore hx hb dL_law_479 hl (by decide) rfl (fun ls hl => ?_)
    have hl : lv_has ls 7 [(6, .int (f j)), (5, .int 0), (4, .int (nI i)), (3, .ref qo), (2, .ref (t 0)), (1, .ref (q 0)), (0, .ref b)] := hl
    refine lv_aload_n hx hb dL_law_481 rfl (lv_at hl 4 rfl) ?_
    have hP := hP.sub (ws' := rs_LM q t qo cI cL (n) (upd f j (xs (i + 2))) (g) (sf) (sg) (r) (vp_updL fo 0 (f j).toInt64) (0) (n) (upd f j (xs (i + 2))) (g)) [7, 8, 9, 0, 1, 2, 3, 4, 5, 6] rfl
    have hD := hD.sub (ws' := rs_LM q t qo cI cL (n) (upd f j (xs (i + 2))) (g) (sf) (sg) (r) (vp_updL fo 0 (f j).toInt64) (0) (n) (upd f j (xs (i + 2))) (g)) [7, 8, 9, 0, 1, 2, 3, 4, 5, 6] (by decide) rfl
    refine xr_vcall (As := []) (rest := []) (nA := 0) C0 (m_thrown l D t cI [(cL, .long)] (rs_X q cI (n) (upd f j (xs (i + 2))) (g) (sf) (sg) (r) ++ [(qo, .inl (cL, 1, .inr (.inl (vp_updL fo 0 (f j).toInt64))))]) _ (n) (0) (upd f j (xs (i + 2))) (g) ) (gV wM_L_X1_thrown wI_X1_thrown wV_X1_X1_thrown wN_X1 wC_X1_thrown) (by decide +kernel) rfl rfl rfl ⟨by decide, by decide⟩ hK hP hD hS hA 0 rfl rfl hl.1 rfl (Nat.le_of_ble_eq_true rfl) dL_law_482 (⟨hcs.1, hcs.2⟩) (fun v w H locs hv hP hD hz hS => ?_)
    obtain ⟨rfl, rfl⟩ := hv
    have hP := hP.sub (ws' := rs_L q t qo cI cL (n) (upd f j (xs (i + 2))) (g) (sf) (sg) (r) (vp_updL fo 0 (f j).toInt64) (0) (n) (upd f j (xs (i + 2))) (g)) [3, 4, 5, 6, 7, 8, 9, 0, 1, 2] rfl
    have hD := hD.sub (ws' := rs_L q t qo cI cL (n) (upd f j (xs (i + 2))) (g) (sf) (sg) (r) (vp_updL fo 0 (f j).toInt64) (0) (n) (upd f j (xs (i + 2))) (g)) [3, 4, 5, 6, 7, 8, 9, 0, 1, 2] (by decide) rfl
    refine lv_iload hx hb dL_law_485 (lv_at hl 1 rfl) ?_
    refine lv_icmp_eq hx hb dL_law_487 rfl (fun h => ?_) (fun h => absurd rfl h)
    refine lv_iload hx hb dL_law_492 (lv_at hl 1 rfl) ?_
    refine lv_if_ne hx hb dL_law_494 rfl (fun h => absurd rfl h) (fun h => ?_)
    refine lv_aload_n hx hb dL_law_497 rfl (lv_at hl 3 rfl) ?_
    refine lv_iconst (v := 0) hx hb dL_law_498 (by decide) ?_
    refine xr_lald0 C0 hK hP 6 rfl dL_law_499 ?_
    refine xr_topl pk_uLs ?_
    refine lv_iload hx hb dL_law_500 (lv_at hl 0 rfl) ?_
    refine lv_i2l hx hb dL_law_502 rfl ?_
    refine W.lcmp hx hb dL_law_503 ?_
    refine xr_top (rs_cmp _) ?_
    refine lv_if_eq hx hb dL_law_504 rfl (fun h => ?_) (fun h => absurd rfl h)
    refine lv_goto hx hb dL_law_509 rfl ?_
    have hl : lv_has ls 7 [(4, .int (nI i)), (3, .ref qo), (2, .ref (t 0)), (1, .ref (q 0)), (0, .ref b)] := lv_sub hl [2, 3, 4, 5, 6] rfl
    exact kk (n) (upd f j (xs (i + 2))) (g) (sf) (sg) (r) (vp_updL fo 0 (f j).toInt64) (0) H locs ls (hn) hP hD hS hl
set_option maxHeartbeats 4000000 in
set_option maxRecDepth 100000 in
/-- the law calls turn -/
theorem law_turn {p : Program} {l : Launch} {e : Env} {s : State} {m : MethodId} {args : Array Value} {below : List Frame} {meth : Method} {c : Code} {Q : State → Prop} {D : va_G} {A : Nat → Prop} {q t : Nat → Nat} {qo b L : Nat} {cI cL : ClassId} {xs : Nat → Int32} (hl0 : l.stackTraces = false) (C0 : CallFix p m c cL_law 7 s args lw_w RL) (hK : va_K D vwCl [(cI, .int), (cL, .long)] s) (hA : ∀ q, s.heap.size ≤ q → A q) (hX : va_X b L xs s s.heap) (hbl : b < s.heap.size) (hbA : ¬ A b) (hL : L ≤ 2048)
    (hZ : ∀ (H : Heap) (locs : List Loc), va_S A s.heap H locs → ∀ U : State, U.heap = H → s.WarmedH U.vm → xr_Zh U) {i n cells slots : Nat} {f g sf sg r : Nat → Int32} {fo : Nat → Int64} {k : Int32} {H : Heap} {locs : List Loc} {ls : Array Slot} (hi : i + 4 ≤ L) (hn : n ≤ 2000) (hcs : cells + 1 ≤ 1037 ∧ slots + 6 ≤ 22222)
    (hP : va_P D vwCl (rs_L q t qo cI cL n f g sf sg r fo k n f g) H) (hD : va_D A (rs_L q t qo cI cL n f g sf sg r fo k n f g)) (hS : va_S A s.heap H locs) (hl : lv_has ls 7 [(4, .int (nI i)), (3, .ref qo), (2, .ref (t 0)), (1, .ref (q 0)), (0, .ref b)])
    (kk : ∀ (n : Nat) (f g sf sg r : Nat → Int32) (fo : Nat → Int64) (k : Int32) (H : Heap) (locs : List Loc) (ls : Array Slot), n ≤ 2000 → va_P D vwCl (rs_L q t qo cI cL n f g sf sg r fo k n f g) H → va_D A (rs_L q t qo cI cL n f g sf sg r fo k n f g) → va_S A s.heap H locs → lv_has ls 7 [(4, .int (nI i)), (3, .ref qo), (2, .ref (t 0)), (1, .ref (q 0)), (0, .ref b)] → W p l e room_1 s m args below meth c H locs (cells + 1) (slots + 6) Q (F0 m 702 ls [])) : W p l e room_1 s m args below meth c H locs cells slots Q (F0 m 512 ls []) := by
  have hx := C0.1
  have hb := C0.2.1
  rcases rs_ab (xs (i + 1)) (xs (i + 2)) hn with hbad | ⟨a, d, had, hdn, e1, e2⟩
  · skip
    refine lv_aload_n hx hb dL_law_512 rfl (lv_at hl 3 rfl) ?_
    refine lv_aload_n hx hb dL_law_513 rfl (lv_at hl 4 rfl) ?_
    refine lv_iload hx hb dL_law_514 (lv_at hl 0 rfl) ?_
    refine lv_iconst (v := 1) hx hb dL_law_516 (by decide) ?_
    refine lv_iadd hx hb dL_law_517 ?_
    refine xr_top (nI_add i 1) ?_
    refine xr_sld C0 hX hbl hbA hS (j := i + 1) (by omega) (by omega) dL_law_518 ?_
    refine lv_aload_n hx hb dL_law_519 rfl (lv_at hl 4 rfl) ?_
    refine lv_iload hx hb dL_law_520 (lv_at hl 0 rfl) ?_
    refine lv_iconst (v := 2) hx hb dL_law_522 (by decide) ?_
    refine lv_iadd hx hb dL_law_523 ?_
    refine xr_top (nI_add i 2) ?_
    refine xr_sld C0 hX hbl hbA hS (j := i + 2) (by omega) (by omega) dL_law_524 ?_
    refine lv_aload_n hx hb dL_law_525 rfl (lv_at hl 1 rfl) ?_
    refine xr_lcall (As := [.ref (q 0), .int (xs (i + 1)), .int (xs (i + 2)), .ref qo]) (rest := []) (nA := 4) C0 (h_turn1 l hl0 D q qo cI cL [] (rs_M t cI k n f g) _ n f g sf sg r fo (xs (i + 1)) (xs (i + 2)) hbad) (gH wM_L_L_turn wS_L_turn wN_L wC_L_turn) (by decide +kernel) rfl ⟨by decide, by decide⟩ hK hP hD hS hA (hZ _ _ hS) hl.1 rfl (Nat.le_of_ble_eq_true rfl) dL_law_526 hcs (fun v w H locs hv hP hD hz hS => ?_)
    obtain ⟨rfl, rfl⟩ := hv
    refine lv_istore hx hb dL_law_529 hl (by decide) rfl (fun ls hl => ?_)
    have hl : lv_has ls 7 [(5, .int 1), (4, .int (nI i)), (3, .ref qo), (2, .ref (t 0)), (1, .ref (q 0)), (0, .ref b)] := hl
    refine lv_aload_n hx hb dL_law_531 rfl (lv_at hl 3 rfl) ?_
    refine lv_aload_n hx hb dL_law_532 rfl (lv_at hl 5 rfl) ?_
    refine lv_iload hx hb dL_law_533 (lv_at hl 1 rfl) ?_
    refine lv_iconst (v := 1) hx hb dL_law_535 (by decide) ?_
    refine lv_iadd hx hb dL_law_536 ?_
    refine xr_top (nI_add i 1) ?_
    refine xr_sld C0 hX hbl hbA hS (j := i + 1) (by omega) (by omega) dL_law_537 ?_
    refine lv_aload_n hx hb dL_law_538 rfl (lv_at hl 5 rfl) ?_
    refine lv_iload hx hb dL_law_539 (lv_at hl 1 rfl) ?_
    refine lv_iconst (v := 2) hx hb dL_law_541 (by decide) ?_
    refine lv_iadd hx hb dL_law_542 ?_
    refine xr_top (nI_add i 2) ?_
    refine xr_sld C0 hX hbl hbA hS (j := i + 2) (by omega) (by omega) dL_law_543 ?_
    have hP := hP.sub (ws' := rs_LM q t qo cI cL (n) (f) (g) (sf) (sg) (r) (fo) (k) (n) (f) (g)) [7, 8, 9, 0, 1, 2, 3, 4, 5, 6] rfl
    have hD := hD.sub (ws' := rs_LM q t qo cI cL (n) (f) (g) (sf) (sg) (r) (fo) (k) (n) (f) (g)) [7, 8, 9, 0, 1, 2, 3, 4, 5, 6] (by decide) rfl
    refine xr_vcall (As := [.int (xs (i + 1)), .int (xs (i + 2))]) (rest := []) (nA := 2) C0 (m_turn1 l D t cI [(cL, .long)] (rs_X q cI (n) (f) (g) (sf) (sg) (r) ++ [(qo, .inl (cL, 1, .inr (.inl (fo))))]) _ (n) (k) (f) (g) (xs (i + 1)) (xs (i + 2)) hn (rs_bad hn hbad)) (gV wM_L_X1_turn wI_X1_turn wV_X1_X1_turn wN_X1 wC_X1_turn) (by decide +kernel) rfl rfl rfl ⟨by decide, by decide⟩ hK hP hD hS hA 0 rfl rfl hl.1 rfl (Nat.le_of_ble_eq_true rfl) dL_law_544 (⟨hcs.1, hcs.2⟩) (fun v w H locs hv hP hD hz hS => ?_)
    obtain ⟨rfl, rfl⟩ := hv
    have hP := hP.sub (ws' := rs_L q t qo cI cL (n) (f) (g) (sf) (sg) (r) (fo) (1) (n) (f) (g)) [3, 4, 5, 6, 7, 8, 9, 0, 1, 2] rfl
    have hD := hD.sub (ws' := rs_L q t qo cI cL (n) (f) (g) (sf) (sg) (r) (fo) (1) (n) (f) (g)) [3, 4, 5, 6, 7, 8, 9, 0, 1, 2] (by decide) rfl
    refine lv_istore hx hb dL_law_547 hl (by decide) rfl (fun ls hl => ?_)
    have hl : lv_has ls 7 [(6, .int (0)), (5, .int 1), (4, .int (nI i)), (3, .ref qo), (2, .ref (t 0)), (1, .ref (q 0)), (0, .ref b)] := hl
    refine lv_aload_n hx hb dL_law_549 rfl (lv_at hl 4 rfl) ?_
    have hP := hP.sub (ws' := rs_LM q t qo cI cL (n) (f) (g) (sf) (sg) (r) (fo) (1) (n) (f) (g)) [7, 8, 9, 0, 1, 2, 3, 4, 5, 6] rfl
    have hD := hD.sub (ws' := rs_LM q t qo cI cL (n) (f) (g) (sf) (sg) (r) (fo) (1) (n) (f) (g)) [7, 8, 9, 0, 1, 2, 3, 4, 5, 6] (by decide) rfl
    refine xr_vcall (As := []) (rest := []) (nA := 0) C0 (m_thrown l D t cI [(cL, .long)] (rs_X q cI (n) (f) (g) (sf) (sg) (r) ++ [(qo, .inl (cL, 1, .inr (.inl (fo))))]) _ (n) (1) (f) (g) ) (gV wM_L_X1_thrown wI_X1_thrown wV_X1_X1_thrown wN_X1 wC_X1_thrown) (by decide +kernel) rfl rfl rfl ⟨by decide, by decide⟩ hK hP hD hS hA 0 rfl rfl hl.1 rfl (Nat.le_of_ble_eq_true rfl) dL_law_550 (⟨hcs.1, hcs.2⟩) (fun v w H locs hv hP hD hz hS => ?_)
    obtain ⟨rfl, rfl⟩ := hv
    have hP := hP.sub (ws' := rs_L q t qo cI cL (n) (f) (g) (sf) (sg) (r) (fo) (1) (n) (f) (g)) [3, 4, 5, 6, 7, 8, 9, 0, 1, 2] rfl
    have hD := hD.sub (ws' := rs_L q t qo cI cL (n) (f) (g) (sf) (sg) (r) (fo) (1) (n) (f) (g)) [3, 4, 5, 6, 7, 8, 9, 0, 1, 2] (by decide) rfl
    refine lv_iload hx hb dL_law_553 (lv_at hl 1 rfl) ?_
    refine lv_icmp_eq hx hb dL_law_555 rfl (fun h => ?_) (fun h => absurd rfl h)
    refine lv_iload hx hb dL_law_560 (lv_at hl 1 rfl) ?_
    refine lv_if_ne hx hb dL_law_562 rfl (fun h => ?_) (fun h => absurd h (by decide))
    refine lv_goto hx hb dL_law_577 rfl ?_
    have hl : lv_has ls 7 [(4, .int (nI i)), (3, .ref qo), (2, .ref (t 0)), (1, .ref (q 0)), (0, .ref b)] := lv_sub hl [2, 3, 4, 5, 6] rfl
    exact kk (n) (f) (g) (sf) (sg) (r) (fo) (1) H locs ls (hn) hP hD hS hl
  · skip
    refine lv_aload_n hx hb dL_law_512 rfl (lv_at hl 3 rfl) ?_
    refine lv_aload_n hx hb dL_law_513 rfl (lv_at hl 4 rfl) ?_
    refine lv_iload hx hb dL_law_514 (lv_at hl 0 rfl) ?_
    refine lv_iconst (v := 1) hx hb dL_law_516 (by decide) ?_
    refine lv_iadd hx hb dL_law_517 ?_
    refine xr_top (nI_add i 1) ?_
    refine xr_sld C0 hX hbl hbA hS (j := i + 1) (by omega) (by omega) dL_law_518 ?_
    refine xr_top (e1) ?_
    refine lv_aload_n hx hb dL_law_519 rfl (lv_at hl 4 rfl) ?_
    refine lv_iload hx hb dL_law_520 (lv_at hl 0 rfl) ?_
    refine lv_iconst (v := 2) hx hb dL_law_522 (by decide) ?_
    refine lv_iadd hx hb dL_law_523 ?_
    refine xr_top (nI_add i 2) ?_
    refine xr_sld C0 hX hbl hbA hS (j := i + 2) (by omega) (by omega) dL_law_524 ?_
    refine xr_top (e2) ?_
    refine lv_aload_n hx hb dL_law_525 rfl (lv_at hl 1 rfl) ?_
    refine xr_lcall (As := [.ref (q 0), .int (nI a), .int (nI d), .ref qo]) (rest := []) (nA := 4) C0 (h_turn0 l hl0 D q qo cI cL [] (rs_M t cI k n f g) _ n f g sf sg r fo a d had hdn hn) (gH wM_L_L_turn wS_L_turn wN_L wC_L_turn) (by decide +kernel) rfl ⟨by decide, by decide⟩ hK hP hD hS hA (hZ _ _ hS) hl.1 rfl (Nat.le_of_ble_eq_true rfl) dL_law_526 hcs (fun v w H locs hv hP hD hz hS => ?_)
    obtain ⟨rfl, rfl⟩ := hv
    refine lv_istore hx hb dL_law_529 hl (by decide) rfl (fun ls hl => ?_)
    have hl : lv_has ls 7 [(5, .int 0), (4, .int (nI i)), (3, .ref qo), (2, .ref (t 0)), (1, .ref (q 0)), (0, .ref b)] := hl
    refine lv_aload_n hx hb dL_law_531 rfl (lv_at hl 3 rfl) ?_
    refine lv_aload_n hx hb dL_law_532 rfl (lv_at hl 5 rfl) ?_
    refine lv_iload hx hb dL_law_533 (lv_at hl 1 rfl) ?_
    refine lv_iconst (v := 1) hx hb dL_law_535 (by decide) ?_
    refine lv_iadd hx hb dL_law_536 ?_
    refine xr_top (nI_add i 1) ?_
    refine xr_sld C0 hX hbl hbA hS (j := i + 1) (by omega) (by omega) dL_law_537 ?_
    refine xr_top (e1) ?_
    refine lv_aload_n hx hb dL_law_538 rfl (lv_at hl 5 rfl) ?_
    refine lv_iload hx hb dL_law_539 (lv_at hl 1 rfl) ?_
    refine lv_iconst (v := 2) hx hb dL_law_541 (by decide) ?_
    refine lv_iadd hx hb dL_law_542 ?_
    refine xr_top (nI_add i 2) ?_
    refine xr_sld C0 hX hbl hbA hS (j := i + 2) (by omega) (by omega) dL_law_543 ?_
    refine xr_top (e2) ?_
    have hP := hP.sub (ws' := rs_LM q t qo cI cL (n) (rs_tn f a d ((d - a) / 2)) (rs_tn g a d ((d - a) / 2)) (sf) (sg) (r) (vp_updL fo 0 (nI (d - a)).toInt64) (k) (n) (f) (g)) [7, 8, 9, 0, 1, 2, 3, 4, 5, 6] rfl
    have hD := hD.sub (ws' := rs_LM q t qo cI cL (n) (rs_tn f a d ((d - a) / 2)) (rs_tn g a d ((d - a) / 2)) (sf) (sg) (r) (vp_updL fo 0 (nI (d - a)).toInt64) (k) (n) (f) (g)) [7, 8, 9, 0, 1, 2, 3, 4, 5, 6] (by decide) rfl
    refine xr_vcall (As := [.int (nI a), .int (nI d)]) (rest := []) (nA := 2) C0 (m_turn0 l D t cI [(cL, .long)] (rs_X q cI (n) (rs_tn f a d ((d - a) / 2)) (rs_tn g a d ((d - a) / 2)) (sf) (sg) (r) ++ [(qo, .inl (cL, 1, .inr (.inl (vp_updL fo 0 (nI (d - a)).toInt64))))]) _ (n) (k) (f) (g) a d had hdn hn) (gV wM_L_X1_turn wI_X1_turn wV_X1_X1_turn wN_X1 wC_X1_turn) (by decide +kernel) rfl rfl rfl ⟨by decide, by decide⟩ hK hP hD hS hA 0 rfl rfl hl.1 rfl (Nat.le_of_ble_eq_true rfl) dL_law_544 (⟨hcs.1, hcs.2⟩) (fun v w H locs hv hP hD hz hS => ?_)
    obtain ⟨rfl, rfl⟩ := hv
    have hP := hP.sub (ws' := rs_L q t qo cI cL (n) (rs_tn f a d ((d - a) / 2)) (rs_tn g a d ((d - a) / 2)) (sf) (sg) (r) (vp_updL fo 0 (nI (d - a)).toInt64) (0) (n) (rs_tn f a d ((d - a) / 2)) (rs_tn g a d ((d - a) / 2))) [3, 4, 5, 6, 7, 8, 9, 0, 1, 2] rfl
    have hD := hD.sub (ws' := rs_L q t qo cI cL (n) (rs_tn f a d ((d - a) / 2)) (rs_tn g a d ((d - a) / 2)) (sf) (sg) (r) (vp_updL fo 0 (nI (d - a)).toInt64) (0) (n) (rs_tn f a d ((d - a) / 2)) (rs_tn g a d ((d - a) / 2))) [3, 4, 5, 6, 7, 8, 9, 0, 1, 2] (by decide) rfl
    refine lv_istore hx hb dL_law_547 hl (by decide) rfl (fun ls hl => ?_)
    have hl : lv_has ls 7 [(6, .int (nI (d - a))), (5, .int 0), (4, .int (nI i)), (3, .ref qo), (2, .ref (t 0)), (1, .ref (q 0)), (0, .ref b)] := hl
    refine lv_aload_n hx hb dL_law_549 rfl (lv_at hl 4 rfl) ?_
    have hP := hP.sub (ws' := rs_LM q t qo cI cL (n) (rs_tn f a d ((d - a) / 2)) (rs_tn g a d ((d - a) / 2)) (sf) (sg) (r) (vp_updL fo 0 (nI (d - a)).toInt64) (0) (n) (rs_tn f a d ((d - a) / 2)) (rs_tn g a d ((d - a) / 2))) [7, 8, 9, 0, 1, 2, 3, 4, 5, 6] rfl
    have hD := hD.sub (ws' := rs_LM q t qo cI cL (n) (rs_tn f a d ((d - a) / 2)) (rs_tn g a d ((d - a) / 2)) (sf) (sg) (r) (vp_updL fo 0 (nI (d - a)).toInt64) (0) (n) (rs_tn f a d ((d - a) / 2)) (rs_tn g a d ((d - a) / 2))) [7, 8, 9, 0, 1, 2, 3, 4, 5, 6] (by decide) rfl
    refine xr_vcall (As := []) (rest := []) (nA := 0) C0 (m_thrown l D t cI [(cL, .long)] (rs_X q cI (n) (rs_tn f a d ((d - a) / 2)) (rs_tn g a d ((d - a) / 2)) (sf) (sg) (r) ++ [(qo, .inl (cL, 1, .inr (.inl (vp_updL fo 0 (nI (d - a)).toInt64))))]) _ (n) (0) (rs_tn f a d ((d - a) / 2)) (rs_tn g a d ((d - a) / 2)) ) (gV wM_L_X1_thrown wI_X1_thrown wV_X1_X1_thrown wN_X1 wC_X1_thrown) (by decide +kernel) rfl rfl rfl ⟨by decide, by decide⟩ hK hP hD hS hA 0 rfl rfl hl.1 rfl (Nat.le_of_ble_eq_true rfl) dL_law_550 (⟨hcs.1, hcs.2⟩) (fun v w H locs hv hP hD hz hS => ?_)
    obtain ⟨rfl, rfl⟩ := hv
    have hP := hP.sub (ws' := rs_L q t qo cI cL (n) (rs_tn f a d ((d - a) / 2)) (rs_tn g a d ((d - a) / 2)) (sf) (sg) (r) (vp_updL fo 0 (nI (d - a)).toInt64) (0) (n) (rs_tn f a d ((d - a) / 2)) (rs_tn g a d ((d - a) / 2))) [3, 4, 5, 6, 7, 8, 9, 0, 1, 2] rfl
    have hD := hD.sub (ws' := rs_L q t qo cI cL (n) (rs_tn f a d ((d - a) / 2)) (rs_tn g a d ((d - a) / 2)) (sf) (sg) (r) (vp_updL fo 0 (nI (d - a)).toInt64) (0) (n) (rs_tn f a d ((d - a) / 2)) (rs_tn g a d ((d - a) / 2))) [3, 4, 5, 6, 7, 8, 9, 0, 1, 2] (by decide) rfl
    refine lv_iload hx hb dL_law_553 (lv_at hl 1 rfl) ?_
    refine lv_icmp_eq hx hb dL_law_555 rfl (fun h => ?_) (fun h => absurd rfl h)
    refine lv_iload hx hb dL_law_560 (lv_at hl 1 rfl) ?_
    refine lv_if_ne hx hb dL_law_562 rfl (fun h => absurd rfl h) (fun h => ?_)
    refine lv_aload_n hx hb dL_law_565 rfl (lv_at hl 3 rfl) ?_
    refine lv_iconst (v := 0) hx hb dL_law_566 (by decide) ?_
    refine xr_lald0 C0 hK hP 6 rfl dL_law_567 ?_
    refine xr_topl pk_uLs ?_
    refine lv_iload hx hb dL_law_568 (lv_at hl 0 rfl) ?_
    refine lv_i2l hx hb dL_law_570 rfl ?_
    refine W.lcmp hx hb dL_law_571 ?_
    refine xr_top (rs_cmp _) ?_
    refine lv_if_eq hx hb dL_law_572 rfl (fun h => ?_) (fun h => absurd rfl h)
    refine lv_goto hx hb dL_law_577 rfl ?_
    have hl : lv_has ls 7 [(4, .int (nI i)), (3, .ref qo), (2, .ref (t 0)), (1, .ref (q 0)), (0, .ref b)] := lv_sub hl [2, 3, 4, 5, 6] rfl
    exact kk (n) (rs_tn f a d ((d - a) / 2)) (rs_tn g a d ((d - a) / 2)) (sf) (sg) (r) (vp_updL fo 0 (nI (d - a)).toInt64) (0) H locs ls (hn) hP hD hS hl
set_option maxHeartbeats 4000000 in
set_option maxRecDepth 100000 in
/-- the law calls upTo -/
theorem law_upTo {p : Program} {l : Launch} {e : Env} {s : State} {m : MethodId} {args : Array Value} {below : List Frame} {meth : Method} {c : Code} {Q : State → Prop} {D : va_G} {A : Nat → Prop} {q t : Nat → Nat} {qo b L : Nat} {cI cL : ClassId} {xs : Nat → Int32} (hl0 : l.stackTraces = false) (C0 : CallFix p m c cL_law 7 s args lw_w RL) (hK : va_K D vwCl [(cI, .int), (cL, .long)] s) (hA : ∀ q, s.heap.size ≤ q → A q) (hX : va_X b L xs s s.heap) (hbl : b < s.heap.size) (hbA : ¬ A b) (hL : L ≤ 2048)
    (hZ : ∀ (H : Heap) (locs : List Loc), va_S A s.heap H locs → ∀ U : State, U.heap = H → s.WarmedH U.vm → xr_Zh U) {i n cells slots : Nat} {f g sf sg r : Nat → Int32} {fo : Nat → Int64} {k : Int32} {H : Heap} {locs : List Loc} {ls : Array Slot} (hi : i + 4 ≤ L) (hn : n ≤ 2000) (hcs : cells + 1 ≤ 1037 ∧ slots + 6 ≤ 22222)
    (hP : va_P D vwCl (rs_L q t qo cI cL n f g sf sg r fo k n f g) H) (hD : va_D A (rs_L q t qo cI cL n f g sf sg r fo k n f g)) (hS : va_S A s.heap H locs) (hl : lv_has ls 7 [(4, .int (nI i)), (3, .ref qo), (2, .ref (t 0)), (1, .ref (q 0)), (0, .ref b)])
    (kk : ∀ (n : Nat) (f g sf sg r : Nat → Int32) (fo : Nat → Int64) (k : Int32) (H : Heap) (locs : List Loc) (ls : Array Slot), n ≤ 2000 → va_P D vwCl (rs_L q t qo cI cL n f g sf sg r fo k n f g) H → va_D A (rs_L q t qo cI cL n f g sf sg r fo k n f g) → va_S A s.heap H locs → lv_has ls 7 [(4, .int (nI i)), (3, .ref qo), (2, .ref (t 0)), (1, .ref (q 0)), (0, .ref b)] → W p l e room_1 s m args below meth c H locs (cells + 1) (slots + 6) Q (F0 m 702 ls [])) : W p l e room_1 s m args below meth c H locs cells slots Q (F0 m 580 ls []) := by
  have hx := C0.1
  have hb := C0.2.1
  by_cases ho : (xs (i + 1)) < 0 ∨ 3 < (xs (i + 1))
  · skip
    by_cases hb0 : xs (i + 3) = 0
    · skip
      refine lv_aload_n hx hb dL_law_580 rfl (lv_at hl 3 rfl) ?_
      refine lv_aload_n hx hb dL_law_581 rfl (lv_at hl 4 rfl) ?_
      refine lv_iload hx hb dL_law_582 (lv_at hl 0 rfl) ?_
      refine lv_iconst (v := 1) hx hb dL_law_584 (by decide) ?_
      refine lv_iadd hx hb dL_law_585 ?_
      refine xr_top (nI_add i 1) ?_
      refine xr_sld C0 hX hbl hbA hS (j := i + 1) (by omega) (by omega) dL_law_586 ?_
      refine lv_aload_n hx hb dL_law_587 rfl (lv_at hl 4 rfl) ?_
      refine lv_iload hx hb dL_law_588 (lv_at hl 0 rfl) ?_
      refine lv_iconst (v := 2) hx hb dL_law_590 (by decide) ?_
      refine lv_iadd hx hb dL_law_591 ?_
      refine xr_top (nI_add i 2) ?_
      refine xr_sld C0 hX hbl hbA hS (j := i + 2) (by omega) (by omega) dL_law_592 ?_
      refine lv_aload_n hx hb dL_law_593 rfl (lv_at hl 4 rfl) ?_
      refine lv_iload hx hb dL_law_594 (lv_at hl 0 rfl) ?_
      refine lv_iconst (v := 3) hx hb dL_law_596 (by decide) ?_
      refine lv_iadd hx hb dL_law_597 ?_
      refine xr_top (nI_add i 3) ?_
      refine xr_sld C0 hX hbl hbA hS (j := i + 3) (by omega) (by omega) dL_law_598 ?_
      refine lv_if_eq hx hb dL_law_599 rfl (fun h => ?_) (fun h => absurd hb0 h)
      refine lv_iconst (v := 0) hx hb dL_law_606 (by decide) ?_
      refine lv_aload_n hx hb dL_law_607 rfl (lv_at hl 1 rfl) ?_
      refine xr_lcall (As := [.ref (q 0), .int (xs (i + 1)), .int (xs (i + 2)), .int 0, .ref qo]) (rest := []) (nA := 5) C0 (h_upTo1 l hl0 D q qo cI cL [] (rs_M t cI k n f g) _ n f g sf sg r fo (xs (i + 1)) (xs (i + 2)) 0 ho) (gH wM_L_L_upTo wS_L_upTo wN_L wC_L_upTo) (by decide +kernel) rfl ⟨by decide, by decide⟩ hK hP hD hS hA (hZ _ _ hS) hl.1 rfl (Nat.le_of_ble_eq_true rfl) dL_law_608 hcs (fun v w H locs hv hP hD hz hS => ?_)
      obtain ⟨rfl, rfl⟩ := hv
      refine lv_istore hx hb dL_law_611 hl (by decide) rfl (fun ls hl => ?_)
      have hl : lv_has ls 7 [(5, .int 1), (4, .int (nI i)), (3, .ref qo), (2, .ref (t 0)), (1, .ref (q 0)), (0, .ref b)] := hl
      refine lv_aload_n hx hb dL_law_613 rfl (lv_at hl 3 rfl) ?_
      refine lv_aload_n hx hb dL_law_614 rfl (lv_at hl 5 rfl) ?_
      refine lv_iload hx hb dL_law_615 (lv_at hl 1 rfl) ?_
      refine lv_iconst (v := 1) hx hb dL_law_617 (by decide) ?_
      refine lv_iadd hx hb dL_law_618 ?_
      refine xr_top (nI_add i 1) ?_
      refine xr_sld C0 hX hbl hbA hS (j := i + 1) (by omega) (by omega) dL_law_619 ?_
      refine lv_aload_n hx hb dL_law_620 rfl (lv_at hl 5 rfl) ?_
      refine lv_iload hx hb dL_law_621 (lv_at hl 1 rfl) ?_
      refine lv_iconst (v := 2) hx hb dL_law_623 (by decide) ?_
      refine lv_iadd hx hb dL_law_624 ?_
      refine xr_top (nI_add i 2) ?_
      refine xr_sld C0 hX hbl hbA hS (j := i + 2) (by omega) (by omega) dL_law_625 ?_
      refine lv_aload_n hx hb dL_law_626 rfl (lv_at hl 5 rfl) ?_
      refine lv_iload hx hb dL_law_627 (lv_at hl 1 rfl) ?_
      refine lv_iconst (v := 3) hx hb dL_law_629 (by decide) ?_
      refine lv_iadd hx hb dL_law_630 ?_
      refine xr_top (nI_add i 3) ?_
      refine xr_sld C0 hX hbl hbA hS (j := i + 3) (by omega) (by omega) dL_law_631 ?_
      refine lv_if_eq hx hb dL_law_632 rfl (fun h => ?_) (fun h => absurd hb0 h)
      refine lv_iconst (v := 0) hx hb dL_law_639 (by decide) ?_
      have hP := hP.sub (ws' := rs_LM q t qo cI cL (n) (f) (g) (sf) (sg) (r) (fo) (k) (n) (f) (g)) [7, 8, 9, 0, 1, 2, 3, 4, 5, 6] rfl
      have hD := hD.sub (ws' := rs_LM q t qo cI cL (n) (f) (g) (sf) (sg) (r) (fo) (k) (n) (f) (g)) [7, 8, 9, 0, 1, 2, 3, 4, 5, 6] (by decide) rfl
      refine xr_vcall (As := [.int (xs (i + 1)), .int (xs (i + 2)), .int 0]) (rest := []) (nA := 3) C0 (m_upTo1 l D t cI [(cL, .long)] (rs_X q cI (n) (f) (g) (sf) (sg) (r) ++ [(qo, .inl (cL, 1, .inr (.inl (fo))))]) _ (n) (k) (f) (g) (xs (i + 1)) (xs (i + 2)) 0 ho) (gV wM_L_X1_upTo wI_X1_upTo wV_X1_X1_upTo wN_X1 wC_X1_upTo) (by decide +kernel) rfl rfl rfl ⟨by decide, by decide⟩ hK hP hD hS hA 0 rfl rfl hl.1 rfl (Nat.le_of_ble_eq_true rfl) dL_law_640 (⟨hcs.1, hcs.2⟩) (fun v w H locs hv hP hD hz hS => ?_)
      obtain ⟨rfl, rfl⟩ := hv
      have hP := hP.sub (ws' := rs_L q t qo cI cL (n) (f) (g) (sf) (sg) (r) (fo) (1) (n) (f) (g)) [3, 4, 5, 6, 7, 8, 9, 0, 1, 2] rfl
      have hD := hD.sub (ws' := rs_L q t qo cI cL (n) (f) (g) (sf) (sg) (r) (fo) (1) (n) (f) (g)) [3, 4, 5, 6, 7, 8, 9, 0, 1, 2] (by decide) rfl
      refine lv_istore hx hb dL_law_643 hl (by decide) rfl (fun ls hl => ?_)
      have hl : lv_has ls 7 [(6, .int (0)), (5, .int 1), (4, .int (nI i)), (3, .ref qo), (2, .ref (t 0)), (1, .ref (q 0)), (0, .ref b)] := hl
      refine lv_aload_n hx hb dL_law_645 rfl (lv_at hl 4 rfl) ?_
      have hP := hP.sub (ws' := rs_LM q t qo cI cL (n) (f) (g) (sf) (sg) (r) (fo) (1) (n) (f) (g)) [7, 8, 9, 0, 1, 2, 3, 4, 5, 6] rfl
      have hD := hD.sub (ws' := rs_LM q t qo cI cL (n) (f) (g) (sf) (sg) (r) (fo) (1) (n) (f) (g)) [7, 8, 9, 0, 1, 2, 3, 4, 5, 6] (by decide) rfl
      refine xr_vcall (As := []) (rest := []) (nA := 0) C0 (m_thrown l D t cI [(cL, .long)] (rs_X q cI (n) (f) (g) (sf) (sg) (r) ++ [(qo, .inl (cL, 1, .inr (.inl (fo))))]) _ (n) (1) (f) (g) ) (gV wM_L_X1_thrown wI_X1_thrown wV_X1_X1_thrown wN_X1 wC_X1_thrown) (by decide +kernel) rfl rfl rfl ⟨by decide, by decide⟩ hK hP hD hS hA 0 rfl rfl hl.1 rfl (Nat.le_of_ble_eq_true rfl) dL_law_646 (⟨hcs.1, hcs.2⟩) (fun v w H locs hv hP hD hz hS => ?_)
      obtain ⟨rfl, rfl⟩ := hv
      have hP := hP.sub (ws' := rs_L q t qo cI cL (n) (f) (g) (sf) (sg) (r) (fo) (1) (n) (f) (g)) [3, 4, 5, 6, 7, 8, 9, 0, 1, 2] rfl
      have hD := hD.sub (ws' := rs_L q t qo cI cL (n) (f) (g) (sf) (sg) (r) (fo) (1) (n) (f) (g)) [3, 4, 5, 6, 7, 8, 9, 0, 1, 2] (by decide) rfl
      refine lv_iload hx hb dL_law_649 (lv_at hl 1 rfl) ?_
      refine lv_icmp_eq hx hb dL_law_651 rfl (fun h => ?_) (fun h => absurd rfl h)
      refine lv_iload hx hb dL_law_656 (lv_at hl 1 rfl) ?_
      refine lv_if_ne hx hb dL_law_658 rfl (fun h => ?_) (fun h => absurd h (by decide))
      refine lv_goto hx hb dL_law_673 rfl ?_
      have hl : lv_has ls 7 [(4, .int (nI i)), (3, .ref qo), (2, .ref (t 0)), (1, .ref (q 0)), (0, .ref b)] := lv_sub hl [2, 3, 4, 5, 6] rfl
      exact kk (n) (f) (g) (sf) (sg) (r) (fo) (1) H locs ls (hn) hP hD hS hl
    · skip
      refine lv_aload_n hx hb dL_law_580 rfl (lv_at hl 3 rfl) ?_
      refine lv_aload_n hx hb dL_law_581 rfl (lv_at hl 4 rfl) ?_
      refine lv_iload hx hb dL_law_582 (lv_at hl 0 rfl) ?_
      refine lv_iconst (v := 1) hx hb dL_law_584 (by decide) ?_
      refine lv_iadd hx hb dL_law_585 ?_
      refine xr_top (nI_add i 1) ?_
      refine xr_sld C0 hX hbl hbA hS (j := i + 1) (by omega) (by omega) dL_law_586 ?_
      refine lv_aload_n hx hb dL_law_587 rfl (lv_at hl 4 rfl) ?_
      refine lv_iload hx hb dL_law_588 (lv_at hl 0 rfl) ?_
      refine lv_iconst (v := 2) hx hb dL_law_590 (by decide) ?_
      refine lv_iadd hx hb dL_law_591 ?_
      refine xr_top (nI_add i 2) ?_
      refine xr_sld C0 hX hbl hbA hS (j := i + 2) (by omega) (by omega) dL_law_592 ?_
      refine lv_aload_n hx hb dL_law_593 rfl (lv_at hl 4 rfl) ?_
      refine lv_iload hx hb dL_law_594 (lv_at hl 0 rfl) ?_
      refine lv_iconst (v := 3) hx hb dL_law_596 (by decide) ?_
      refine lv_iadd hx hb dL_law_597 ?_
      refine xr_top (nI_add i 3) ?_
      refine xr_sld C0 hX hbl hbA hS (j := i + 3) (by omega) (by omega) dL_law_598 ?_
      refine lv_if_eq hx hb dL_law_599 rfl (fun h => absurd h hb0) (fun h => ?_)
      refine lv_iconst (v := 1) hx hb dL_law_602 (by decide) ?_
      refine lv_goto hx hb dL_law_603 rfl ?_
      refine lv_aload_n hx hb dL_law_607 rfl (lv_at hl 1 rfl) ?_
      refine xr_lcall (As := [.ref (q 0), .int (xs (i + 1)), .int (xs (i + 2)), .int 1, .ref qo]) (rest := []) (nA := 5) C0 (h_upTo1 l hl0 D q qo cI cL [] (rs_M t cI k n f g) _ n f g sf sg r fo (xs (i + 1)) (xs (i + 2)) 1 ho) (gH wM_L_L_upTo wS_L_upTo wN_L wC_L_upTo) (by decide +kernel) rfl ⟨by decide, by decide⟩ hK hP hD hS hA (hZ _ _ hS) hl.1 rfl (Nat.le_of_ble_eq_true rfl) dL_law_608 hcs (fun v w H locs hv hP hD hz hS => ?_)
      obtain ⟨rfl, rfl⟩ := hv
      refine lv_istore hx hb dL_law_611 hl (by decide) rfl (fun ls hl => ?_)
      have hl : lv_has ls 7 [(5, .int 1), (4, .int (nI i)), (3, .ref qo), (2, .ref (t 0)), (1, .ref (q 0)), (0, .ref b)] := hl
      refine lv_aload_n hx hb dL_law_613 rfl (lv_at hl 3 rfl) ?_
      refine lv_aload_n hx hb dL_law_614 rfl (lv_at hl 5 rfl) ?_
      refine lv_iload hx hb dL_law_615 (lv_at hl 1 rfl) ?_
      refine lv_iconst (v := 1) hx hb dL_law_617 (by decide) ?_
      refine lv_iadd hx hb dL_law_618 ?_
      refine xr_top (nI_add i 1) ?_
      refine xr_sld C0 hX hbl hbA hS (j := i + 1) (by omega) (by omega) dL_law_619 ?_
      refine lv_aload_n hx hb dL_law_620 rfl (lv_at hl 5 rfl) ?_
      refine lv_iload hx hb dL_law_621 (lv_at hl 1 rfl) ?_
      refine lv_iconst (v := 2) hx hb dL_law_623 (by decide) ?_
      refine lv_iadd hx hb dL_law_624 ?_
      refine xr_top (nI_add i 2) ?_
      refine xr_sld C0 hX hbl hbA hS (j := i + 2) (by omega) (by omega) dL_law_625 ?_
      refine lv_aload_n hx hb dL_law_626 rfl (lv_at hl 5 rfl) ?_
      refine lv_iload hx hb dL_law_627 (lv_at hl 1 rfl) ?_
      refine lv_iconst (v := 3) hx hb dL_law_629 (by decide) ?_
      refine lv_iadd hx hb dL_law_630 ?_
      refine xr_top (nI_add i 3) ?_
      refine xr_sld C0 hX hbl hbA hS (j := i + 3) (by omega) (by omega) dL_law_631 ?_
      refine lv_if_eq hx hb dL_law_632 rfl (fun h => absurd h hb0) (fun h => ?_)
      refine lv_iconst (v := 1) hx hb dL_law_635 (by decide) ?_
      refine lv_goto hx hb dL_law_636 rfl ?_
      have hP := hP.sub (ws' := rs_LM q t qo cI cL (n) (f) (g) (sf) (sg) (r) (fo) (k) (n) (f) (g)) [7, 8, 9, 0, 1, 2, 3, 4, 5, 6] rfl
      have hD := hD.sub (ws' := rs_LM q t qo cI cL (n) (f) (g) (sf) (sg) (r) (fo) (k) (n) (f) (g)) [7, 8, 9, 0, 1, 2, 3, 4, 5, 6] (by decide) rfl
      refine xr_vcall (As := [.int (xs (i + 1)), .int (xs (i + 2)), .int 1]) (rest := []) (nA := 3) C0 (m_upTo1 l D t cI [(cL, .long)] (rs_X q cI (n) (f) (g) (sf) (sg) (r) ++ [(qo, .inl (cL, 1, .inr (.inl (fo))))]) _ (n) (k) (f) (g) (xs (i + 1)) (xs (i + 2)) 1 ho) (gV wM_L_X1_upTo wI_X1_upTo wV_X1_X1_upTo wN_X1 wC_X1_upTo) (by decide +kernel) rfl rfl rfl ⟨by decide, by decide⟩ hK hP hD hS hA 0 rfl rfl hl.1 rfl (Nat.le_of_ble_eq_true rfl) dL_law_640 (⟨hcs.1, hcs.2⟩) (fun v w H locs hv hP hD hz hS => ?_)
      obtain ⟨rfl, rfl⟩ := hv
      have hP := hP.sub (ws' := rs_L q t qo cI cL (n) (f) (g) (sf) (sg) (r) (fo) (1) (n) (f) (g)) [3, 4, 5, 6, 7, 8, 9, 0, 1, 2] rfl
      have hD := hD.sub (ws' := rs_L q t qo cI cL (n) (f) (g) (sf) (sg) (r) (fo) (1) (n) (f) (g)) [3, 4, 5, 6, 7, 8, 9, 0, 1, 2] (by decide) rfl
      refine lv_istore hx hb dL_law_643 hl (by decide) rfl (fun ls hl => ?_)
      have hl : lv_has ls 7 [(6, .int (0)), (5, .int 1), (4, .int (nI i)), (3, .ref qo), (2, .ref (t 0)), (1, .ref (q 0)), (0, .ref b)] := hl
      refine lv_aload_n hx hb dL_law_645 rfl (lv_at hl 4 rfl) ?_
      have hP := hP.sub (ws' := rs_LM q t qo cI cL (n) (f) (g) (sf) (sg) (r) (fo) (1) (n) (f) (g)) [7, 8, 9, 0, 1, 2, 3, 4, 5, 6] rfl
      have hD := hD.sub (ws' := rs_LM q t qo cI cL (n) (f) (g) (sf) (sg) (r) (fo) (1) (n) (f) (g)) [7, 8, 9, 0, 1, 2, 3, 4, 5, 6] (by decide) rfl
      refine xr_vcall (As := []) (rest := []) (nA := 0) C0 (m_thrown l D t cI [(cL, .long)] (rs_X q cI (n) (f) (g) (sf) (sg) (r) ++ [(qo, .inl (cL, 1, .inr (.inl (fo))))]) _ (n) (1) (f) (g) ) (gV wM_L_X1_thrown wI_X1_thrown wV_X1_X1_thrown wN_X1 wC_X1_thrown) (by decide +kernel) rfl rfl rfl ⟨by decide, by decide⟩ hK hP hD hS hA 0 rfl rfl hl.1 rfl (Nat.le_of_ble_eq_true rfl) dL_law_646 (⟨hcs.1, hcs.2⟩) (fun v w H locs hv hP hD hz hS => ?_)
      obtain ⟨rfl, rfl⟩ := hv
      have hP := hP.sub (ws' := rs_L q t qo cI cL (n) (f) (g) (sf) (sg) (r) (fo) (1) (n) (f) (g)) [3, 4, 5, 6, 7, 8, 9, 0, 1, 2] rfl
      have hD := hD.sub (ws' := rs_L q t qo cI cL (n) (f) (g) (sf) (sg) (r) (fo) (1) (n) (f) (g)) [3, 4, 5, 6, 7, 8, 9, 0, 1, 2] (by decide) rfl
      refine lv_iload hx hb dL_law_649 (lv_at hl 1 rfl) ?_
      refine lv_icmp_eq hx hb dL_law_651 rfl (fun h => ?_) (fun h => absurd rfl h)
      refine lv_iload hx hb dL_law_656 (lv_at hl 1 rfl) ?_
      refine lv_if_ne hx hb dL_law_658 rfl (fun h => ?_) (fun h => absurd h (by decide))
      refine lv_goto hx hb dL_law_673 rfl ?_
      have hl : lv_has ls 7 [(4, .int (nI i)), (3, .ref qo), (2, .ref (t 0)), (1, .ref (q 0)), (0, .ref b)] := lv_sub hl [2, 3, 4, 5, 6] rfl
      exact kk (n) (f) (g) (sf) (sg) (r) (fo) (1) H locs ls (hn) hP hD hS hl
  · skip
    have h1 : ¬ xs (i + 1) < 0 := fun q => ho (Or.inl q)
    have h2 : xs (i + 1) ≤ 3 := rs_nlt (fun q => ho (Or.inr q))
    by_cases hb0 : xs (i + 3) = 0
    · skip
      refine lv_aload_n hx hb dL_law_580 rfl (lv_at hl 3 rfl) ?_
      refine lv_aload_n hx hb dL_law_581 rfl (lv_at hl 4 rfl) ?_
      refine lv_iload hx hb dL_law_582 (lv_at hl 0 rfl) ?_
      refine lv_iconst (v := 1) hx hb dL_law_584 (by decide) ?_
      refine lv_iadd hx hb dL_law_585 ?_
      refine xr_top (nI_add i 1) ?_
      refine xr_sld C0 hX hbl hbA hS (j := i + 1) (by omega) (by omega) dL_law_586 ?_
      refine lv_aload_n hx hb dL_law_587 rfl (lv_at hl 4 rfl) ?_
      refine lv_iload hx hb dL_law_588 (lv_at hl 0 rfl) ?_
      refine lv_iconst (v := 2) hx hb dL_law_590 (by decide) ?_
      refine lv_iadd hx hb dL_law_591 ?_
      refine xr_top (nI_add i 2) ?_
      refine xr_sld C0 hX hbl hbA hS (j := i + 2) (by omega) (by omega) dL_law_592 ?_
      refine lv_aload_n hx hb dL_law_593 rfl (lv_at hl 4 rfl) ?_
      refine lv_iload hx hb dL_law_594 (lv_at hl 0 rfl) ?_
      refine lv_iconst (v := 3) hx hb dL_law_596 (by decide) ?_
      refine lv_iadd hx hb dL_law_597 ?_
      refine xr_top (nI_add i 3) ?_
      refine xr_sld C0 hX hbl hbA hS (j := i + 3) (by omega) (by omega) dL_law_598 ?_
      refine lv_if_eq hx hb dL_law_599 rfl (fun h => ?_) (fun h => absurd hb0 h)
      refine lv_iconst (v := 0) hx hb dL_law_606 (by decide) ?_
      refine lv_aload_n hx hb dL_law_607 rfl (lv_at hl 1 rfl) ?_
      refine xr_lcall (As := [.ref (q 0), .int (xs (i + 1)), .int (xs (i + 2)), .int 0, .ref qo]) (rest := []) (nA := 5) C0 (h_upTo0 l hl0 D q qo cI cL [] (rs_M t cI k n f g) _ n f g sf sg r fo (xs (i + 1)) (xs (i + 2)) 0 h1 h2 hn) (gH wM_L_L_upTo wS_L_upTo wN_L wC_L_upTo) (by decide +kernel) rfl ⟨by decide, by decide⟩ hK hP hD hS hA (hZ _ _ hS) hl.1 rfl (Nat.le_of_ble_eq_true rfl) dL_law_608 hcs (fun v w H locs hv hP hD hz hS => ?_)
      obtain ⟨z1, rfl, rfl, hz1⟩ := hv
      refine lv_istore hx hb dL_law_611 hl (by decide) rfl (fun ls hl => ?_)
      have hl : lv_has ls 7 [(5, .int 0), (4, .int (nI i)), (3, .ref qo), (2, .ref (t 0)), (1, .ref (q 0)), (0, .ref b)] := hl
      refine lv_aload_n hx hb dL_law_613 rfl (lv_at hl 3 rfl) ?_
      refine lv_aload_n hx hb dL_law_614 rfl (lv_at hl 5 rfl) ?_
      refine lv_iload hx hb dL_law_615 (lv_at hl 1 rfl) ?_
      refine lv_iconst (v := 1) hx hb dL_law_617 (by decide) ?_
      refine lv_iadd hx hb dL_law_618 ?_
      refine xr_top (nI_add i 1) ?_
      refine xr_sld C0 hX hbl hbA hS (j := i + 1) (by omega) (by omega) dL_law_619 ?_
      refine lv_aload_n hx hb dL_law_620 rfl (lv_at hl 5 rfl) ?_
      refine lv_iload hx hb dL_law_621 (lv_at hl 1 rfl) ?_
      refine lv_iconst (v := 2) hx hb dL_law_623 (by decide) ?_
      refine lv_iadd hx hb dL_law_624 ?_
      refine xr_top (nI_add i 2) ?_
      refine xr_sld C0 hX hbl hbA hS (j := i + 2) (by omega) (by omega) dL_law_625 ?_
      refine lv_aload_n hx hb dL_law_626 rfl (lv_at hl 5 rfl) ?_
      refine lv_iload hx hb dL_law_627 (lv_at hl 1 rfl) ?_
      refine lv_iconst (v := 3) hx hb dL_law_629 (by decide) ?_
      refine lv_iadd hx hb dL_law_630 ?_
      refine xr_top (nI_add i 3) ?_
      refine xr_sld C0 hX hbl hbA hS (j := i + 3) (by omega) (by omega) dL_law_631 ?_
      refine lv_if_eq hx hb dL_law_632 rfl (fun h => ?_) (fun h => absurd hb0 h)
      refine lv_iconst (v := 0) hx hb dL_law_639 (by decide) ?_
      have hP := hP.sub (ws' := rs_LM q t qo cI cL (n) (f) (g) (sf) (sg) (r) (vp_updL fo 0 (nI z1).toInt64) (k) (n) (f) (g)) [7, 8, 9, 0, 1, 2, 3, 4, 5, 6] rfl
      have hD := hD.sub (ws' := rs_LM q t qo cI cL (n) (f) (g) (sf) (sg) (r) (vp_updL fo 0 (nI z1).toInt64) (k) (n) (f) (g)) [7, 8, 9, 0, 1, 2, 3, 4, 5, 6] (by decide) rfl
      refine xr_vcall (As := [.int (xs (i + 1)), .int (xs (i + 2)), .int 0]) (rest := []) (nA := 3) C0 (m_upTo0 l D t cI [(cL, .long)] (rs_X q cI (n) (f) (g) (sf) (sg) (r) ++ [(qo, .inl (cL, 1, .inr (.inl (vp_updL fo 0 (nI z1).toInt64))))]) _ (n) (k) (f) (g) (xs (i + 1)) (xs (i + 2)) 0 h1 h2 hn) (gV wM_L_X1_upTo wI_X1_upTo wV_X1_X1_upTo wN_X1 wC_X1_upTo) (by decide +kernel) rfl rfl rfl ⟨by decide, by decide⟩ hK hP hD hS hA 0 rfl rfl hl.1 rfl (Nat.le_of_ble_eq_true rfl) dL_law_640 (⟨hcs.1, hcs.2⟩) (fun v w H locs hv hP hD hz hS => ?_)
      obtain ⟨⟨z2, rfl, hz2⟩, rfl⟩ := hv
      obtain rfl := hz1.one hz2
      have hP := hP.sub (ws' := rs_L q t qo cI cL (n) (f) (g) (sf) (sg) (r) (vp_updL fo 0 (nI z1).toInt64) (0) (n) (f) (g)) [3, 4, 5, 6, 7, 8, 9, 0, 1, 2] rfl
      have hD := hD.sub (ws' := rs_L q t qo cI cL (n) (f) (g) (sf) (sg) (r) (vp_updL fo 0 (nI z1).toInt64) (0) (n) (f) (g)) [3, 4, 5, 6, 7, 8, 9, 0, 1, 2] (by decide) rfl
      refine lv_istore hx hb dL_law_643 hl (by decide) rfl (fun ls hl => ?_)
      have hl : lv_has ls 7 [(6, .int (nI z1)), (5, .int 0), (4, .int (nI i)), (3, .ref qo), (2, .ref (t 0)), (1, .ref (q 0)), (0, .ref b)] := hl
      refine lv_aload_n hx hb dL_law_645 rfl (lv_at hl 4 rfl) ?_
      have hP := hP.sub (ws' := rs_LM q t qo cI cL (n) (f) (g) (sf) (sg) (r) (vp_updL fo 0 (nI z1).toInt64) (0) (n) (f) (g)) [7, 8, 9, 0, 1, 2, 3, 4, 5, 6] rfl
      have hD := hD.sub (ws' := rs_LM q t qo cI cL (n) (f) (g) (sf) (sg) (r) (vp_updL fo 0 (nI z1).toInt64) (0) (n) (f) (g)) [7, 8, 9, 0, 1, 2, 3, 4, 5, 6] (by decide) rfl
      refine xr_vcall (As := []) (rest := []) (nA := 0) C0 (m_thrown l D t cI [(cL, .long)] (rs_X q cI (n) (f) (g) (sf) (sg) (r) ++ [(qo, .inl (cL, 1, .inr (.inl (vp_updL fo 0 (nI z1).toInt64))))]) _ (n) (0) (f) (g) ) (gV wM_L_X1_thrown wI_X1_thrown wV_X1_X1_thrown wN_X1 wC_X1_thrown) (by decide +kernel) rfl rfl rfl ⟨by decide, by decide⟩ hK hP hD hS hA 0 rfl rfl hl.1 rfl (Nat.le_of_ble_eq_true rfl) dL_law_646 (⟨hcs.1, hcs.2⟩) (fun v w H locs hv hP hD hz hS => ?_)
      obtain ⟨rfl, rfl⟩ := hv
      have hP := hP.sub (ws' := rs_L q t qo cI cL (n) (f) (g) (sf) (sg) (r) (vp_updL fo 0 (nI z1).toInt64) (0) (n) (f) (g)) [3, 4, 5, 6, 7, 8, 9, 0, 1, 2] rfl
      have hD := hD.sub (ws' := rs_L q t qo cI cL (n) (f) (g) (sf) (sg) (r) (vp_updL fo 0 (nI z1).toInt64) (0) (n) (f) (g)) [3, 4, 5, 6, 7, 8, 9, 0, 1, 2] (by decide) rfl
      refine lv_iload hx hb dL_law_649 (lv_at hl 1 rfl) ?_
      refine lv_icmp_eq hx hb dL_law_651 rfl (fun h => ?_) (fun h => absurd rfl h)
      refine lv_iload hx hb dL_law_656 (lv_at hl 1 rfl) ?_
      refine lv_if_ne hx hb dL_law_658 rfl (fun h => absurd rfl h) (fun h => ?_)
      refine lv_aload_n hx hb dL_law_661 rfl (lv_at hl 3 rfl) ?_
      refine lv_iconst (v := 0) hx hb dL_law_662 (by decide) ?_
      refine xr_lald0 C0 hK hP 6 rfl dL_law_663 ?_
      refine xr_topl pk_uLs ?_
      refine lv_iload hx hb dL_law_664 (lv_at hl 0 rfl) ?_
      refine lv_i2l hx hb dL_law_666 rfl ?_
      refine W.lcmp hx hb dL_law_667 ?_
      refine xr_top (rs_cmp _) ?_
      refine lv_if_eq hx hb dL_law_668 rfl (fun h => ?_) (fun h => absurd rfl h)
      refine lv_goto hx hb dL_law_673 rfl ?_
      have hl : lv_has ls 7 [(4, .int (nI i)), (3, .ref qo), (2, .ref (t 0)), (1, .ref (q 0)), (0, .ref b)] := lv_sub hl [2, 3, 4, 5, 6] rfl
      exact kk (n) (f) (g) (sf) (sg) (r) (vp_updL fo 0 (nI z1).toInt64) (0) H locs ls (hn) hP hD hS hl
    · skip
      refine lv_aload_n hx hb dL_law_580 rfl (lv_at hl 3 rfl) ?_
      refine lv_aload_n hx hb dL_law_581 rfl (lv_at hl 4 rfl) ?_
      refine lv_iload hx hb dL_law_582 (lv_at hl 0 rfl) ?_
      refine lv_iconst (v := 1) hx hb dL_law_584 (by decide) ?_
      refine lv_iadd hx hb dL_law_585 ?_
      refine xr_top (nI_add i 1) ?_
      refine xr_sld C0 hX hbl hbA hS (j := i + 1) (by omega) (by omega) dL_law_586 ?_
      refine lv_aload_n hx hb dL_law_587 rfl (lv_at hl 4 rfl) ?_
      refine lv_iload hx hb dL_law_588 (lv_at hl 0 rfl) ?_
      refine lv_iconst (v := 2) hx hb dL_law_590 (by decide) ?_
      refine lv_iadd hx hb dL_law_591 ?_
      refine xr_top (nI_add i 2) ?_
      refine xr_sld C0 hX hbl hbA hS (j := i + 2) (by omega) (by omega) dL_law_592 ?_
      refine lv_aload_n hx hb dL_law_593 rfl (lv_at hl 4 rfl) ?_
      refine lv_iload hx hb dL_law_594 (lv_at hl 0 rfl) ?_
      refine lv_iconst (v := 3) hx hb dL_law_596 (by decide) ?_
      refine lv_iadd hx hb dL_law_597 ?_
      refine xr_top (nI_add i 3) ?_
      refine xr_sld C0 hX hbl hbA hS (j := i + 3) (by omega) (by omega) dL_law_598 ?_
      refine lv_if_eq hx hb dL_law_599 rfl (fun h => absurd h hb0) (fun h => ?_)
      refine lv_iconst (v := 1) hx hb dL_law_602 (by decide) ?_
      refine lv_goto hx hb dL_law_603 rfl ?_
      refine lv_aload_n hx hb dL_law_607 rfl (lv_at hl 1 rfl) ?_
      refine xr_lcall (As := [.ref (q 0), .int (xs (i + 1)), .int (xs (i + 2)), .int 1, .ref qo]) (rest := []) (nA := 5) C0 (h_upTo0 l hl0 D q qo cI cL [] (rs_M t cI k n f g) _ n f g sf sg r fo (xs (i + 1)) (xs (i + 2)) 1 h1 h2 hn) (gH wM_L_L_upTo wS_L_upTo wN_L wC_L_upTo) (by decide +kernel) rfl ⟨by decide, by decide⟩ hK hP hD hS hA (hZ _ _ hS) hl.1 rfl (Nat.le_of_ble_eq_true rfl) dL_law_608 hcs (fun v w H locs hv hP hD hz hS => ?_)
      obtain ⟨z1, rfl, rfl, hz1⟩ := hv
      refine lv_istore hx hb dL_law_611 hl (by decide) rfl (fun ls hl => ?_)
      have hl : lv_has ls 7 [(5, .int 0), (4, .int (nI i)), (3, .ref qo), (2, .ref (t 0)), (1, .ref (q 0)), (0, .ref b)] := hl
      refine lv_aload_n hx hb dL_law_613 rfl (lv_at hl 3 rfl) ?_
      refine lv_aload_n hx hb dL_law_614 rfl (lv_at hl 5 rfl) ?_
      refine lv_iload hx hb dL_law_615 (lv_at hl 1 rfl) ?_
      refine lv_iconst (v := 1) hx hb dL_law_617 (by decide) ?_
      refine lv_iadd hx hb dL_law_618 ?_
      refine xr_top (nI_add i 1) ?_
      refine xr_sld C0 hX hbl hbA hS (j := i + 1) (by omega) (by omega) dL_law_619 ?_
      refine lv_aload_n hx hb dL_law_620 rfl (lv_at hl 5 rfl) ?_
      refine lv_iload hx hb dL_law_621 (lv_at hl 1 rfl) ?_
      refine lv_iconst (v := 2) hx hb dL_law_623 (by decide) ?_
      refine lv_iadd hx hb dL_law_624 ?_
      refine xr_top (nI_add i 2) ?_
      refine xr_sld C0 hX hbl hbA hS (j := i + 2) (by omega) (by omega) dL_law_625 ?_
      refine lv_aload_n hx hb dL_law_626 rfl (lv_at hl 5 rfl) ?_
      refine lv_iload hx hb dL_law_627 (lv_at hl 1 rfl) ?_
      refine lv_iconst (v := 3) hx hb dL_law_629 (by decide) ?_
      refine lv_iadd hx hb dL_law_630 ?_
      refine xr_top (nI_add i 3) ?_
      refine xr_sld C0 hX hbl hbA hS (j := i + 3) (by omega) (by omega) dL_law_631 ?_
      refine lv_if_eq hx hb dL_law_632 rfl (fun h => absurd h hb0) (fun h => ?_)
      refine lv_iconst (v := 1) hx hb dL_law_635 (by decide) ?_
      refine lv_goto hx hb dL_law_636 rfl ?_
      have hP := hP.sub (ws' := rs_LM q t qo cI cL (n) (f) (g) (sf) (sg) (r) (vp_updL fo 0 (nI z1).toInt64) (k) (n) (f) (g)) [7, 8, 9, 0, 1, 2, 3, 4, 5, 6] rfl
      have hD := hD.sub (ws' := rs_LM q t qo cI cL (n) (f) (g) (sf) (sg) (r) (vp_updL fo 0 (nI z1).toInt64) (k) (n) (f) (g)) [7, 8, 9, 0, 1, 2, 3, 4, 5, 6] (by decide) rfl
      refine xr_vcall (As := [.int (xs (i + 1)), .int (xs (i + 2)), .int 1]) (rest := []) (nA := 3) C0 (m_upTo0 l D t cI [(cL, .long)] (rs_X q cI (n) (f) (g) (sf) (sg) (r) ++ [(qo, .inl (cL, 1, .inr (.inl (vp_updL fo 0 (nI z1).toInt64))))]) _ (n) (k) (f) (g) (xs (i + 1)) (xs (i + 2)) 1 h1 h2 hn) (gV wM_L_X1_upTo wI_X1_upTo wV_X1_X1_upTo wN_X1 wC_X1_upTo) (by decide +kernel) rfl rfl rfl ⟨by decide, by decide⟩ hK hP hD hS hA 0 rfl rfl hl.1 rfl (Nat.le_of_ble_eq_true rfl) dL_law_640 (⟨hcs.1, hcs.2⟩) (fun v w H locs hv hP hD hz hS => ?_)
      obtain ⟨⟨z2, rfl, hz2⟩, rfl⟩ := hv
      obtain rfl := hz1.one hz2
      have hP := hP.sub (ws' := rs_L q t qo cI cL (n) (f) (g) (sf) (sg) (r) (vp_updL fo 0 (nI z1).toInt64) (0) (n) (f) (g)) [3, 4, 5, 6, 7, 8, 9, 0, 1, 2] rfl
      have hD := hD.sub (ws' := rs_L q t qo cI cL (n) (f) (g) (sf) (sg) (r) (vp_updL fo 0 (nI z1).toInt64) (0) (n) (f) (g)) [3, 4, 5, 6, 7, 8, 9, 0, 1, 2] (by decide) rfl
      refine lv_istore hx hb dL_law_643 hl (by decide) rfl (fun ls hl => ?_)
      have hl : lv_has ls 7 [(6, .int (nI z1)), (5, .int 0), (4, .int (nI i)), (3, .ref qo), (2, .ref (t 0)), (1, .ref (q 0)), (0, .ref b)] := hl
      refine lv_aload_n hx hb dL_law_645 rfl (lv_at hl 4 rfl) ?_
      have hP := hP.sub (ws' := rs_LM q t qo cI cL (n) (f) (g) (sf) (sg) (r) (vp_updL fo 0 (nI z1).toInt64) (0) (n) (f) (g)) [7, 8, 9, 0, 1, 2, 3, 4, 5, 6] rfl
      have hD := hD.sub (ws' := rs_LM q t qo cI cL (n) (f) (g) (sf) (sg) (r) (vp_updL fo 0 (nI z1).toInt64) (0) (n) (f) (g)) [7, 8, 9, 0, 1, 2, 3, 4, 5, 6] (by decide) rfl
      refine xr_vcall (As := []) (rest := []) (nA := 0) C0 (m_thrown l D t cI [(cL, .long)] (rs_X q cI (n) (f) (g) (sf) (sg) (r) ++ [(qo, .inl (cL, 1, .inr (.inl (vp_updL fo 0 (nI z1).toInt64))))]) _ (n) (0) (f) (g) ) (gV wM_L_X1_thrown wI_X1_thrown wV_X1_X1_thrown wN_X1 wC_X1_thrown) (by decide +kernel) rfl rfl rfl ⟨by decide, by decide⟩ hK hP hD hS hA 0 rfl rfl hl.1 rfl (Nat.le_of_ble_eq_true rfl) dL_law_646 (⟨hcs.1, hcs.2⟩) (fun v w H locs hv hP hD hz hS => ?_)
      obtain ⟨rfl, rfl⟩ := hv
      have hP := hP.sub (ws' := rs_L q t qo cI cL (n) (f) (g) (sf) (sg) (r) (vp_updL fo 0 (nI z1).toInt64) (0) (n) (f) (g)) [3, 4, 5, 6, 7, 8, 9, 0, 1, 2] rfl
      have hD := hD.sub (ws' := rs_L q t qo cI cL (n) (f) (g) (sf) (sg) (r) (vp_updL fo 0 (nI z1).toInt64) (0) (n) (f) (g)) [3, 4, 5, 6, 7, 8, 9, 0, 1, 2] (by decide) rfl
      refine lv_iload hx hb dL_law_649 (lv_at hl 1 rfl) ?_
      refine lv_icmp_eq hx hb dL_law_651 rfl (fun h => ?_) (fun h => absurd rfl h)
      refine lv_iload hx hb dL_law_656 (lv_at hl 1 rfl) ?_
      refine lv_if_ne hx hb dL_law_658 rfl (fun h => absurd rfl h) (fun h => ?_)
      refine lv_aload_n hx hb dL_law_661 rfl (lv_at hl 3 rfl) ?_
      refine lv_iconst (v := 0) hx hb dL_law_662 (by decide) ?_
      refine xr_lald0 C0 hK hP 6 rfl dL_law_663 ?_
      refine xr_topl pk_uLs ?_
      refine lv_iload hx hb dL_law_664 (lv_at hl 0 rfl) ?_
      refine lv_i2l hx hb dL_law_666 rfl ?_
      refine W.lcmp hx hb dL_law_667 ?_
      refine xr_top (rs_cmp _) ?_
      refine lv_if_eq hx hb dL_law_668 rfl (fun h => ?_) (fun h => absurd rfl h)
      refine lv_goto hx hb dL_law_673 rfl ?_
      have hl : lv_has ls 7 [(4, .int (nI i)), (3, .ref qo), (2, .ref (t 0)), (1, .ref (q 0)), (0, .ref b)] := lv_sub hl [2, 3, 4, 5, 6] rfl
      exact kk (n) (f) (g) (sf) (sg) (r) (vp_updL fo 0 (nI z1).toInt64) (0) H locs ls (hn) hP hD hS hl
set_option maxHeartbeats 4000000 in
set_option maxRecDepth 100000 in
/-- the law calls clear -/
theorem law_clear {p : Program} {l : Launch} {e : Env} {s : State} {m : MethodId} {args : Array Value} {below : List Frame} {meth : Method} {c : Code} {Q : State → Prop} {D : va_G} {A : Nat → Prop} {q t : Nat → Nat} {qo b L : Nat} {cI cL : ClassId} {xs : Nat → Int32} (hl0 : l.stackTraces = false) (C0 : CallFix p m c cL_law 7 s args lw_w RL) (hK : va_K D vwCl [(cI, .int), (cL, .long)] s) (hA : ∀ q, s.heap.size ≤ q → A q) (hX : va_X b L xs s s.heap) (hbl : b < s.heap.size) (hbA : ¬ A b) (hL : L ≤ 2048)
    (hZ : ∀ (H : Heap) (locs : List Loc), va_S A s.heap H locs → ∀ U : State, U.heap = H → s.WarmedH U.vm → xr_Zh U) {i n cells slots : Nat} {f g sf sg r : Nat → Int32} {fo : Nat → Int64} {k : Int32} {H : Heap} {locs : List Loc} {ls : Array Slot} (hi : i + 4 ≤ L) (hn : n ≤ 2000) (hcs : cells + 1 ≤ 1037 ∧ slots + 6 ≤ 22222)
    (hP : va_P D vwCl (rs_L q t qo cI cL n f g sf sg r fo k n f g) H) (hD : va_D A (rs_L q t qo cI cL n f g sf sg r fo k n f g)) (hS : va_S A s.heap H locs) (hl : lv_has ls 7 [(4, .int (nI i)), (3, .ref qo), (2, .ref (t 0)), (1, .ref (q 0)), (0, .ref b)])
    (kk : ∀ (n : Nat) (f g sf sg r : Nat → Int32) (fo : Nat → Int64) (k : Int32) (H : Heap) (locs : List Loc) (ls : Array Slot), n ≤ 2000 → va_P D vwCl (rs_L q t qo cI cL n f g sf sg r fo k n f g) H → va_D A (rs_L q t qo cI cL n f g sf sg r fo k n f g) → va_S A s.heap H locs → lv_has ls 7 [(4, .int (nI i)), (3, .ref qo), (2, .ref (t 0)), (1, .ref (q 0)), (0, .ref b)] → W p l e room_1 s m args below meth c H locs (cells + 1) (slots + 6) Q (F0 m 702 ls [])) : W p l e room_1 s m args below meth c H locs cells slots Q (F0 m 676 ls []) := by
  have hx := C0.1
  have hb := C0.2.1
  refine lv_aload_n hx hb dL_law_676 rfl (lv_at hl 3 rfl) ?_
  refine xr_vcall (As := []) (rest := []) (nA := 0) C0 (c_clear l D q cI [(cL, .long)] ((qo, .inl (cL, 1, .inr (.inl fo))) :: rs_M t cI k n f g) _ n f g sf sg r ) (gV wM_L_X0_clear wI_X0_clear wV_X0_X0_clear wN_X0 wC_X0_clear) (by decide +kernel) rfl rfl rfl ⟨by decide, by decide⟩ hK hP hD hS hA 0 rfl rfl hl.1 rfl (Nat.le_of_ble_eq_true rfl) dL_law_677 (⟨by have := hcs.1; show cells + 0 ≤ 1037; omega, by have := hcs.2; show slots + 0 ≤ 22222; omega⟩) (fun v w H locs hv hP hD hz hS => ?_)
  obtain ⟨rfl, rfl⟩ := hv
  refine lv_aload_n hx hb dL_law_680 rfl (lv_at hl 2 rfl) ?_
  have hP := hP.sub (ws' := rs_LM q t qo cI cL (0) (f) (g) (sf) (sg) (r) (fo) (k) (n) (f) (g)) [7, 8, 9, 0, 1, 2, 3, 4, 5, 6] rfl
  have hD := hD.sub (ws' := rs_LM q t qo cI cL (0) (f) (g) (sf) (sg) (r) (fo) (k) (n) (f) (g)) [7, 8, 9, 0, 1, 2, 3, 4, 5, 6] (by decide) rfl
  refine xr_vcall (As := []) (rest := [.int (nI n)]) (nA := 0) C0 (m_clear l D t cI [(cL, .long)] (rs_X q cI (0) (f) (g) (sf) (sg) (r) ++ [(qo, .inl (cL, 1, .inr (.inl (fo))))]) _ (n) (k) (f) (g) ) (gV wM_L_X1_clear wI_X1_clear wV_X1_X1_clear wN_X1 wC_X1_clear) (by decide +kernel) rfl rfl rfl ⟨by decide, by decide⟩ hK hP hD hS hA 0 rfl rfl hl.1 rfl (Nat.le_of_ble_eq_true rfl) dL_law_681 (⟨by have := hcs.1; show cells + 0 + 0 ≤ 1037; omega, by have := hcs.2; show slots + 0 + 0 ≤ 22222; omega⟩) (fun v w H locs hv hP hD hz hS => ?_)
  obtain ⟨rfl, rfl⟩ := hv
  have hP := hP.sub (ws' := rs_L q t qo cI cL (0) (f) (g) (sf) (sg) (r) (fo) (0) (0) (f) (g)) [3, 4, 5, 6, 7, 8, 9, 0, 1, 2] rfl
  have hD := hD.sub (ws' := rs_L q t qo cI cL (0) (f) (g) (sf) (sg) (r) (fo) (0) (0) (f) (g)) [3, 4, 5, 6, 7, 8, 9, 0, 1, 2] (by decide) rfl
  refine lv_icmp_eq hx hb dL_law_684 rfl (fun h => ?_) (fun h => absurd rfl h)
  refine W.widen (k := cells + 1) (n := slots + 6) (by omega) (by omega) ?_
  exact kk (0) (f) (g) (sf) (sg) (r) (fo) (0) H locs ls (Nat.zero_le _) hP hD hS hl
set_option maxHeartbeats 4000000 in
set_option maxRecDepth 100000 in
/-- the law calls hash -/
theorem law_hash {p : Program} {l : Launch} {e : Env} {s : State} {m : MethodId} {args : Array Value} {below : List Frame} {meth : Method} {c : Code} {Q : State → Prop} {D : va_G} {A : Nat → Prop} {q t : Nat → Nat} {qo b L : Nat} {cI cL : ClassId} {xs : Nat → Int32} (hl0 : l.stackTraces = false) (C0 : CallFix p m c cL_law 7 s args lw_w RL) (hK : va_K D vwCl [(cI, .int), (cL, .long)] s) (hA : ∀ q, s.heap.size ≤ q → A q) (hX : va_X b L xs s s.heap) (hbl : b < s.heap.size) (hbA : ¬ A b) (hL : L ≤ 2048)
    (hZ : ∀ (H : Heap) (locs : List Loc), va_S A s.heap H locs → ∀ U : State, U.heap = H → s.WarmedH U.vm → xr_Zh U) {i n cells slots : Nat} {f g sf sg r : Nat → Int32} {fo : Nat → Int64} {k : Int32} {H : Heap} {locs : List Loc} {ls : Array Slot} (hi : i + 4 ≤ L) (hn : n ≤ 2000) (hcs : cells + 1 ≤ 1037 ∧ slots + 6 ≤ 22222)
    (hP : va_P D vwCl (rs_L q t qo cI cL n f g sf sg r fo k n f g) H) (hD : va_D A (rs_L q t qo cI cL n f g sf sg r fo k n f g)) (hS : va_S A s.heap H locs) (hl : lv_has ls 7 [(4, .int (nI i)), (3, .ref qo), (2, .ref (t 0)), (1, .ref (q 0)), (0, .ref b)])
    (kk : ∀ (n : Nat) (f g sf sg r : Nat → Int32) (fo : Nat → Int64) (k : Int32) (H : Heap) (locs : List Loc) (ls : Array Slot), n ≤ 2000 → va_P D vwCl (rs_L q t qo cI cL n f g sf sg r fo k n f g) H → va_D A (rs_L q t qo cI cL n f g sf sg r fo k n f g) → va_S A s.heap H locs → lv_has ls 7 [(4, .int (nI i)), (3, .ref qo), (2, .ref (t 0)), (1, .ref (q 0)), (0, .ref b)] → W p l e room_1 s m args below meth c H locs (cells + 1) (slots + 6) Q (F0 m 702 ls [])) : W p l e room_1 s m args below meth c H locs cells slots Q (F0 m 689 ls []) := by
  have hx := C0.1
  have hb := C0.2.1
  refine lv_aload_n hx hb dL_law_689 rfl (lv_at hl 3 rfl) ?_
  refine xr_vcall (As := []) (rest := []) (nA := 0) C0 (c_hash l D q cI [(cL, .long)] ((qo, .inl (cL, 1, .inr (.inl fo))) :: rs_M t cI k n f g) _ n f g sf sg r hn) (gV wM_L_X0_hash wI_X0_hash wV_X0_X0_hash wN_X0 wC_X0_hash) (by decide +kernel) rfl rfl rfl ⟨by decide, by decide⟩ hK hP hD hS hA 0 rfl rfl hl.1 rfl (Nat.le_of_ble_eq_true rfl) dL_law_690 (⟨by have := hcs.1; show cells + 0 ≤ 1037; omega, by have := hcs.2; show slots + 0 ≤ 22222; omega⟩) (fun v w H locs hv hP hD hz hS => ?_)
  obtain ⟨rfl, rfl⟩ := hv
  refine lv_aload_n hx hb dL_law_693 rfl (lv_at hl 2 rfl) ?_
  have hP := hP.sub (ws' := rs_LM q t qo cI cL (n) (f) (g) (sf) (sg) (r) (fo) (k) (n) (f) (g)) [7, 8, 9, 0, 1, 2, 3, 4, 5, 6] rfl
  have hD := hD.sub (ws' := rs_LM q t qo cI cL (n) (f) (g) (sf) (sg) (r) (fo) (k) (n) (f) (g)) [7, 8, 9, 0, 1, 2, 3, 4, 5, 6] (by decide) rfl
  refine xr_vcall (As := []) (rest := [.int (rs_hs f g n)]) (nA := 0) C0 (m_hash l D t cI [(cL, .long)] (rs_X q cI (n) (f) (g) (sf) (sg) (r) ++ [(qo, .inl (cL, 1, .inr (.inl (fo))))]) _ (n) (k) (f) (g) hn) (gV wM_L_X1_hash wI_X1_hash wV_X1_X1_hash wN_X1 wC_X1_hash) (by decide +kernel) rfl rfl rfl ⟨by decide, by decide⟩ hK hP hD hS hA 0 rfl rfl hl.1 rfl (Nat.le_of_ble_eq_true rfl) dL_law_694 (⟨by have := hcs.1; show cells + 0 + 0 ≤ 1037; omega, by have := hcs.2; show slots + 0 + 0 ≤ 22222; omega⟩) (fun v w H locs hv hP hD hz hS => ?_)
  obtain ⟨rfl, rfl⟩ := hv
  have hP := hP.sub (ws' := rs_L q t qo cI cL (n) (f) (g) (sf) (sg) (r) (fo) (0) (n) (f) (g)) [3, 4, 5, 6, 7, 8, 9, 0, 1, 2] rfl
  have hD := hD.sub (ws' := rs_L q t qo cI cL (n) (f) (g) (sf) (sg) (r) (fo) (0) (n) (f) (g)) [3, 4, 5, 6, 7, 8, 9, 0, 1, 2] (by decide) rfl
  refine lv_icmp_eq hx hb dL_law_697 rfl (fun h => ?_) (fun h => absurd rfl h)
  refine W.widen (k := cells + 1) (n := slots + 6) (by omega) (by omega) ?_
  exact kk (n) (f) (g) (sf) (sg) (r) (fo) (0) H locs ls (hn) hP hD hS hl
end
section
/-! THE CLAIM OUT OF ONE WALK OF THE LAW'S BODY. Your part is whole_start (and what it stands on); all else here is the same for every law, but numbers. -/
def R_law : String := "RunSorterLaw"
def lw_P (b : Addr) (xs : List Int32) (args : Array Value) (s : State) : Prop := args = #[.ref b] ∧ s.IntsAt b xs ∧ xs.length ≤ 2048 ∧ (Jvm.Cond.and given_1 narrow_1).before args s = true
def lw_Q (_ : Array Value) (s : State) (o : Outcome) (t : State) : Prop := o = .returned (some (.int 1)) ∧ Framed s o t [] 1037 22222
def lw_Z (below : List Frame) (a : Array Value) (s : State) : State → Prop := fun t => ∃ o, t.status = .running ∧ Ended t below o ∧ lw_Q a s o t
/-- the law's own end, with 1 on the stack, nothing written that was there before, its room as the claim has it -/
theorem lw_ret {p : Program} {l : Launch} {e : Env} {s : State} {m : MethodId} {below : List Frame} {meth : Method} {c : Code} {b : Nat} (hx : p.tables.exec = Jvm.exec) (hb : c.code = code) (hr : meth.sig.returnType = ret) (hlocks : meth.locks = false) {pc : Nat} {H : Heap} {ls : Array Slot} (hdg : decode code pc = .ok (.ireturn, 1)) : W p l e room_1 s m #[Value.ref b] below meth c H [] 1037 22222 (lw_Z below #[Value.ref b] s) (F0 m pc ls [.int 1]) := by
  intro T hT X
  obtain ⟨fs, hret, hrun, hended, hW, hframe⟩ := X.leave (v := some (.int 1)) (hlocks := hlocks) (fun h => by rw [hr] at h; cases h)
  have hmeth' : T.vm.method? m = some meth := X.method'
  refine ⟨T.setFrames fs, ?_, .returned (some (.int 1)), hrun, hended, rfl, ⟨_, rfl⟩, hW, hframe⟩
  jvm_step X.here [X.here.top, hx, hb, hdg, hmeth', hr, ret, narrow_b1]
  (try refine ⟨rfl, ?_⟩); (try refine ⟨rfl, ?_⟩)
  first | (intro acts; rw [hret _ acts rfl rfl rfl]) | rw [hret _ _ rfl rfl rfl]
  exact Steps.refl _
/-- what holds at the law's entry: the machine, the code, the tables' words (any of lw_tbl by 'hts w (by decide +kernel)'), the script of L ints xs at the cell b, what the Statement gives of the start (any of its parts by flat_of_before) -/
def lw_At (p : Program) (s : State) (m : MethodId) (meth : Method) (c : Code) (b L : Nat) (xs : Nat → Int32) : Prop :=
  p.tables.exec = Jvm.exec ∧ c.code = code ∧ meth.sig.returnType = ret ∧ c.maxLocals = 7 ∧ s.vm.findClass R_law = some m.cls ∧ (∀ w ∈ lw_tbl, w.before #[Value.ref b] s = true) ∧ va_X b L xs s s.heap ∧ b < s.heap.size ∧ meth.locks = false ∧ (Jvm.Cond.and given_1 narrow_1).before #[Value.ref b] s = true
theorem law_know {s : State} {args : Array Value} (hts : ∀ w ∈ lw_w, w.before args s = true) : ∃ (D : va_G) (cI cL : ClassId), va_K D vwCl [(cI, .int), (cL, .long)] s := by
  obtain ⟨c0, i0, h0⟩ := u_known (C := RX0) (T := TX0) (N := 6) (n := 6) hts in_X0 (hts _ wB_X0)
  obtain ⟨c1, i1, h1⟩ := u_known (C := RX1) (T := TX1) (N := 4) (n := 4) hts in_X1 (hts _ wB_X1)
  obtain ⟨cI, kI, pI, a1, a2, a3⟩ := Cond.arrayClass_spec (hts _ wA_int)
  obtain ⟨cL, kL, pL, b1, b2, b3⟩ := Cond.arrayClass_spec (hts _ wA_long)
  refine ⟨(fun c => if c = 0 then c0 else c1, fun c => if c = 0 then i0 else i1), cI, cL, fun c q hq => ?_, fun k q hq => ?_⟩
  · match c, hq with
    | 0, hq => cases hq; exact h0
    | 1, hq => cases hq; exact h1
    | c + 2, hq => cases hq
  · match k, hq with
    | 0, hq => cases hq; exact ⟨fun n z => ⟨fun k h => (by cases h), kI, a2, pI, a3⟩, a1⟩
    | 1, hq => cases hq; exact ⟨fun n z => ⟨fun k h => (by cases h), kL, b2, pL, b3⟩, b1⟩
    | k + 2, hq => cases hq
set_option maxRecDepth 100000 in
theorem law_Z {s : State} {args : Array Value} {A : Nat → Prop} (hts : ∀ w ∈ lw_tbl, w.before args s = true) (hgv : (Jvm.Cond.and given_1 narrow_1).before args s = true) (hAo : ∀ a : Nat, a < s.heap.size → ¬ A a) (H : Heap) (locs : List Loc) (hS : va_S A s.heap H locs) (U : State) (hU : U.heap = H) (hW : s.WarmedH U.vm) : xr_Zh U := by
  have hs := flat_of_before _ hgv
  have z1 : vx_Zq Bundle.tN "UNASSIGNED_STACK" Bundle.steD A s s.heap := vx_Zqof (hts _ wlaysStatic_98) (hts _ (lw_w_in _ wN_Throwable)) (hs (.isRef (.static "java/lang/Throwable" "UNASSIGNED_STACK" "[Ljava/lang/StackTraceElement;")) (by decide +kernel)) hAo
  have z2 : vx_Zq Bundle.tN "SUPPRESSED_SENTINEL" Bundle.listD A s s.heap := vx_Zqof (hts _ wlaysStatic_100) (hts _ (lw_w_in _ wN_Throwable)) (hs (.isRef (.static "java/lang/Throwable" "SUPPRESSED_SENTINEL" "Ljava/util/List;")) (by decide +kernel)) hAo
  obtain ⟨a3, -, -, -, e3, -⟩ := Cond.exactly_spec (hs (.exactly (.string "RunSorter" 68) "java/lang/String") (by decide +kernel))
  obtain ⟨a4, -, -, -, e4, -⟩ := Cond.exactly_spec (hs (.exactly (.string "RunSorter" 75) "java/lang/String") (by decide +kernel))
  obtain ⟨a5, -, -, -, e5, -⟩ := Cond.exactly_spec (hs (.exactly (.string "RunSorter" 78) "java/lang/String") (by decide +kernel))
  refine ⟨⟨?_, ?_, ⟨a3, (vk_R.of (hts _ wstringRef_111) e3).warm hW⟩, ⟨a4, (vk_R.of (hts _ wstringRef_151) e4).warm hW⟩, ⟨a5, (vk_R.of (hts _ wstringRef_218) e5).warm hW⟩, va_Nw.warmC hW (va_Nw.of rfl (hts _ wcastable_73)), va_Nw.warmC hW (va_Nw.of rfl (hts _ wcastable_144)), va_Nw.warmD hW (va_Nw.of rfl (hts _ wdeclares_75)), va_Nw.warmD hW (va_Nw.of rfl (hts _ wdeclares_77)), va_Nw.warmD hW (va_Nw.of rfl (hts _ wdeclares_79))⟩, va_Nc.moved hW.alike (va_Nc.of (hs (.not (.castable "java/lang/IndexOutOfBoundsException" "java/lang/IllegalArgumentException")) (by decide +kernel)))⟩
  · rw [hU]; exact ((z1.kept hS.2.1).moved hW.alike).narrow (fun q h => h.elim)
  · rw [hU]; exact ((z2.kept hS.2.1).moved hW.alike).narrow (fun q h => h.elim)
theorem rs_lim {L i : Nat} (hL : L ≤ 2048) (hi : i ≤ 4096) (h : ¬ nI L - 4 < nI i) : i + 4 ≤ L := by
  have e := pk_sub_toInt (a := L) (b := 4) (by omega) (by omega)
  have h1 := rs_nlt h
  rw [Int32.le_iff_toInt_le, nI_toInt (by omega), show nI L - 4 = nI L - nI 4 from rfl, e] at h1
  omega
theorem rs_inc4 (i : Nat) : nI i + Int32.ofInt 4 = nI (i + 4) := by rw [lit4]; exact nI_add i 4
section XS
variable {p : Program} {l : Launch} {e : Env} {R : Room} {s : State} {m : MethodId} {args : Array Value} {below : List Frame} {meth : Method} {c : Code} {H : Heap} {locs : List Loc} {cells slots : Nat} {Q : State → Prop}
variable {D : va_G} {tys : List (ClassId × FieldType)} {A : Nat → Prop} {ws : va_W} {cc : ByteArray} {nL pc : Nat} {own : String} {ls : Array Slot} {st0 rest : List Value}
theorem xr_icall {idx maxL mc ms b : Nat} {y : MethodName} {bytes : ByteArray} {rm : Room} {post : Option Value → va_W → Prop}
    (C0 : CallFix p m c cc nL s args lw_w own) (hM : xr_Met l y (wU y bytes maxL none) rm [.ref b] D tys ws H.size post mc ms) (h5 : Cond.code y bytes maxL none ∈ lw_w) (hini : Cond.initialized y.cls ∈ lw_w) (hl : Cond.methodLink own idx y ∈ lw_w) (hin : Cond.instanceMethod y ∈ lw_w) (hy : y.name = "<init>")
    (hd : y.cls ≠ "java/lang/invoke/MethodHandle" ∧ y.cls ≠ "java/lang/invoke/VarHandle" ∧ (parseMethodDescriptor y.desc).map (fun d => d.parameters.length) = some 0) (hrc : rm.cells = mc) (hrs : rm.slots = ms) (hR : rm.frames + 1 ≤ R.frames ∧ 8 + (maxL + 11) + rm.locals ≤ R.locals)
    (hK : va_K D vwCl tys s) (hP : va_P D vwCl ws H) (hD : va_D A ws) (hS : va_S A s.heap H locs) (hA : ∀ q, s.heap.size ≤ q → A q) (hls : ls.size = nL) (hst : st0 = .ref b :: rest) (hW : (rest.map fun v => v.category).sum ≤ 8) (hdg : decode cc pc = .ok (.invokespecial idx, 3)) (hcs : cells + mc ≤ R.cells ∧ slots + ms ≤ R.slots)
    (kk : ∀ (v : Option Value) (w : va_W) (H1 : Heap) (locs1 : List Loc), post v w → va_P D vwCl w H1 → va_D A w → H.size ≤ H1.size → va_S A s.heap H1 locs1 → W p l e R s m args below meth c H1 locs1 (cells + mc) (slots + ms) Q (F0 m (pc + 3) ls (v.toList ++ rest))) : W p l e R s m args below meth c H locs cells slots Q (F0 m pc ls st0) :=
  xr_call (va_runI (As := []) (n := 0) C0 hM (cwI 0 C0.2.2.2.2 (gU (gC h5)) rfl hrc hrs (C0.2.2.2.2 _ hini) (C0.2.2.2.2 _ hl) (C0.2.2.2.2 _ hin) hy hd hR) ⟨xr_blind, xr_pre (av := [.ref b]) hP hK hD⟩ rfl rfl hls hst (lv_room hW) hdg hcs) hS (xr_free hD hS hA) kk
theorem xr_newl {cI cL : ClassId} {tyr : List (ClassId × FieldType)} (C0 : CallFix p m c cc nL s args lw_w own) (hK : va_K D vwCl ((cI, .int) :: (cL, .long) :: tyr) s) (hP : va_P D vwCl ws H) (hD : va_D A ws) (hS : va_S A s.heap H locs) (hA : ∀ q, s.heap.size ≤ q → A q) (hcells : cells + 1 ≤ R.cells) (hslots : slots + 1 ≤ R.slots) (hdg : decode cc pc = .ok (.newarray .long, 2))
    (kk : ∀ (q : Nat) (H1 : Heap), va_P D vwCl (ws ++ [(q, .inl (cL, 1, .inr (.inl (fun _ => 0))))]) H1 → va_D A (ws ++ [(q, .inl (cL, 1, .inr (.inl (fun _ => 0))))]) → va_S A s.heap H1 locs → W p l e R s m args below meth c H1 locs (cells + 1) (slots + 1) Q (F0 m (pc + 2) ls (.ref q :: rest))) : W p l e R s m args below meth c H locs cells slots Q (F0 m pc ls (.int 1 :: rest)) := by
  refine va_newa (atype := .long) (ty := .long) (N' := 1) (a0 := (1, .inr (.inl (fun _ => 0)))) C0.1 C0.2.1 (C0.2.2.2.2 _ wA_long) rfl hK hP hD hS hA (fun cA => rfl) (nI_pos (n := 1) (by decide)) (nI_clamp (n := 1) (by decide)) (by decide) hcells hslots hdg (fun q cA H1 hK1 hP1 hD1 hS1 => ?_)
  have h1 := (hK1.2 (((cI, FieldType.int) :: (cL, FieldType.long) :: tyr).length) (cA, .long) (by simp)).2
  have h2 := (hK.2 1 (cL, .long) rfl).2
  have h3 : cA = cL := Option.some.inj (Eq.trans (Eq.symm h1) h2)
  subst h3
  exact kk q H1 hP1 hD1 hS1
end XS
set_option maxHeartbeats 4000000 in
set_option maxRecDepth 100000 in
/-- the law's loop: from its head, u steps of four numbers done -/
theorem law_loop {p : Program} {l : Launch} {e : Env} {s : State} {m : MethodId} {below : List Frame} {meth : Method} {c : Code} {D : va_G} {A : Nat → Prop} {q t : Nat → Nat} {qo b L : Nat} {cI cL : ClassId} {xs : Nat → Int32} (hl0 : l.stackTraces = false) (C0 : CallFix p m c cL_law 7 s #[Value.ref b] lw_w RL) (hr : meth.sig.returnType = ret) (hlk : meth.locks = false) (hK : va_K D vwCl [(cI, .int), (cL, .long)] s) (hA : ∀ q, s.heap.size ≤ q → A q) (hA2 : ∀ q, A q → s.heap.size ≤ q) (hX : va_X b L xs s s.heap) (hbl : b < s.heap.size) (hbA : ¬ A b) (hL : L ≤ 2048)
    (hZ : ∀ (H : Heap) (locs : List Loc), va_S A s.heap H locs → ∀ U : State, U.heap = H → s.WarmedH U.vm → xr_Zh U) : ∀ (j u n : Nat) (f g sf sg r : Nat → Int32) (fo : Nat → Int64) (k : Int32) (H : Heap) (locs : List Loc) (ls : Array Slot), L ≤ 4 * u + j → u ≤ 512 → n ≤ 2000 →
    va_P D vwCl (rs_L q t qo cI cL n f g sf sg r fo k n f g) H → va_D A (rs_L q t qo cI cL n f g sf sg r fo k n f g) → va_S A s.heap H locs → lv_has ls 7 [(4, .int (nI (4 * u))), (3, .ref qo), (2, .ref (t 0)), (1, .ref (q 0)), (0, .ref b)] → W p l e room_1 s m #[Value.ref b] below meth c H locs (20 + u) (14100 + 6 * u) (lw_Z below #[Value.ref b] s) (F0 m 23 ls []) := by
  have hx := C0.1
  have hb := C0.2.1
  have fin : ∀ (u : Nat) (H : Heap) (locs : List Loc) (ls : Array Slot), u ≤ 512 → va_S A s.heap H locs → W p l e room_1 s m #[Value.ref b] below meth c H locs (20 + u) (14100 + 6 * u) (lw_Z below #[Value.ref b] s) (F0 m 708 ls []) := by
    intro u H locs ls hu hS
    refine lv_iconst (v := 1) hx hb dL_law_708 (by decide) ?_
    refine va_forget (fun q hq => hA2 _ (hS.2.2 q hq)) ?_
    refine W.widen (k := 1037) (n := 22222) (by omega) (by omega) ?_
    exact lw_ret hx hb hr hlk dL_law_709
  intro j
  induction j with
  | zero =>
    intro u n f g sf sg r fo k H locs ls hLu hu hn hP hD hS hl
    refine lv_iload hx hb dL_law_23 (lv_at hl 0 rfl) ?_
    refine lv_aload_n hx hb dL_law_25 rfl (lv_at hl 4 rfl) ?_
    refine va_slen hx hb hX hbl hbA hS dL_law_26 ?_
    refine lv_iconst (v := 4) hx hb dL_law_27 (by decide) ?_
    refine lv_isub hx hb dL_law_28 ?_
    refine lv_icmp_gt hx hb dL_law_29 rfl (fun h => ?_) (fun h => absurd (rs_lim hL (by omega) h) (by omega))
    exact fin u H locs ls hu hS
  | succ j ih =>
    intro u n f g sf sg r fo k H locs ls hLu hu hn hP hD hS hl
    refine lv_iload hx hb dL_law_23 (lv_at hl 0 rfl) ?_
    refine lv_aload_n hx hb dL_law_25 rfl (lv_at hl 4 rfl) ?_
    refine va_slen hx hb hX hbl hbA hS dL_law_26 ?_
    refine lv_iconst (v := 4) hx hb dL_law_27 (by decide) ?_
    refine lv_isub hx hb dL_law_28 ?_
    refine lv_icmp_gt hx hb dL_law_29 rfl (fun h => ?_) (fun h => ?_)
    · exact fin u H locs ls hu hS
    · have hi := rs_lim hL (by omega) h
      have next : ∀ (n : Nat) (f g sf sg r : Nat → Int32) (fo : Nat → Int64) (k : Int32) (H : Heap) (locs : List Loc) (ls : Array Slot), n ≤ 2000 → va_P D vwCl (rs_L q t qo cI cL n f g sf sg r fo k n f g) H → va_D A (rs_L q t qo cI cL n f g sf sg r fo k n f g) → va_S A s.heap H locs → lv_has ls 7 [(4, .int (nI (4 * u))), (3, .ref qo), (2, .ref (t 0)), (1, .ref (q 0)), (0, .ref b)] → W p l e room_1 s m #[Value.ref b] below meth c H locs (20 + u + 1) (14100 + 6 * u + 6) (lw_Z below #[Value.ref b] s) (F0 m 702 ls []) := by
        intro n f g sf sg r fo k H locs ls hn hP hD hS hl
        refine lv_iinc (k := 0) hx hb dL_law_702 hl rfl (rs_inc4 (4 * u)) (by decide) rfl (fun ls hl => ?_)
        have hl : lv_has ls 7 [(4, .int (nI (4 * u + 4))), (3, .ref qo), (2, .ref (t 0)), (1, .ref (q 0)), (0, .ref b)] := hl
        refine lv_goto hx hb dL_law_705 rfl ?_
        have hl : lv_has ls 7 [(4, .int (nI (4 * (u + 1)))), (3, .ref qo), (2, .ref (t 0)), (1, .ref (q 0)), (0, .ref b)] := hl
        refine W.cs (cells' := 20 + (u + 1)) (slots' := 14100 + 6 * (u + 1)) (by omega) (by omega) ?_
        exact ih (u + 1) n f g sf sg r fo k H locs ls (by omega) (by omega) hn hP hD hS hl
      refine lv_aload_n hx hb dL_law_32 rfl (lv_at hl 4 rfl) ?_
      refine lv_iload hx hb dL_law_33 (lv_at hl 0 rfl) ?_
      refine xr_sld C0 hX hbl hbA hS (j := 4 * u) (by omega) (by omega) dL_law_35 ?_
      refine lv_bipush (v := 15) hx hb dL_law_36 (by decide) ?_
      refine lv_iand hx hb dL_law_38 ?_
      obtain ⟨o, ho, eo⟩ := pk_andE (xs (4 * u)) (m := 15) 4 (by decide)
      refine xr_top eo ?_
      have hcs : 20 + u + 1 ≤ 1037 ∧ 14100 + 6 * u + 6 ≤ 22222 := by omega
      rcases (show o = 0 ∨ o = 1 ∨ o = 2 ∨ o = 3 ∨ o = 4 ∨ o = 5 ∨ o = 6 ∨ o = 7 ∨ o = 8 ∨ o = 9 ∨ 10 ≤ o by omega) with rfl | rfl | rfl | rfl | rfl | rfl | rfl | rfl | rfl | rfl | hge
      · refine lv_tableIn (off := 53) (tgt := 92) hx hb dL_law_39 (by decide) (by decide) (by decide) (by decide) ?_
        exact law_fill hl0 C0 hK hA hX hbl hbA hL hZ hi hn hcs hP hD hS hl next
      · refine lv_tableIn (off := 133) (tgt := 172) hx hb dL_law_39 (by decide) (by decide) (by decide) (by decide) ?_
        exact law_scatter hl0 C0 hK hA hX hbl hbA hL hZ hi hn hcs hP hD hS hl next
      · refine lv_tableIn (off := 213) (tgt := 252) hx hb dL_law_39 (by decide) (by decide) (by decide) (by decide) ?_
        exact law_sort hl0 C0 hK hA hX hbl hbA hL hZ hi hn hcs hP hD hS hl next
      · refine lv_tableIn (off := 293) (tgt := 332) hx hb dL_law_39 (by decide) (by decide) (by decide) (by decide) ?_
        exact law_get hl0 C0 hK hA hX hbl hbA hL hZ hi hn hcs hP hD hS hl next
      · refine lv_tableIn (off := 349) (tgt := 388) hx hb dL_law_39 (by decide) (by decide) (by decide) (by decide) ?_
        exact law_tag hl0 C0 hK hA hX hbl hbA hL hZ hi hn hcs hP hD hS hl next
      · refine lv_tableIn (off := 405) (tgt := 444) hx hb dL_law_39 (by decide) (by decide) (by decide) (by decide) ?_
        exact law_set hl0 C0 hK hA hX hbl hbA hL hZ hi hn hcs hP hD hS hl next
      · refine lv_tableIn (off := 473) (tgt := 512) hx hb dL_law_39 (by decide) (by decide) (by decide) (by decide) ?_
        exact law_turn hl0 C0 hK hA hX hbl hbA hL hZ hi hn hcs hP hD hS hl next
      · refine lv_tableIn (off := 541) (tgt := 580) hx hb dL_law_39 (by decide) (by decide) (by decide) (by decide) ?_
        exact law_upTo hl0 C0 hK hA hX hbl hbA hL hZ hi hn hcs hP hD hS hl next
      · refine lv_tableIn (off := 637) (tgt := 676) hx hb dL_law_39 (by decide) (by decide) (by decide) (by decide) ?_
        exact law_clear hl0 C0 hK hA hX hbl hbA hL hZ hi hn hcs hP hD hS hl next
      · refine lv_tableIn (off := 650) (tgt := 689) hx hb dL_law_39 (by decide) (by decide) (by decide) (by decide) ?_
        exact law_hash hl0 C0 hK hA hX hbl hbA hL hZ hi hn hcs hP hD hS hl next
      · refine lv_tableOut (tgt := 702) hx hb dL_law_39 (Or.inr (by rw [nI_toInt (by omega)]; omega)) (by decide) ?_
        refine W.widen (k := 20 + u + 1) (n := 14100 + 6 * u + 6) (by omega) (by omega) ?_
        exact next n f g sf sg r fo k H locs ls hn hP hD hS hl
set_option maxHeartbeats 4000000 in
set_option maxRecDepth 100000 in
/-- from the entry, for every script of at most 2048 ints, the law comes to its end with true -/
theorem whole_start {p : Program} {e : Env} {s : State} {m : MethodId} {below : List Frame} {meth : Method} {c : Code} (l : Launch) (hl0 : l.stackTraces = false) {b L : Nat} {xs : Nat → Int32} (hL : L ≤ 2048) (C0 : lw_At p s m meth c b L xs) : W p l e room_1 s m #[Value.ref b] below meth c s.heap [] 0 0 (lw_Z below #[Value.ref b] s) (entryFrame m ([Value.ref b] : List Value).toArray 7) := by
  obtain ⟨hx, hb, hr, hml, hown, hts, hX, hbl, hlk, hgv⟩ := C0
  have C0 : CallFix p m c cL_law 7 s #[Value.ref b] lw_w RL := ⟨hx, hb, hml, hown, fun w h => hts w (lw_w_in w h)⟩
  obtain ⟨D, cI, cL, hK⟩ := law_know (fun w h => hts w (lw_w_in w h))
  obtain ⟨A, hAe⟩ : ∃ A : Nat → Prop, A = fun q => s.heap.size ≤ q := ⟨_, rfl⟩
  have hA : ∀ q, s.heap.size ≤ q → A q := fun q h => by rw [hAe]; exact h
  have hA2 : ∀ q, A q → s.heap.size ≤ q := fun q h => by rw [hAe] at h; exact h
  have hbA : ¬ A b := fun h => absurd (hA2 b h) (by omega)
  have hZ := law_Z (A := A) hts hgv (fun a ha h => absurd (hA2 a h) (by omega))
  have hS : va_S A s.heap s.heap [] := va_S.rf
  have hP : va_P D vwCl [] s.heap := fun k q h => by simp at h
  have hD : va_D A [] := ⟨fun i j x y h => by simp at h, fun k q h => by simp at h⟩
  have hl := lv_entry ([.ref b]) (n := 7) (Nat.le_of_ble_eq_true rfl)
  rw [lg_entry_eq]
  generalize (lg_sl ([Value.ref b]) ++ List.replicate (7 - (lg_sl ([Value.ref b])).length) Slot.unset).toArray = ls at hl ⊢
  have hl : lv_has ls 7 [(0, .ref b)] := hl
  refine va_new (ci := 0) (fs := [.null, .null, .int 0, .null, .null, .null]) (C := RX0) (T := TX0) (N := 6) hx hb C0.2.2.2.2 in_X0 tyX0 tyX0_ok hown (C0.2.2.2.2 _ wK_L_X0) (C0.2.2.2.2 _ wB_X0) (C0.2.2.2.2 _ wN_X0) hK hP hD hS hA rfl (fun j hj => by rcases (show j = 0 ∨ j = 1 ∨ j = 2 ∨ j = 3 ∨ j = 4 ∨ j = 5 by omega) with rfl | rfl | rfl | rfl | rfl | rfl <;> rfl) (by decide) (by decide) dL_law_0 (fun x0 H hP hD hS => ?_)
  have hP : va_P D vwCl [(x0, .inr (0, [.null, .null, .int 0, .null, .null, .null]))] H := hP
  have hD : va_D A [(x0, .inr (0, [.null, .null, .int 0, .null, .null, .null]))] := hD
  refine lv_dup hx hb dL_law_3 rfl ?_
  refine xr_icall (rest := [.ref x0]) C0 (c_init l D cI [(cL, .long)] _ x0) wC_X0_init wN_X0 wM_L_X0_init wI_X0_init rfl (by decide +kernel) rfl rfl ⟨by decide, by decide⟩ hK hP hD hS hA hl.1 rfl (Nat.le_of_ble_eq_true rfl) dL_law_4 ⟨by decide, by decide⟩ (fun v w H9 locs9 hv hP9 hD9 hz hS9 => ?_)
  obtain ⟨rfl, q, hq0, rfl⟩ := hv
  subst hq0
  have hP := hP9
  have hD := hD9
  have hS := hS9
  refine lv_astore_n hx hb dL_law_7 rfl hl (by decide) rfl (fun ls hl => ?_)
  have hl : lv_has ls 7 [(1, .ref (q 0)), (0, .ref b)] := hl
  refine va_new (ci := 1) (fs := [.int 0, .int 0, .null, .null]) (C := RX1) (T := TX1) (N := 4) hx hb C0.2.2.2.2 in_X1 tyX1 tyX1_ok hown (C0.2.2.2.2 _ wK_L_X1) (C0.2.2.2.2 _ wB_X1) (C0.2.2.2.2 _ wN_X1) hK hP hD hS hA rfl (fun j hj => by rcases (show j = 0 ∨ j = 1 ∨ j = 2 ∨ j = 3 by omega) with rfl | rfl | rfl | rfl <;> rfl) (by decide) (by decide) dL_law_8 (fun x1 H hP hD hS => ?_)
  have hP : va_P D vwCl (rs_X q cI 0 (fun _ => 0) (fun _ => 0) (fun _ => 0) (fun _ => 0) (fun _ => 0) ++ [(x1, .inr (1, [.int 0, .int 0, .null, .null]))]) H := hP
  have hD : va_D A (rs_X q cI 0 (fun _ => 0) (fun _ => 0) (fun _ => 0) (fun _ => 0) (fun _ => 0) ++ [(x1, .inr (1, [.int 0, .int 0, .null, .null]))]) := hD
  refine lv_dup hx hb dL_law_11 rfl ?_
  refine xr_icall (rest := [.ref x1]) C0 (m_init l D q cI [(cL, .long)] _ 0 x1 (fun _ => 0) (fun _ => 0) (fun _ => 0) (fun _ => 0) (fun _ => 0)) wC_X1_init wN_X1 wM_L_X1_init wI_X1_init rfl (by decide +kernel) rfl rfl ⟨by decide, by decide⟩ hK hP hD hS hA hl.1 rfl (Nat.le_of_ble_eq_true rfl) dL_law_12 ⟨by decide, by decide⟩ (fun v w H8 locs8 hv hP8 hD8 hz hS8 => ?_)
  obtain ⟨rfl, t, ht0, rfl⟩ := hv
  subst ht0
  have hP := hP8
  have hD := hD8
  have hS := hS8
  refine lv_astore_n hx hb dL_law_15 rfl hl (by decide) rfl (fun ls hl => ?_)
  have hl : lv_has ls 7 [(2, .ref (t 0)), (1, .ref (q 0)), (0, .ref b)] := hl
  refine lv_iconst (v := 1) hx hb dL_law_16 (by decide) ?_
  refine xr_newl C0 hK hP hD hS hA (by decide) (by decide) dL_law_17 (fun qo H hP hD hS => ?_)
  have hP := hP.sub (ws' := rs_L q t qo cI cL 0 (fun _ => 0) (fun _ => 0) (fun _ => 0) (fun _ => 0) (fun _ => 0) (fun _ => 0) 0 0 (fun _ => 0) (fun _ => 0)) [0, 1, 2, 3, 4, 5, 9, 6, 7, 8] rfl
  have hD := hD.sub (ws' := rs_L q t qo cI cL 0 (fun _ => 0) (fun _ => 0) (fun _ => 0) (fun _ => 0) (fun _ => 0) (fun _ => 0) 0 0 (fun _ => 0) (fun _ => 0)) [0, 1, 2, 3, 4, 5, 9, 6, 7, 8] (by decide) rfl
  refine lv_astore_n hx hb dL_law_19 rfl hl (by decide) rfl (fun ls hl => ?_)
  have hl : lv_has ls 7 [(3, .ref qo), (2, .ref (t 0)), (1, .ref (q 0)), (0, .ref b)] := hl
  refine lv_iconst (v := 0) hx hb dL_law_20 (by decide) ?_
  refine lv_istore hx hb dL_law_21 hl (by decide) rfl (fun ls hl => ?_)
  have hl : lv_has ls 7 [(4, .int (nI (4 * 0))), (3, .ref qo), (2, .ref (t 0)), (1, .ref (q 0)), (0, .ref b)] := hl
  refine W.widen (k := 20 + 0) (n := 14100 + 6 * 0) (by decide) (by decide) ?_
  exact law_loop hl0 C0 hr hlk hK hA hA2 hX hbl hbA hL hZ L 0 0 (fun _ => 0) (fun _ => 0) (fun _ => 0) (fun _ => 0) (fun _ => 0) (fun _ => 0) 0 H _ ls (by omega) (by decide) (by decide) hP hD hS hl
set_option maxHeartbeats 4000000 in
theorem lw_walk (l : Launch) (hl0 : l.stackTraces = false) (b : Addr) (xs : List Int32) : MetFree l x (headSpec (Jvm.Cond.code x code maxLocals ret :: tables_1) room_1) (lw_P b xs) (fun _ _ _ _ _ => True) lw_Q := by
  refine MetFree.of_bodyS (code := code) (maxLocals := maxLocals) (ret := ret) (by decide) ?_ ?_
  · intro args s m h hn
    obtain ⟨meth, c, h1, h2, h3, h4, h5, h6, -, -⟩ := Cond.code_spec hn (atoms_spec (ws := Jvm.Cond.code x code maxLocals ret :: tables_1) h _ List.mem_cons_self)
    exact ⟨meth, c, h1, h2, h3, h4, h5, h6⟩
  · intro p e s m args below meth c s₁ B hml0 hP _
    obtain ⟨rfl, hx, hbd, hgv⟩ := hP
    obtain ⟨scr, harrAt, hlist, hof, hsmall⟩ := hx
    obtain ⟨hcb, hkn, -, -⟩ := State.arrayAt?_spec harrAt
    have hown : s.vm.findClass R_law = some m.cls := findClass_of_methodNamed B.named
    have hts0 : ∀ c ∈ (Jvm.Cond.code x code maxLocals ret :: tables_1), c.before #[Value.ref b] s = true := atoms_spec (ws := Jvm.Cond.code x code maxLocals ret :: tables_1) B.pre
    have hts : ∀ w ∈ lw_tbl, w.before #[Value.ref b] s = true := k2_hts_sels lw_privs (fun w hw => hts0 w (List.mem_cons_of_mem _ hw)) lw_privs_ok
    have hml : c.maxLocals = 7 := B.maxLocals_eq (hts0 _ List.mem_cons_self)
    have X₀ : Stand p l e room_1 s m #[Value.ref b] below meth c s₁ [] 0 0 := Stand.of_body B
    have hh0 : s₁.heap = s.heap := by rw [B.state]; rfl
    have hsz : scr.slots.size = xs.length := by rw [← Array.length_toList, hlist, List.length_map]
    have hval : ∀ j : Nat, j < xs.length → scr.slots[j]? = some (.int (xs.getD j 0)) := fun j hj => by
      rw [← Array.getElem?_toList, hlist]
      simp [hj]
    have hbl : b < s.heap.size := (Array.getElem?_eq_some_iff.mp hcb).1
    have hX : va_X b xs.length (fun j => xs.getD j 0) s s.heap := ⟨scr, hcb, hof, hkn, hsz, hval⟩
    have K : W p l e room_1 s m #[Value.ref b] below meth c s₁.heap [] 0 0 (lw_Z below #[Value.ref b] s) (entryFrame m ([Value.ref b] : List Value).toArray 7) := by
      rw [hh0]
      exact whole_start l hl0 hbd ⟨B.exec, B.bytes, B.returns, hml, hown, hts, hX, hbl, B.notSynchronized, hgv⟩
    obtain ⟨t, a1, o, b1, b2, b3⟩ := K s₁ rfl X₀
    exact ⟨t, o, a1, b1, b2, b3⟩
theorem lw_pre_spec {args : Array Value} {s : State} (h : (Jvm.Cond.and given_1 narrow_1).before args s = true) (hr : rest_1_c.before args s = true) : ∃ (b : Addr) (xs : List Int32), lw_P b xs args s := by
  have hs := flat_of_before _ h
  have hq := flat_of_before _ hr
  have hc : (Cond.count 1).before args s = true := hs _ (by decide +kernel)
  have harr : (Cond.arrayOf (.arg 0) .int).before args s = true := hs _ (by decide +kernel)
  have hle : (Cond.le (.length (.arg 0)) (.int 2048)).before args s = true := hs _ (by decide +kernel)
  have hlen : (Cond.isInt (.length (.arg 0))).before args s = true := hq _ (by decide +kernel)
  have hall : (Cond.all (.arg 0) (.isInt (.elem (.arg 0) (.index 0)))).before args s = true := hq _ (by decide +kernel)
  obtain ⟨b, xs, hb, hx⟩ := State.ints_of_pre rfl harr hlen hall
  have hsm : xs.length < 2 ^ 31 := hx.choose_spec.2.2.2
  have hev : (Term.length (.arg 0)).eval args s none [] s = some (.int xs.length.toInt32) := hx.length_eval hb
  have hv := Cond.le_ints hev (show (Term.int 2048).eval args s none [] s = some (.int 2048) from rfl)
  have hd : xs.length.toInt32 ≤ 2048 := by
    simpa [Cond.before, Cond.holds, hv] using hle
  have hN : xs.length ≤ 2048 := (Int32.ofNat_le_ofNat hsm (by decide)).mp (show Int32.ofNat xs.length ≤ Int32.ofNat 2048 from hd)
  exact ⟨b, xs, Cond.one_arg hc (show args[0]? = some (.ref b) from hb), hx, hN, h⟩
theorem lw_comes (l : Launch) (hl0 : l.stackTraces = false) : Comes l x (Jvm.Cond.code x code maxLocals ret :: tables_1) room_1 (fun tb e args s => Calls_1 tb e args s ∧ rest_1 tb e args s ∧ Pre_1 tb e args s)
    (fun _ _ args s o t => lw_Q args s o t) := by
  intro p e ha hc hk s m args below hf hfit hheap happ hpre
  obtain ⟨b, xs, hP⟩ := lw_pre_spec hpre.2.2 hpre.2.1
  obtain ⟨k, o, h1, h2, h3, hQ⟩ := lw_walk l hl0 b xs p e ha hc hk s m args below hf ((Spec.applies_iff_loose hf).mp happ).1 hP trivial
  exact ⟨k, o, h1, h2, h3, hQ⟩
theorem lw_frame {s t : State} {o : Outcome} {args : Array Value} (h : Framed s o t [] 1037 22222) :
    Framed s o t (fieldLocs frame_1_writes args s ++ arrayLocs frame_1_arrays args s ++ staticLocs frame_1_statics s) 1037 22222 := h
theorem lw_limb (L : Cond) (hL : ∀ (args : Array Value) (s t : State), L.after args s (.returned (some (.int 1))) t = true) :
    ArmFor flags0 classFile x code maxLocals ret World_1 tables_1 room_1 Calls_1 rest_1 Pre_1
      (fun tb e a s o t => postC L tb e a s o t ∧ Framed s o t (fieldLocs frame_1_writes a s ++ arrayLocs frame_1_arrays a s ++ staticLocs frame_1_statics s) 1037 22222) := by
  intro l hfl _ _ p e ha hc hk s m args below hf hfit hheap happ hpre
  have hl0 : l.stackTraces = false := by rw [Launch.stackTraces, hfl]; decide +kernel
  obtain ⟨k, o, h1, h2, h3, rfl, hF⟩ := lw_comes l hl0 p e ha hc hk s m args below hf hfit hheap happ hpre
  exact ⟨k, _, h1, h2, h3, hL args s _, lw_frame hF⟩
theorem i_vc : Claimed_1_1 ∧ Claimed_1_2 := ⟨lw_limb limb_1_1 (fun args s t => by simp [limb_1_1, Cond.after, Cond.holds, Cond.value]), lw_limb limb_1_2 (fun args s t => Cond.after_iff.mpr (by
  first | (rw [show limb_1_2 = Cond.eq .result (.int 1) from rfl, Cond.eq_ints (x := 1) (y := 1) rfl rfl]; simp; done) | (simp [limb_1_2, Cond.value, Term.eval]; done)))⟩
end
