/-! THE CLAIM OUT OF ONE WALK OF THE LAW'S BODY. Your part is whole_start (and what it stands on); all else here is the same for every law, but numbers. -/
def R_law : String := "RunSorterLaw"
def lw_P (b : Addr) (xs : List Int32) (args : Array Value) (s : State) : Prop := args = #[.ref b] ∧ s.IntsAt b xs ∧ xs.length ≤ 2048 ∧ (Jvm.Cond.and given_1 narrow_1).before args s = true
def lw_Q (_ : Array Value) (s : State) (o : Outcome) (t : State) : Prop := o = .returned (some (.int 1)) ∧ Framed s o t [] 1037 22222
def lw_Z (below : List Frame) (a : Array Value) (s : State) : State → Prop := fun t => ∃ o, t.status = .running ∧ Ended t below o ∧ lw_Q a s o t
/-- the law's own end, with 1 on the stack, nothing written that was there before, its room as the claim has it -/
theorem lw_ret {p : Program} {l : Launch} {e : Env} {s : State} {m : MethodId} {below : List Frame} {meth : Method} {c : Code} {b : Nat} (hx : p.tables.exec = Jvm.exec) (hb : c.code = code) (hr : meth.sig.returnType = ret) (hlocks : meth.locks = false) {pc : Nat} {H : Heap} {ls : Array Slot} (hdg : decode code pc = .ok (.ireturn, 1)) : W p l e room_1 s m #[Value.ref b] below meth c H [] 1037 22222 (lw_Z below #[Value.ref b] s) (F0 m pc ls [.int 1]) := by
  intro T hT X
  obtain ⟨fs, hret, hrun, hended, hW, hframe⟩ := X.leave (v := some (.int 1)) (hlocks := hlocks) (fun h => by rw [hr] at h; cases h)
  have hmeth' : T.vm.method? m = some meth := X.method'
  refine ⟨T.setFrames fs, ?_, .returned (some (.int 1)), hrun, hended, rfl, ⟨_, rfl⟩, hW, hframe⟩
  jvm_step X.here [X.here.top, hx, hb, hdg, hmeth', hr, ret, narrow_b1]
  (try refine ⟨rfl, ?_⟩); (try refine ⟨rfl, ?_⟩)
  first | (intro acts; rw [hret _ acts rfl rfl rfl]) | rw [hret _ _ rfl rfl rfl]
  exact Steps.refl _
/-- what holds at the law's entry: the machine, the code, the tables' words (any of lw_tbl by 'hts w (by decide +kernel)'), the script of L ints xs at the cell b, what the Statement gives of the start (any of its parts by flat_of_before) -/
def lw_At (p : Program) (s : State) (m : MethodId) (meth : Method) (c : Code) (b L : Nat) (xs : Nat → Int32) : Prop :=
  p.tables.exec = Jvm.exec ∧ c.code = code ∧ meth.sig.returnType = ret ∧ c.maxLocals = 7 ∧ s.vm.findClass R_law = some m.cls ∧ (∀ w ∈ lw_tbl, w.before #[Value.ref b] s = true) ∧ va_X b L xs s s.heap ∧ b < s.heap.size ∧ meth.locks = false ∧ (Jvm.Cond.and given_1 narrow_1).before #[Value.ref b] s = true
theorem law_know {s : State} {args : Array Value} (hts : ∀ w ∈ lw_w, w.before args s = true) : ∃ (D : va_G) (cI cL : ClassId), va_K D vwCl [(cI, .int), (cL, .long)] s := by
  obtain ⟨c0, i0, h0⟩ := u_known (C := RX0) (T := TX0) (N := 6) (n := 6) hts in_X0 (hts _ wB_X0)
  obtain ⟨c1, i1, h1⟩ := u_known (C := RX1) (T := TX1) (N := 4) (n := 4) hts in_X1 (hts _ wB_X1)
  obtain ⟨cI, kI, pI, a1, a2, a3⟩ := Cond.arrayClass_spec (hts _ wA_int)
  obtain ⟨cL, kL, pL, b1, b2, b3⟩ := Cond.arrayClass_spec (hts _ wA_long)
  refine ⟨(fun c => if c = 0 then c0 else c1, fun c => if c = 0 then i0 else i1), cI, cL, fun c q hq => ?_, fun k q hq => ?_⟩
  · match c, hq with
    | 0, hq => cases hq; exact h0
    | 1, hq => cases hq; exact h1
    | c + 2, hq => cases hq
  · match k, hq with
    | 0, hq => cases hq; exact ⟨fun n z => ⟨fun k h => (by cases h), kI, a2, pI, a3⟩, a1⟩
    | 1, hq => cases hq; exact ⟨fun n z => ⟨fun k h => (by cases h), kL, b2, pL, b3⟩, b1⟩
    | k + 2, hq => cases hq
set_option maxRecDepth 100000 in
theorem law_Z {s : State} {args : Array Value} {A : Nat → Prop} (hts : ∀ w ∈ lw_tbl, w.before args s = true) (hgv : (Jvm.Cond.and given_1 narrow_1).before args s = true) (hAo : ∀ a : Nat, a < s.heap.size → ¬ A a) (H : Heap) (locs : List Loc) (hS : va_S A s.heap H locs) (U : State) (hU : U.heap = H) (hW : s.WarmedH U.vm) : xr_Zh U := by
  have hs := flat_of_before _ hgv
  have z1 : vx_Zq Bundle.tN "UNASSIGNED_STACK" Bundle.steD A s s.heap := vx_Zqof (hts _ wlaysStatic_98) (hts _ (lw_w_in _ wN_Throwable)) (hs (.isRef (.static "java/lang/Throwable" "UNASSIGNED_STACK" "[Ljava/lang/StackTraceElement;")) (by decide +kernel)) hAo
  have z2 : vx_Zq Bundle.tN "SUPPRESSED_SENTINEL" Bundle.listD A s s.heap := vx_Zqof (hts _ wlaysStatic_100) (hts _ (lw_w_in _ wN_Throwable)) (hs (.isRef (.static "java/lang/Throwable" "SUPPRESSED_SENTINEL" "Ljava/util/List;")) (by decide +kernel)) hAo
  obtain ⟨a3, -, -, -, e3, -⟩ := Cond.exactly_spec (hs (.exactly (.string "RunSorter" 68) "java/lang/String") (by decide +kernel))
  obtain ⟨a4, -, -, -, e4, -⟩ := Cond.exactly_spec (hs (.exactly (.string "RunSorter" 75) "java/lang/String") (by decide +kernel))
  obtain ⟨a5, -, -, -, e5, -⟩ := Cond.exactly_spec (hs (.exactly (.string "RunSorter" 78) "java/lang/String") (by decide +kernel))
  refine ⟨⟨?_, ?_, ⟨a3, (vk_R.of (hts _ wstringRef_111) e3).warm hW⟩, ⟨a4, (vk_R.of (hts _ wstringRef_151) e4).warm hW⟩, ⟨a5, (vk_R.of (hts _ wstringRef_218) e5).warm hW⟩, va_Nw.warmC hW (va_Nw.of rfl (hts _ wcastable_73)), va_Nw.warmC hW (va_Nw.of rfl (hts _ wcastable_144)), va_Nw.warmD hW (va_Nw.of rfl (hts _ wdeclares_75)), va_Nw.warmD hW (va_Nw.of rfl (hts _ wdeclares_77)), va_Nw.warmD hW (va_Nw.of rfl (hts _ wdeclares_79))⟩, va_Nc.moved hW.alike (va_Nc.of (hs (.not (.castable "java/lang/IndexOutOfBoundsException" "java/lang/IllegalArgumentException")) (by decide +kernel)))⟩
  · rw [hU]; exact ((z1.kept hS.2.1).moved hW.alike).narrow (fun q h => h.elim)
  · rw [hU]; exact ((z2.kept hS.2.1).moved hW.alike).narrow (fun q h => h.elim)
theorem rs_lim {L i : Nat} (hL : L ≤ 2048) (hi : i ≤ 4096) (h : ¬ nI L - 4 < nI i) : i + 4 ≤ L := by
  have e := pk_sub_toInt (a := L) (b := 4) (by omega) (by omega)
  have h1 := rs_nlt h
  rw [Int32.le_iff_toInt_le, nI_toInt (by omega), show nI L - 4 = nI L - nI 4 from rfl, e] at h1
  omega
theorem rs_inc4 (i : Nat) : nI i + Int32.ofInt 4 = nI (i + 4) := by rw [lit4]; exact nI_add i 4
section XS
variable {p : Program} {l : Launch} {e : Env} {R : Room} {s : State} {m : MethodId} {args : Array Value} {below : List Frame} {meth : Method} {c : Code} {H : Heap} {locs : List Loc} {cells slots : Nat} {Q : State → Prop}
variable {D : va_G} {tys : List (ClassId × FieldType)} {A : Nat → Prop} {ws : va_W} {cc : ByteArray} {nL pc : Nat} {own : String} {ls : Array Slot} {st0 rest : List Value}
theorem xr_icall {idx maxL mc ms b : Nat} {y : MethodName} {bytes : ByteArray} {rm : Room} {post : Option Value → va_W → Prop}
    (C0 : CallFix p m c cc nL s args lw_w own) (hM : xr_Met l y (wU y bytes maxL none) rm [.ref b] D tys ws H.size post mc ms) (h5 : Cond.code y bytes maxL none ∈ lw_w) (hini : Cond.initialized y.cls ∈ lw_w) (hl : Cond.methodLink own idx y ∈ lw_w) (hin : Cond.instanceMethod y ∈ lw_w) (hy : y.name = "<init>")
    (hd : y.cls ≠ "java/lang/invoke/MethodHandle" ∧ y.cls ≠ "java/lang/invoke/VarHandle" ∧ (parseMethodDescriptor y.desc).map (fun d => d.parameters.length) = some 0) (hrc : rm.cells = mc) (hrs : rm.slots = ms) (hR : rm.frames + 1 ≤ R.frames ∧ 8 + (maxL + 11) + rm.locals ≤ R.locals)
    (hK : va_K D vwCl tys s) (hP : va_P D vwCl ws H) (hD : va_D A ws) (hS : va_S A s.heap H locs) (hA : ∀ q, s.heap.size ≤ q → A q) (hls : ls.size = nL) (hst : st0 = .ref b :: rest) (hW : (rest.map fun v => v.category).sum ≤ 8) (hdg : decode cc pc = .ok (.invokespecial idx, 3)) (hcs : cells + mc ≤ R.cells ∧ slots + ms ≤ R.slots)
    (kk : ∀ (v : Option Value) (w : va_W) (H1 : Heap) (locs1 : List Loc), post v w → va_P D vwCl w H1 → va_D A w → H.size ≤ H1.size → va_S A s.heap H1 locs1 → W p l e R s m args below meth c H1 locs1 (cells + mc) (slots + ms) Q (F0 m (pc + 3) ls (v.toList ++ rest))) : W p l e R s m args below meth c H locs cells slots Q (F0 m pc ls st0) :=
  xr_call (va_runI (As := []) (n := 0) C0 hM (cwI 0 C0.2.2.2.2 (gU (gC h5)) rfl hrc hrs (C0.2.2.2.2 _ hini) (C0.2.2.2.2 _ hl) (C0.2.2.2.2 _ hin) hy hd hR) ⟨xr_blind, xr_pre (av := [.ref b]) hP hK hD⟩ rfl rfl hls hst (lv_room hW) hdg hcs) hS (xr_free hD hS hA) kk
theorem xr_newl {cI cL : ClassId} {tyr : List (ClassId × FieldType)} (C0 : CallFix p m c cc nL s args lw_w own) (hK : va_K D vwCl ((cI, .int) :: (cL, .long) :: tyr) s) (hP : va_P D vwCl ws H) (hD : va_D A ws) (hS : va_S A s.heap H locs) (hA : ∀ q, s.heap.size ≤ q → A q) (hcells : cells + 1 ≤ R.cells) (hslots : slots + 1 ≤ R.slots) (hdg : decode cc pc = .ok (.newarray .long, 2))
    (kk : ∀ (q : Nat) (H1 : Heap), va_P D vwCl (ws ++ [(q, .inl (cL, 1, .inr (.inl (fun _ => 0))))]) H1 → va_D A (ws ++ [(q, .inl (cL, 1, .inr (.inl (fun _ => 0))))]) → va_S A s.heap H1 locs → W p l e R s m args below meth c H1 locs (cells + 1) (slots + 1) Q (F0 m (pc + 2) ls (.ref q :: rest))) : W p l e R s m args below meth c H locs cells slots Q (F0 m pc ls (.int 1 :: rest)) := by
  refine va_newa (atype := .long) (ty := .long) (N' := 1) (a0 := (1, .inr (.inl (fun _ => 0)))) C0.1 C0.2.1 (C0.2.2.2.2 _ wA_long) rfl hK hP hD hS hA (fun cA => rfl) (nI_pos (n := 1) (by decide)) (nI_clamp (n := 1) (by decide)) (by decide) hcells hslots hdg (fun q cA H1 hK1 hP1 hD1 hS1 => ?_)
  have h1 := (hK1.2 (((cI, FieldType.int) :: (cL, FieldType.long) :: tyr).length) (cA, .long) (by simp)).2
  have h2 := (hK.2 1 (cL, .long) rfl).2
  have h3 : cA = cL := Option.some.inj (Eq.trans (Eq.symm h1) h2)
  subst h3
  exact kk q H1 hP1 hD1 hS1
end XS
set_option maxHeartbeats 4000000 in
set_option maxRecDepth 100000 in
/-- the law's loop: from its head, u steps of four numbers done -/
theorem law_loop {p : Program} {l : Launch} {e : Env} {s : State} {m : MethodId} {below : List Frame} {meth : Method} {c : Code} {D : va_G} {A : Nat → Prop} {q t : Nat → Nat} {qo b L : Nat} {cI cL : ClassId} {xs : Nat → Int32} (hl0 : l.stackTraces = false) (C0 : CallFix p m c cL_law 7 s #[Value.ref b] lw_w RL) (hr : meth.sig.returnType = ret) (hlk : meth.locks = false) (hK : va_K D vwCl [(cI, .int), (cL, .long)] s) (hA : ∀ q, s.heap.size ≤ q → A q) (hA2 : ∀ q, A q → s.heap.size ≤ q) (hX : va_X b L xs s s.heap) (hbl : b < s.heap.size) (hbA : ¬ A b) (hL : L ≤ 2048)
    (hZ : ∀ (H : Heap) (locs : List Loc), va_S A s.heap H locs → ∀ U : State, U.heap = H → s.WarmedH U.vm → xr_Zh U) : ∀ (j u n : Nat) (f g sf sg r : Nat → Int32) (fo : Nat → Int64) (k : Int32) (H : Heap) (locs : List Loc) (ls : Array Slot), L ≤ 4 * u + j → u ≤ 512 → n ≤ 2000 →
    va_P D vwCl (rs_L q t qo cI cL n f g sf sg r fo k n f g) H → va_D A (rs_L q t qo cI cL n f g sf sg r fo k n f g) → va_S A s.heap H locs → lv_has ls 7 [(4, .int (nI (4 * u))), (3, .ref qo), (2, .ref (t 0)), (1, .ref (q 0)), (0, .ref b)] → W p l e room_1 s m #[Value.ref b] below meth c H locs (20 + u) (14100 + 6 * u) (lw_Z below #[Value.ref b] s) (F0 m 23 ls []) := by
  have hx := C0.1
  have hb := C0.2.1
  have fin : ∀ (u : Nat) (H : Heap) (locs : List Loc) (ls : Array Slot), u ≤ 512 → va_S A s.heap H locs → W p l e room_1 s m #[Value.ref b] below meth c H locs (20 + u) (14100 + 6 * u) (lw_Z below #[Value.ref b] s) (F0 m 708 ls []) := by
    intro u H locs ls hu hS
    refine lv_iconst (v := 1) hx hb dL_law_708 (by decide) ?_
    refine va_forget (fun q hq => hA2 _ (hS.2.2 q hq)) ?_
    refine W.widen (k := 1037) (n := 22222) (by omega) (by omega) ?_
    exact lw_ret hx hb hr hlk dL_law_709
  intro j
  induction j with
  | zero =>
    intro u n f g sf sg r fo k H locs ls hLu hu hn hP hD hS hl
    refine lv_iload hx hb dL_law_23 (lv_at hl 0 rfl) ?_
    refine lv_aload_n hx hb dL_law_25 rfl (lv_at hl 4 rfl) ?_
    refine va_slen hx hb hX hbl hbA hS dL_law_26 ?_
    refine lv_iconst (v := 4) hx hb dL_law_27 (by decide) ?_
    refine lv_isub hx hb dL_law_28 ?_
    refine lv_icmp_gt hx hb dL_law_29 rfl (fun h => ?_) (fun h => absurd (rs_lim hL (by omega) h) (by omega))
    exact fin u H locs ls hu hS
  | succ j ih =>
    intro u n f g sf sg r fo k H locs ls hLu hu hn hP hD hS hl
    refine lv_iload hx hb dL_law_23 (lv_at hl 0 rfl) ?_
    refine lv_aload_n hx hb dL_law_25 rfl (lv_at hl 4 rfl) ?_
    refine va_slen hx hb hX hbl hbA hS dL_law_26 ?_
    refine lv_iconst (v := 4) hx hb dL_law_27 (by decide) ?_
    refine lv_isub hx hb dL_law_28 ?_
    refine lv_icmp_gt hx hb dL_law_29 rfl (fun h => ?_) (fun h => ?_)
    · exact fin u H locs ls hu hS
    · have hi := rs_lim hL (by omega) h
      have next : ∀ (n : Nat) (f g sf sg r : Nat → Int32) (fo : Nat → Int64) (k : Int32) (H : Heap) (locs : List Loc) (ls : Array Slot), n ≤ 2000 → va_P D vwCl (rs_L q t qo cI cL n f g sf sg r fo k n f g) H → va_D A (rs_L q t qo cI cL n f g sf sg r fo k n f g) → va_S A s.heap H locs → lv_has ls 7 [(4, .int (nI (4 * u))), (3, .ref qo), (2, .ref (t 0)), (1, .ref (q 0)), (0, .ref b)] → W p l e room_1 s m #[Value.ref b] below meth c H locs (20 + u + 1) (14100 + 6 * u + 6) (lw_Z below #[Value.ref b] s) (F0 m 702 ls []) := by
        intro n f g sf sg r fo k H locs ls hn hP hD hS hl
        refine lv_iinc (k := 0) hx hb dL_law_702 hl rfl (rs_inc4 (4 * u)) (by decide) rfl (fun ls hl => ?_)
        have hl : lv_has ls 7 [(4, .int (nI (4 * u + 4))), (3, .ref qo), (2, .ref (t 0)), (1, .ref (q 0)), (0, .ref b)] := hl
        refine lv_goto hx hb dL_law_705 rfl ?_
        have hl : lv_has ls 7 [(4, .int (nI (4 * (u + 1)))), (3, .ref qo), (2, .ref (t 0)), (1, .ref (q 0)), (0, .ref b)] := hl
        refine W.cs (cells' := 20 + (u + 1)) (slots' := 14100 + 6 * (u + 1)) (by omega) (by omega) ?_
        exact ih (u + 1) n f g sf sg r fo k H locs ls (by omega) (by omega) hn hP hD hS hl
      refine lv_aload_n hx hb dL_law_32 rfl (lv_at hl 4 rfl) ?_
      refine lv_iload hx hb dL_law_33 (lv_at hl 0 rfl) ?_
      refine xr_sld C0 hX hbl hbA hS (j := 4 * u) (by omega) (by omega) dL_law_35 ?_
      refine lv_bipush (v := 15) hx hb dL_law_36 (by decide) ?_
      refine lv_iand hx hb dL_law_38 ?_
      obtain ⟨o, ho, eo⟩ := pk_andE (xs (4 * u)) (m := 15) 4 (by decide)
      refine xr_top eo ?_
      have hcs : 20 + u + 1 ≤ 1037 ∧ 14100 + 6 * u + 6 ≤ 22222 := by omega
      rcases (show o = 0 ∨ o = 1 ∨ o = 2 ∨ o = 3 ∨ o = 4 ∨ o = 5 ∨ o = 6 ∨ o = 7 ∨ o = 8 ∨ o = 9 ∨ 10 ≤ o by omega) with rfl | rfl | rfl | rfl | rfl | rfl | rfl | rfl | rfl | rfl | hge
      · refine lv_tableIn (off := 53) (tgt := 92) hx hb dL_law_39 (by decide) (by decide) (by decide) (by decide) ?_
        exact law_fill hl0 C0 hK hA hX hbl hbA hL hZ hi hn hcs hP hD hS hl next
      · refine lv_tableIn (off := 133) (tgt := 172) hx hb dL_law_39 (by decide) (by decide) (by decide) (by decide) ?_
        exact law_scatter hl0 C0 hK hA hX hbl hbA hL hZ hi hn hcs hP hD hS hl next
      · refine lv_tableIn (off := 213) (tgt := 252) hx hb dL_law_39 (by decide) (by decide) (by decide) (by decide) ?_
        exact law_sort hl0 C0 hK hA hX hbl hbA hL hZ hi hn hcs hP hD hS hl next
      · refine lv_tableIn (off := 293) (tgt := 332) hx hb dL_law_39 (by decide) (by decide) (by decide) (by decide) ?_
        exact law_get hl0 C0 hK hA hX hbl hbA hL hZ hi hn hcs hP hD hS hl next
      · refine lv_tableIn (off := 349) (tgt := 388) hx hb dL_law_39 (by decide) (by decide) (by decide) (by decide) ?_
        exact law_tag hl0 C0 hK hA hX hbl hbA hL hZ hi hn hcs hP hD hS hl next
      · refine lv_tableIn (off := 405) (tgt := 444) hx hb dL_law_39 (by decide) (by decide) (by decide) (by decide) ?_
        exact law_set hl0 C0 hK hA hX hbl hbA hL hZ hi hn hcs hP hD hS hl next
      · refine lv_tableIn (off := 473) (tgt := 512) hx hb dL_law_39 (by decide) (by decide) (by decide) (by decide) ?_
        exact law_turn hl0 C0 hK hA hX hbl hbA hL hZ hi hn hcs hP hD hS hl next
      · refine lv_tableIn (off := 541) (tgt := 580) hx hb dL_law_39 (by decide) (by decide) (by decide) (by decide) ?_
        exact law_upTo hl0 C0 hK hA hX hbl hbA hL hZ hi hn hcs hP hD hS hl next
      · refine lv_tableIn (off := 637) (tgt := 676) hx hb dL_law_39 (by decide) (by decide) (by decide) (by decide) ?_
        exact law_clear hl0 C0 hK hA hX hbl hbA hL hZ hi hn hcs hP hD hS hl next
      · refine lv_tableIn (off := 650) (tgt := 689) hx hb dL_law_39 (by decide) (by decide) (by decide) (by decide) ?_
        exact law_hash hl0 C0 hK hA hX hbl hbA hL hZ hi hn hcs hP hD hS hl next
      · refine lv_tableOut (tgt := 702) hx hb dL_law_39 (Or.inr (by rw [nI_toInt (by omega)]; omega)) (by decide) ?_
        refine W.widen (k := 20 + u + 1) (n := 14100 + 6 * u + 6) (by omega) (by omega) ?_
        exact next n f g sf sg r fo k H locs ls hn hP hD hS hl
set_option maxHeartbeats 4000000 in
set_option maxRecDepth 100000 in
/-- from the entry, for every script of at most 2048 ints, the law comes to its end with true -/
theorem whole_start {p : Program} {e : Env} {s : State} {m : MethodId} {below : List Frame} {meth : Method} {c : Code} (l : Launch) (hl0 : l.stackTraces = false) {b L : Nat} {xs : Nat → Int32} (hL : L ≤ 2048) (C0 : lw_At p s m meth c b L xs) : W p l e room_1 s m #[Value.ref b] below meth c s.heap [] 0 0 (lw_Z below #[Value.ref b] s) (entryFrame m ([Value.ref b] : List Value).toArray 7) := by
  obtain ⟨hx, hb, hr, hml, hown, hts, hX, hbl, hlk, hgv⟩ := C0
  have C0 : CallFix p m c cL_law 7 s #[Value.ref b] lw_w RL := ⟨hx, hb, hml, hown, fun w h => hts w (lw_w_in w h)⟩
  obtain ⟨D, cI, cL, hK⟩ := law_know (fun w h => hts w (lw_w_in w h))
  obtain ⟨A, hAe⟩ : ∃ A : Nat → Prop, A = fun q => s.heap.size ≤ q := ⟨_, rfl⟩
  have hA : ∀ q, s.heap.size ≤ q → A q := fun q h => by rw [hAe]; exact h
  have hA2 : ∀ q, A q → s.heap.size ≤ q := fun q h => by rw [hAe] at h; exact h
  have hbA : ¬ A b := fun h => absurd (hA2 b h) (by omega)
  have hZ := law_Z (A := A) hts hgv (fun a ha h => absurd (hA2 a h) (by omega))
  have hS : va_S A s.heap s.heap [] := va_S.rf
  have hP : va_P D vwCl [] s.heap := fun k q h => by simp at h
  have hD : va_D A [] := ⟨fun i j x y h => by simp at h, fun k q h => by simp at h⟩
  have hl := lv_entry ([.ref b]) (n := 7) (Nat.le_of_ble_eq_true rfl)
  rw [lg_entry_eq]
  generalize (lg_sl ([Value.ref b]) ++ List.replicate (7 - (lg_sl ([Value.ref b])).length) Slot.unset).toArray = ls at hl ⊢
  have hl : lv_has ls 7 [(0, .ref b)] := hl
  refine va_new (ci := 0) (fs := [.null, .null, .int 0, .null, .null, .null]) (C := RX0) (T := TX0) (N := 6) hx hb C0.2.2.2.2 in_X0 tyX0 tyX0_ok hown (C0.2.2.2.2 _ wK_L_X0) (C0.2.2.2.2 _ wB_X0) (C0.2.2.2.2 _ wN_X0) hK hP hD hS hA rfl (fun j hj => by rcases (show j = 0 ∨ j = 1 ∨ j = 2 ∨ j = 3 ∨ j = 4 ∨ j = 5 by omega) with rfl | rfl | rfl | rfl | rfl | rfl <;> rfl) (by decide) (by decide) dL_law_0 (fun x0 H hP hD hS => ?_)
  have hP : va_P D vwCl [(x0, .inr (0, [.null, .null, .int 0, .null, .null, .null]))] H := hP
  have hD : va_D A [(x0, .inr (0, [.null, .null, .int 0, .null, .null, .null]))] := hD
  refine lv_dup hx hb dL_law_3 rfl ?_
  refine xr_icall (rest := [.ref x0]) C0 (c_init l D cI [(cL, .long)] _ x0) wC_X0_init wN_X0 wM_L_X0_init wI_X0_init rfl (by decide +kernel) rfl rfl ⟨by decide, by decide⟩ hK hP hD hS hA hl.1 rfl (Nat.le_of_ble_eq_true rfl) dL_law_4 ⟨by decide, by decide⟩ (fun v w H9 locs9 hv hP9 hD9 hz hS9 => ?_)
  obtain ⟨rfl, q, hq0, rfl⟩ := hv
  subst hq0
  have hP := hP9
  have hD := hD9
  have hS := hS9
  refine lv_astore_n hx hb dL_law_7 rfl hl (by decide) rfl (fun ls hl => ?_)
  have hl : lv_has ls 7 [(1, .ref (q 0)), (0, .ref b)] := hl
  refine va_new (ci := 1) (fs := [.int 0, .int 0, .null, .null]) (C := RX1) (T := TX1) (N := 4) hx hb C0.2.2.2.2 in_X1 tyX1 tyX1_ok hown (C0.2.2.2.2 _ wK_L_X1) (C0.2.2.2.2 _ wB_X1) (C0.2.2.2.2 _ wN_X1) hK hP hD hS hA rfl (fun j hj => by rcases (show j = 0 ∨ j = 1 ∨ j = 2 ∨ j = 3 by omega) with rfl | rfl | rfl | rfl <;> rfl) (by decide) (by decide) dL_law_8 (fun x1 H hP hD hS => ?_)
  have hP : va_P D vwCl (rs_X q cI 0 (fun _ => 0) (fun _ => 0) (fun _ => 0) (fun _ => 0) (fun _ => 0) ++ [(x1, .inr (1, [.int 0, .int 0, .null, .null]))]) H := hP
  have hD : va_D A (rs_X q cI 0 (fun _ => 0) (fun _ => 0) (fun _ => 0) (fun _ => 0) (fun _ => 0) ++ [(x1, .inr (1, [.int 0, .int 0, .null, .null]))]) := hD
  refine lv_dup hx hb dL_law_11 rfl ?_
  refine xr_icall (rest := [.ref x1]) C0 (m_init l D q cI [(cL, .long)] _ 0 x1 (fun _ => 0) (fun _ => 0) (fun _ => 0) (fun _ => 0) (fun _ => 0)) wC_X1_init wN_X1 wM_L_X1_init wI_X1_init rfl (by decide +kernel) rfl rfl ⟨by decide, by decide⟩ hK hP hD hS hA hl.1 rfl (Nat.le_of_ble_eq_true rfl) dL_law_12 ⟨by decide, by decide⟩ (fun v w H8 locs8 hv hP8 hD8 hz hS8 => ?_)
  obtain ⟨rfl, t, ht0, rfl⟩ := hv
  subst ht0
  have hP := hP8
  have hD := hD8
  have hS := hS8
  refine lv_astore_n hx hb dL_law_15 rfl hl (by decide) rfl (fun ls hl => ?_)
  have hl : lv_has ls 7 [(2, .ref (t 0)), (1, .ref (q 0)), (0, .ref b)] := hl
  refine lv_iconst (v := 1) hx hb dL_law_16 (by decide) ?_
  refine xr_newl C0 hK hP hD hS hA (by decide) (by decide) dL_law_17 (fun qo H hP hD hS => ?_)
  have hP := hP.sub (ws' := rs_L q t qo cI cL 0 (fun _ => 0) (fun _ => 0) (fun _ => 0) (fun _ => 0) (fun _ => 0) (fun _ => 0) 0 0 (fun _ => 0) (fun _ => 0)) [0, 1, 2, 3, 4, 5, 9, 6, 7, 8] rfl
  have hD := hD.sub (ws' := rs_L q t qo cI cL 0 (fun _ => 0) (fun _ => 0) (fun _ => 0) (fun _ => 0) (fun _ => 0) (fun _ => 0) 0 0 (fun _ => 0) (fun _ => 0)) [0, 1, 2, 3, 4, 5, 9, 6, 7, 8] (by decide) rfl
  refine lv_astore_n hx hb dL_law_19 rfl hl (by decide) rfl (fun ls hl => ?_)
  have hl : lv_has ls 7 [(3, .ref qo), (2, .ref (t 0)), (1, .ref (q 0)), (0, .ref b)] := hl
  refine lv_iconst (v := 0) hx hb dL_law_20 (by decide) ?_
  refine lv_istore hx hb dL_law_21 hl (by decide) rfl (fun ls hl => ?_)
  have hl : lv_has ls 7 [(4, .int (nI (4 * 0))), (3, .ref qo), (2, .ref (t 0)), (1, .ref (q 0)), (0, .ref b)] := hl
  refine W.widen (k := 20 + 0) (n := 14100 + 6 * 0) (by decide) (by decide) ?_
  exact law_loop hl0 C0 hr hlk hK hA hA2 hX hbl hbA hL hZ L 0 0 (fun _ => 0) (fun _ => 0) (fun _ => 0) (fun _ => 0) (fun _ => 0) (fun _ => 0) 0 H _ ls (by omega) (by decide) (by decide) hP hD hS hl
set_option maxHeartbeats 4000000 in
theorem lw_walk (l : Launch) (hl0 : l.stackTraces = false) (b : Addr) (xs : List Int32) : MetFree l x (headSpec (Jvm.Cond.code x code maxLocals ret :: tables_1) room_1) (lw_P b xs) (fun _ _ _ _ _ => True) lw_Q := by
  refine MetFree.of_bodyS (code := code) (maxLocals := maxLocals) (ret := ret) (by decide) ?_ ?_
  · intro args s m h hn
    obtain ⟨meth, c, h1, h2, h3, h4, h5, h6, -, -⟩ := Cond.code_spec hn (atoms_spec (ws := Jvm.Cond.code x code maxLocals ret :: tables_1) h _ List.mem_cons_self)
    exact ⟨meth, c, h1, h2, h3, h4, h5, h6⟩
  · intro p e s m args below meth c s₁ B hml0 hP _
    obtain ⟨rfl, hx, hbd, hgv⟩ := hP
    obtain ⟨scr, harrAt, hlist, hof, hsmall⟩ := hx
    obtain ⟨hcb, hkn, -, -⟩ := State.arrayAt?_spec harrAt
    have hown : s.vm.findClass R_law = some m.cls := findClass_of_methodNamed B.named
    have hts0 : ∀ c ∈ (Jvm.Cond.code x code maxLocals ret :: tables_1), c.before #[Value.ref b] s = true := atoms_spec (ws := Jvm.Cond.code x code maxLocals ret :: tables_1) B.pre
    have hts : ∀ w ∈ lw_tbl, w.before #[Value.ref b] s = true := k2_hts_sels lw_privs (fun w hw => hts0 w (List.mem_cons_of_mem _ hw)) lw_privs_ok
    have hml : c.maxLocals = 7 := B.maxLocals_eq (hts0 _ List.mem_cons_self)
    have X₀ : Stand p l e room_1 s m #[Value.ref b] below meth c s₁ [] 0 0 := Stand.of_body B
    have hh0 : s₁.heap = s.heap := by rw [B.state]; rfl
    have hsz : scr.slots.size = xs.length := by rw [← Array.length_toList, hlist, List.length_map]
    have hval : ∀ j : Nat, j < xs.length → scr.slots[j]? = some (.int (xs.getD j 0)) := fun j hj => by
      rw [← Array.getElem?_toList, hlist]
      simp [hj]
    have hbl : b < s.heap.size := (Array.getElem?_eq_some_iff.mp hcb).1
    have hX : va_X b xs.length (fun j => xs.getD j 0) s s.heap := ⟨scr, hcb, hof, hkn, hsz, hval⟩
    have K : W p l e room_1 s m #[Value.ref b] below meth c s₁.heap [] 0 0 (lw_Z below #[Value.ref b] s) (entryFrame m ([Value.ref b] : List Value).toArray 7) := by
      rw [hh0]
      exact whole_start l hl0 hbd ⟨B.exec, B.bytes, B.returns, hml, hown, hts, hX, hbl, B.notSynchronized, hgv⟩
    obtain ⟨t, a1, o, b1, b2, b3⟩ := K s₁ rfl X₀
    exact ⟨t, o, a1, b1, b2, b3⟩
theorem lw_pre_spec {args : Array Value} {s : State} (h : (Jvm.Cond.and given_1 narrow_1).before args s = true) (hr : rest_1_c.before args s = true) : ∃ (b : Addr) (xs : List Int32), lw_P b xs args s := by
  have hs := flat_of_before _ h
  have hq := flat_of_before _ hr
  have hc : (Cond.count 1).before args s = true := hs _ (by decide +kernel)
  have harr : (Cond.arrayOf (.arg 0) .int).before args s = true := hs _ (by decide +kernel)
  have hle : (Cond.le (.length (.arg 0)) (.int 2048)).before args s = true := hs _ (by decide +kernel)
  have hlen : (Cond.isInt (.length (.arg 0))).before args s = true := hq _ (by decide +kernel)
  have hall : (Cond.all (.arg 0) (.isInt (.elem (.arg 0) (.index 0)))).before args s = true := hq _ (by decide +kernel)
  obtain ⟨b, xs, hb, hx⟩ := State.ints_of_pre rfl harr hlen hall
  have hsm : xs.length < 2 ^ 31 := hx.choose_spec.2.2.2
  have hev : (Term.length (.arg 0)).eval args s none [] s = some (.int xs.length.toInt32) := hx.length_eval hb
  have hv := Cond.le_ints hev (show (Term.int 2048).eval args s none [] s = some (.int 2048) from rfl)
  have hd : xs.length.toInt32 ≤ 2048 := by
    simpa [Cond.before, Cond.holds, hv] using hle
  have hN : xs.length ≤ 2048 := (Int32.ofNat_le_ofNat hsm (by decide)).mp (show Int32.ofNat xs.length ≤ Int32.ofNat 2048 from hd)
  exact ⟨b, xs, Cond.one_arg hc (show args[0]? = some (.ref b) from hb), hx, hN, h⟩
theorem lw_comes (l : Launch) (hl0 : l.stackTraces = false) : Comes l x (Jvm.Cond.code x code maxLocals ret :: tables_1) room_1 (fun tb e args s => Calls_1 tb e args s ∧ rest_1 tb e args s ∧ Pre_1 tb e args s)
    (fun _ _ args s o t => lw_Q args s o t) := by
  intro p e ha hc hk s m args below hf hfit hheap happ hpre
  obtain ⟨b, xs, hP⟩ := lw_pre_spec hpre.2.2 hpre.2.1
  obtain ⟨k, o, h1, h2, h3, hQ⟩ := lw_walk l hl0 b xs p e ha hc hk s m args below hf ((Spec.applies_iff_loose hf).mp happ).1 hP trivial
  exact ⟨k, o, h1, h2, h3, hQ⟩
theorem lw_frame {s t : State} {o : Outcome} {args : Array Value} (h : Framed s o t [] 1037 22222) :
    Framed s o t (fieldLocs frame_1_writes args s ++ arrayLocs frame_1_arrays args s ++ staticLocs frame_1_statics s) 1037 22222 := h
theorem lw_limb (L : Cond) (hL : ∀ (args : Array Value) (s t : State), L.after args s (.returned (some (.int 1))) t = true) :
    ArmFor flags0 classFile x code maxLocals ret World_1 tables_1 room_1 Calls_1 rest_1 Pre_1
      (fun tb e a s o t => postC L tb e a s o t ∧ Framed s o t (fieldLocs frame_1_writes a s ++ arrayLocs frame_1_arrays a s ++ staticLocs frame_1_statics s) 1037 22222) := by
  intro l hfl _ _ p e ha hc hk s m args below hf hfit hheap happ hpre
  have hl0 : l.stackTraces = false := by rw [Launch.stackTraces, hfl]; decide +kernel
  obtain ⟨k, o, h1, h2, h3, rfl, hF⟩ := lw_comes l hl0 p e ha hc hk s m args below hf hfit hheap happ hpre
  exact ⟨k, _, h1, h2, h3, hL args s _, lw_frame hF⟩
theorem i_vc : Claimed_1_1 ∧ Claimed_1_2 := ⟨lw_limb limb_1_1 (fun args s t => by simp [limb_1_1, Cond.after, Cond.holds, Cond.value]), lw_limb limb_1_2 (fun args s t => Cond.after_iff.mpr (by
  first | (rw [show limb_1_2 = Cond.eq .result (.int 1) from rfl, Cond.eq_ints (x := 1) (y := 1) rfl rfl]; simp; done) | (simp [limb_1_2, Cond.value, Term.eval]; done)))⟩
