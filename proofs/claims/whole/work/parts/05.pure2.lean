/-! Pure rows: one insertion; one merge; the runs. -/
theorem rs_ins {o : Int32} {a j k : Nat} {f g f' g' : Nat → Int32} (h1 : a ≤ j) (h2 : j ≤ k) (hs : rs_So o (rs_sg f g a (k - a))) (hgt : ∀ i, j ≤ i → i < k → rs_rk o (f k) < rs_rk o (f i)) (hle : j = a ∨ rs_rk o (f (j - 1)) ≤ rs_rk o (f k))
    (hf : ∀ i, f' i = if i = j then f k else if j < i ∧ i ≤ k then f (i - 1) else f i) (hg : ∀ i, g' i = if i = j then g k else if j < i ∧ i ≤ k then g (i - 1) else g i) : rs_St o a (k + 1) f g f' g' := by
  have eA : rs_sg f' g' a (j - a) = rs_sg f g a (j - a) := rs_sg_cg (fun i h3 h4 => ⟨by rw [hf, if_neg (by omega), if_neg (by omega)], by rw [hg, if_neg (by omega), if_neg (by omega)]⟩)
  have eB : rs_sg f' g' (j + 1) (k - j) = rs_sg f g j (k - j) := rs_sg_eq (k - j) j (j + 1) (fun i hi => ⟨by rw [hf, if_neg (by omega), if_pos (by omega), show j + 1 + i - 1 = j + i by omega], by rw [hg, if_neg (by omega), if_pos (by omega), show j + 1 + i - 1 = j + i by omega]⟩)
  have e' : rs_sg f' g' a (k + 1 - a) = rs_sg f g a (j - a) ++ (f k, g k) :: rs_sg f g j (k - j) := by
    rw [rs_sg_cut f' g' h1 (show j ≤ k + 1 by omega), eA, rs_sg_hd f' g' (show j < k + 1 by omega), show k + 1 - (j + 1) = k - j by omega, eB, hf j, if_pos rfl, hg j, if_pos rfl]
  have e : rs_sg f g a (k + 1 - a) = rs_sg f g a (j - a) ++ (rs_sg f g j (k - j) ++ [(f k, g k)]) := by
    rw [rs_sg_tl f g (Nat.le_trans h1 h2), rs_sg_cut f g h1 h2, List.append_assoc]
  have hgt' : ∀ p ∈ rs_sg f g j (k - j), rs_rk o (f k) < rs_rk o p.1 := by
    intro p hp
    obtain ⟨i, h3, h4, rfl⟩ := rs_sg_mem hp
    exact hgt i h3 (by omega)
  rw [rs_sg_cut f g h1 h2] at hs
  obtain ⟨s1, s2, s3⟩ := rs_So.app.mp hs
  refine ⟨⟨fun i hi => ⟨by rw [hf, if_neg (by omega), if_neg (by omega)], by rw [hg, if_neg (by omega), if_neg (by omega)]⟩, fun q => ?_⟩, ?_⟩
  · rw [e', e, rs_kf_app, rs_kf_app, rs_kf_app, rs_kf, rs_kf, rs_kf]
    split
    · rename_i hq
      rw [rs_kf_nil (L := rs_sg f g j (k - j)) (fun p hp h5 => rs_lt_ne (hgt' p hp) (hq.trans h5.symm))]
      rfl
    · rw [List.append_nil]
  · rw [e']
    refine rs_So.app.mpr ⟨s1, rs_So.cons.mpr ⟨fun q hq => rs_lt_le (hgt' q hq), s2⟩, fun p hp q hq => ?_⟩
    have hpk : rs_rk o p.1 ≤ rs_rk o (f k) := by
      rcases hle with hle | hle
      · rw [hle, Nat.sub_self] at hp
        cases hp
      · by_cases hja : j = a
        · rw [hja, Nat.sub_self] at hp
          cases hp
        · have e2 : j - a = (j - 1) + 1 - a := by omega
          rw [e2, rs_sg_tl f g (show a ≤ j - 1 by omega)] at hp s1
          rcases List.mem_append.mp hp with hp | hp
          · exact rs_le_tr ((rs_So.app.mp s1).2.2 p hp _ List.mem_cons_self) hle
          · rcases List.mem_cons.mp hp with rfl | hp
            · exact hle
            · cases hp
    rcases List.mem_cons.mp hq with rfl | hq
    · exact hpk
    · exact rs_le_tr hpk (rs_lt_le (hgt' q hq))
/-- a sorted part, longer by one -/
theorem rs_St.step {o : Int32} {a k : Nat} {f0 g0 f g f' g' : Nat → Int32} (hak : a ≤ k) (h : rs_St o a k f0 g0 f g) (h2 : rs_St o a (k + 1) f g f' g') : rs_St o a (k + 1) f0 g0 f' g' :=
  ⟨(h.1.wide (Nat.le_refl a) hak (Nat.le_succ k)).tr h2.1, h2.2⟩
theorem rs_St.zero {o : Int32} {a b : Nat} {f g : Nat → Int32} (h : b ≤ a + 1) : rs_St o a b f g f g := by
  refine ⟨rs_Mv.rf, ?_⟩
  rcases (show b - a = 0 ∨ b - a = 1 by omega) with e | e
  · rw [e]; exact rs_So.nil
  · rw [e]; exact rs_So.one
/-- the middle of a merge: fi of the first run's (they lie in sf, sg) and those up to se of the second run's are laid, up to pl -/
def rs_MI (o : Int32) (st mi en : Nat) (f0 g0 : Nat → Int32) (fi se pl : Nat) (f g sf sg : Nat → Int32) : Prop :=
  (st ≤ mi ∧ mi ≤ en ∧ fi ≤ mi - st ∧ mi ≤ se ∧ se ≤ en ∧ pl + (mi - st - fi) = se) ∧
  (∀ j, j < st ∨ en ≤ j → f j = f0 j ∧ g j = g0 j) ∧
  rs_So o (rs_sg f g st (pl - st)) ∧ rs_So o (rs_sg sf sg fi (mi - st - fi)) ∧ rs_So o (rs_sg f g se (en - se)) ∧
  (∀ p ∈ rs_sg f g st (pl - st), ∀ q ∈ rs_sg sf sg fi (mi - st - fi), rs_rk o p.1 ≤ rs_rk o q.1) ∧ (∀ p ∈ rs_sg f g st (pl - st), ∀ q ∈ rs_sg f g se (en - se), rs_rk o p.1 ≤ rs_rk o q.1) ∧
  ∀ k, rs_kf o k (rs_sg f g st (pl - st)) ++ (rs_kf o k (rs_sg sf sg fi (mi - st - fi)) ++ rs_kf o k (rs_sg f g se (en - se))) = rs_kf o k (rs_sg f0 g0 st (en - st))
theorem rs_MI.init {o : Int32} {st mi en : Nat} {f g sf sg : Nat → Int32} (h1 : st ≤ mi) (h2 : mi ≤ en) (hs1 : rs_So o (rs_sg f g st (mi - st))) (hs2 : rs_So o (rs_sg f g mi (en - mi))) (hc : ∀ j, j < mi - st → sf j = f (st + j) ∧ sg j = g (st + j)) : rs_MI o st mi en f g 0 mi st f g sf sg := by
  have e : rs_sg sf sg 0 (mi - st - 0) = rs_sg f g st (mi - st) := by
    rw [Nat.sub_zero]
    exact rs_sg_eq (mi - st) st 0 (fun j hj => by rw [Nat.zero_add]; exact hc j hj)
  refine ⟨⟨h1, h2, by omega, by omega, h2, by omega⟩, fun _ _ => ⟨rfl, rfl⟩, ?_, ?_, hs2, ?_, ?_, ?_⟩
  · rw [Nat.sub_self]; exact rs_So.nil
  · rw [e]; exact hs1
  · rw [Nat.sub_self]; intro p hp; cases hp
  · rw [Nat.sub_self]; intro p hp; cases hp
  · intro k
    rw [Nat.sub_self, e, rs_sg_cut f g h1 h2, rs_kf_app]
    rfl
theorem rs_MI.lt {o : Int32} {st mi en : Nat} {f0 g0 : Nat → Int32} {fi se pl : Nat} {f g sf sg : Nat → Int32} (h : rs_MI o st mi en f0 g0 fi se pl f g sf sg) (hf : fi < mi - st) : pl < se ∧ st ≤ pl ∧ pl < en := by
  obtain ⟨⟨a1, a2, a3, a4, a5, a6⟩, -⟩ := h
  omega
/-- the second run's next is laid -/
theorem rs_MI.two {o : Int32} {st mi en : Nat} {f0 g0 : Nat → Int32} {fi se pl : Nat} {f g sf sg : Nat → Int32} (h : rs_MI o st mi en f0 g0 fi se pl f g sf sg) (hf : fi < mi - st) (hse : se < en) (hlt : rs_rk o (f se) < rs_rk o (sf fi)) :
    rs_MI o st mi en f0 g0 fi (se + 1) (pl + 1) (upd f pl (f se)) (upd g pl (g se)) sf sg := by
  obtain ⟨b1, b2, b3⟩ := h.lt hf
  obtain ⟨⟨a1, a2, a3, a4, a5, a6⟩, ho, s1, s2, s3, l1, l2, hk⟩ := h
  have eO : rs_sg (upd f pl (f se)) (upd g pl (g se)) st (pl + 1 - st) = rs_sg f g st (pl - st) ++ [(f se, g se)] := by
    rw [rs_sg_tl _ _ b2, rs_sg_cg (f := f) (g := g) (fun j h1 h2 => ⟨pk_un (by omega), pk_un (by omega)⟩), pk_us, pk_us]
  have eB : rs_sg (upd f pl (f se)) (upd g pl (g se)) (se + 1) (en - (se + 1)) = rs_sg f g (se + 1) (en - (se + 1)) := rs_sg_cg (fun j h1 h2 => ⟨pk_un (by omega), pk_un (by omega)⟩)
  rw [rs_sg_hd f g hse] at s3 l2
  have hA : ∀ q ∈ rs_sg sf sg fi (mi - st - fi), rs_rk o (f se) < rs_rk o q.1 := by
    rw [show mi - st - fi = mi - st - fi from rfl, rs_sg_hd sf sg hf] at s2 ⊢
    intro q hq
    rcases List.mem_cons.mp hq with rfl | hq
    · exact hlt
    · exact rs_lt_of hlt ((rs_So.cons.mp s2).1 q hq)
  refine ⟨⟨a1, a2, a3, by omega, by omega, by omega⟩, fun j hj => ⟨(pk_un (by omega)).trans (ho j hj).1, (pk_un (by omega)).trans (ho j hj).2⟩, ?_, s2, ?_, ?_, ?_, ?_⟩
  · rw [eO]
    refine rs_So.app.mpr ⟨s1, rs_So.one, fun p hp q hq => ?_⟩
    rcases List.mem_cons.mp hq with rfl | hq
    · exact l2 p hp _ List.mem_cons_self
    · cases hq
  · rw [eB]; exact (rs_So.cons.mp s3).2
  · rw [eO]
    intro p hp q hq
    rcases List.mem_append.mp hp with hp | hp
    · exact l1 p hp q hq
    · rcases List.mem_cons.mp hp with rfl | hp
      · exact rs_lt_le (hA q hq)
      · cases hp
  · rw [eO, eB]
    intro p hp q hq
    rcases List.mem_append.mp hp with hp | hp
    · exact l2 p hp q (List.mem_cons_of_mem _ hq)
    · rcases List.mem_cons.mp hp with rfl | hp
      · exact (rs_So.cons.mp s3).1 q hq
      · cases hp
  · intro k
    rw [eO, eB, rs_kf_app, ← hk k, rs_sg_hd f g hse, rs_kf, rs_kf, rs_kf]
    split
    · rename_i hq
      rw [rs_kf_nil (L := rs_sg sf sg fi (mi - st - fi)) (fun p hp h5 => rs_lt_ne (hA p hp) (hq.trans h5.symm))]
      simp
    · simp
/-- the first run's next is laid -/
theorem rs_MI.one {o : Int32} {st mi en : Nat} {f0 g0 : Nat → Int32} {fi se pl : Nat} {f g sf sg : Nat → Int32} (h : rs_MI o st mi en f0 g0 fi se pl f g sf sg) (hf : fi < mi - st) (hle : se = en ∨ rs_rk o (sf fi) ≤ rs_rk o (f se)) :
    rs_MI o st mi en f0 g0 (fi + 1) se (pl + 1) (upd f pl (sf fi)) (upd g pl (sg fi)) sf sg := by
  obtain ⟨b1, b2, b3⟩ := h.lt hf
  obtain ⟨⟨a1, a2, a3, a4, a5, a6⟩, ho, s1, s2, s3, l1, l2, hk⟩ := h
  have eO : rs_sg (upd f pl (sf fi)) (upd g pl (sg fi)) st (pl + 1 - st) = rs_sg f g st (pl - st) ++ [(sf fi, sg fi)] := by
    rw [rs_sg_tl _ _ b2, rs_sg_cg (f := f) (g := g) (fun j h1 h2 => ⟨pk_un (by omega), pk_un (by omega)⟩), pk_us, pk_us]
  have eB : rs_sg (upd f pl (sf fi)) (upd g pl (sg fi)) se (en - se) = rs_sg f g se (en - se) := rs_sg_cg (fun j h1 h2 => ⟨pk_un (by omega), pk_un (by omega)⟩)
  have eA := rs_sg_hd sf sg hf
  rw [eA] at s2 l1
  have hB : ∀ q ∈ rs_sg f g se (en - se), rs_rk o (sf fi) ≤ rs_rk o q.1 := by
    intro q hq
    rcases hle with hle | hle
    · rw [hle, Nat.sub_self] at hq; cases hq
    · by_cases hz : se = en
      · rw [hz, Nat.sub_self] at hq; cases hq
      · rw [rs_sg_hd f g (show se < en by omega)] at hq s3
        rcases List.mem_cons.mp hq with rfl | hq
        · exact hle
        · exact rs_le_tr hle ((rs_So.cons.mp s3).1 q hq)
  refine ⟨⟨a1, a2, by omega, a4, a5, by omega⟩, fun j hj => ⟨(pk_un (by omega)).trans (ho j hj).1, (pk_un (by omega)).trans (ho j hj).2⟩, ?_, ?_, ?_, ?_, ?_, ?_⟩
  · rw [eO]
    refine rs_So.app.mpr ⟨s1, rs_So.one, fun p hp q hq => ?_⟩
    rcases List.mem_cons.mp hq with rfl | hq
    · exact l1 p hp _ List.mem_cons_self
    · cases hq
  · exact (rs_So.cons.mp s2).2
  · rw [eB]; exact s3
  · rw [eO]
    intro p hp q hq
    rcases List.mem_append.mp hp with hp | hp
    · exact l1 p hp q (List.mem_cons_of_mem _ hq)
    · rcases List.mem_cons.mp hp with rfl | hp
      · exact (rs_So.cons.mp s2).1 q hq
      · cases hp
  · rw [eO, eB]
    intro p hp q hq
    rcases List.mem_append.mp hp with hp | hp
    · exact l2 p hp q hq
    · rcases List.mem_cons.mp hp with rfl | hp
      · exact hB q hq
      · cases hp
  · intro k
    rw [eO, eB, rs_kf_app, ← hk k, eA, rs_kf, rs_kf, rs_kf]
    split <;> simp
theorem rs_MI.done {o : Int32} {st mi en : Nat} {f0 g0 : Nat → Int32} {fi se pl : Nat} {f g sf sg : Nat → Int32} (h : rs_MI o st mi en f0 g0 fi se pl f g sf sg) (hf : ¬ fi < mi - st) : rs_St o st en f0 g0 f g := by
  obtain ⟨⟨a1, a2, a3, a4, a5, a6⟩, ho, s1, s2, s3, l1, l2, hk⟩ := h
  have e1 : mi - st - fi = 0 := by omega
  have e2 : pl = se := by omega
  subst e2
  rw [e1] at hk
  have e := rs_sg_cut f g (show st ≤ pl by omega) a5
  refine ⟨⟨ho, fun k => ?_⟩, ?_⟩
  · rw [e, rs_kf_app, ← hk k]
    rfl
  · rw [e]
    exact rs_So.app.mpr ⟨s1, s3, l2⟩
/-- the runs: n of them, from a to b; r holds where they begin, and the end -/
def rs_Rn (o : Int32) (a b : Nat) (f g r : Nat → Int32) (n : Nat) : Prop := ∃ ρ : Nat → Nat, (∀ j, j ≤ n → r j = nI (ρ j)) ∧ ρ 0 = a ∧ ρ n = b ∧ (∀ j, j < n → ρ j ≤ ρ (j + 1)) ∧ ∀ j, j < n → rs_So o (rs_sg f g (ρ j) (ρ (j + 1) - ρ j))
theorem rs_up {ρ : Nat → Nat} {n : Nat} (h : ∀ j, j < n → ρ j ≤ ρ (j + 1)) : ∀ (d i : Nat), i + d ≤ n → ρ i ≤ ρ (i + d)
  | 0, i, _ => Nat.le_refl _
  | d + 1, i, hd => Nat.le_trans (rs_up h d i (by omega)) (h (i + d) (by omega))
theorem rs_mono {ρ : Nat → Nat} {n : Nat} (h : ∀ j, j < n → ρ j ≤ ρ (j + 1)) {i j : Nat} (hij : i ≤ j) (hj : j ≤ n) : ρ i ≤ ρ j := by
  have := rs_up h (j - i) i (by omega)
  rwa [show i + (j - i) = j by omega] at this
theorem rs_Rn.done {o : Int32} {a b : Nat} {f g r : Nat → Int32} {n : Nat} (h : rs_Rn o a b f g r n) (hn : n ≤ 1) : rs_So o (rs_sg f g a (b - a)) := by
  obtain ⟨ρ, h1, h2, h3, h4, h5⟩ := h
  rcases (show n = 0 ∨ n = 1 by omega) with e | e
  · subst e
    rw [← h2, ← h3, Nat.sub_self]; exact rs_So.nil
  · subst e
    rw [← h2, ← h3]; exact h5 0 (by omega)
/-- finding the runs: up to i, n of them so far -/
def rs_FI (o : Int32) (a : Nat) (f g r : Nat → Int32) (i n : Nat) : Prop := a ≤ i ∧ n ≤ i - a ∧ (i = a ∨ 0 < n) ∧ ∃ ρ : Nat → Nat, (∀ j, j < n → r j = nI (ρ j)) ∧ (0 < n → ρ 0 = a) ∧ (∀ j, j + 1 < n → ρ j ≤ ρ (j + 1) ∧ rs_So o (rs_sg f g (ρ j) (ρ (j + 1) - ρ j))) ∧ (0 < n → ρ (n - 1) < i ∧ rs_So o (rs_sg f g (ρ (n - 1)) (i - ρ (n - 1))))
theorem rs_FI.init {o : Int32} {a : Nat} {f g r : Nat → Int32} : rs_FI o a f g r a 0 := ⟨Nat.le_refl _, by omega, Or.inl rfl, fun _ => a, fun j h => by omega, fun h => by omega, fun j h => by omega, fun h => by omega⟩
/-- a run begins at i -/
theorem rs_FI.new {o : Int32} {a : Nat} {f g r : Nat → Int32} {i n : Nat} (h : rs_FI o a f g r i n) : rs_FI o a f g (upd r n (nI i)) (i + 1) (n + 1) := by
  obtain ⟨h0, h1, h2, ρ, h3, h4, h5, h6⟩ := h
  refine ⟨by omega, by omega, Or.inr (by omega), fun j => if j = n then i else ρ j, fun j hj => ?_, fun _ => ?_, fun j hj => ?_, fun _ => ?_⟩ <;> try dsimp only
  · by_cases hjn : j = n
    · subst hjn; rw [pk_us, if_pos rfl]
    · rw [pk_un hjn, if_neg hjn]; exact h3 j (by omega)
  · by_cases hn : 0 = n
    · rw [if_pos hn]; rcases h2 with h2 | h2
      · exact h2
      · omega
    · rw [if_neg hn]; exact h4 (by omega)
  · have hjn : ¬ j = n := by omega
    by_cases hj2 : j + 1 = n
    · obtain ⟨q1, q2⟩ := h6 (by omega)
      rw [if_neg hjn, if_pos hj2]
      have e : n - 1 = j := by omega
      rw [e] at q1 q2
      exact ⟨Nat.le_of_lt q1, q2⟩
    · rw [if_neg hjn, if_neg hj2]; exact h5 j (by omega)
  · rw [show n + 1 - 1 = n by omega, if_pos rfl]
    exact ⟨by omega, rs_So.start⟩
/-- the run goes on over i -/
theorem rs_FI.more {o : Int32} {a : Nat} {f g r : Nat → Int32} {i n : Nat} (h : rs_FI o a f g r i n) (hi : i ≠ a) (hle : rs_rk o (f (i - 1)) ≤ rs_rk o (f i)) : rs_FI o a f g r (i + 1) n := by
  obtain ⟨h0, h1, h2, ρ, h3, h4, h5, h6⟩ := h
  have hn : 0 < n := by rcases h2 with h2 | h2; exact absurd h2 hi; exact h2
  obtain ⟨q1, q2⟩ := h6 hn
  exact ⟨by omega, by omega, Or.inr hn, ρ, h3, h4, h5, fun _ => ⟨by omega, rs_So.more q2 q1 hle⟩⟩
theorem rs_FI.done {o : Int32} {a b : Nat} {f g r : Nat → Int32} {n : Nat} (h : rs_FI o a f g r b n) : rs_Rn o a b f g (upd r n (nI b)) n := by
  obtain ⟨h0, h1, h2, ρ, h3, h4, h5, h6⟩ := h
  refine ⟨fun j => if j = n then b else ρ j, fun j hj => ?_, ?_, if_pos rfl, fun j hj => ?_, fun j hj => ?_⟩ <;> try dsimp only
  · by_cases hjn : j = n
    · subst hjn; rw [pk_us, if_pos rfl]
    · rw [pk_un hjn, if_neg hjn]; exact h3 j (by omega)
  · by_cases hn : 0 = n
    · rw [if_pos hn]; rcases h2 with h2 | h2
      · exact h2
      · omega
    · rw [if_neg hn]; exact h4 (by omega)
  · have hjn : ¬ j = n := by omega
    by_cases hj2 : j + 1 = n
    · obtain ⟨q1, q2⟩ := h6 (by omega)
      rw [if_neg hjn, if_pos hj2]
      have e : n - 1 = j := by omega
      rw [e] at q1
      exact Nat.le_of_lt q1
    · rw [if_neg hjn, if_neg hj2]; exact (h5 j (by omega)).1
  · have hjn : ¬ j = n := by omega
    by_cases hj2 : j + 1 = n
    · obtain ⟨q1, q2⟩ := h6 (by omega)
      rw [if_neg hjn, if_pos hj2]
      have e : n - 1 = j := by omega
      rw [e] at q2
      exact q2
    · rw [if_neg hjn, if_neg hj2]; exact (h5 j (by omega)).2
/-- merging the pairs: those below p (an even number) are merged -/
def rs_PI (o : Int32) (a b : Nat) (f0 g0 : Nat → Int32) (ρ : Nat → Nat) (n p : Nat) (f g : Nat → Int32) : Prop := p % 2 = 0 ∧ p ≤ n ∧ rs_Mv o a b f0 g0 f g ∧ ρ 0 = a ∧ ρ n = b ∧ (∀ j, j < n → ρ j ≤ ρ (j + 1)) ∧ (∀ j, p ≤ j → j < n → rs_So o (rs_sg f g (ρ j) (ρ (j + 1) - ρ j))) ∧ ∀ j, j % 2 = 0 → j + 1 < p → rs_So o (rs_sg f g (ρ j) (ρ (j + 2) - ρ j))
theorem rs_PI.step {o : Int32} {a b : Nat} {f0 g0 : Nat → Int32} {ρ : Nat → Nat} {n p : Nat} {f g f' g' : Nat → Int32} (h : rs_PI o a b f0 g0 ρ n p f g) (hp : p + 1 < n) (hm : rs_St o (ρ p) (ρ (p + 2)) f g f' g') : rs_PI o a b f0 g0 ρ n (p + 2) f' g' := by
  obtain ⟨h0, h1, h2, h3, h4, h5, h6, h7⟩ := h
  have m0 : a ≤ ρ p := by rw [← h3]; exact rs_mono h5 (by omega) (by omega)
  have m1 : ρ p ≤ ρ (p + 2) := rs_mono h5 (by omega) (by omega)
  have m2 : ρ (p + 2) ≤ b := by rw [← h4]; exact rs_mono h5 (by omega) (by omega)
  refine ⟨by omega, by omega, h2.tr (hm.1.wide m0 m1 m2), h3, h4, h5, fun j hj hjn => ?_, fun j hj hjp => ?_⟩
  · rw [rs_sg_cg (f := f) (g := g) (fun i hi _ => hm.1.1 i (Or.inr (Nat.le_trans (rs_mono h5 hj (by omega)) hi)))]
    exact h6 j (by omega) hjn
  · by_cases hjp2 : j = p
    · subst hjp2; exact hm.2
    · have hj2 : j + 2 ≤ p := by omega
      have mm : ρ (j + 2) ≤ ρ p := rs_mono h5 hj2 (by omega)
      have mj : ρ j ≤ ρ (j + 2) := rs_mono h5 (by omega) (by omega)
      rw [rs_sg_cg (f := f) (g := g) (fun i hi hi2 => hm.1.1 i (Or.inl (by omega)))]
      exact h7 j hj (by omega)
theorem rs_PI.done {o : Int32} {a b : Nat} {f0 g0 : Nat → Int32} {ρ : Nat → Nat} {n p : Nat} {f g r : Nat → Int32} (h : rs_PI o a b f0 g0 ρ n p f g) (hp : ¬ p + 1 < n) (hr : ∀ j, j ≤ (n + 1) / 2 → r j = nI (ρ (min (2 * j) n))) : rs_Rn o a b f g r ((n + 1) / 2) := by
  obtain ⟨h0, h1, h2, h3, h4, h5, h6, h7⟩ := h
  refine ⟨fun j => ρ (min (2 * j) n), hr, ?_, ?_, fun j hj => rs_mono h5 (by omega) (by omega), fun j hj => ?_⟩ <;> try dsimp only
  · rw [show min (2 * 0) n = 0 by omega]; exact h3
  · rw [show min (2 * ((n + 1) / 2)) n = n by omega]; exact h4
  · by_cases hjn : 2 * j + 1 < n
    · rw [show min (2 * j) n = 2 * j by omega, show min (2 * (j + 1)) n = 2 * j + 2 by omega]
      exact h7 (2 * j) (by omega) (by omega)
    · rw [show min (2 * j) n = 2 * j by omega, show min (2 * (j + 1)) n = 2 * j + 1 by omega]
      exact h6 (2 * j) (by omega) (by omega)
