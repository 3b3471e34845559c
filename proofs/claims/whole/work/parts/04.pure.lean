/-! Pure rows: the four orders, parts of a row as lists, what a stable sort is and that it is one. -/
def rs_rk (o x : Int32) : Int32 := if o = 1 then x ^^^ (-1) else if o = 2 then x &&& 15 else if o = 3 then x ^^^ (-2147483648) else x
/-- n of the row from a on, each with its tag -/
def rs_sg (f g : Nat → Int32) (a : Nat) : Nat → List (Int32 × Int32)
  | 0 => []
  | n + 1 => (f a, g a) :: rs_sg f g (a + 1) n
def rs_So (o : Int32) (L : List (Int32 × Int32)) : Prop := L.Pairwise (fun p q => rs_rk o p.1 ≤ rs_rk o q.1)
def rs_kf (o k : Int32) : List (Int32 × Int32) → List (Int32 × Int32)
  | [] => []
  | p :: L => if rs_rk o p.1 = k then p :: rs_kf o k L else rs_kf o k L
theorem rs_le_rf (x : Int32) : x ≤ x := by rw [Int32.le_iff_toInt_le]; omega
theorem rs_le_tr {x y z : Int32} (h : x ≤ y) (h2 : y ≤ z) : x ≤ z := by
  rw [Int32.le_iff_toInt_le] at *; omega
theorem rs_lt_le {x y : Int32} (h : x < y) : x ≤ y := by
  rw [Int32.lt_iff_toInt_lt] at h; rw [Int32.le_iff_toInt_le]; omega
theorem rs_nlt {x y : Int32} (h : ¬ x < y) : y ≤ x := by
  rw [Int32.lt_iff_toInt_lt] at h; rw [Int32.le_iff_toInt_le]; omega
theorem rs_lt_nle {x y : Int32} (h : x < y) : ¬ y ≤ x := by
  rw [Int32.lt_iff_toInt_lt] at h; rw [Int32.le_iff_toInt_le]; omega
theorem rs_nle {x y : Int32} (h : ¬ x ≤ y) : y < x := by
  rw [Int32.le_iff_toInt_le] at h; rw [Int32.lt_iff_toInt_lt]; omega
theorem rs_lt_ne {x y : Int32} (h : x < y) : x ≠ y := by
  intro q; subst q; rw [Int32.lt_iff_toInt_lt] at h; omega
theorem rs_le_as {x y : Int32} (h : x ≤ y) (h2 : y ≤ x) : x = y := by
  rw [Int32.le_iff_toInt_le] at *
  exact Int32.toInt_inj.mp (by omega)
theorem rs_lt_of {x y z : Int32} (h : x < y) (h2 : y ≤ z) : x < z := by
  rw [Int32.lt_iff_toInt_lt] at *; rw [Int32.le_iff_toInt_le] at h2; omega
theorem rs_sg_len (f g : Nat → Int32) : ∀ (n a : Nat), (rs_sg f g a n).length = n
  | 0, _ => rfl
  | n + 1, a => by rw [rs_sg, List.length_cons, rs_sg_len f g n (a + 1)]
theorem rs_sg_eq {f g f' g' : Nat → Int32} : ∀ (n a b : Nat), (∀ j, j < n → f' (b + j) = f (a + j) ∧ g' (b + j) = g (a + j)) → rs_sg f' g' b n = rs_sg f g a n
  | 0, _, _, _ => rfl
  | n + 1, a, b, h => by
    have h0 := h 0 (by omega)
    simp only [Nat.add_zero] at h0
    rw [rs_sg, rs_sg, h0.1, h0.2, rs_sg_eq n (a + 1) (b + 1) (fun j hj => by
      have h1 := h (j + 1) (by omega)
      rw [show b + 1 + j = b + (j + 1) by omega, show a + 1 + j = a + (j + 1) by omega]
      exact h1)]
theorem rs_sg_cg {f g f' g' : Nat → Int32} {a n : Nat} (h : ∀ j, a ≤ j → j < a + n → f' j = f j ∧ g' j = g j) : rs_sg f' g' a n = rs_sg f g a n :=
  rs_sg_eq n a a (fun j hj => h (a + j) (by omega) (by omega))
theorem rs_sg_app (f g : Nat → Int32) : ∀ (m n a : Nat), rs_sg f g a (m + n) = rs_sg f g a m ++ rs_sg f g (a + m) n
  | 0, n, a => by simp [rs_sg]
  | m + 1, n, a => by
    rw [show m + 1 + n = (m + n) + 1 by omega, rs_sg, rs_sg, rs_sg_app f g m n (a + 1), show a + 1 + m = a + (m + 1) by omega]
    rfl
theorem rs_sg_cut (f g : Nat → Int32) {a b c : Nat} (h : a ≤ b) (h2 : b ≤ c) : rs_sg f g a (c - a) = rs_sg f g a (b - a) ++ rs_sg f g b (c - b) := by
  have e := rs_sg_app f g (b - a) (c - b) a
  rw [show b - a + (c - b) = c - a by omega, show a + (b - a) = b by omega] at e
  exact e
theorem rs_sg_hd (f g : Nat → Int32) {a b : Nat} (h : a < b) : rs_sg f g a (b - a) = (f a, g a) :: rs_sg f g (a + 1) (b - (a + 1)) := by
  rw [show b - a = (b - (a + 1)) + 1 by omega, rs_sg]
theorem rs_sg_tl (f g : Nat → Int32) {a b : Nat} (h : a ≤ b) : rs_sg f g a (b + 1 - a) = rs_sg f g a (b - a) ++ [(f b, g b)] := by
  rw [rs_sg_cut f g h (show b ≤ b + 1 by omega), show b + 1 - b = 0 + 1 by omega, rs_sg, rs_sg]
theorem rs_sg_inj {f g f' g' : Nat → Int32} : ∀ (n a : Nat), rs_sg f g a n = rs_sg f' g' a n → ∀ j, a ≤ j → j < a + n → f j = f' j ∧ g j = g' j
  | 0, a, _, j, h1, h2 => by omega
  | n + 1, a, h, j, h1, h2 => by
    rw [rs_sg, rs_sg] at h
    obtain ⟨e1, e2⟩ := List.cons.inj h
    by_cases hj : j = a
    · subst hj
      exact ⟨congrArg Prod.fst e1, congrArg Prod.snd e1⟩
    · exact rs_sg_inj n (a + 1) e2 j (by omega) (by omega)
theorem rs_sg_mem {f g : Nat → Int32} : ∀ {n a : Nat} {p : Int32 × Int32}, p ∈ rs_sg f g a n → ∃ j, a ≤ j ∧ j < a + n ∧ p = (f j, g j)
  | 0, _, _, h => by cases h
  | n + 1, a, p, h => by
    rw [rs_sg] at h
    rcases List.mem_cons.mp h with h | h
    · exact ⟨a, by omega, by omega, h⟩
    · obtain ⟨j, h1, h2, h3⟩ := rs_sg_mem h
      exact ⟨j, by omega, by omega, h3⟩
theorem rs_sg_in (f g : Nat → Int32) : ∀ {n a j : Nat}, a ≤ j → j < a + n → (f j, g j) ∈ rs_sg f g a n
  | 0, _, _, h1, h2 => by omega
  | n + 1, a, j, h1, h2 => by
    rw [rs_sg]
    by_cases hj : j = a
    · subst hj; exact List.mem_cons_self
    · exact List.mem_cons_of_mem _ (rs_sg_in f g (by omega) (by omega))
theorem rs_kf_app (o k : Int32) : ∀ (L M : List (Int32 × Int32)), rs_kf o k (L ++ M) = rs_kf o k L ++ rs_kf o k M
  | [], M => rfl
  | p :: L, M => by
    rw [List.cons_append, rs_kf, rs_kf, rs_kf_app o k L M]
    split <;> rfl
theorem rs_kf_mem {o k : Int32} : ∀ {L : List (Int32 × Int32)} {p : Int32 × Int32}, p ∈ rs_kf o k L → p ∈ L ∧ rs_rk o p.1 = k
  | [], _, h => by cases h
  | q :: L, p, h => by
    rw [rs_kf] at h
    split at h
    · rename_i hq
      rcases List.mem_cons.mp h with h | h
      · subst h; exact ⟨List.mem_cons_self, hq⟩
      · exact ⟨List.mem_cons_of_mem _ (rs_kf_mem h).1, (rs_kf_mem h).2⟩
    · exact ⟨List.mem_cons_of_mem _ (rs_kf_mem h).1, (rs_kf_mem h).2⟩
theorem rs_kf_nil {o k : Int32} : ∀ {L : List (Int32 × Int32)}, (∀ p ∈ L, rs_rk o p.1 ≠ k) → rs_kf o k L = []
  | [], _ => rfl
  | q :: L, h => by
    rw [rs_kf, if_neg (h q List.mem_cons_self)]
    exact rs_kf_nil (fun p hp => h p (List.mem_cons_of_mem _ hp))
/-- a sorted list is known by what it holds of each rank, in order -/
theorem rs_uniq {o : Int32} : ∀ (L M : List (Int32 × Int32)), rs_So o L → rs_So o M → (∀ k, rs_kf o k L = rs_kf o k M) → L = M
  | [], [], _, _, _ => rfl
  | [], b :: u, _, _, h => by
    have h1 := h (rs_rk o b.1)
    rw [rs_kf, rs_kf, if_pos rfl] at h1
    cases h1
  | a :: t, [], _, _, h => by
    have h1 := h (rs_rk o a.1)
    rw [rs_kf, rs_kf, if_pos rfl] at h1
    cases h1
  | a :: t, b :: u, hs, hu, h => by
    have ha : a ∈ b :: u := by
      have h1 := h (rs_rk o a.1)
      rw [rs_kf, if_pos rfl] at h1
      exact (rs_kf_mem (o := o) (k := rs_rk o a.1) (by rw [← h1]; exact List.mem_cons_self)).1
    have hb : b ∈ a :: t := by
      have h1 := h (rs_rk o b.1)
      rw [rs_kf.eq_def o _ (b :: u)] at h1
      simp only [if_true] at h1
      exact (rs_kf_mem (o := o) (k := rs_rk o b.1) (by rw [h1]; exact List.mem_cons_self)).1
    have l1 : rs_rk o b.1 ≤ rs_rk o a.1 := by
      rcases List.mem_cons.mp ha with q | q
      · rw [q]; exact rs_le_rf _
      · exact (List.pairwise_cons.mp hu).1 a q
    have l2 : rs_rk o a.1 ≤ rs_rk o b.1 := by
      rcases List.mem_cons.mp hb with q | q
      · rw [q]; exact rs_le_rf _
      · exact (List.pairwise_cons.mp hs).1 b q
    have e := rs_le_as l1 l2
    have hk := h (rs_rk o a.1)
    rw [rs_kf, rs_kf, if_pos rfl, if_pos e] at hk
    have hab := (List.cons.inj hk).1
    subst hab
    rw [rs_uniq t u (List.pairwise_cons.mp hs).2 (List.pairwise_cons.mp hu).2 (fun k => by
      have hk := h k
      rw [rs_kf, rs_kf] at hk
      split at hk
      · exact (List.cons.inj hk).2
      · exact hk)]
/-- a part of the row is moved about, each rank's own in their order; the rest stays -/
def rs_Mv (o : Int32) (a b : Nat) (f g f' g' : Nat → Int32) : Prop := (∀ j, j < a ∨ b ≤ j → f' j = f j ∧ g' j = g j) ∧ ∀ k, rs_kf o k (rs_sg f' g' a (b - a)) = rs_kf o k (rs_sg f g a (b - a))
def rs_St (o : Int32) (a b : Nat) (f g f' g' : Nat → Int32) : Prop := rs_Mv o a b f g f' g' ∧ rs_So o (rs_sg f' g' a (b - a))
theorem rs_Mv.rf {o : Int32} {a b : Nat} {f g : Nat → Int32} : rs_Mv o a b f g f g := ⟨fun _ _ => ⟨rfl, rfl⟩, fun _ => rfl⟩
theorem rs_Mv.tr {o : Int32} {a b : Nat} {f g f' g' f2 g2 : Nat → Int32} (h : rs_Mv o a b f g f' g') (h2 : rs_Mv o a b f' g' f2 g2) : rs_Mv o a b f g f2 g2 :=
  ⟨fun j hj => ⟨(h2.1 j hj).1.trans (h.1 j hj).1, (h2.1 j hj).2.trans (h.1 j hj).2⟩, fun k => (h2.2 k).trans (h.2 k)⟩
theorem rs_Mv.wide {o : Int32} {a b c d : Nat} {f g f' g' : Nat → Int32} (h : rs_Mv o b c f g f' g') (h1 : a ≤ b) (h2 : b ≤ c) (h3 : c ≤ d) : rs_Mv o a d f g f' g' := by
  refine ⟨fun j hj => h.1 j (by omega), fun k => ?_⟩
  rw [rs_sg_cut f' g' h1 (Nat.le_trans h2 h3), rs_sg_cut f' g' h2 h3, rs_sg_cut f g h1 (Nat.le_trans h2 h3), rs_sg_cut f g h2 h3, rs_kf_app, rs_kf_app, rs_kf_app, rs_kf_app, h.2 k,
    rs_sg_cg (f' := f') (g' := g') (f := f) (g := g) (a := a) (n := b - a) (fun j h5 h6 => h.1 j (by omega)), rs_sg_cg (f' := f') (g' := g') (f := f) (g := g) (a := c) (n := d - c) (fun j h5 h6 => h.1 j (by omega))]
theorem rs_St.one {o : Int32} {a b : Nat} {f g f' g' f2 g2 : Nat → Int32} (h : rs_St o a b f g f' g') (h2 : rs_St o a b f g f2 g2) : f' = f2 ∧ g' = g2 := by
  have e := rs_uniq _ _ h.2 h2.2 (fun k => (h.1.2 k).trans (h2.1.2 k).symm)
  have key : ∀ j, f' j = f2 j ∧ g' j = g2 j := by
    intro j
    by_cases hj : j < a ∨ b ≤ j
    · exact ⟨(h.1.1 j hj).1.trans (h2.1.1 j hj).1.symm, (h.1.1 j hj).2.trans (h2.1.1 j hj).2.symm⟩
    · exact rs_sg_inj _ _ e j (by omega) (by omega)
  exact ⟨funext fun j => (key j).1, funext fun j => (key j).2⟩
theorem rs_So.nil {o : Int32} : rs_So o [] := List.Pairwise.nil
theorem rs_So.app {o : Int32} {L M : List (Int32 × Int32)} : rs_So o (L ++ M) ↔ rs_So o L ∧ rs_So o M ∧ ∀ p ∈ L, ∀ q ∈ M, rs_rk o p.1 ≤ rs_rk o q.1 := List.pairwise_append
theorem rs_So.cons {o : Int32} {p : Int32 × Int32} {M : List (Int32 × Int32)} : rs_So o (p :: M) ↔ (∀ q ∈ M, rs_rk o p.1 ≤ rs_rk o q.1) ∧ rs_So o M := List.pairwise_cons
theorem rs_So.one {o : Int32} {p : Int32 × Int32} : rs_So o [p] := rs_So.cons.mpr ⟨fun q h => absurd h List.not_mem_nil, rs_So.nil⟩
/-- a run goes on by one -/
theorem rs_So.more {o : Int32} {f g : Nat → Int32} {a b : Nat} (h : rs_So o (rs_sg f g a (b - a))) (hab : a < b) (hle : rs_rk o (f (b - 1)) ≤ rs_rk o (f b)) : rs_So o (rs_sg f g a (b + 1 - a)) := by
  rw [rs_sg_tl f g (Nat.le_of_lt hab)]
  refine rs_So.app.mpr ⟨h, rs_So.one, fun p hp q hq => ?_⟩
  rcases List.mem_cons.mp hq with rfl | hq
  · have e : b - a = (b - 1) + 1 - a := by omega
    rw [e, rs_sg_tl f g (show a ≤ b - 1 by omega)] at h hp
    rcases List.mem_append.mp hp with hp | hp
    · exact rs_le_tr ((rs_So.app.mp h).2.2 p hp _ List.mem_cons_self) hle
    · rcases List.mem_cons.mp hp with rfl | hp
      · exact hle
      · cases hp
  · cases hq
theorem rs_So.start {o : Int32} {f g : Nat → Int32} {a : Nat} : rs_So o (rs_sg f g a (a + 1 - a)) := by
  rw [show a + 1 - a = 0 + 1 by omega, rs_sg, rs_sg]
  exact rs_So.one
