/-! The constructors. -/
def T00 : mT := (fun _ => 0, fun _ _ => 0, fun _ _ => 0)
theorem IV00 : IV 0 T00 0 0 0 0 := by
  refine ⟨⟨⟨rfl, by decide⟩, ⟨rfl, by decide⟩, ⟨rfl, by decide⟩, ⟨rfl, by decide⟩⟩, ⟨by decide, by decide⟩, ⟨fun _ => ⟨by decide, by decide⟩, fun _ _ => rfl, fun _ _ => ⟨rfl, rfl⟩⟩, ⟨fun _ => ⟨⟨by decide, by decide⟩, ⟨by decide, by decide⟩⟩, fun _ _ => ⟨rfl, rfl⟩, fun _ => ⟨by decide, by decide⟩, fun _ _ => rfl, fun _ => ⟨by decide, by decide⟩, fun _ => Or.inl rfl⟩, ⟨fun i hi => absurd hi (Nat.not_lt_zero i), fun _ _ => ⟨rfl, rfl⟩, fun _ _ => ⟨rfl, rfl⟩⟩, fun i hi => absurd hi (Nat.not_lt_zero i)⟩
def kp (S S' : qS) (x : Nat) : Prop := ∀ a, a ∈ qL S → a ≠ x → sameA S S' a
def LF (g : Nat × Nat) (S : qS) (a : Nat) : Prop := inP S a 0 ∧ qI S 2 a = 0 ∧ qR S 1 a = some g.1
def AF (S : qS) (a k n : Nat) : Prop := inP S a k ∧ qN S a = n ∧ (∀ j, qAI S k a j = 0) ∧ ∀ j, qAJ S k a j = 0
theorem LF.s {g : Nat × Nat} {S S' : qS} {a : Nat} (h : LF g S a) (s : sameA S S' a) : LF g S' a := ⟨⟨s.1, s.2.1.trans h.1.2⟩, (s.2.2.2.1 2).1.trans h.2.1, (s.2.2.2.1 1).2.2.trans h.2.2⟩
theorem AF.s {S S' : qS} {a k n : Nat} (h : AF S a k n) (s : sameA S S' a) : AF S' a k n := ⟨⟨s.1, s.2.1.trans h.1.2⟩, s.2.2.1.trans h.2.1, fun j => (congrFun (s.2.2.2.2 k).1 j).trans (h.2.2.1 j), fun j => (congrFun (s.2.2.2.2 k).2.1 j).trans (h.2.2.2 j)⟩
theorem AF.nw {S : qS} {k q n : Nat} : AF (q_nw S k q n) q k n := ⟨⟨mem_nw, va_up_self _ _ _⟩, va_up_self _ _ _, fun j => by
  show (if q = q then (fun _ => (0 : Int32)) else _) j = 0
  rw [if_pos rfl], fun j => by
  show (if q = q then (fun _ => (0 : Int64)) else _) j = 0
  rw [if_pos rfl]⟩
/-- an object of class k whose references are fR and whose ints are nought -/
def XO (S : qS) (x k : Nat) (fR : Nat → Option Nat) : Prop := inP S x k ∧ (∀ f, qI S f x = 0) ∧ (∀ f, qJ S f x = 0) ∧ ∀ f, qR S f x = fR f
theorem XO.nw {S : qS} {k q n : Nat} : XO (q_nw S k q n) q k (fun _ => none) := ⟨⟨mem_nw, va_up_self _ _ _⟩, fun f => if_pos rfl, fun f => if_pos rfl, fun f => if_pos rfl⟩
theorem XO.s {S S' : qS} {x k : Nat} {fR : Nat → Option Nat} (h : XO S x k fR) (s : sameA S S' x) : XO S' x k fR := ⟨⟨s.1, s.2.1.trans h.1.2⟩, fun f => (s.2.2.2.1 f).1.trans (h.2.1 f), fun f => (s.2.2.2.1 f).2.1.trans (h.2.2.1 f), fun f => (s.2.2.2.1 f).2.2.trans (h.2.2.2 f)⟩
theorem XO.put {S : qS} {x k m : Nat} {fR : Nat → Option Nat} {v : Option Nat} (h : XO S x k fR) : XO (qsR S (40 * k + m) x v) x k (fun f => if f = 40 * k + m then v else fR f) := ⟨h.1, h.2.1, h.2.2.1, fun f => by
  show q_u2 (qR S) (40 * k + m) x v f x = _
  rw [u2n, h.2.2.2 f]⟩
section IN
variable {g : Nat × Nat} {S : qS} {x m : Nat} {fR : Nat → Option Nat} {K : qS → Prop}
/-- a new list, held by x -/
theorem st_list {k : Nat} (hx : XO S x k fR) (h : ∀ S' q, kp S S' x → q ∉ qL S → LF g S' q → XO S' x k (fun f => if f = 40 * k + m then some q else fR f) → K S') : w_new S 0 0 (fun q5 S => pJx4a65c_init_da8c8 q5 S g (fun S => w_putR S (some x) k m (some q5) K)) := by
  intro q hq
  have o1 : old S (q_nw S 0 q 0) := old.nw hq
  have xq : x ≠ q := fun e => hq (e ▸ hx.1.1)
  have iq : inP (q_nw S 0 q 0) q 0 := ⟨mem_nw, va_up_self _ _ _⟩
  have zI : ∀ f, qI (q_nw S 0 q 0) f q = 0 := fun f => if_pos rfl
  have x1 := hx.s (o1 x hx.1.1)
  generalize q_nw S 0 q 0 = S1 at o1 iq zI x1 ⊢
  refine ⟨q, rfl, iq.1, iq.2, q, rfl, iq.1, iq.2, x, rfl, x1.1.1, x1.1.2, ?_⟩
  have s2 : ∀ a, a ∈ qL S1 → a ≠ q → sameA S1 (qsR (qsI S1 (40 * 0 + 0) q 0) (40 * 0 + 1) q (some g.1)) a := fun a ha hne => (sameA.sI ha hne).tr (sameA.sR ha hne)
  have x2 := x1.s (s2 x x1.1.1 xq)
  refine h _ q (fun a ha hne => ?_) hq ⟨⟨iq.1, iq.2⟩, ?_, ?_⟩ x2.put
  · have a1 := o1 a ha
    have a2 := a1.tr (s2 a a1.1 (fun e => hq (e ▸ ha)))
    exact a2.tr (sameA.sR a2.1 hne)
  · show q_u2 (qI S1) 0 q 0 2 q = 0
    rw [u2_ne (by decide), zI]
  · show q_u2 (q_u2 (qR S1) 1 q (some g.1)) (40 * k + m) x (some q) 1 q = some g.1
    unfold q_u2
    rw [if_neg (fun z => xq z.2.symm), if_pos ⟨rfl, rfl⟩]
/-- a new row, held by x -/
theorem st_arr {k ka n : Nat} (hx : XO S x k fR) (h : ∀ S' q, kp S S' x → q ∉ qL S → AF S' q ka n → XO S' x k (fun f => if f = 40 * k + m then some q else fR f) → K S') : w_new S ka n (fun q S => w_putR S (some x) k m (some q) K) := by
  intro q hq
  have o1 : old S (q_nw S ka q n) := old.nw hq
  have xq : x ≠ q := fun e => hq (e ▸ hx.1.1)
  have aq : AF (q_nw S ka q n) q ka n := AF.nw
  have x1 := hx.s (o1 x hx.1.1)
  generalize q_nw S ka q n = S1 at o1 aq x1 ⊢
  refine ⟨x, rfl, x1.1.1, x1.1.2, h _ q (fun a ha hne => ?_) hq (aq.s (sameA.sR aq.1.1 (Ne.symm xq))) x1.put⟩
  have a1 := o1 a ha
  exact a1.tr (sameA.sR a1.1 hne)
end IN
def HF (S : qS) (h m r1 r2 : Nat) (rs : Nat → Nat) : Prop := XO S h 1 (fun f => if f = 42 then some r2 else if f = 41 then some r1 else if f = 40 then some m else none) ∧ inP S m 21 ∧ qN S m = 5 ∧ (∀ j, j < 5 → qAO S 21 m j = some (rs j)) ∧ (∀ j, j < 5 → AF S (rs j) 20 10) ∧ (∀ i j, i < 5 → j < 5 → rs i = rs j → i = j) ∧ AF S r1 16 4 ∧ AF S r2 17 10
theorem HF.kp {S S' : qS} {x h m r1 r2 : Nat} {rs : Nat → Nat} (hx : inP S x 8) (hh : HF S h m r1 r2 rs) (k : kp S S' x) : HF S' h m r1 r2 rs := by
  obtain ⟨a1, a2, a3, a4, a5, a6, a7, a8⟩ := hh
  have ne : ∀ a j, inP S a j → j ≠ 8 → a ≠ x := fun a j ha hj e => hj (by rw [← ha.2, e]; exact hx.2)
  have sm := k m a2.1 (ne m 21 a2 (by decide))
  refine ⟨a1.s (k h a1.1.1 (ne h 1 a1.1 (by decide))), ⟨sm.1, sm.2.1.trans a2.2⟩, sm.2.2.1.trans a3, fun j hj => (congrFun (sm.2.2.2.2 21).2.2 j).trans (a4 j hj), fun j hj => (a5 j hj).s (k _ (a5 j hj).1.1 (ne _ 20 (a5 j hj).1 (by decide))), a6, a7.s (k _ a7.1.1 (ne _ 16 a7.1 (by decide))), a8.s (k _ a8.1.1 (ne _ 17 a8.1 (by decide)))⟩
/-- the hunt's rows -/
theorem st_hunt {S : qS} {x : Nat} {fR : Nat → Option Nat} {K : qS → Prop} {i : Nat} (hx : XO S x 8 fR) (h : ∀ S' q m r1 r2 rs, kp S S' x → HF S' q m r1 r2 rs → XO S' x 8 (fun f => if f = 40 * 8 + i then some q else fR f) → K S') : w_new S 1 0 (fun q49 S => pX0_init q49 S (fun S => w_putR S (some x) 8 i (some q49) K)) := by
  intro q hq
  have o1 : old S (q_nw S 1 q 0) := old.nw hq
  have xq : x ≠ q := fun e => hq (e ▸ hx.1.1)
  have q1 : XO (q_nw S 1 q 0) q 1 (fun _ => none) := XO.nw
  have x1 := hx.s (o1 x hx.1.1)
  generalize q_nw S 1 q 0 = S1 at o1 q1 x1 ⊢
  intro m rs hm hrs hinj
  have hmem : ∀ a, a ∈ (List.range 5).map rs ↔ ∃ j, j < 5 ∧ rs j = a := fun a => by
    rw [List.mem_map]
    exact ⟨fun ⟨j, h1, h2⟩ => ⟨j, List.mem_range.mp h1, h2⟩, fun ⟨j, h1, h2⟩ => ⟨j, List.mem_range.mpr h1, h2⟩⟩
  have o2 : old S1 (q_nm S1 m rs) := fun a ha => by
    have e1 : a ≠ m := fun z => hm (z ▸ ha)
    have e2 : a ∉ (List.range 5).map rs := fun z => by
      obtain ⟨j, hj, e⟩ := (hmem a).mp z
      exact (hrs j hj).1 (e ▸ ha)
    refine ⟨List.mem_cons_of_mem _ (List.mem_append_left _ ha), ?_, ?_, fun f => ⟨rfl, rfl, rfl⟩, fun f => ⟨rfl, ?_, ?_⟩⟩
    · show (if a = m then 21 else if a ∈ (List.range 5).map rs then 20 else qK S1 a) = _
      rw [if_neg e1, if_neg e2]
    · show (if a = m then 5 else if a ∈ (List.range 5).map rs then 10 else qN S1 a) = _
      rw [if_neg e1, if_neg e2]
    · show (if a ∈ (List.range 5).map rs then (fun _ => (0 : Int64)) else qAJ S1 f a) = _
      rw [if_neg e2]
    · show (if a = m then (fun i => if i < 5 then some (rs i) else none) else qAO S1 f a) = _
      rw [if_neg e1]
  have m1 : inP (q_nm S1 m rs) m 21 := ⟨List.mem_cons_self, if_pos rfl⟩
  have m2 : qN (q_nm S1 m rs) m = 5 := if_pos rfl
  have m3 : ∀ j, j < 5 → qAO (q_nm S1 m rs) 21 m j = some (rs j) := fun j hj => by
    show (if m = m then (fun i => if i < 5 then some (rs i) else none) else qAO S1 21 m) j = _
    rw [if_pos rfl]
    exact if_pos hj
  have rk : ∀ j, j < 5 → inP (q_nm S1 m rs) (rs j) 20 ∧ qN (q_nm S1 m rs) (rs j) = 10 ∧ (∀ i, qAJ (q_nm S1 m rs) 20 (rs j) i = 0) := fun j hj => by
    have e1 : rs j ≠ m := (hrs j hj).2
    have e2 : rs j ∈ (List.range 5).map rs := (hmem _).mpr ⟨j, hj, rfl⟩
    refine ⟨⟨List.mem_cons_of_mem _ (List.mem_append_right _ e2), ?_⟩, ?_, fun i => ?_⟩
    · show (if rs j = m then 21 else if rs j ∈ (List.range 5).map rs then 20 else qK S1 (rs j)) = _
      rw [if_neg e1, if_pos e2]
    · show (if rs j = m then 5 else if rs j ∈ (List.range 5).map rs then 10 else qN S1 (rs j)) = _
      rw [if_neg e1, if_pos e2]
    · show (if rs j ∈ (List.range 5).map rs then (fun _ => (0 : Int64)) else qAJ S1 20 (rs j)) i = _
      rw [if_pos e2]
  have q2 := q1.s (o2 q q1.1.1)
  have x2 := x1.s (o2 x x1.1.1)
  generalize q_nm S1 m rs = S2 at o2 m1 m2 m3 rk q2 x2 ⊢
  have mq : m ≠ q := fun e => hm (e ▸ q1.1.1)
  have mx : m ≠ x := fun e => hm (e ▸ x1.1.1)
  have rq : ∀ j, j < 5 → rs j ≠ q := fun j hj e => (hrs j hj).1 (e ▸ q1.1.1)
  have rx : ∀ j, j < 5 → rs j ≠ x := fun j hj e => (hrs j hj).1 (e ▸ x1.1.1)
  refine ⟨q, rfl, q2.1.1, q2.1.2, ?_⟩
  have q3 : XO (qsR S2 (40 * 1 + 0) q (some m)) q 1 _ := q2.put
  refine st_arr q3 fun S4 r1 k4 f4 a4 q4 => st_arr q4 fun S5 r2 k5 f5 a5 q5 => ?_
  -- what is not q is as it was in S2
  have s25 : ∀ a, a ∈ qL S2 → a ≠ q → sameA S2 S5 a := fun a ha hne => by
    have b1 := sameA.sR (f := 40 * 1 + 0) (v := some m) ha hne
    have b2 := b1.tr (k4 a b1.1 hne)
    exact b2.tr (k5 a b2.1 hne)
  have x5 := x2.s (s25 x x2.1.1 xq)
  have r1q : r1 ≠ q := fun e => f4 (e ▸ q3.1.1)
  refine ⟨x, rfl, x5.1.1, x5.1.2, ?_⟩
  have hx5 : inP S5 x 8 := x5.1
  have kx : ∀ a, a ∈ qL S5 → a ≠ x → sameA S5 (qsR S5 (40 * 8 + i) x (some q)) a := fun a ha hne => sameA.sR ha hne
  have hF5 : HF S5 q m r1 r2 rs := by
    have sm := s25 m m1.1 mq
    refine ⟨?_, ⟨sm.1, sm.2.1.trans m1.2⟩, sm.2.2.1.trans m2, fun j hj => (congrFun (sm.2.2.2.2 21).2.2 j).trans (m3 j hj), fun j hj => ?_, hinj, a4.s (k5 r1 a4.1.1 r1q), a5⟩
    · exact q5
    · obtain ⟨b1, b2, b3⟩ := rk j hj
      have sj := s25 (rs j) b1.1 (rq j hj)
      refine ⟨⟨sj.1, sj.2.1.trans b1.2⟩, sj.2.2.1.trans b2, fun i => ?_, fun i => (congrFun (sj.2.2.2.2 20).2.1 i).trans (b3 i)⟩
      sorry
  refine h _ q m r1 r2 rs (fun a ha hne => ?_) (hF5.kp hx5 kx) x5.put
  have c1 := o1 a ha
  have c2 := c1.tr (o2 a c1.1)
  have c3 := c2.tr (s25 a c2.1 (fun e => hq (e ▸ ha)))
  exact c3.tr (sameA.sR c3.1 hne)
