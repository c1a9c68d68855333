/-! The constructors. -/
def T00 : mT := (fun _ => 0, fun _ _ => 0, fun _ _ => 0)
theorem bt00 {N : Int} (h : 0 ≤ N) : bt (0 : Int32) 0 N := ⟨by decide, h⟩
theorem IV00 : IV 0 T00 0 0 0 0 :=
  ⟨⟨⟨rfl, by decide⟩, ⟨rfl, by decide⟩, ⟨rfl, by decide⟩, ⟨rfl, by decide⟩⟩, bt00 (by decide), ⟨fun _ => bt00 (by decide), fun _ _ => rfl, fun _ _ => ⟨rfl, rfl⟩⟩, ⟨fun _ => ⟨bt00 (by decide), bt00 (by decide)⟩, fun _ _ => ⟨rfl, rfl⟩, fun _ => bt00 (by decide), fun _ _ => rfl, fun _ => bt00 (by decide), fun _ => Or.inl rfl⟩, ⟨fun i hi => absurd hi (Nat.not_lt_zero i), fun _ _ => ⟨rfl, rfl⟩, fun _ _ => ⟨rfl, rfl⟩⟩, fun i hi => absurd hi (Nat.not_lt_zero i)⟩
def kp (S S' : qS) (x : Nat) : Prop := ∀ a, a ∈ qL S → a ≠ x → sameA S S' a
def LF (g : Nat × Nat) (S : qS) (a : Nat) : Prop := inP S a 0 ∧ qI S 2 a = 0 ∧ qR S 1 a = some g.1
def RW (S : qS) (a k n : Nat) : Prop := inP S a k ∧ qN S a = n ∧ ∀ j, qAJ S k a j = 0
theorem RW.s {S S' : qS} {a k n : Nat} (h : RW S a k n) (s : sameA S S' a) : RW S' a k n := ⟨⟨s.1, s.2.1.trans h.1.2⟩, s.2.2.1.trans h.2.1, fun j => (congrFun (s.2.2.2.2 k).2.1 j).trans (h.2.2 j)⟩
def AF (S : qS) (a k n : Nat) : Prop := inP S a k ∧ qN S a = n ∧ (∀ j, qAI S k a j = 0) ∧ ∀ j, qAJ S k a j = 0
theorem LF.s {g : Nat × Nat} {S S' : qS} {a : Nat} (h : LF g S a) (s : sameA S S' a) : LF g S' a := ⟨⟨s.1, s.2.1.trans h.1.2⟩, (s.2.2.2.1 2).1.trans h.2.1, (s.2.2.2.1 1).2.2.trans h.2.2⟩
theorem AF.s {S S' : qS} {a k n : Nat} (h : AF S a k n) (s : sameA S S' a) : AF S' a k n := ⟨⟨s.1, s.2.1.trans h.1.2⟩, s.2.2.1.trans h.2.1, fun j => (congrFun (s.2.2.2.2 k).1 j).trans (h.2.2.1 j), fun j => (congrFun (s.2.2.2.2 k).2.1 j).trans (h.2.2.2 j)⟩
theorem AF.nw {S : qS} {k q n : Nat} : AF (q_nw S k q n) q k n := ⟨⟨mem_nw, va_up_self _ _ _⟩, va_up_self _ _ _, fun j => by
  show (if q = q then (fun _ => (0 : Int32)) else _) j = 0
  rw [if_pos rfl], fun j => by
  show (if q = q then (fun _ => (0 : Int64)) else _) j = 0
  rw [if_pos rfl]⟩
/-- an object of class k whose references are fR and whose ints are nought -/
def XO (S : qS) (x k : Nat) (fR : Nat → Option Nat) : Prop := inP S x k ∧ (∀ f, qI S f x = 0) ∧ (∀ f, qJ S f x = 0) ∧ ∀ f, qR S f x = fR f
theorem XO.nw {S : qS} {k q n : Nat} : XO (q_nw S k q n) q k (fun _ => none) := ⟨⟨mem_nw, va_up_self _ _ _⟩, fun f => if_pos rfl, fun f => if_pos rfl, fun f => if_pos rfl⟩
theorem XO.s {S S' : qS} {x k : Nat} {fR : Nat → Option Nat} (h : XO S x k fR) (s : sameA S S' x) : XO S' x k fR := ⟨⟨s.1, s.2.1.trans h.1.2⟩, fun f => (s.2.2.2.1 f).1.trans (h.2.1 f), fun f => (s.2.2.2.1 f).2.1.trans (h.2.2.1 f), fun f => (s.2.2.2.1 f).2.2.trans (h.2.2.2 f)⟩
theorem XO.put {S : qS} {x k m : Nat} {fR : Nat → Option Nat} {v : Option Nat} (h : XO S x k fR) : XO (qsR S (40 * k + m) x v) x k (fun f => if f = 40 * k + m then v else fR f) := ⟨h.1, h.2.1, h.2.2.1, fun f => by
  show q_u2 (qR S) (40 * k + m) x v f x = _
  rw [u2n, h.2.2.2 f]⟩
section IN
variable {g : Nat × Nat} {S : qS} {x m : Nat} {fR : Nat → Option Nat} {K : qS → Prop}
/-- a new list, held by x -/
theorem st_list {k : Nat} (hx : XO S x k fR) (h : ∀ S' q, kp S S' x → q ∉ qL S → LF g S' q → XO S' x k (fun f => if f = 40 * k + m then some q else fR f) → K S') : w_new S 0 0 (fun q5 S => pJx4a65c_init_da8c8 q5 S g (fun S => w_putR S (some x) k m (some q5) K)) := by
  intro q hq
  have o1 : old S (q_nw S 0 q 0) := old.nw hq
  have xq : x ≠ q := fun e => hq (e ▸ hx.1.1)
  have iq : inP (q_nw S 0 q 0) q 0 := ⟨mem_nw, va_up_self _ _ _⟩
  have zI : ∀ f, qI (q_nw S 0 q 0) f q = 0 := fun f => if_pos rfl
  have x1 := hx.s (o1 x hx.1.1)
  generalize q_nw S 0 q 0 = S1 at o1 iq zI x1 ⊢
  refine ⟨q, rfl, iq.1, iq.2, q, rfl, iq.1, iq.2, x, rfl, x1.1.1, x1.1.2, ?_⟩
  have s2 : ∀ a, a ∈ qL S1 → a ≠ q → sameA S1 (qsR (qsI S1 (40 * 0 + 0) q 0) (40 * 0 + 1) q (some g.1)) a := fun a ha hne => (sameA.sI ha hne).tr (sameA.sR ha hne)
  have x2 := x1.s (s2 x x1.1.1 xq)
  refine h _ q (fun a ha hne => ?_) hq ⟨⟨iq.1, iq.2⟩, ?_, ?_⟩ x2.put
  · have a1 := o1 a ha
    have a2 := a1.tr (s2 a a1.1 (fun e => hq (e ▸ ha)))
    exact a2.tr (sameA.sR a2.1 hne)
  · show q_u2 (qI S1) 0 q 0 2 q = 0
    rw [u2_ne (by decide), zI]
  · show q_u2 (q_u2 (qR S1) 1 q (some g.1)) (40 * k + m) x (some q) 1 q = some g.1
    unfold q_u2
    rw [if_neg (fun z => xq z.2.symm), if_pos ⟨rfl, rfl⟩]
/-- a new row, held by x -/
theorem st_arr {k ka n : Nat} (hx : XO S x k fR) (h : ∀ S' q, kp S S' x → q ∉ qL S → AF S' q ka n → XO S' x k (fun f => if f = 40 * k + m then some q else fR f) → K S') : w_new S ka n (fun q S => w_putR S (some x) k m (some q) K) := by
  intro q hq
  have o1 : old S (q_nw S ka q n) := old.nw hq
  have xq : x ≠ q := fun e => hq (e ▸ hx.1.1)
  have aq : AF (q_nw S ka q n) q ka n := AF.nw
  have x1 := hx.s (o1 x hx.1.1)
  generalize q_nw S ka q n = S1 at o1 aq x1 ⊢
  refine ⟨x, rfl, x1.1.1, x1.1.2, h _ q (fun a ha hne => ?_) hq (aq.s (sameA.sR aq.1.1 (Ne.symm xq))) x1.put⟩
  have a1 := o1 a ha
  exact a1.tr (sameA.sR a1.1 hne)
end IN
def HF (S : qS) (h m r1 r2 : Nat) (rs : Nat → Nat) : Prop := XO S h 1 (fun f => if f = 42 then some r2 else if f = 41 then some r1 else if f = 40 then some m else none) ∧ inP S m 21 ∧ qN S m = 5 ∧ (∀ j, j < 5 → qAO S 21 m j = some (rs j)) ∧ (∀ j, j < 5 → RW S (rs j) 20 10) ∧ (∀ i j, i < 5 → j < 5 → rs i = rs j → i = j) ∧ AF S r1 16 4 ∧ AF S r2 17 10
theorem HF.kp {S S' : qS} {x h m r1 r2 : Nat} {rs : Nat → Nat} (hh : HF S h m r1 r2 rs) (hx : inP S x 8) (k : kp S S' x) : HF S' h m r1 r2 rs := by
  obtain ⟨a1, a2, a3, a4, a5, a6, a7, a8⟩ := hh
  have ne : ∀ a j, inP S a j → j ≠ 8 → a ≠ x := fun a j ha hj e => hj (by rw [← ha.2, e]; exact hx.2)
  have sm := k m a2.1 (ne m 21 a2 (by decide))
  refine ⟨a1.s (k h a1.1.1 (ne h 1 a1.1 (by decide))), ⟨sm.1, sm.2.1.trans a2.2⟩, sm.2.2.1.trans a3, fun j hj => (congrFun (sm.2.2.2.2 21).2.2 j).trans (a4 j hj), fun j hj => (a5 j hj).s (k _ (a5 j hj).1.1 (ne _ 20 (a5 j hj).1 (by decide))), a6, a7.s (k _ a7.1.1 (ne _ 16 a7.1 (by decide))), a8.s (k _ a8.1.1 (ne _ 17 a8.1 (by decide)))⟩
/-- the hunt's rows -/
theorem st_hunt {S : qS} {x : Nat} {fR : Nat → Option Nat} {K : qS → Prop} {i : Nat} (hx : XO S x 8 fR) (h : ∀ S' q m r1 r2 rs, kp S S' x → HF S' q m r1 r2 rs → XO S' x 8 (fun f => if f = 40 * 8 + i then some q else fR f) → K S') : w_new S 1 0 (fun q49 S => pX0_init q49 S (fun S => w_putR S (some x) 8 i (some q49) K)) := by
  intro q hq
  have o1 : old S (q_nw S 1 q 0) := old.nw hq
  have xq : x ≠ q := fun e => hq (e ▸ hx.1.1)
  have q1 : XO (q_nw S 1 q 0) q 1 (fun _ => none) := XO.nw
  have x1 := hx.s (o1 x hx.1.1)
  generalize q_nw S 1 q 0 = S1 at o1 q1 x1 ⊢
  intro m rs hm hrs hinj
  have hmem : ∀ a, a ∈ (List.range 5).map rs ↔ ∃ j, j < 5 ∧ rs j = a := fun a => by
    rw [List.mem_map]
    exact ⟨fun ⟨j, h1, h2⟩ => ⟨j, List.mem_range.mp h1, h2⟩, fun ⟨j, h1, h2⟩ => ⟨j, List.mem_range.mpr h1, h2⟩⟩
  have o2 : old S1 (q_nm S1 m rs) := fun a ha => by
    have e1 : a ≠ m := fun z => hm (z ▸ ha)
    have e2 : a ∉ (List.range 5).map rs := fun z => by
      obtain ⟨j, hj, e⟩ := (hmem a).mp z
      exact (hrs j hj).1 (e ▸ ha)
    refine ⟨List.mem_cons_of_mem _ (List.mem_append_left _ ha), ?_, ?_, fun f => ⟨rfl, rfl, rfl⟩, fun f => ⟨rfl, ?_, ?_⟩⟩
    · show (if a = m then 21 else if a ∈ (List.range 5).map rs then 20 else qK S1 a) = _
      rw [if_neg e1, if_neg e2]
    · show (if a = m then 5 else if a ∈ (List.range 5).map rs then 10 else qN S1 a) = _
      rw [if_neg e1, if_neg e2]
    · show (if a ∈ (List.range 5).map rs then (fun _ => (0 : Int64)) else qAJ S1 f a) = _
      rw [if_neg e2]
    · show (if a = m then (fun i => if i < 5 then some (rs i) else none) else qAO S1 f a) = _
      rw [if_neg e1]
  have m1 : inP (q_nm S1 m rs) m 21 := ⟨List.mem_cons_self, if_pos rfl⟩
  have m2 : qN (q_nm S1 m rs) m = 5 := if_pos rfl
  have m3 : ∀ j, j < 5 → qAO (q_nm S1 m rs) 21 m j = some (rs j) := fun j hj => by
    show (if m = m then (fun i => if i < 5 then some (rs i) else none) else qAO S1 21 m) j = _
    rw [if_pos rfl]
    exact if_pos hj
  have rk : ∀ j, j < 5 → inP (q_nm S1 m rs) (rs j) 20 ∧ qN (q_nm S1 m rs) (rs j) = 10 ∧ (∀ i, qAJ (q_nm S1 m rs) 20 (rs j) i = 0) := fun j hj => by
    have e1 : rs j ≠ m := (hrs j hj).2
    have e2 : rs j ∈ (List.range 5).map rs := (hmem _).mpr ⟨j, hj, rfl⟩
    refine ⟨⟨List.mem_cons_of_mem _ (List.mem_append_right _ e2), ?_⟩, ?_, fun i => ?_⟩
    · show (if rs j = m then 21 else if rs j ∈ (List.range 5).map rs then 20 else qK S1 (rs j)) = _
      rw [if_neg e1, if_pos e2]
    · show (if rs j = m then 5 else if rs j ∈ (List.range 5).map rs then 10 else qN S1 (rs j)) = _
      rw [if_neg e1, if_pos e2]
    · show (if rs j ∈ (List.range 5).map rs then (fun _ => (0 : Int64)) else qAJ S1 20 (rs j)) i = _
      rw [if_pos e2]
  have q2 := q1.s (o2 q q1.1.1)
  have x2 := x1.s (o2 x x1.1.1)
  generalize q_nm S1 m rs = S2 at o2 m1 m2 m3 rk q2 x2 ⊢
  have mq : m ≠ q := fun e => hm (e ▸ q1.1.1)
  have mx : m ≠ x := fun e => hm (e ▸ x1.1.1)
  have rq : ∀ j, j < 5 → rs j ≠ q := fun j hj e => (hrs j hj).1 (e ▸ q1.1.1)
  have rx : ∀ j, j < 5 → rs j ≠ x := fun j hj e => (hrs j hj).1 (e ▸ x1.1.1)
  refine ⟨q, rfl, q2.1.1, q2.1.2, ?_⟩
  have q3 : XO (qsR S2 (40 * 1 + 0) q (some m)) q 1 _ := q2.put
  refine st_arr q3 fun S4 r1 k4 f4 a4 q4 => st_arr q4 fun S5 r2 k5 f5 a5 q5 => ?_
  -- what is not q is as it was in S2
  have s25 : ∀ a, a ∈ qL S2 → a ≠ q → sameA S2 S5 a := fun a ha hne => by
    have b1 := sameA.sR (f := 40 * 1 + 0) (v := some m) ha hne
    have b2 := b1.tr (k4 a b1.1 hne)
    exact b2.tr (k5 a b2.1 hne)
  have x5 := x2.s (s25 x x2.1.1 xq)
  have r1q : r1 ≠ q := fun e => f4 (e ▸ q3.1.1)
  refine ⟨x, rfl, x5.1.1, x5.1.2, ?_⟩
  have hx5 : inP S5 x 8 := x5.1
  have kx : ∀ a, a ∈ qL S5 → a ≠ x → sameA S5 (qsR S5 (40 * 8 + i) x (some q)) a := fun a ha hne => sameA.sR ha hne
  have hF5 : HF S5 q m r1 r2 rs := by
    have sm := s25 m m1.1 mq
    refine ⟨?_, ⟨sm.1, sm.2.1.trans m1.2⟩, sm.2.2.1.trans m2, fun j hj => (congrFun (sm.2.2.2.2 21).2.2 j).trans (m3 j hj), fun j hj => ?_, hinj, a4.s (k5 r1 a4.1.1 r1q), a5⟩
    · exact q5
    · exact RW.s (rk j hj) (s25 (rs j) (rk j hj).1.1 (rq j hj))
  refine h _ q m r1 r2 rs (fun a ha hne => ?_) (hF5.kp hx5 kx) x5.put
  have c1 := o1 a ha
  have c2 := c1.tr (o2 a c1.1)
  have c3 := c2.tr (s25 a c2.1 (fun e => hq (e ▸ ha)))
  exact c3.tr (sameA.sR c3.1 hne)

theorem ne8 {S : qS} {x a j : Nat} (hx : inP S x 8) (ha : inP S a j) (hj : j ≠ 8) : a ≠ x := fun e => hj (by rw [← ha.2, e]; exact hx.2)
theorem LF.kp {g : Nat × Nat} {S S' : qS} {x a : Nat} (h : LF g S a) (hx : inP S x 8) (k : kp S S' x) : LF g S' a := h.s (k a h.1.1 (ne8 hx h.1 (by decide)))
theorem AF.kp {S S' : qS} {x a j n : Nat} (h : AF S a j n) (hx : inP S x 8) (hj : j ≠ 8) (k : kp S S' x) : AF S' a j n := h.s (k a h.1.1 (ne8 hx h.1 hj))
theorem XO.kp {S S' : qS} {x a j : Nat} {fR : Nat → Option Nat} (h : XO S a j fR) (hx : inP S x 8) (hj : j ≠ 8) (k : kp S S' x) : XO S' a j fR := h.s (k a h.1.1 (ne8 hx h.1 hj))
theorem st_things {g : Nat × Nat} {S : qS} {x i : Nat} {fR : Nat → Option Nat} {K : qS → Prop} (hx : XO S x 8 fR) (h : ∀ S' q l, kp S S' x → l ∉ qL S → LF g S' l → XO S' q 7 (fun f => if f = 40 * 7 + 0 then some l else none) → XO S' x 8 (fun f => if f = 40 * 8 + i then some q else fR f) → K S') : w_new S 7 0 (fun q38 S => pX6_init q38 S g (fun S => w_putR S (some x) 8 i (some q38) K)) := by
  intro q hq
  have o1 : old S (q_nw S 7 q 0) := old.nw hq
  have xq : x ≠ q := fun e => hq (e ▸ hx.1.1)
  have q1 : XO (q_nw S 7 q 0) q 7 (fun _ => none) := XO.nw
  have x1 := hx.s (o1 x hx.1.1)
  generalize q_nw S 7 q 0 = S1 at o1 q1 x1 ⊢
  refine st_list q1 fun S2 l k2 f2 l2 q2 => ?_
  have x2 := x1.s (k2 x x1.1.1 xq)
  have lx : l ≠ x := fun e => f2 (e ▸ x1.1.1)
  refine ⟨x, rfl, x2.1.1, x2.1.2, h _ q l (fun a ha hne => ?_) (fun z => f2 (o1 l z).1) (l2.s (sameA.sR l2.1.1 lx)) (q2.s (sameA.sR q2.1.1 (Ne.symm xq))) x2.put⟩
  have a1 := o1 a ha
  have a2 := a1.tr (k2 a a1.1 (fun e => hq (e ▸ ha)))
  exact a2.tr (sameA.sR a2.1 hne)
theorem cN0 {k i : Nat} (h : i < cN 0 0 0 0 k) : (k = 0 ∧ i < 4) ∨ (k = 20 ∧ i < 5) ∨ (i = 0 ∧ (k = 1 ∨ k = 7 ∨ k = 8 ∨ k = 15 ∨ k = 16 ∨ k = 17 ∨ k = 18 ∨ k = 19 ∨ k = 21)) := by
  unfold cN at h
  split at h <;> omega
def A00 (l : Nat → Nat) (h t x w r1 r2 am ab m : Nat) (rs : Nat → Nat) (k i : Nat) : Nat := match k with | 0 => l i | 1 => h | 7 => t | 8 => x | 15 => w | 16 => r1 | 17 => r2 | 18 => am | 19 => ab | 20 => rs i | 21 => m | _ => 0
def l00 (a b c d i : Nat) : Nat := match i with | 0 => a | 1 => b | 2 => c | _ => d
theorem RU00 {g : Nat × Nat} {S : qS} {a b c d h t x w r1 r2 am ab m : Nat} {rs : Nat → Nat} (ha : LF g S a) (hb : LF g S b) (hc : LF g S c) (hd : LF g S d) (dab : a ≠ b) (dac : a ≠ c) (dad : a ≠ d) (dbc : b ≠ c) (dbd : b ≠ d) (dcd : c ≠ d) (ht : XO S t 7 (fun f => if f = 280 then some d else none)) (hh : HF S h m r1 r2 rs) (hw : AF S w 15 4) (ham : AF S am 18 4) (hab : AF S ab 19 4)
    (hx : XO S x 8 (fun f => if f = 327 then some ab else if f = 326 then some am else if f = 325 then some w else if f = 324 then some h else if f = 323 then some t else if f = 322 then some c else if f = 321 then some b else if f = 320 then some a else none)) : RU g S (A00 (l00 a b c d) h t x w r1 r2 am ab m rs) (fun _ => 0) (cN 0 0 0 0) T00 := by
  obtain ⟨h1, h2, h3, h4, h5, h6, h7, h8⟩ := hh
  have hl : ∀ i, i < 4 → LF g S (l00 a b c d i) := fun i hi => by
    match i, hi with
    | 0, _ => exact ha
    | 1, _ => exact hb
    | 2, _ => exact hc
    | 3, _ => exact hd
  refine ⟨fun k i hi => ?_, fun f i hf hi => ?_, fun f i hf hi => ?_, fun f i hf hi => ?_, ⟨fun f i hf hi => ?_, fun f i hf hi => ?_, fun i hi => ?_⟩, fun k i j hk hi hj => ?_, fun k i j hk hi hj => ?_, fun i j hi hj => ?_, fun k i hk1 hk2 hi => ?_, fun k i j hi hj e => ?_, ⟨fun l hl4 => ?_, fun l m' hl4 hm4 hne z => ?_⟩, ⟨0, 0, 0, 0, rfl, by decide, by decide, by decide, by decide⟩⟩
  · rcases cN0 hi with ⟨rfl, q⟩ | ⟨rfl, q⟩ | ⟨rfl, rfl | rfl | rfl | rfl | rfl | rfl | rfl | rfl | rfl⟩
    · exact (hl i q).1
    · exact (h5 i q).1
    · exact h1.1
    · exact ht.1
    · exact hx.1
    · exact hw.1
    · exact h7.1
    · exact h8.1
    · exact ham.1
    · exact hab.1
    · exact h2
  · have z : ∀ f ∈ fLI, cN 0 0 0 0 (f / 40) = 0 := by decide
    rw [z f hf] at hi
    exact absurd hi (Nat.not_lt_zero i)
  · have z : ∀ f ∈ fLR, cN 0 0 0 0 (f / 40) = 0 := by decide
    rw [z f hf] at hi
    exact absurd hi (Nat.not_lt_zero i)
  · have hj := cN0 hi
    simp only [fLS, List.mem_cons, List.not_mem_nil, or_false] at hf
    have i0 : f / 40 ≠ 0 → f / 40 ≠ 20 → i = 0 := fun z1 z2 => by omega
    rcases hf with rfl | rfl | rfl | rfl | rfl | rfl | rfl | rfl | rfl | rfl | rfl | rfl | rfl | rfl | rfl | rfl | rfl | rfl | rfl
    · exact absurd hi (Nat.not_lt_zero i)
    · exact absurd hi (Nat.not_lt_zero i)
    · exact absurd hi (Nat.not_lt_zero i)
    · exact absurd hi (Nat.not_lt_zero i)
    · exact absurd hi (Nat.not_lt_zero i)
    · exact absurd hi (Nat.not_lt_zero i)
    · exact absurd hi (Nat.not_lt_zero i)
    · exact hx.2.2.2 320
    · exact hx.2.2.2 321
    · exact hx.2.2.2 322
    · exact hx.2.2.2 323
    · exact hx.2.2.2 324
    · exact hx.2.2.2 325
    · exact hx.2.2.2 326
    · exact hx.2.2.2 327
    · exact ht.2.2.2 280
    · exact h1.2.2.2 40
    · exact h1.2.2.2 41
    · exact h1.2.2.2 42
  · simp only [fLF, List.mem_cons, List.not_mem_nil, or_false] at hf
    rcases hf with rfl | rfl | rfl
    · exact hx.2.1 328
    · exact hx.2.1 329
    · exact h1.2.1 43
  · have z : ∀ f ∈ [120, 240], cN 0 0 0 0 (f / 40) = 0 := by decide
    rw [z f hf] at hi
    exact absurd hi (Nat.not_lt_zero i)
  · exact h1.2.2.1 44
  · simp only [aLI, List.mem_cons, List.not_mem_nil, or_false] at hk
    rcases hk with rfl | rfl | rfl | rfl | rfl | rfl | rfl | rfl
    · exact absurd hi (Nat.not_lt_zero i)
    · exact absurd hi (Nat.not_lt_zero i)
    · exact absurd hi (Nat.not_lt_zero i)
    · exact absurd hi (Nat.not_lt_zero i)
    · exact absurd hi (Nat.not_lt_zero i)
    · exact hw.2.2.1 j
    · exact h7.2.2.1 j
    · exact h8.2.2.1 j
  · simp only [aLJ, List.mem_cons, List.not_mem_nil, or_false] at hk
    rcases hk with rfl | rfl | rfl
    · exact ham.2.2.2 j
    · exact hab.2.2.2 j
    · exact (h5 i hi).2.2 j
  · exact h4 j hj
  · rcases cN0 hi with ⟨rfl, q⟩ | ⟨rfl, q⟩ | ⟨rfl, rfl | rfl | rfl | rfl | rfl | rfl | rfl | rfl | rfl⟩
    · omega
    · exact (h5 i q).2.1
    · omega
    · omega
    · omega
    · exact hw.2.1
    · exact h7.2.1
    · exact h8.2.1
    · exact ham.2.1
    · exact hab.2.1
    · exact h3
  · rcases cN0 hi with ⟨rfl, q⟩ | ⟨rfl, q⟩ | ⟨rfl, q⟩
    · have hj4 : j < 4 := hj
      have e' : l00 a b c d i = l00 a b c d j := e
      match i, j, q, hj4 with
      | 0, 0, _, _ => rfl
      | 1, 1, _, _ => rfl
      | 2, 2, _, _ => rfl
      | 3, 3, _, _ => rfl
      | 0, 1, _, _ => exact absurd e' dab
      | 0, 2, _, _ => exact absurd e' dac
      | 0, 3, _, _ => exact absurd e' dad
      | 1, 2, _, _ => exact absurd e' dbc
      | 1, 3, _, _ => exact absurd e' dbd
      | 2, 3, _, _ => exact absurd e' dcd
      | 1, 0, _, _ => exact absurd e'.symm dab
      | 2, 0, _, _ => exact absurd e'.symm dac
      | 3, 0, _, _ => exact absurd e'.symm dad
      | 2, 1, _, _ => exact absurd e'.symm dbc
      | 3, 1, _, _ => exact absurd e'.symm dbd
      | 3, 2, _, _ => exact absurd e'.symm dcd
    · exact h6 i j q hj e
    · rcases cN0 hj with ⟨z, -⟩ | ⟨z, -⟩ | ⟨z, -⟩
      · omega
      · omega
      · exact z.symm
  · have z : cN 0 0 0 0 (l_k l) = 0 := by
      match l, hl4 with
      | 0, _ => rfl
      | 1, _ => rfl
      | 2, _ => rfl
      | 3, _ => rfl
    rw [z]
    exact ⟨(hl l hl4).2.1, Or.inl ⟨rfl, (hl l hl4).2.2⟩⟩
  · refine absurd ?_ z
    match l, hl4 with
    | 0, _ => rfl
    | 1, _ => rfl
    | 2, _ => rfl
    | 3, _ => rfl
theorem c_init {g : Nat × Nat} {S : qS} {x : Nat} {K : qS → Prop} (x0 : XO S x 8 (fun _ => none)) (h : ∀ S' A C, RU g S' A C (cN 0 0 0 0) T00 → A 8 0 = x → K S') : pX7_init x S g K := by
  unfold pX7_init
  refine st_list (g := g) x0 fun S1 a k1 fa a1 x1 => ?_
  refine st_list (g := g) x1 fun S2 b k2 fb b2 x2 => ?_
  have a2 := a1.kp x1.1 k2
  refine st_list (g := g) x2 fun S3 c k3 fc c3 x3 => ?_
  have a3 := a2.kp x2.1 k3
  have b3 := b2.kp x2.1 k3
  refine st_things (g := g) x3 fun S4 t d k4 fd d4 t4 x4 => ?_
  have a4 := a3.kp x3.1 k4
  have b4 := b3.kp x3.1 k4
  have c4 := c3.kp x3.1 k4
  refine st_hunt x4 fun S5 q m r1 r2 rs k5 h5 x5 => ?_
  have a5 := a4.kp x4.1 k5
  have b5 := b4.kp x4.1 k5
  have c5 := c4.kp x4.1 k5
  have d5 := d4.kp x4.1 k5
  have t5 := t4.kp x4.1 (by decide) k5
  refine st_arr x5 fun S6 w k6 _ w6 x6 => ?_
  refine st_arr x6 fun S7 am k7 _ am7 x7 => ?_
  have w7 := w6.kp x6.1 (by decide) k7
  refine st_arr x7 fun S8 ab k8 _ ab8 x8 => ?_
  have w8 := w7.kp x7.1 (by decide) k8
  have am8 := am7.kp x7.1 (by decide) k8
  have L : ∀ {u}, LF g S5 u → LF g S8 u := fun hu => ((hu.kp x5.1 k6).kp x6.1 k7).kp x7.1 k8
  have t8 := ((t5.kp x5.1 (by decide) k6).kp x6.1 (by decide) k7).kp x7.1 (by decide) k8
  have h8 := ((h5.kp x5.1 k6).kp x6.1 k7).kp x7.1 k8
  exact h S8 _ _ (RU00 (L a5) (L b5) (L c5) (L d5) (fun e => fb (e ▸ a1.1.1)) (fun e => fc (e ▸ a2.1.1)) (fun e => fd (e ▸ a3.1.1)) (fun e => fc (e ▸ b2.1.1)) (fun e => fd (e ▸ b3.1.1)) (fun e => fd (e ▸ c3.1.1)) t8 h8 w8 am8 ab8 x8) rfl
