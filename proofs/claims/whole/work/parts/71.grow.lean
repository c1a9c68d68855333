/-! New objects: what was there stays. -/
def sameA (S S' : qS) (a : Nat) : Prop := a ∈ qL S' ∧ qK S' a = qK S a ∧ qN S' a = qN S a ∧ (∀ f, qI S' f a = qI S f a ∧ qJ S' f a = qJ S f a ∧ qR S' f a = qR S f a) ∧ ∀ k, qAI S' k a = qAI S k a ∧ qAJ S' k a = qAJ S k a ∧ qAO S' k a = qAO S k a
def old (S S' : qS) : Prop := ∀ a, a ∈ qL S → sameA S S' a
theorem old.rf {S : qS} : old S S := fun _ h => ⟨h, rfl, rfl, fun _ => ⟨rfl, rfl, rfl⟩, fun _ => ⟨rfl, rfl, rfl⟩⟩
theorem sameA.tr {S S1 S2 : qS} {a : Nat} (h : sameA S S1 a) (k : sameA S1 S2 a) : sameA S S2 a := ⟨k.1, k.2.1.trans h.2.1, k.2.2.1.trans h.2.2.1, fun f => ⟨(k.2.2.2.1 f).1.trans (h.2.2.2.1 f).1, (k.2.2.2.1 f).2.1.trans (h.2.2.2.1 f).2.1, (k.2.2.2.1 f).2.2.trans (h.2.2.2.1 f).2.2⟩, fun f => ⟨(k.2.2.2.2 f).1.trans (h.2.2.2.2 f).1, (k.2.2.2.2 f).2.1.trans (h.2.2.2.2 f).2.1, (k.2.2.2.2 f).2.2.trans (h.2.2.2.2 f).2.2⟩⟩
theorem old.tr {S S1 S2 : qS} (h : old S S1) (k : old S1 S2) : old S S2 := fun a ha => (h a ha).tr (k a (h a ha).1)
theorem old.nw {S : qS} {k q n : Nat} (hq : q ∉ qL S) : old S (q_nw S k q n) := fun a ha => by
  have e : a ≠ q := fun z => hq (z ▸ ha)
  refine ⟨List.mem_append_left _ ha, va_up_ne _ _ e, va_up_ne _ _ e, fun f => ⟨if_neg e, if_neg e, if_neg e⟩, fun f => ⟨if_neg e, if_neg e, if_neg e⟩⟩
theorem sameA.sI {S : qS} {f a0 a : Nat} {v : Int32} (ha : a ∈ qL S) (h : a ≠ a0) : sameA S (qsI S f a0 v) a := ⟨ha, rfl, rfl, fun f' => ⟨if_neg (fun z => h z.2), rfl, rfl⟩, fun _ => ⟨rfl, rfl, rfl⟩⟩
theorem sameA.sJ {S : qS} {f a0 a : Nat} {v : Int64} (ha : a ∈ qL S) (h : a ≠ a0) : sameA S (qsJ S f a0 v) a := ⟨ha, rfl, rfl, fun f' => ⟨rfl, if_neg (fun z => h z.2), rfl⟩, fun _ => ⟨rfl, rfl, rfl⟩⟩
theorem sameA.sR {S : qS} {f a0 a : Nat} {v : Option Nat} (ha : a ∈ qL S) (h : a ≠ a0) : sameA S (qsR S f a0 v) a := ⟨ha, rfl, rfl, fun f' => ⟨rfl, rfl, if_neg (fun z => h z.2)⟩, fun _ => ⟨rfl, rfl, rfl⟩⟩
theorem sameA.sAI {S : qS} {k a0 i a : Nat} {v : Int32} (ha : a ∈ qL S) (h : a ≠ a0) : sameA S (qsAI S k a0 i v) a := ⟨ha, rfl, rfl, fun f' => ⟨rfl, rfl, rfl⟩, fun _ => ⟨if_neg (fun z => h z.2), rfl, rfl⟩⟩
theorem sameA.sAO {S : qS} {k a0 i a : Nat} {v : Option Nat} (ha : a ∈ qL S) (h : a ≠ a0) : sameA S (qsAO S k a0 i v) a := ⟨ha, rfl, rfl, fun f' => ⟨rfl, rfl, rfl⟩, fun _ => ⟨rfl, rfl, if_neg (fun z => h z.2)⟩⟩
theorem sameA.sAOf {S : qS} {k a0 a : Nat} {v : Nat → Option Nat} (ha : a ∈ qL S) (h : a ≠ a0) : sameA S (qsAOf S k a0 v) a := ⟨ha, rfl, rfl, fun f' => ⟨rfl, rfl, rfl⟩, fun _ => ⟨rfl, rfl, if_neg (fun z => h z.2)⟩⟩
theorem old.sI {S S1 : qS} {f a0 : Nat} {v : Int32} (h : old S S1) (h0 : a0 ∉ qL S) : old S (qsI S1 f a0 v) := fun a ha => (h a ha).tr (sameA.sI (h a ha).1 (fun z => h0 (z ▸ ha)))
theorem old.sR {S S1 : qS} {f a0 : Nat} {v : Option Nat} (h : old S S1) (h0 : a0 ∉ qL S) : old S (qsR S1 f a0 v) := fun a ha => (h a ha).tr (sameA.sR (h a ha).1 (fun z => h0 (z ▸ ha)))
theorem old.sAI {S S1 : qS} {k a0 i : Nat} {v : Int32} (h : old S S1) (h0 : a0 ∉ qL S) : old S (qsAI S1 k a0 i v) := fun a ha => (h a ha).tr (sameA.sAI (h a ha).1 (fun z => h0 (z ▸ ha)))
theorem old.cfr {S S' : qS} (h : old S S') : cfr S S' := ⟨fun a ha => ⟨(h a ha).1, (h a ha).2.1, (h a ha).2.2.1⟩, fun f _ a ha => ⟨((h a ha).2.2.2.1 f).1, ((h a ha).2.2.2.1 f).2.2⟩, fun k _ a ha => ⟨((h a ha).2.2.2.2 k).1, ((h a ha).2.2.2.2 k).2.1⟩⟩
theorem RU.old {g : Nat × Nat} {S S' : qS} {A : Nat → Nat → Nat} {C c : Nat → Nat} {T : mT} (h : RU g S A C c T) (ho : old S S') : RU g S' A C c T := by
  obtain ⟨h1, h2, h3, h4, ⟨h5, h6, h7⟩, h8, h9, h10, h11, h12, ⟨h13, h14⟩, h15⟩ := h
  have o : ∀ k i, i < c k → sameA S S' (A k i) := fun k i hi => ho _ (h1 k i hi).1
  have c0 : ∀ l, l < 4 → l < c 0 := fun l hl => by
    obtain ⟨np, nr, ns, no, e, _⟩ := h15
    rw [e]; exact hl
  refine ⟨fun k i hi => ⟨(o k i hi).1, (o k i hi).2.1.trans (h1 k i hi).2⟩, fun f i hf hi => ((o _ i hi).2.2.2.1 f).1.trans (h2 f i hf hi), fun f i hf hi => ((o _ i hi).2.2.2.1 f).2.2.trans (h3 f i hf hi), fun f i hf hi => ((o _ i hi).2.2.2.1 f).2.2.trans (h4 f i hf hi), ⟨fun f i hf hi => ((o _ i hi).2.2.2.1 f).1.trans (h5 f i hf hi), fun f i hf hi => ((o _ i hi).2.2.2.1 f).1.trans (h6 f i hf hi), fun i hi => ((o _ i hi).2.2.2.1 44).2.1.trans (h7 i hi)⟩, fun k i j hk hi hj => (congrFun ((o k i hi).2.2.2.2 k).1 j).trans (h8 k i j hk hi hj), fun k i j hk hi hj => (congrFun ((o k i hi).2.2.2.2 k).2.1 j).trans (h9 k i j hk hi hj), fun i j hi hj => (congrFun ((o 21 i hi).2.2.2.2 21).2.2 j).trans (h10 i j hi hj), fun k i a b hi => (o k i hi).2.2.1.trans (h11 k i a b hi), h12, ⟨fun l hl => ?_, h14⟩, h15⟩
  obtain ⟨e1, e2⟩ := h13 l hl
  have ol := o 0 l (c0 l hl)
  refine ⟨(ol.2.2.2.1 2).1.trans e1, ?_⟩
  rcases e2 with ⟨z1, z2⟩ | ⟨z1, z2, z3, z4, z5, z6, z7⟩
  · exact Or.inl ⟨z1, (ol.2.2.2.1 1).2.2.trans z2⟩
  · have oe := ho _ z1.1
    exact Or.inr ⟨⟨oe.1, oe.2.1.trans z1.2⟩, (ol.2.2.2.1 1).2.2.trans z2, oe.2.2.1.trans z3, z4, z5, z6, fun i hi => (congrFun (oe.2.2.2.2 22).2.2 i).trans (z7 i hi)⟩
/-! Adding to a list. -/
theorem shr1 {n : Nat} (h : n < 60) : nI n >>> ((1 : Int32) &&& 31) = nI (n / 2) := by
  have : ∀ m : Fin 60, nI m.val >>> ((1 : Int32) &&& 31) = nI (m.val / 2) := by decide +kernel
  exact this ⟨n, h⟩
theorem u2s {α : Type} {f : Nat → Nat → α} {k a : Nat} {v : α} : q_u2 f k a v k a = v := if_pos ⟨rfl, rfl⟩
/-- the list li of n elements gets q at its end -/
theorem addL {g : Nat × Nat} {S : qS} {li ea cap n q k : Nat} {el : Nat → Nat} {post : Int32 → qS → Prop} {xp : String → qS → Prop} (hli : inP S li 0) (hr : rcList S g li ea cap n el) (hn : n < 60) (hg : ∀ i, i < n → inP S (el i) k) (hq : inP S q k) (hk : q_lk k) (h : ∀ S' ea' cap', (∀ a, a ∈ qL S → a ≠ li → (n ≠ 0 → a ≠ ea) → sameA S S' a) → inP S' li 0 → (n ≠ 0 → inP S' ea 22) → (ea' ∉ qL S ∨ (n ≠ 0 ∧ ea' = ea)) → rcList S' g li ea' cap' (n + 1) (fun i => if i = n then q else el i) → cfr S S' → post 1 S') : pJx4a65c_add_9ea2d li (some q) S g post xp := by
  sorry
