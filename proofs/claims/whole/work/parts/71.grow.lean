/-! New objects: what was there stays. -/
def sameA (S S' : qS) (a : Nat) : Prop := a ∈ qL S' ∧ qK S' a = qK S a ∧ qN S' a = qN S a ∧ (∀ f, qI S' f a = qI S f a ∧ qJ S' f a = qJ S f a ∧ qR S' f a = qR S f a) ∧ ∀ k, qAI S' k a = qAI S k a ∧ qAJ S' k a = qAJ S k a ∧ qAO S' k a = qAO S k a
def old (S S' : qS) : Prop := ∀ a, a ∈ qL S → sameA S S' a
theorem old.rf {S : qS} : old S S := fun _ h => ⟨h, rfl, rfl, fun _ => ⟨rfl, rfl, rfl⟩, fun _ => ⟨rfl, rfl, rfl⟩⟩
theorem sameA.tr {S S1 S2 : qS} {a : Nat} (h : sameA S S1 a) (k : sameA S1 S2 a) : sameA S S2 a := ⟨k.1, k.2.1.trans h.2.1, k.2.2.1.trans h.2.2.1, fun f => ⟨(k.2.2.2.1 f).1.trans (h.2.2.2.1 f).1, (k.2.2.2.1 f).2.1.trans (h.2.2.2.1 f).2.1, (k.2.2.2.1 f).2.2.trans (h.2.2.2.1 f).2.2⟩, fun f => ⟨(k.2.2.2.2 f).1.trans (h.2.2.2.2 f).1, (k.2.2.2.2 f).2.1.trans (h.2.2.2.2 f).2.1, (k.2.2.2.2 f).2.2.trans (h.2.2.2.2 f).2.2⟩⟩
theorem old.tr {S S1 S2 : qS} (h : old S S1) (k : old S1 S2) : old S S2 := fun a ha => (h a ha).tr (k a (h a ha).1)
theorem old.nw {S : qS} {k q n : Nat} (hq : q ∉ qL S) : old S (q_nw S k q n) := fun a ha => by
  have e : a ≠ q := fun z => hq (z ▸ ha)
  refine ⟨List.mem_append_left _ ha, va_up_ne _ _ e, va_up_ne _ _ e, fun f => ⟨if_neg e, if_neg e, if_neg e⟩, fun f => ⟨if_neg e, if_neg e, if_neg e⟩⟩
theorem sameA.sI {S : qS} {f a0 a : Nat} {v : Int32} (ha : a ∈ qL S) (h : a ≠ a0) : sameA S (qsI S f a0 v) a := ⟨ha, rfl, rfl, fun f' => ⟨if_neg (fun z => h z.2), rfl, rfl⟩, fun _ => ⟨rfl, rfl, rfl⟩⟩
theorem sameA.sJ {S : qS} {f a0 a : Nat} {v : Int64} (ha : a ∈ qL S) (h : a ≠ a0) : sameA S (qsJ S f a0 v) a := ⟨ha, rfl, rfl, fun f' => ⟨rfl, if_neg (fun z => h z.2), rfl⟩, fun _ => ⟨rfl, rfl, rfl⟩⟩
theorem sameA.sR {S : qS} {f a0 a : Nat} {v : Option Nat} (ha : a ∈ qL S) (h : a ≠ a0) : sameA S (qsR S f a0 v) a := ⟨ha, rfl, rfl, fun f' => ⟨rfl, rfl, if_neg (fun z => h z.2)⟩, fun _ => ⟨rfl, rfl, rfl⟩⟩
theorem sameA.sAI {S : qS} {k a0 i a : Nat} {v : Int32} (ha : a ∈ qL S) (h : a ≠ a0) : sameA S (qsAI S k a0 i v) a := ⟨ha, rfl, rfl, fun f' => ⟨rfl, rfl, rfl⟩, fun _ => ⟨if_neg (fun z => h z.2), rfl, rfl⟩⟩
theorem sameA.sAO {S : qS} {k a0 i a : Nat} {v : Option Nat} (ha : a ∈ qL S) (h : a ≠ a0) : sameA S (qsAO S k a0 i v) a := ⟨ha, rfl, rfl, fun f' => ⟨rfl, rfl, rfl⟩, fun _ => ⟨rfl, rfl, if_neg (fun z => h z.2)⟩⟩
theorem sameA.sAOf {S : qS} {k a0 a : Nat} {v : Nat → Option Nat} (ha : a ∈ qL S) (h : a ≠ a0) : sameA S (qsAOf S k a0 v) a := ⟨ha, rfl, rfl, fun f' => ⟨rfl, rfl, rfl⟩, fun _ => ⟨rfl, rfl, if_neg (fun z => h z.2)⟩⟩
theorem old.sI {S S1 : qS} {f a0 : Nat} {v : Int32} (h : old S S1) (h0 : a0 ∉ qL S) : old S (qsI S1 f a0 v) := fun a ha => (h a ha).tr (sameA.sI (h a ha).1 (fun z => h0 (z ▸ ha)))
theorem old.sR {S S1 : qS} {f a0 : Nat} {v : Option Nat} (h : old S S1) (h0 : a0 ∉ qL S) : old S (qsR S1 f a0 v) := fun a ha => (h a ha).tr (sameA.sR (h a ha).1 (fun z => h0 (z ▸ ha)))
theorem old.sAI {S S1 : qS} {k a0 i : Nat} {v : Int32} (h : old S S1) (h0 : a0 ∉ qL S) : old S (qsAI S1 k a0 i v) := fun a ha => (h a ha).tr (sameA.sAI (h a ha).1 (fun z => h0 (z ▸ ha)))
theorem old.cfr {S S' : qS} (h : old S S') : cfr S S' := ⟨fun a ha => ⟨(h a ha).1, (h a ha).2.1, (h a ha).2.2.1⟩, fun f _ a ha => ⟨((h a ha).2.2.2.1 f).1, ((h a ha).2.2.2.1 f).2.2⟩, fun k _ a ha => ⟨((h a ha).2.2.2.2 k).1, ((h a ha).2.2.2.2 k).2.1⟩⟩
theorem RU.old {g : Nat × Nat} {S S' : qS} {A : Nat → Nat → Nat} {C c : Nat → Nat} {T : mT} (h : RU g S A C c T) (ho : old S S') : RU g S' A C c T := by
  obtain ⟨h1, h2, h3, h4, ⟨h5, h6, h7⟩, h8, h9, h10, h11, h12, ⟨h13, h14⟩, h15⟩ := h
  have o : ∀ k i, i < c k → sameA S S' (A k i) := fun k i hi => ho _ (h1 k i hi).1
  have c0 : ∀ l, l < 4 → l < c 0 := fun l hl => by
    obtain ⟨np, nr, ns, no, e, _⟩ := h15
    rw [e]; exact hl
  refine ⟨fun k i hi => ⟨(o k i hi).1, (o k i hi).2.1.trans (h1 k i hi).2⟩, fun f i hf hi => ((o _ i hi).2.2.2.1 f).1.trans (h2 f i hf hi), fun f i hf hi => ((o _ i hi).2.2.2.1 f).2.2.trans (h3 f i hf hi), fun f i hf hi => ((o _ i hi).2.2.2.1 f).2.2.trans (h4 f i hf hi), ⟨fun f i hf hi => ((o _ i hi).2.2.2.1 f).1.trans (h5 f i hf hi), fun f i hf hi => ((o _ i hi).2.2.2.1 f).1.trans (h6 f i hf hi), fun i hi => ((o _ i hi).2.2.2.1 44).2.1.trans (h7 i hi)⟩, fun k i j hk hi hj => (congrFun ((o k i hi).2.2.2.2 k).1 j).trans (h8 k i j hk hi hj), fun k i j hk hi hj => (congrFun ((o k i hi).2.2.2.2 k).2.1 j).trans (h9 k i j hk hi hj), fun i j hi hj => (congrFun ((o 21 i hi).2.2.2.2 21).2.2 j).trans (h10 i j hi hj), fun k i a b hi => (o k i hi).2.2.1.trans (h11 k i a b hi), h12, ⟨fun l hl => ?_, h14⟩, h15⟩
  obtain ⟨e1, e2⟩ := h13 l hl
  have ol := o 0 l (c0 l hl)
  refine ⟨(ol.2.2.2.1 2).1.trans e1, ?_⟩
  rcases e2 with ⟨z1, z2⟩ | ⟨z1, z2, z3, z4, z5, z6, z7⟩
  · exact Or.inl ⟨z1, (ol.2.2.2.1 1).2.2.trans z2⟩
  · have oe := ho _ z1.1
    exact Or.inr ⟨⟨oe.1, oe.2.1.trans z1.2⟩, (ol.2.2.2.1 1).2.2.trans z2, oe.2.2.1.trans z3, z4, z5, z6, fun i hi => (congrFun (oe.2.2.2.2 22).2.2 i).trans (z7 i hi)⟩
/-! Adding to a list. -/
theorem shr1 {n : Nat} (h : n < 60) : nI n >>> ((1 : Int32) &&& 31) = nI (n / 2) := by
  have : ∀ m : Fin 60, nI m.val >>> ((1 : Int32) &&& 31) = nI (m.val / 2) := by decide +kernel
  exact this ⟨n, h⟩
theorem u2s {α : Type} {f : Nat → Nat → α} {k a : Nat} {v : α} : q_u2 f k a v k a = v := if_pos ⟨rfl, rfl⟩
/-- the list li of n elements gets q at its end -/
theorem addL {g : Nat × Nat} {S : qS} {li ea cap n q k : Nat} {el : Nat → Nat} {post : Int32 → qS → Prop} {xp : String → qS → Prop} (hli : inP S li 0) (hr : rcList S g li ea cap n el) (hn : n < 60) (hg : ∀ i, i < n → inP S (el i) k) (hq : inP S q k) (hk : q_lk k) (h : ∀ S' ea' cap', (∀ a, a ∈ qL S → a ≠ li → (n ≠ 0 → a ≠ ea) → sameA S S' a) → inP S' li 0 → (n ≠ 0 → inP S' ea 22) → (ea' ∉ qL S ∨ (n ≠ 0 ∧ ea' = ea)) → rcList S' g li ea' cap' (n + 1) (fun i => if i = n then q else el i) → cfr S S' → post 1 S') : pJx4a65c_add_9ea2d li (some q) S g post xp := by
  obtain ⟨hl1, hl2⟩ := hli
  obtain ⟨hs, hr⟩ := hr
  obtain ⟨hq1, hq2⟩ := hq
  have n60 : n < 2 ^ 31 := by omega
  refine ⟨li, rfl, hl1, hl2, li, rfl, hl1, hl2, li, rfl, hl1, hl2, li, rfl, hl1, hl2, li, rfl, hl1, hl2, ?_⟩
  have e2 : qI (qsI S (40 * 0 + 0) li (qI S (40 * 0 + 0) li + 1)) (40 * 0 + 2) li = nI n := by
    show q_u2 (qI S) 0 li (qI S (40 * 0 + 0) li + 1) 2 li = nI n
    rw [u2_ne (by decide)]
    exact hs
  have e1 : qR (qsI S (40 * 0 + 0) li (qI S (40 * 0 + 0) li + 1)) (40 * 0 + 1) li = qR S 1 li := rfl
  rw [e2, e1]
  generalize hS1 : qsI S (40 * 0 + 0) li (qI S (40 * 0 + 0) li + 1) = S1
  have L1 : qL S1 = qL S := by rw [← hS1]; rfl
  have K1 : qK S1 = qK S := by rw [← hS1]; rfl
  have N1 : qN S1 = qN S := by rw [← hS1]; rfl
  have R1 : qR S1 = qR S := by rw [← hS1]; rfl
  have O1 : qAO S1 = qAO S := by rw [← hS1]; rfl
  have I1 : qI S1 2 li = nI n := by rw [← hS1]; exact e2
  have sm1 : ∀ a, a ∈ qL S → a ≠ li → sameA S S1 a := fun a ha hne => by rw [← hS1]; exact sameA.sI ha hne
  have c1 : cfr S S1 := by rw [← hS1]; exact cfr.I S (by decide)
  have fini : ∀ (S2 : qS) (ea' cap' : Nat), (∀ a, a ∈ qL S → a ≠ li → (n ≠ 0 → a ≠ ea) → sameA S S2 a) → inP S2 li 0 → (n ≠ 0 → inP S2 ea 22) → (ea' ∉ qL S ∨ (n ≠ 0 ∧ ea' = ea)) → inP S2 ea' 22 → qR S2 1 li = some ea' → qN S2 ea' = cap' → n + 1 ≤ cap' → 10 ≤ cap' → cap' ≤ 90 → (∀ i, i < n → qAO S2 22 ea' i = some (el i)) → inP S2 q k → cfr S S2 → pJx4a65c_add_72be8_J11 g (fun S => ((1 : Int32) = 0 ∨ (1 : Int32) = 1) ∧ post (1 : Int32) S) xp (some li) (some q) (some ea') (nI n) S2 := fun S2 ea' cap' f1 f2 f3 f4 f5 f6 f7 f8 f9 f10 f11 f12 f13 => by
    refine ⟨ea', rfl, f5.1, f5.2, ?_, q, rfl, f12.1, by rw [f12.2]; exact hk, li, rfl, f2.1, f2.2, Or.inr rfl, ?_⟩
    · rw [f7]
      exact vp_in_nI (by omega) (by omega)
    · rw [nI_clamp n60, nI_1]
      have ne : ea' ≠ li := fun z => by
        have a := f5.2
        rw [z, f2.2] at a
        exact absurd a (by decide)
      refine h _ ea' cap' (fun a ha hne hne2 => ?_) ⟨f2.1, f2.2⟩ (fun z => ⟨(f3 z).1, (f3 z).2⟩) f4 ⟨u2s, Or.inr ⟨⟨f5.1, f5.2⟩, f6, f7, ⟨f8, Nat.succ_pos _⟩, f9, f10, fun i hi => ?_⟩⟩ ?_
      · have a1 : a ≠ ea' := fun z => by
          rcases f4 with y | ⟨y1, y2⟩
          · exact y (z ▸ ha)
          · exact hne2 y1 (z.trans y2)
        exact ((f1 a ha hne hne2).tr (sameA.sAO (f1 a ha hne hne2).1 a1)).tr (sameA.sI (f1 a ha hne hne2).1 hne)
      · show q_u2 (qAO S2) 22 ea' (va_up (qAO S2 22 ea') n (some q)) 22 ea' i = _
        rw [u2s]
        show va_up (qAO S2 22 ea') n (some q) i = some (if i = n then q else el i)
        by_cases z : i = n
        · rw [z, va_up_self, if_pos rfl]
        · rw [va_up_ne _ _ z, if_neg z]
          exact f11 i (by omega)
      · refine f13.tr ?_
        exact ⟨fun _ y => ⟨y, rfl, rfl⟩, fun f hf b _ => ⟨u2_ne (by omega), rfl⟩, fun _ _ _ _ => ⟨rfl, rfl⟩⟩
  rcases hr with ⟨n0, hr⟩ | ⟨r1, r2, r3, r4, r5, r6, r7⟩
  · -- the first element
    subst n0
    rw [hr]
    refine Or.inl ⟨rfl, ifp' rfl ⟨li, rfl, by rw [L1]; exact hl1, by rw [K1]; exact hl2, li, rfl, by rw [L1]; exact hl1, by rw [K1]; exact hl2, li, rfl, by rw [L1]; exact hl1, by rw [K1]; exact hl2, ?_⟩⟩
    rw [I1]
    refine ⟨li, rfl, by rw [L1]; exact hl1, by rw [K1]; exact hl2, ?_⟩
    show w_lenE S1 g (qR S1 1 li) _
    rw [R1, hr]
    refine Or.inl ⟨rfl, ifn (by decide) ⟨li, rfl, by rw [L1]; exact hl1, by rw [K1]; exact hl2, ?_⟩⟩
    show (qR S1 1 li = some g.1 → _) ∧ _
    rw [R1, hr]
    refine ifp rfl ⟨by decide, by decide, fun q52 hq52 => ?_⟩
    have e10 : (if (10 : Int32) < nI 0 + 1 then nI 0 + 1 else (10 : Int32)).toNatClampNeg = 10 := by decide
    rw [e10]
    rw [L1] at hq52
    have lq : li ≠ q52 := fun z => hq52 (z ▸ hl1)
    have qq : q ≠ q52 := fun z => hq52 (z ▸ hq1)
    refine ⟨li, rfl, List.mem_append_left _ (by rw [L1]; exact hl1), by show va_up (qK S1) q52 22 li = 0; rw [va_up_ne _ _ lq, K1]; exact hl2, ?_⟩
    refine fini _ q52 10 (fun a ha hne _ => ?_) ⟨List.mem_append_left _ (by rw [L1]; exact hl1), by show va_up (qK S1) q52 22 li = 0; rw [va_up_ne _ _ lq, K1]; exact hl2⟩ (fun z => absurd rfl z) (Or.inl hq52) ⟨List.mem_append_right _ (List.mem_singleton.mpr rfl), va_up_self _ _ _⟩ u2s (va_up_self _ _ _) (by omega) (by omega) (by omega) (fun i hi => by omega) ⟨List.mem_append_left _ (by rw [L1]; exact hq1), by show va_up (qK S1) q52 22 q = k; rw [va_up_ne _ _ qq, K1]; exact hq2⟩ ?_
    · have a1 := (sm1 a ha hne).tr (old.nw (k := 22) (n := 10) (by rw [L1]; exact hq52) a (sm1 a ha hne).1)
      exact a1.tr (sameA.sR a1.1 hne)
    · refine (c1.tr (old.nw (k := 22) (n := 10) (by rw [L1]; exact hq52)).cfr).tr ?_
      exact ⟨fun _ y => ⟨y, rfl, rfl⟩, fun f hf b _ => ⟨rfl, u2_ne (by omega)⟩, fun _ _ _ _ => ⟨rfl, rfl⟩⟩
  · rw [r2]
    have ea1 : ea ∈ qL S1 ∧ qK S1 ea = 22 := by rw [L1, K1]; exact r1
    have eN : qN S1 ea = cap := by rw [N1]; exact r3
    have lne : li ≠ ea := fun z => by
      have a := r1.2
      rw [← z, hl2] at a
      exact absurd a (by decide)
    have n0 : n ≠ 0 := by omega
    have gn : g.1 = g.1 := rfl
    refine Or.inr ⟨ea, rfl, ea1.1, ea1.2, ?_⟩
    show (¬ nI n = nI (qN S1 ea) → _) ∧ (nI n = nI (qN S1 ea) → _)
    rw [eN]
    refine ⟨fun z => ?_, fun z => ?_⟩
    · -- there is room
      have lt : n < cap := by
        have : n ≠ cap := fun y => z (by rw [y])
        omega
      exact fini S1 ea cap (fun a ha hne _ => sm1 a ha hne) ⟨by rw [L1]; exact hl1, by rw [K1]; exact hl2⟩ (fun y => ea1) (Or.inr ⟨n0, rfl⟩) ea1 (by rw [R1]; exact r2) eN (by omega) r5 r6 (fun i hi => by rw [O1]; exact r7 i hi) ⟨by rw [L1]; exact hq1, by rw [K1]; exact hq2⟩ c1
    · -- the row grows
      have ec : n = cap := (nI_eq (by omega) (by omega)).mp z
      subst ec
      refine ⟨li, rfl, by rw [L1]; exact hl1, by rw [K1]; exact hl2, li, rfl, by rw [L1]; exact hl1, by rw [K1]; exact hl2, li, rfl, by rw [L1]; exact hl1, by rw [K1]; exact hl2, ?_⟩
      rw [I1, nI_1]
      refine ⟨li, rfl, by rw [L1]; exact hl1, by rw [K1]; exact hl2, ?_⟩
      show w_lenE S1 g (qR S1 1 li) _
      rw [R1, r2]
      refine Or.inr ⟨ea, rfl, ea1.1, ea1.2, ?_⟩
      show (0 < nI (qN S1 ea) → pJx4a65c_grow_92f84_J20 g _ xp (some li) (nI (n + 1)) (nI (qN S1 ea)) S1) ∧ _
      rw [eN]
      refine ifp (nI_lt (a := 0) (b := n) (by omega) (by omega)) ?_
      show pJ8_newLength_cabcc (nI n) (nI (n + 1) - nI n) (nI n >>> ((1 : Int32) &&& 31)) S1 _ xp
      rw [nI_sub (by omega) (by omega), shr1 hn, show n + 1 - n = 1 by omega]
      have em : (if nI 1 < nI (n / 2) then nI (n / 2) else nI 1) = nI (n / 2) := if_pos (nI_lt (by omega) (by omega))
      unfold pJ8_newLength_cabcc
      rw [em, nI_add]
      refine ifn (nI_nle (by omega) (by omega)) (ifn ?_ ?_)
      · rw [Int32.lt_iff_toInt_lt, nI_toInt (by omega)]
        have : (2147483639 : Int32).toInt = 2147483639 := by decide
        omega
      · refine ⟨li, rfl, by rw [L1]; exact hl1, by rw [K1]; exact hl2, ?_⟩
        show pJ7_copyOf_1904c (qR S1 1 li) (nI (n + n / 2)) S1 g _ xp
        rw [R1, r2]
        refine ⟨ea, rfl, ea1.1, ea1.2, ifp' rfl ⟨nInn (by omega), by rw [nI_clamp (by omega)]; omega, fun q7 hq7 => ?_⟩⟩
        rw [nI_clamp (by omega)]
        rw [L1] at hq7
        have lq : li ≠ q7 := fun z => hq7 (z ▸ hl1)
        have eq : ea ≠ q7 := fun z => hq7 (z ▸ r1.1)
        have qq : q ≠ q7 := fun z => hq7 (z ▸ hq1)
        have o2 : old S1 (q_nw S1 22 q7 (n + n / 2)) := old.nw (by rw [L1]; exact hq7)
        have ea2 := o2 ea ea1.1
        have q72 : q7 ∈ qL (q_nw S1 22 q7 (n + n / 2)) ∧ qK (q_nw S1 22 q7 (n + n / 2)) q7 = 22 := ⟨List.mem_append_right _ (List.mem_singleton.mpr rfl), va_up_self _ _ _⟩
        have q7N : qN (q_nw S1 22 q7 (n + n / 2)) q7 = n + n / 2 := va_up_self _ _ _
        generalize hS2 : q_nw S1 22 q7 (n + n / 2) = S2 at o2 ea2 q72 q7N ⊢
        refine Or.inr ⟨ea, rfl, ea2.1, ea2.2.1.trans ea1.2, ?_⟩
        show w_copy S2 (some ea) (some q7) (if nI (n + n / 2) < nI (qN S2 ea) then nI (n + n / 2) else nI (qN S2 ea)) _
        rw [ea2.2.2.1, eN, if_neg (nI_nlt (by omega) (by omega))]
        have li2 := o2 li (by rw [L1]; exact hl1)
        have qk2 := o2 q (by rw [L1]; exact hq1)
        refine ⟨ea, rfl, ea2.1, ea2.2.1.trans ea1.2, q7, rfl, q72.1, q72.2, nInn (by omega), by rw [nI_clamp (by omega), ea2.2.2.1, eN]; exact Nat.le_refl _, by rw [nI_clamp (by omega), q7N]; omega, ⟨k, hk, fun i hi y hy => ?_⟩, ?_⟩
        · rw [nI_clamp (by omega)] at hi
          rw [(ea2.2.2.2.2 22).2.2, O1, r7 i hi] at hy
          injection hy with hy
          have := hg i hi
          have o3 := o2 (el i) (by rw [L1]; exact this.1)
          rw [← hy]
          exact ⟨o3.1, by rw [o3.2.1, K1]; exact this.2⟩
        · rw [nI_clamp (by omega)]
          refine ⟨li, rfl, li2.1, by rw [show qK (qsAOf S2 22 q7 (va_cpy (qAO S2 22 ea) (qAO S2 22 q7) 0 0 n)) li = qK S2 li from rfl, li2.2.1, K1]; exact hl2, ?_⟩
          refine fini _ q7 (n + n / 2) (fun a ha hne _ => ?_) ⟨li2.1, (by rw [show qK (qsR (qsAOf S2 22 q7 (va_cpy (qAO S2 22 ea) (qAO S2 22 q7) 0 0 n)) (40 * 0 + 1) li (some q7)) li = qK S2 li from rfl, li2.2.1, K1]; exact hl2)⟩ (fun _ => ⟨ea2.1, ea2.2.1.trans ea1.2⟩) (Or.inl hq7) ⟨q72.1, q72.2⟩ u2s q7N (by omega) (by omega) (by omega) (fun i hi => ?_) ⟨qk2.1, (by rw [show qK (qsR (qsAOf S2 22 q7 (va_cpy (qAO S2 22 ea) (qAO S2 22 q7) 0 0 n)) (40 * 0 + 1) li (some q7)) q = qK S2 q from rfl, qk2.2.1, K1]; exact hq2)⟩ ?_
          · have a0 := sm1 a ha hne
            have a1 := a0.tr (o2 a a0.1)
            have a2 := a1.tr (sameA.sAOf (k := 22) (a0 := q7) (v := va_cpy (qAO S2 22 ea) (qAO S2 22 q7) 0 0 n) a1.1 (fun z => hq7 (z ▸ ha)))
            exact a2.tr (sameA.sR a2.1 hne)
          · show q_u2 (qAO S2) 22 q7 (va_cpy (qAO S2 22 ea) (qAO S2 22 q7) 0 0 n) 22 q7 i = some (el i)
            rw [u2s]
            show (if 0 ≤ i ∧ i < 0 + n then qAO S2 22 ea (0 + (i - 0)) else _) = _
            rw [if_pos ⟨by omega, by omega⟩, show 0 + (i - 0) = i by omega, (ea2.2.2.2.2 22).2.2, O1]
            exact r7 i hi
          · refine (c1.tr o2.cfr).tr ?_
            exact ⟨fun _ y => ⟨y, rfl, rfl⟩, fun f hf b _ => ⟨rfl, u2_ne (by omega)⟩, fun _ _ _ _ => ⟨rfl, rfl⟩⟩
