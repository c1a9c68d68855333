/-! single. -/
theorem u2n {α : Type} {F : Nat → Nat → α} {f a : Nat} {v : α} {f' : Nat} : q_u2 F f a v f' a = if f' = f then v else F f' a := by
  unfold q_u2
  by_cases e : f' = f
  · rw [if_pos ⟨e, rfl⟩, if_pos e]
  · rw [if_neg (fun z => e z.1), if_neg e]
theorem i_single {S : qS} {q : Nat} {x1 x2 x3 : Int32} {post : qS → Prop} (iq : inP S q 6) (zI : ∀ f, qI S f q = 0) (zR : ∀ f, qR S f q = none) (hx : x2 = 0 ∨ x2 = 1) (h : ∀ (S' : qS) (p p2 : Nat), (∀ a, a ∈ qL S → a ≠ q → sameA S S' a) → p ∉ qL S → p2 ∉ qL S → p ≠ p2 → inP S' q 6 → inP S' p 13 → inP S' p2 14 → (∀ f, qI S' f q = if f = 242 then x3 else if f = 241 then x2 else if f = 240 then x1 else if f = 247 then -1 else 0) → (∀ f, qR S' f q = if f = 244 then some p2 else if f = 243 then some p else none) → (∀ j, qAI S' 13 p j = 0) → (∀ j, qAI S' 14 p2 j = 0) → qN S' p = 30 → qN S' p2 = 30 → post S') : pX5_init q x1 x2 x3 S post := by
  intro p hp
  have o1 : old S (q_nw S 13 p 30) := old.nw hp
  have q1 := o1 q iq.1
  have pm : p ∈ qL (q_nw S 13 p 30) := mem_nw
  have pk : qK (q_nw S 13 p 30) p = 13 := va_up_self _ _ _
  have pn : qN (q_nw S 13 p 30) p = 30 := va_up_self _ _ _
  have pa : ∀ j, qAI (q_nw S 13 p 30) 13 p j = 0 := fun j => by
    show (if p = p then (fun _ => (0 : Int32)) else _) j = 0
    rw [if_pos rfl]
  generalize q_nw S 13 p 30 = S1 at o1 q1 pm pk pn pa ⊢
  have qp : q ≠ p := fun e => hp (e ▸ iq.1)
  refine ⟨q, rfl, q1.1, q1.2.1.trans iq.2, ?_⟩
  intro p2 hp2
  have hp2 : p2 ∉ qL S1 := hp2
  have o2 : old (qsR S1 (40 * 6 + 3) q (some p)) (q_nw (qsR S1 (40 * 6 + 3) q (some p)) 14 p2 30) := old.nw hp2
  have q2 := o2 q q1.1
  have p2' := o2 p pm
  have R2 : ∀ f, qR (q_nw (qsR S1 (40 * 6 + 3) q (some p)) 14 p2 30) f q = if f = 243 then some p else none := fun f => by
    rw [(q2.2.2.2.1 f).2.2]
    show q_u2 (qR S1) 243 q (some p) f q = _
    rw [u2n, (q1.2.2.2.1 f).2.2, zR]
  have I2 : ∀ f, qI (q_nw (qsR S1 (40 * 6 + 3) q (some p)) 14 p2 30) f q = 0 := fun f => by
    rw [(q2.2.2.2.1 f).1]
    show qI S1 f q = 0
    rw [(q1.2.2.2.1 f).1, zI]
  have A2 : ∀ j, qAI (q_nw (qsR S1 (40 * 6 + 3) q (some p)) 14 p2 30) 13 p j = 0 := fun j => by
    rw [(p2'.2.2.2.2 13).1]
    exact pa j
  have B2 : ∀ j, qAI (q_nw (qsR S1 (40 * 6 + 3) q (some p)) 14 p2 30) 14 p2 j = 0 := fun j => by
    show (if p2 = p2 then (fun _ => (0 : Int32)) else _) j = 0
    rw [if_pos rfl]
  have N2 : qN (q_nw (qsR S1 (40 * 6 + 3) q (some p)) 14 p2 30) p = 30 := p2'.2.2.1.trans pn
  have M2 : qN (q_nw (qsR S1 (40 * 6 + 3) q (some p)) 14 p2 30) p2 = 30 := va_up_self _ _ _
  have K2 : qK (q_nw (qsR S1 (40 * 6 + 3) q (some p)) 14 p2 30) q = 6 := q2.2.1.trans (q1.2.1.trans iq.2)
  have L2 : qK (q_nw (qsR S1 (40 * 6 + 3) q (some p)) 14 p2 30) p = 13 := p2'.2.1.trans pk
  have Q2 : qK (q_nw (qsR S1 (40 * 6 + 3) q (some p)) 14 p2 30) p2 = 14 := va_up_self _ _ _
  have m2 : p2 ∈ qL (q_nw (qsR S1 (40 * 6 + 3) q (some p)) 14 p2 30) := mem_nw
  have same2 : ∀ a, a ∈ qL S → a ≠ q → sameA S (q_nw (qsR S1 (40 * 6 + 3) q (some p)) 14 p2 30) a := fun a ha hne => by
    have a1 := o1 a ha
    have a2 := a1.tr (sameA.sR (f := 40 * 6 + 3) (v := some p) a1.1 hne)
    exact a2.tr (o2 a a2.1)
  generalize q_nw (qsR S1 (40 * 6 + 3) q (some p)) 14 p2 30 = S2 at o2 q2 p2' R2 I2 A2 B2 N2 M2 K2 L2 Q2 m2 same2 ⊢
  refine ⟨q, rfl, q2.1, K2, q, rfl, q2.1, K2, q, rfl, q2.1, K2, q, rfl, q2.1, K2, hx, q, rfl, q2.1, K2, ?_⟩
  refine h _ p p2 (fun a ha hne => ?_) hp (fun y => hp2 (o1 p2 y).1) (fun e => hp2 (e ▸ pm)) ⟨q2.1, K2⟩ ⟨p2'.1, L2⟩ ⟨m2, Q2⟩ (fun f => ?_) (fun f => ?_) A2 B2 N2 M2
  · have a1 := same2 a ha hne
    exact ((((a1.tr (sameA.sR a1.1 hne)).tr (sameA.sI a1.1 hne)).tr (sameA.sI a1.1 hne)).tr (sameA.sI a1.1 hne)).tr (sameA.sI a1.1 hne)
  · show q_u2 (q_u2 (q_u2 (q_u2 (qI S2) 247 q (-1)) 240 q x1) 241 q x2) 242 q x3 f q = _
    rw [u2n, u2n, u2n, u2n, I2]
  · show q_u2 (qR S2) 244 q (some p2) f q = _
    rw [u2n, R2]
theorem i_pass {S : qS} {q p p2 pl : Nat} {num day : Int32} {fI : Nat → Int32} {fR : Nat → Option Nat} {post : qS → Prop} {xp : String → qS → Prop} (iq : inP S q 6) (ip : inP S p 13) (ip2 : inP S p2 14) (il : inP S pl 3) (hI : ∀ f, qI S f q = fI f) (hR : ∀ f, qR S f q = fR f) (h0 : fI 245 = 0) (h3 : fR 243 = some p) (h4 : fR 244 = some p2) (hA : ∀ j, qAI S 13 p j = 0) (hB : ∀ j, qAI S 14 p2 j = 0) (hN : qN S p = 30) (hN2 : qN S p2 = 30) (hl : qI S 120 pl = num) (h : ∀ S' : qS, (∀ a, a ∈ qL S → a ≠ q → a ≠ p → a ≠ p2 → sameA S S' a) → inP S' q 6 → inP S' p 13 → inP S' p2 14 → (∀ f, qI S' f q = if f = 245 then 1 else fI f) → (∀ f, qR S' f q = if f = 249 then some pl else fR f) → (∀ j, qAI S' 13 p j = if j = 0 then num else 0) → (∀ j, qAI S' 14 p2 j = if j = 0 then day else 0) → qN S' p = 30 → qN S' p2 = 30 → post S') : pX5_passTo q (some pl) day S post xp := by
  have e245 : ∀ S', qI S' = qI S → qI S' (40 * 6 + 5) q = 0 := fun S' e => by rw [e]; exact (hI 245).trans h0
  have r243 : qR (qsR S (40 * 6 + 9) q (some pl)) (40 * 6 + 3) q = some p := by
    show q_u2 (qR S) 249 q (some pl) 243 q = some p
    rw [u2_ne (by decide), hR 243, h3]
  have r244 : qR (qsR S (40 * 6 + 9) q (some pl)) (40 * 6 + 4) q = some p2 := by
    show q_u2 (qR S) 249 q (some pl) 244 q = some p2
    rw [u2_ne (by decide), hR 244, h4]
  have n30 : ¬ (30 : Int32) ≤ 0 := by decide
  refine ⟨q, rfl, iq.1, iq.2, wgI (a := q) ⟨iq.1, iq.2⟩ (e245 _ rfl) (ifn n30 (wgR (a := q) ⟨iq.1, iq.2⟩ r243 (wgI (a := q) ⟨iq.1, iq.2⟩ (e245 _ rfl) (wgI (a := pl) ⟨il.1, il.2⟩ hl ⟨p, rfl, ip.1, ip.2, ?_, wgR (a := q) ⟨iq.1, iq.2⟩ r244 (wgI (a := q) ⟨iq.1, iq.2⟩ (e245 _ rfl) ⟨p2, rfl, ip2.1, ip2.2, ?_, wgI (a := q) ⟨iq.1, iq.2⟩ (e245 _ rfl) ⟨q, rfl, iq.1, iq.2, ?_⟩⟩)⟩))))⟩
  · show vp_in 0 (qN S p)
    rw [hN]
    exact vp_in_nI (n := 0) (by decide) (by decide)
  · show vp_in 0 (qN S p2)
    rw [hN2]
    exact vp_in_nI (n := 0) (by decide) (by decide)
  · have pp : p ≠ p2 := fun e => by
      have a := ip.2
      rw [e, ip2.2] at a
      exact absurd a (by decide)
    refine h _ (fun a ha h1 h2 h3 => ?_) ⟨iq.1, iq.2⟩ ⟨ip.1, ip.2⟩ ⟨ip2.1, ip2.2⟩ (fun f => ?_) (fun f => ?_) (fun j => ?_) (fun j => ?_) hN hN2
    · exact (((sameA.sR ha h1).tr (sameA.sAI ha h2)).tr (sameA.sAI ha h3)).tr (sameA.sI ha h1)
    · show q_u2 (qI S) 245 q (0 + 1) f q = _
      rw [u2n, hI f]
      rfl
    · show q_u2 (qR S) 249 q (some pl) f q = _
      rw [u2n, hR f]
    · show q_u2 (q_u2 (qAI S) 13 p (upd (qAI S 13 p) (0 : Int32).toNatClampNeg num)) 14 p2 (upd (q_u2 (qAI S) 13 p (upd (qAI S 13 p) (0 : Int32).toNatClampNeg num) 14 p2) (0 : Int32).toNatClampNeg day) 13 p j = _
      rw [u2_ne (by decide), u2s]
      show (if j = 0 then num else qAI S 13 p j) = _
      rw [hA j]
    · show q_u2 (q_u2 (qAI S) 13 p (upd (qAI S 13 p) (0 : Int32).toNatClampNeg num)) 14 p2 (upd (q_u2 (qAI S) 13 p (upd (qAI S 13 p) (0 : Int32).toNatClampNeg num) 14 p2) (0 : Int32).toNatClampNeg day) 14 p2 j = _
      rw [u2s]
      show (if j = 0 then day else q_u2 (qAI S) 13 p _ 14 p2 j) = _
      rw [u2_ne (by decide), hB j]
