/-! offer: two sides, then the offer. -/
/-- what a side notes of a single's wear -/
def wnt (R : Nat → Nat → Int32) (x : Int32) : Int32 := if x < 0 then 0 else R 15 x.toNatClampNeg
/-- a single or none -/
def sgl (x : Int32) (ns : Nat) : Prop := x = -1 ∨ ok x ns
theorem i_side {S : qS} {q pl : Nat} {th : Option Nat} {m k w : Int32} {post : qS → Prop} (iq : inP S q 5) (zI : ∀ f, qI S f q = 0) (zR : ∀ f, qR S f q = none) (ht : (th = none ∧ w = 0) ∨ ∃ t, th = some t ∧ inP S t 6 ∧ qI S 246 t = w) (h : ∀ S', (∀ a, a ∈ qL S → a ≠ q → sameA S S' a) → inP S' q 5 → (∀ f, qI S' f q = if f = 204 then w else if f = 202 then k else if f = 201 then m else 0) → (∀ f, qR S' f q = if f = 203 then th else if f = 200 then some pl else none) → post S') : pX4_init q (some pl) m k th S post := by
  have fini : ∀ w', w' = w → pX4_init_J40 post (some q) w' (qsR (qsI (qsI (qsR S (40 * 5 + 0) q (some pl)) (40 * 5 + 1) q m) (40 * 5 + 2) q k) (40 * 5 + 3) q th) := fun w' e => by
    subst e
    refine ⟨q, rfl, iq.1, iq.2, h _ (fun a ha hne => ?_) ⟨iq.1, iq.2⟩ (fun f => ?_) (fun f => ?_)⟩
    · exact ((((sameA.sR ha hne).tr (sameA.sI ha hne)).tr (sameA.sI ha hne)).tr (sameA.sR ha hne)).tr (sameA.sI ha hne)
    · show q_u2 (q_u2 (q_u2 (qI S) 201 q m) 202 q k) 204 q w' f q = _
      rw [u2n, u2n, u2n, zI]
    · show q_u2 (q_u2 (qR S) 200 q (some pl)) 203 q th f q = _
      rw [u2n, u2n, zR]
  refine ⟨q, rfl, iq.1, iq.2, q, rfl, iq.1, iq.2, q, rfl, iq.1, iq.2, q, rfl, iq.1, iq.2, ?_⟩
  rcases ht with ⟨rfl, e⟩ | ⟨t, rfl, it, e⟩
  · exact ifp' rfl (fini 0 e.symm)
  · have tq : t ≠ q := fun z => by
      have a := it.2
      rw [z, iq.2] at a
      exact absurd a (by decide)
    refine ifn' (by simp) ⟨t, rfl, it.1, it.2, fini _ ?_⟩
    show q_u2 (q_u2 (qI S) 201 q m) 202 q k 246 t = w
    rw [u2_ne (by decide), u2_ne (by decide), e]
section SD
variable {g : Nat × Nat} {n : Nat} {S : qS} {A : Nat → Nat → Nat} {C : Nat → Nat} {np nr ns no : Nat} {T : mT} {xp : String → qS → Prop}
/-- a new side -/
def SDF (A : Nat → Nat → Nat) (R : Nat → Nat → Int32) (i : Nat) (m k s : Int32) (q : Nat) (S' : qS) : Prop := inP S' q 5 ∧ (∀ f, qI S' f q = if f = 204 then wnt R s else if f = 202 then k else if f = 201 then m else 0) ∧ (∀ f, qR S' f q = if f = 203 then (rf s).map (A 6) else if f = 200 then some (A 3 i) else none)
theorem p_side {i j : Nat} {m s : Int32} {post : Option Nat → qS → Prop} (hI : IV n T np nr ns no) (hU : RU g S A C (cN np nr ns no) T) (hi : i < np) (hj : j < 4) (hs : sgl s ns) (h : ∀ S' q, old S S' → q ∉ qL S → SDF A T.2.1 i m (nI j) s q S' → post (some q) S') : pX7_sideOf (A 8 0) (nI i) m (nI j) s S post xp := by
  have hns := hI.1.2.2.1.2
  have x8 := hU.1 8 0 Nat.one_pos
  have x7 := hU.1 7 0 Nat.one_pos
  have hr : qR S (40 * 8 + 3) (A 8 0) = some (A 7 0) := hU.2.2.2.1 323 0 (by decide) Nat.one_pos
  have mk : ∀ th, th = (rf s).map (A 6) → ((th = none ∧ wnt T.2.1 s = 0) ∨ ∃ t, th = some t ∧ inP S t 6 ∧ qI S 246 t = wnt T.2.1 s) → pX7_sideOf_J30 post xp m (nI j) (some (A 3 i)) th S := fun th eth ht => by
    intro q hq
    have o1 : old S (q_nw S 5 q 0) := old.nw hq
    have iq1 : inP (q_nw S 5 q 0) q 5 := ⟨mem_nw, va_up_self _ _ _⟩
    have zI : ∀ f, qI (q_nw S 5 q 0) f q = 0 := fun f => if_pos rfl
    have zR : ∀ f, qR (q_nw S 5 q 0) f q = none := fun f => if_pos rfl
    generalize q_nw S 5 q 0 = S1 at o1 iq1 zI zR ⊢
    refine i_side (w := wnt T.2.1 s) iq1 zI zR ?_ fun S2 sm iq2 hI2 hR2 => h S2 q (fun a ha => (o1 a ha).tr (sm a (o1 a ha).1 (fun e => hq (e ▸ ha)))) hq ⟨iq2, hI2, by rw [← eth]; exact hR2⟩
    rcases ht with y | ⟨t, y1, y2, y3⟩
    · exact Or.inl y
    · have ot := o1 t y2.1
      exact Or.inr ⟨t, y1, ⟨ot.1, ot.2.1.trans y2.2⟩, ((ot.2.2.2.1 246).1).trans y3⟩
  refine hU.at8 (p_pl hU hi hI.1.1.2 (p_ck hj ?_))
  by_cases e : s = -1
  · refine ifp' e (mk none ?_ (Or.inl ⟨rfl, ?_⟩))
    · rw [e, rf_m]; rfl
    · unfold wnt
      rw [e, if_pos m1lt]
  · have hok := hs.resolve_left e
    obtain ⟨t, ht, rfl⟩ := ok_nI hok (by omega)
    refine ifn' e (wgR x8 hr ⟨A 7 0, rfl, x7.1, x7.2, p_th hU ht hns (mk _ ?_ (Or.inr ⟨A 6 t, rfl, hU.1 6 t ht, ?_⟩))⟩)
    · rw [rf_n (by omega)]; rfl
    · unfold wnt
      rw [if_neg (nInn (by omega)), nI_clamp (by omega)]
      exact hU.2.1 246 t (by decide) ht
theorem p_side_no {x k s m : Int32} {post : Option Nat → qS → Prop} (hI : IV n T np nr ns no) (hU : RU g S A C (cN np nr ns no) T) (hx : ¬ (ok x np ∧ ok k 4 ∧ sgl s ns)) (h : xp IOB S) : pX7_sideOf (A 8 0) x m k s S post xp := by
  have hns := hI.1.2.2.1.2
  have x8 := hU.1 8 0 Nat.one_pos
  have x7 := hU.1 7 0 Nat.one_pos
  have hr : qR S (40 * 8 + 3) (A 8 0) = some (A 7 0) := hU.2.2.2.1 323 0 (by decide) Nat.one_pos
  rcases okc x (show np ≤ 200 by have := hI.1.1.2; omega) with ⟨i, hi, rfl⟩ | hno
  · refine hU.at8 (p_pl hU hi hI.1.1.2 ?_)
    rcases okc k (show 4 ≤ 200 by omega) with ⟨j, hj, rfl⟩ | hno
    · have hs : ¬ sgl s ns := fun y => hx ⟨nI_ok' hi (by have := hI.1.1.2; omega), nI_ok' hj (by omega), y⟩
      exact p_ck hj (ifn' (fun e => hs (Or.inl e)) (wgR x8 hr ⟨A 7 0, rfl, x7.1, x7.2, p_th_no hU (fun y => hs (Or.inr y)) hns h⟩))
    · exact p_ck_no hno h
  · exact hU.at8 (p_pl_no hU hno hI.1.1.2 h)
end SD
/-- what a new offer adds -/
def ofT (T : mT) (o : Nat) (a b m k s m' k' s' w w' : Int32) : mT := m_sA (m_sA (m_sA (m_sA (m_sA (m_sA (m_sA (m_sA (m_sA (m_sA (m_sA T 26 (10 * o) a) 26 (10 * o + 1) b) 26 (10 * o + 2) m) 26 (10 * o + 3) k) 26 (10 * o + 4) s) 26 (10 * o + 5) m') 26 (10 * o + 6) k') 26 (10 * o + 7) s') 26 (10 * o + 8) w) 26 (10 * o + 9) w') 27 o 1
def ofR (R : Nat → Int32) (o : Nat) (a b m k s m' k' s' w w' : Int32) : Nat → Int32 := upd (upd (upd (upd (upd (upd (upd (upd (upd (upd R (10 * o) a) (10 * o + 1) b) (10 * o + 2) m) (10 * o + 3) k) (10 * o + 4) s) (10 * o + 5) m') (10 * o + 6) k') (10 * o + 7) s') (10 * o + 8) w) (10 * o + 9) w'
theorem ofT_26 {T : mT} {o : Nat} {a b m k s m' k' s' w w' : Int32} : (ofT T o a b m k s m' k' s' w w').2.1 26 = ofR (T.2.1 26) o a b m k s m' k' s' w w' := rfl
theorem ofT_27 {T : mT} {o : Nat} {a b m k s m' k' s' w w' : Int32} : (ofT T o a b m k s m' k' s' w w').2.1 27 = upd (T.2.1 27) o 1 := rfl
theorem ofT_o {T : mT} {o : Nat} {a b m k s m' k' s' w w' : Int32} {q : Nat} (h6 : q ≠ 26) (h7 : q ≠ 27) : (ofT T o a b m k s m' k' s' w w').2.1 q = T.2.1 q := by
  unfold ofT
  rw [sA_n h7, sA_n h6, sA_n h6, sA_n h6, sA_n h6, sA_n h6, sA_n h6, sA_n h6, sA_n h6, sA_n h6, sA_n h6]
theorem ofR_o {R : Nat → Int32} {o : Nat} {a b m k s m' k' s' w w' : Int32} {j : Nat} (h : j < 10 * o) : ofR R o a b m k s m' k' s' w w' j = R j := by
  unfold ofR
  rw [upd_ne (by omega), upd_ne (by omega), upd_ne (by omega), upd_ne (by omega), upd_ne (by omega), upd_ne (by omega), upd_ne (by omega), upd_ne (by omega), upd_ne (by omega), upd_ne (by omega)]
theorem ofR_v (R : Nat → Int32) (o : Nat) (a b m k s m' k' s' w w' : Int32) : ofR R o a b m k s m' k' s' w w' (10 * o) = a ∧ ofR R o a b m k s m' k' s' w w' (10 * o + 1) = b ∧ ofR R o a b m k s m' k' s' w w' (10 * o + 2) = m ∧ ofR R o a b m k s m' k' s' w w' (10 * o + 3) = k ∧ ofR R o a b m k s m' k' s' w w' (10 * o + 4) = s ∧ ofR R o a b m k s m' k' s' w w' (10 * o + 5) = m' ∧ ofR R o a b m k s m' k' s' w w' (10 * o + 6) = k' ∧ ofR R o a b m k s m' k' s' w w' (10 * o + 7) = s' ∧ ofR R o a b m k s m' k' s' w w' (10 * o + 8) = w ∧ ofR R o a b m k s m' k' s' w w' (10 * o + 9) = w' := by
  unfold ofR
  refine ⟨?_, ?_, ?_, ?_, ?_, ?_, ?_, ?_, ?_, ?_⟩
  · rw [upd_ne (by omega), upd_ne (by omega), upd_ne (by omega), upd_ne (by omega), upd_ne (by omega), upd_ne (by omega), upd_ne (by omega), upd_ne (by omega), upd_ne (by omega), upd_eq]
  · rw [upd_ne (by omega), upd_ne (by omega), upd_ne (by omega), upd_ne (by omega), upd_ne (by omega), upd_ne (by omega), upd_ne (by omega), upd_ne (by omega), upd_eq]
  · rw [upd_ne (by omega), upd_ne (by omega), upd_ne (by omega), upd_ne (by omega), upd_ne (by omega), upd_ne (by omega), upd_ne (by omega), upd_eq]
  · rw [upd_ne (by omega), upd_ne (by omega), upd_ne (by omega), upd_ne (by omega), upd_ne (by omega), upd_ne (by omega), upd_eq]
  · rw [upd_ne (by omega), upd_ne (by omega), upd_ne (by omega), upd_ne (by omega), upd_ne (by omega), upd_eq]
  · rw [upd_ne (by omega), upd_ne (by omega), upd_ne (by omega), upd_ne (by omega), upd_eq]
  · rw [upd_ne (by omega), upd_ne (by omega), upd_ne (by omega), upd_eq]
  · rw [upd_ne (by omega), upd_ne (by omega), upd_eq]
  · rw [upd_ne (by omega), upd_eq]
  · rw [upd_eq]
