/-! Passing on: what goes with a single, its line. -/
def linT (T : mT) (i : Nat) (p day : Int32) : mT := if (30 : Int32) ≤ T.2.1 24 i then m_sA T 24 i (T.2.1 24 i + 1) else m_sA (m_sA (m_sA T 22 (30 * i + (T.2.1 24 i).toNatClampNeg) p) 23 (30 * i + (T.2.1 24 i).toNatClampNeg) day) 24 i (T.2.1 24 i + 1)
def psT (T : mT) (i : Nat) (p day : Int32) : mT := linT (m_sA T 19 i p) i p day
theorem linT_sI (T : mT) (i : Nat) (p day : Int32) (k : Nat) (x : Int32) : linT (m_sI T k x) i p day = m_sI (linT T i p day) k x := by
  unfold linT
  show (if (30 : Int32) ≤ T.2.1 24 i then _ else _) = _
  split <;> rfl
theorem psT_sI (T : mT) (i : Nat) (p day : Int32) (k : Nat) (x : Int32) : psT (m_sI T k x) i p day = m_sI (psT T i p day) k x := linT_sI (m_sA T 19 i p) i p day k x
noncomputable def goT (h : Nat → Int32) (s : Nat) (p day : Int32) (T : mT) : Nat → mT
  | 0 => T
  | k + 1 => @ite mT (k = s ∨ wi h k s) (Classical.propDecidable _) (psT (goT h s p day T k) k p day) (goT h s p day T k)
theorem goT_y {h : Nat → Int32} {s k : Nat} {p day : Int32} {T : mT} (e : k = s ∨ wi h k s) : goT h s p day T (k + 1) = psT (goT h s p day T k) k p day := if_pos e
theorem goT_n {h : Nat → Int32} {s k : Nat} {p day : Int32} {T : mT} (e : ¬ (k = s ∨ wi h k s)) : goT h s p day T (k + 1) = goT h s p day T k := if_neg e
theorem goT_sI (h : Nat → Int32) (s : Nat) (p day : Int32) (T : mT) (q : Nat) (x : Int32) : ∀ k, goT h s p day (m_sI T q x) k = m_sI (goT h s p day T k) q x
  | 0 => rfl
  | k + 1 => by
    by_cases e : k = s ∨ wi h k s
    · rw [goT_y e, goT_y e, goT_sI h s p day T q x k, psT_sI]
    · rw [goT_n e, goT_n e, goT_sI h s p day T q x k]
/-- what passing on to one changes -/
theorem psT_f (T : mT) (i : Nat) (p day : Int32) (h0 : 0 ≤ (T.2.1 24 i).toInt) : (psT T i p day).1 = T.1 ∧ (psT T i p day).2.2 = T.2.2 ∧ (∀ r, r ≠ 19 → r ≠ 22 → r ≠ 23 → r ≠ 24 → (psT T i p day).2.1 r = T.2.1 r) ∧ (psT T i p day).2.1 19 = upd (T.2.1 19) i p ∧ (psT T i p day).2.1 24 = upd (T.2.1 24) i (T.2.1 24 i + 1) ∧ ∀ j, 30 * (i + 1) ≤ j → (psT T i p day).2.1 22 j = T.2.1 22 j ∧ (psT T i p day).2.1 23 j = T.2.1 23 j := by
  unfold psT linT
  show (if (30 : Int32) ≤ T.2.1 24 i then m_sA (m_sA T 19 i p) 24 i (T.2.1 24 i + 1) else m_sA (m_sA (m_sA (m_sA T 19 i p) 22 (30 * i + (T.2.1 24 i).toNatClampNeg) p) 23 (30 * i + (T.2.1 24 i).toNatClampNeg) day) 24 i (T.2.1 24 i + 1)).1 = T.1 ∧ _
  by_cases e : (30 : Int32) ≤ T.2.1 24 i
  · have e' : (30 : Int32) ≤ (m_sA T 19 i p).2.1 24 i := e
    rw [if_pos e, if_pos e']
    refine ⟨rfl, rfl, fun r a b c d => ?_, rfl, rfl, fun j hj => ⟨rfl, rfl⟩⟩
    rw [sA_n d, sA_n a]
  · have e' : ¬ (30 : Int32) ≤ (m_sA T 19 i p).2.1 24 i := e
    rw [if_neg e, if_neg e']
    have e30 : (30 : Int32).toInt = 30 := by decide
    have l30 : (T.2.1 24 i).toNatClampNeg < 30 := by
      have := Int32.not_le.mp e
      rw [Int32.lt_iff_toInt_lt, e30] at this
      rw [← Int32.toNat_toInt]
      omega
    refine ⟨rfl, rfl, fun r a b c d => ?_, rfl, rfl, fun j hj => ⟨?_, ?_⟩⟩
    · rw [sA_n d, sA_n c, sA_n b, sA_n a]
    · show upd (T.2.1 22) (30 * i + (T.2.1 24 i).toNatClampNeg) p j = _
      exact upd_ne (by omega)
    · show upd (T.2.1 23) (30 * i + (T.2.1 24 i).toNatClampNeg) day j = _
      exact upd_ne (by omega)
theorem inc_bt {x : Int32} {B : Int} (h : bt x 0 B) (hB : B ≤ 1000000000) : (x + 1).toInt = x.toInt + 1 := by
  have := h.1
  have := h.2
  have e1 : (1 : Int32).toInt = 1 := rfl
  rw [Int32.toInt_add, e1, Int.bmod_eq_of_le (by omega) (by omega)]
theorem goT_f {h : Nat → Int32} {s : Nat} {p day : Int32} {T : mT} {ns : Nat} {B : Int} (hB : B ≤ 1000000000) (h24 : ∀ i, i < ns → bt (T.2.1 24 i) 0 B) : ∀ k, k ≤ ns → (goT h s p day T k).1 = T.1 ∧ (goT h s p day T k).2.2 = T.2.2 ∧ (∀ r, r ≠ 19 → r ≠ 22 → r ≠ 23 → r ≠ 24 → (goT h s p day T k).2.1 r = T.2.1 r) ∧ (∀ i, (goT h s p day T k).2.1 19 i = T.2.1 19 i ∨ (i < k ∧ (goT h s p day T k).2.1 19 i = p)) ∧ (∀ i, (k ≤ i → (goT h s p day T k).2.1 24 i = T.2.1 24 i) ∧ (i < k → bt ((goT h s p day T k).2.1 24 i) 0 (B + 1))) ∧ ∀ j, 30 * k ≤ j → (goT h s p day T k).2.1 22 j = T.2.1 22 j ∧ (goT h s p day T k).2.1 23 j = T.2.1 23 j
  | 0, _ => ⟨rfl, rfl, fun _ _ _ _ _ => rfl, fun _ => Or.inl rfl, fun i => ⟨fun _ => rfl, fun q => by omega⟩, fun _ _ => ⟨rfl, rfl⟩⟩
  | k + 1, hk => by
    obtain ⟨a1, a2, a3, a4, a5, a6⟩ := goT_f (h := h) (s := s) (p := p) (day := day) hB h24 k (by omega)
    have ek := (a5 k).1 (Nat.le_refl _)
    have bk := h24 k (by omega)
    by_cases e : k = s ∨ wi h k s
    · rw [goT_y e]
      obtain ⟨b1, b2, b3, b4, b5, b6⟩ := psT_f (goT h s p day T k) k p day (by rw [ek]; exact bk.1)
      refine ⟨b1.trans a1, b2.trans a2, fun r q1 q2 q3 q4 => (b3 r q1 q2 q3 q4).trans (a3 r q1 q2 q3 q4), fun i => ?_, fun i => ⟨fun q => ?_, fun q => ?_⟩, fun j hj => ⟨(b6 j hj).1.trans (a6 j (by omega)).1, (b6 j hj).2.trans (a6 j (by omega)).2⟩⟩
      · rw [b4]
        by_cases z : i = k
        · subst z
          exact Or.inr ⟨by omega, upd_eq⟩
        · rw [upd_ne z]
          rcases a4 i with q | ⟨q1, q2⟩
          · exact Or.inl q
          · exact Or.inr ⟨by omega, q2⟩
      · rw [b5, upd_ne (by omega)]
        exact (a5 i).1 (by omega)
      · rw [b5]
        by_cases z : i = k
        · subst z
          rw [upd_eq, ek]
          have := inc_bt bk hB
          have := bk.1
          have := bk.2
          unfold bt
          omega
        · rw [upd_ne z]
          exact (a5 i).2 (by omega)
    · rw [goT_n e]
      refine ⟨a1, a2, a3, fun i => ?_, fun i => ⟨fun q => (a5 i).1 (by omega), fun q => ?_⟩, fun j hj => a6 j (by omega)⟩
      · rcases a4 i with q | ⟨q1, q2⟩
        · exact Or.inl q
        · exact Or.inr ⟨by omega, q2⟩
      · by_cases z : i = k
        · subst z
          rw [ek]
          have := bk.1
          have := bk.2
          unfold bt
          omega
        · exact (a5 i).2 (by omega)
def ivB (R : Nat → Nat → Int32) (today : Int32) (b : Int) (np ns : Nat) : Prop := (∀ i, i < ns → bt (R 15 i) 0 100 ∧ (R 16 i = 0 ∨ R 16 i = 1) ∧ bt (R 17 i) 0 8 ∧ rv (R 18 i) ns ∧ rv (R 19 i) np ∧ rv (R 21 i) np ∧ ((R 20 i = -1 ∧ R 21 i = -1) ∨ (today < R 20 i ∧ R 21 i ≠ -1)) ∧ bt (R 24 i) 0 b ∧ ∃ f, chn (R 18) f i) ∧ (∀ i, ns ≤ i → R 15 i = 0 ∧ R 24 i = 0) ∧ (∀ j, 30 * ns ≤ j → R 22 j = 0 ∧ R 23 j = 0)
theorem ivS_B {R : Nat → Nat → Int32} {today : Int32} {n np ns : Nat} : ivS R today n np ns ↔ ivB R today (100 * n) np ns := Iff.rfl
theorem ivB.mono {R : Nat → Nat → Int32} {today : Int32} {b b' : Int} {np ns : Nat} (h : ivB R today b np ns) (hb : b ≤ b') : ivB R today b' np ns := by
  refine ⟨fun i hi => ?_, h.2⟩
  obtain ⟨a1, a2, a3, a4, a5, a6, a7, a8, a9⟩ := h.1 i hi
  exact ⟨a1, a2, a3, a4, a5, a6, a7, ⟨a8.1, by have := a8.2; omega⟩, a9⟩
theorem ivB.sh {R : Nat → Nat → Int32} {today : Int32} {b : Int} {np ns : Nat} (h : ivB R today b np ns) : SH (R 18) ns := fun i hi => ⟨(h.1 i hi).2.2.2.1, (h.1 i hi).2.2.2.2.2.2.2.2⟩
theorem ivB_go {h : Nat → Int32} {s : Nat} {p day : Int32} {T : mT} {today : Int32} {b : Int} {np ns : Nat} (hv : ivB T.2.1 today b np ns) (hb : b ≤ 1000000000) (hp : rv p np) : ivB (goT h s p day T ns).2.1 today (b + 1) np ns := by
  obtain ⟨a1, a2, a3, a4, a5, a6⟩ := goT_f (h := h) (s := s) (p := p) (day := day) hb (fun i hi => (hv.1 i hi).2.2.2.2.2.2.2.1) ns (Nat.le_refl _)
  unfold ivB
  rw [a3 15 (by decide) (by decide) (by decide) (by decide), a3 16 (by decide) (by decide) (by decide) (by decide), a3 17 (by decide) (by decide) (by decide) (by decide), a3 18 (by decide) (by decide) (by decide) (by decide), a3 20 (by decide) (by decide) (by decide) (by decide), a3 21 (by decide) (by decide) (by decide) (by decide)]
  refine ⟨fun i hi => ?_, fun i hi => ⟨(hv.2.1 i hi).1, ?_⟩, fun j hj => ⟨?_, ?_⟩⟩
  · obtain ⟨c1, c2, c3, c4, c5, c6, c7, c8, c9⟩ := hv.1 i hi
    refine ⟨c1, c2, c3, c4, ?_, c6, c7, (a5 i).2 hi, c9⟩
    rcases a4 i with q | ⟨_, q⟩
    · rw [q]; exact c5
    · rw [q]; exact hp
  · rw [(a5 i).1 hi]
    exact (hv.2.1 i hi).2
  · rw [(a6 j hj).1]
    exact (hv.2.2 j hj).1
  · rw [(a6 j hj).2]
    exact (hv.2.2 j hj).2
section GO
variable {np nr ns no : Nat} {T : mT} {X : String → mT → Prop}
theorem c_pass {Q : mT → Prop} {i p : Nat} {day : Int32} (hi : i < ns) (hp : p < np) (h0 : 0 ≤ (T.2.1 24 i).toInt) (h : Q (psT T i (nI p) day)) : uX5_passTo (cN np nr ns no) i (some p) day T Q X := by
  refine ⟨fun q e => by injection e with e; subst e; exact hp, ugi (c := cN np nr ns no) (k := 6) hi (ugi (c := cN np nr ns no) (k := 6) hi ⟨fun z => ?_, fun z => ?_⟩)⟩
  · refine ugi (c := cN np nr ns no) (k := 6) hi (ugi (c := cN np nr ns no) (k := 6) hi ?_)
    have e : psT T i (nI p) day = m_sA (m_sA T 19 i (nI p)) 24 i (T.2.1 24 i + 1) := if_pos (show (30 : Int32) ≤ (m_sA T 19 i (nI p)).2.1 24 i from z)
    rw [e] at h
    exact h
  · have vin : vp_in (T.2.1 24 i) 30 := by
      rw [vp_in_iff]
      have e30 : (30 : Int32).toInt = 30 := by decide
      have := Int32.not_le.mp z
      rw [Int32.lt_iff_toInt_lt, e30] at this
      exact ⟨h0, this⟩
    have e : psT T i (nI p) day = m_sA (m_sA (m_sA (m_sA T 19 i (nI p)) 22 (30 * i + (T.2.1 24 i).toNatClampNeg) (nI p)) 23 (30 * i + (T.2.1 24 i).toNatClampNeg) day) 24 i (T.2.1 24 i + 1) := if_neg (show ¬ (30 : Int32) ≤ (m_sA T 19 i (nI p)).2.1 24 i from z)
    rw [e] at h
    exact ugi (c := cN np nr ns no) (k := 6) hi (ugi (c := cN np nr ns no) (k := 6) hi (ugi (c := cN np nr ns no) (k := 3) hp ⟨i, rfl, hi, vin, ugi (c := cN np nr ns no) (k := 6) hi (ugi (c := cN np nr ns no) (k := 6) hi ⟨i, rfl, hi, vin, ugi (c := cN np nr ns no) (k := 6) hi (ugi (c := cN np nr ns no) (k := 6) hi h)⟩)⟩))
theorem m_lines {Q : mT → Prop} {i : Nat} {p : Int32} (hi : i < 40) (h0 : 0 ≤ (T.2.1 24 i).toInt) (h : Q (linT T i p (T.1 1))) : tX8_lines (nI i) p T Q := by
  refine m_ld hi ⟨fun z => ?_, fun z => m_ld hi ?_⟩
  · have e : linT T i p (T.1 1) = m_sA T 24 i (T.2.1 24 i + 1) := if_pos z
    rw [e] at h
    exact m_ld hi (m_st hi h)
  · have e : linT T i p (T.1 1) = m_sA (m_sA (m_sA T 22 (30 * i + (T.2.1 24 i).toNatClampNeg) p) 23 (30 * i + (T.2.1 24 i).toNatClampNeg) (T.1 1)) 24 i (T.2.1 24 i + 1) := if_neg z
    rw [e] at h
    have e30 : (30 : Int32).toInt = 30 := by decide
    have l30 := Int32.not_le.mp z
    rw [Int32.lt_iff_toInt_lt, e30] at l30
    obtain ⟨l, hl, el⟩ := ok_nI (x := T.2.1 24 i) (n := 30) ⟨h0, l30⟩ (by decide)
    have ec : (T.2.1 24 i).toNatClampNeg = l := by rw [el, nI_clamp (by omega)]
    rw [ec] at h
    rw [el, ix30]
    refine m_st (show 30 * i + l < 1200 by omega) (m_ld hi ?_)
    show t_stI (m_sA T 22 (30 * i + l) p) 23 ((30 : Int32) * nI i + T.2.1 24 i) (T.1 1) _
    rw [el, ix30]
    refine m_st (show 30 * i + l < 1200 by omega) (m_ld hi (m_st hi ?_))
    exact h
theorem c_gw {Q : Int32 → mT → Prop} {i s : Nat} (hns : ns ≤ 40) (hi : i < ns) (hs : s < ns) (hS : SH (T.2.1 18) ns) (h : ∀ b, bp (i = s ∨ wi (T.2.1 18) i s) b → Q b T) : uX6_goesWith (cN np nr ns no) (some i) (some s) T Q X :=
  ⟨fun q e => by injection e with e; subst e; exact hi, fun q e => by injection e with e; subst e; exact hs, fun z => ⟨Or.inr rfl, h 1 (bp_y (Or.inl (by injection z)))⟩, fun z => ⟨i, rfl, hi, c_lies hns hi hs hS fun b hb => ⟨fun e => ⟨Or.inl rfl, h 0 (bp_n fun q => q.elim (fun q => z (by rw [q])) (bp0 hb e))⟩, fun e => ⟨Or.inr rfl, h 1 (bp_y (Or.inr (bp1 hb e)))⟩⟩⟩⟩
theorem c_goes {Q : mT → Prop} {s p : Nat} {day : Int32} {today : Int32} {b : Int} (hns : ns ≤ 40) (hs : s < ns) (hp : p < np) (hv : ivB T.2.1 today b np ns) (hb : b ≤ 1000000000) (h : Q (goT (T.2.1 18) s (nI p) day T ns)) : uX6_passOn (cN np nr ns no) 0 (some s) (some p) day T Q X := by
  have main : ∀ d k, k + d = ns → uX6_passOn_L3 (cN np nr ns no) Q X (d + 1) (some 0) (some s) (some p) day (nI k) (goT (T.2.1 18) s (nI p) day T k) := fun d => by
    induction d with
    | zero =>
      intro k hk
      have : k = ns := by omega
      subst this
      exact ug7 ⟨3, rfl, by decide, ifp (nI_le (b := k) (Nat.le_refl _) (by omega)) h⟩
    | succ d ih =>
      intro k hk
      have k1 : k < ns := by omega
      obtain ⟨a1, a2, a3, a4, a5, a6⟩ := goT_f (h := T.2.1 18) (s := s) (p := nI p) (day := day) hb (fun i hi => (hv.1 i hi).2.2.2.2.2.2.2.1) k (by omega)
      have e18 : (goT (T.2.1 18) s (nI p) day T k).2.1 18 = T.2.1 18 := a3 18 (by decide) (by decide) (by decide) (by decide)
      have nx := ih (k + 1) (by omega)
      refine ug7 ⟨3, rfl, by decide, ifn (nI_ge (b := ns) k1 (by omega)) (ug7 ⟨3, k, rfl, by decide, rfl, rfl, k1, c_gw hns k1 hs (by rw [e18]; exact hv.sh) fun b hb => ⟨fun z => ?_, fun z => ⟨k, rfl, k1, c_pass k1 hp ?_ ?_⟩⟩⟩)⟩
      · show uX6_passOn_L3 _ _ _ (d + 1) (some 0) _ _ _ (nI k + 1) _
        have := bp0 hb z
        rw [e18] at this
        rw [goT_n this] at nx
        rw [nI_1]
        exact nx
      · rw [(a5 k).1 (Nat.le_refl _)]
        exact (hv.1 k k1).2.2.2.2.2.2.2.1.1
      · show uX6_passOn_L3 _ _ _ (d + 1) (some 0) _ _ _ (nI k + 1) _
        have := bp1 hb z
        rw [e18] at this
        rw [goT_y this] at nx
        rw [nI_1]
        exact nx
  exact ⟨ns + 1, main ns 0 (by omega)⟩
theorem m_goes {Q : mT → Prop} {s : Nat} {p : Int32} {today : Int32} {b : Int} (hns : ns ≤ 40) (h25 : T.1 25 = nI ns) (hs : s < ns) (hv : ivB T.2.1 today b np ns) (hb : b ≤ 1000000000) (h : Q (goT (T.2.1 18) s p (T.1 1) T ns)) : tX8_goes (nI s) p T Q := by
  have main : ∀ d k, k + d = ns → tX8_goes_L2 Q (d + 1) (nI s) p (nI k) (goT (T.2.1 18) s p (T.1 1) T k) := fun d => by
    induction d with
    | zero =>
      intro k hk
      have : k = ns := by omega
      subst this
      obtain ⟨a1, _⟩ := goT_f (h := T.2.1 18) (s := s) (p := p) (day := T.1 1) hb (fun i hi => (hv.1 i hi).2.2.2.2.2.2.2.1) k (Nat.le_refl _)
      show ((goT (T.2.1 18) s p (T.1 1) T k).1 25 ≤ nI k → _) ∧ (¬ (goT (T.2.1 18) s p (T.1 1) T k).1 25 ≤ nI k → _)
      rw [a1, h25]
      exact ifp (nI_le (Nat.le_refl _) (by omega)) h
    | succ d ih =>
      intro k hk
      have k1 : k < ns := by omega
      obtain ⟨a1, a2, a3, a4, a5, a6⟩ := goT_f (h := T.2.1 18) (s := s) (p := p) (day := T.1 1) hb (fun i hi => (hv.1 i hi).2.2.2.2.2.2.2.1) k (by omega)
      have e18 : (goT (T.2.1 18) s p (T.1 1) T k).2.1 18 = T.2.1 18 := a3 18 (by decide) (by decide) (by decide) (by decide)
      have nx := ih (k + 1) (by omega)
      have yes : (k = s ∨ wi (T.2.1 18) k s) → tX8_goes_J27 (tX8_goes_L2 Q (d + 1)) Q (nI s) p (nI k) (goT (T.2.1 18) s p (T.1 1) T k) := fun z => by
        refine m_st (show k < 40 by omega) (m_lines (by omega) ?_ ?_)
        · show 0 ≤ ((goT (T.2.1 18) s p (T.1 1) T k).2.1 24 k).toInt
          rw [(a5 k).1 (Nat.le_refl _)]
          exact (hv.1 k k1).2.2.2.2.2.2.2.1.1
        · show tX8_goes_L2 Q (d + 1) (nI s) p (nI k + 1) (linT (m_sA (goT (T.2.1 18) s p (T.1 1) T k) 19 k p) k p ((goT (T.2.1 18) s p (T.1 1) T k).1 1))
          rw [goT_y z] at nx
          rw [nI_1, a1]
          exact nx
      show ((goT (T.2.1 18) s p (T.1 1) T k).1 25 ≤ nI k → _) ∧ (¬ (goT (T.2.1 18) s p (T.1 1) T k).1 25 ≤ nI k → _)
      rw [a1, h25]
      refine ifn (nI_ge k1 (by omega)) ⟨fun z => yes (Or.inl ((nI_eq (by omega) (by omega)).mp z)), fun z => m_with hns k1 (by omega) (by rw [e18]; exact hv.sh) fun b hb => ⟨fun e => ?_, fun e => ?_⟩⟩
      · have := bp1 hb e
        rw [e18] at this
        exact yes (Or.inr this)
      · have := bp0 hb e
        rw [e18] at this
        show tX8_goes_L2 Q (d + 1) (nI s) p (nI k + 1) _
        rw [goT_n (fun q => q.elim (fun q => z (by rw [q])) this)] at nx
        rw [nI_1]
        exact nx
  exact ⟨ns + 1, main ns 0 (by omega)⟩
def MG (R : Nat → Nat → Int32) (ns s : Nat) : Prop := ¬ R 19 s < 0 ∧ R 18 s < 0 ∧ ∀ i, i < ns → (i = s ∨ wi (R 18) i s) → R 16 i = 0 ∧ R 20 i < 0
theorem c_may {Q : Int32 → mT → Prop} {s : Nat} (hns : ns ≤ 40) (hs : s < ns) (hS : SH (T.2.1 18) ns) (hl : ∀ i, i < ns → (T.2.1 21 i < 0 ↔ T.2.1 20 i < 0)) (h : ∀ b, bp (MG T.2.1 ns s) b → Q b T) : uX6_mayLeave (cN np nr ns no) 0 (some s) T Q X := by
  have main : ¬ T.2.1 19 s < 0 → T.2.1 18 s < 0 → ∀ d k, k + d = ns → (∀ i, i < k → (i = s ∨ wi (T.2.1 18) i s) → T.2.1 16 i = 0 ∧ T.2.1 20 i < 0) → uX6_mayLeave_L18 (cN np nr ns no) Q X (d + 1) (some 0) (some s) (nI k) T := fun h19 h18 d => by
    induction d with
    | zero =>
      intro k hk ha
      have : k = ns := by omega
      subst this
      exact ug7 ⟨3, rfl, by decide, ifp (nI_le (b := k) (Nat.le_refl _) (by omega)) ⟨Or.inr rfl, h 1 (bp_y ⟨h19, h18, ha⟩)⟩⟩
    | succ d ih =>
      intro k hk ha
      have k1 : k < ns := by omega
      have nx : ((k = s ∨ wi (T.2.1 18) k s) → T.2.1 16 k = 0 ∧ T.2.1 20 k < 0) → uX6_mayLeave_L18 (cN np nr ns no) Q X (d + 1) (some 0) (some s) (nI k + 1) T := fun a => by
        rw [nI_1]
        refine ih (k + 1) (by omega) fun i hi hw => ?_
        by_cases e : i = k
        · rw [e]; rw [e] at hw; exact a hw
        · exact ha i (by omega) hw
      have bad : ¬ (T.2.1 16 k = 0 ∧ T.2.1 20 k < 0) → uX6_mayLeave_J55 (uX6_mayLeave_L18 (cN np nr ns no) Q X (d + 1)) (cN np nr ns no) Q X (some 0) (some s) (nI k) (some k) T := fun a => c_gw hns k1 hs hS fun b hb => ⟨fun z => nx fun q => absurd q (bp0 hb z), fun z => ⟨Or.inl rfl, h 0 (bp_n fun q => a (q.2.2 k k1 (bp1 hb z)))⟩⟩
      refine ug7 ⟨3, rfl, by decide, ifn (nI_ge (b := ns) k1 (by omega)) (ug7 ⟨3, k, rfl, by decide, rfl, rfl, k1, ugi (c := cN np nr ns no) (k := 6) k1 ⟨fun z => bad fun q => z q.1, fun z => ⟨k, rfl, k1, c_lent k1 (hl k k1) fun b hb => ⟨fun e => nx fun _ => ⟨z, Classical.not_not.mp (bp0 hb e)⟩, fun e => bad fun q => bp1 hb e q.2⟩⟩⟩⟩)⟩
  exact ⟨s, rfl, hs, c_brk hs fun b hb => ⟨fun z => ⟨Or.inl rfl, h 0 (bp_n fun q => q.1 (bp1 hb z))⟩, fun z => ugi (c := cN np nr ns no) (k := 6) hs ⟨fun z2 => ⟨ns + 1, main (bp0 hb z) (rf_none.mp z2) ns 0 (by omega) (fun i hi => by omega)⟩, fun z2 => ⟨Or.inl rfl, h 0 (bp_n fun q => z2 (rf_none.mpr q.2.1))⟩⟩⟩⟩
theorem m_may {Q : Int32 → mT → Prop} {s : Nat} (hns : ns ≤ 40) (h25 : T.1 25 = nI ns) (hs : s < ns) (hS : SH (T.2.1 18) ns) (h : ∀ b, bp (MG T.2.1 ns s) b → Q b T) : tX8_mayGo (nI s) T Q := by
  have main : ¬ T.2.1 19 s < 0 → T.2.1 18 s < 0 → ∀ d k x2, k + d = ns → bp (∀ i, i < k → (i = s ∨ wi (T.2.1 18) i s) → T.2.1 16 i = 0 ∧ T.2.1 20 i < 0) x2 → tX8_mayGo_L23 Q (d + 1) (nI s) x2 (nI k) T := fun h19 h18 d => by
    induction d with
    | zero =>
      intro k x2 hk ha
      have : k = ns := by omega
      subst this
      show (T.1 25 ≤ nI k → _) ∧ (¬ T.1 25 ≤ nI k → _)
      rw [h25]
      exact ifp (nI_le (Nat.le_refl _) (by omega)) ⟨bp_01 ha, h x2 (bp_iff ha ⟨fun q => ⟨h19, h18, q⟩, fun q => q.2.2⟩)⟩
    | succ d ih =>
      intro k x2 hk ha
      have k1 : k < ns := by omega
      have nx : ∀ x, bp (∀ i, i < k + 1 → (i = s ∨ wi (T.2.1 18) i s) → T.2.1 16 i = 0 ∧ T.2.1 20 i < 0) x → tX8_mayGo_L23 Q (d + 1) (nI s) x (nI k + 1) T := fun x a => by
        rw [nI_1]
        exact ih (k + 1) x (by omega) a
      have yes : (k = s ∨ wi (T.2.1 18) k s) → tX8_mayGo_J45 (tX8_mayGo_L23 Q (d + 1)) Q (nI s) x2 (nI k) T := fun w => by
        refine ⟨fun e => nx 0 (bp_n fun q => bp0 ha e fun i hi => q i (by omega)), fun e => m_ld (show k < 40 by omega) ⟨fun z => nx 0 (bp_n fun q => z (q k (by omega) w).1), fun z => m_lent (by omega) fun b hb => ⟨fun z2 => nx 0 (bp_n fun q => bp1 hb z2 (q k (by omega) w).2), fun z2 => nx 1 (bp_y fun i hi hw => ?_)⟩⟩⟩
        by_cases e2 : i = k
        · rw [e2]; exact ⟨z, Classical.not_not.mp (bp0 hb z2)⟩
        · exact bp1 ha e i (by omega) hw
      show (T.1 25 ≤ nI k → _) ∧ (¬ T.1 25 ≤ nI k → _)
      rw [h25]
      refine ifn (nI_ge k1 (by omega)) ⟨fun z => yes (Or.inl ((nI_eq (by omega) (by omega)).mp z)), fun z => m_with hns k1 (by omega) hS fun b hb => ⟨fun e => nx x2 (bp_iff ha ⟨fun q i hi hw => ?_, fun q i hi => q i (by omega)⟩), fun e => yes (Or.inr (bp1 hb e))⟩⟩
      by_cases e2 : i = k
      · subst e2
        exact absurd hw fun q => q.elim (fun q => z (by rw [q])) (bp0 hb e)
      · exact q i (by omega) hw
  exact m_brk (by omega) fun b hb => ⟨fun z => ⟨Or.inl rfl, h 0 (bp_n fun q => q.1 (bp1 hb z))⟩, fun z => m_ld (show s < 40 by omega) ⟨fun z2 => ⟨ns + 1, main (bp0 hb z) z2 ns 0 1 (by omega) (bp_y fun i hi => by omega)⟩, fun z2 => ⟨Or.inl rfl, h 0 (bp_n fun q => z2 q.2.1)⟩⟩⟩
end GO
