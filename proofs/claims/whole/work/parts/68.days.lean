/-! days. -/
theorem sA_comm (T : mT) {k k' : Nat} (h : k ≠ k') (i j : Nat) (x y : Int32) : m_sA (m_sA T k i x) k' j y = m_sA (m_sA T k' j y) k i x := by
  unfold m_sA
  refine Prod.ext rfl (Prod.ext ?_ rfl)
  show va_up (va_up T.2.1 k (upd (T.2.1 k) i x)) k' (upd (va_up T.2.1 k (upd (T.2.1 k) i x) k') j y) = va_up (va_up T.2.1 k' (upd (T.2.1 k') j y)) k (upd (va_up T.2.1 k' (upd (T.2.1 k') j y) k) i x)
  rw [va_up_ne _ _ (Ne.symm h), va_up_ne _ _ h]
  funext q
  by_cases e1 : q = k
  · subst e1
    rw [va_up_ne _ _ h, va_up_self, va_up_self]
  · by_cases e2 : q = k'
    · subst e2
      rw [va_up_self, va_up_ne _ _ e1, va_up_self]
    · rw [va_up_ne _ _ e2, va_up_ne _ _ e1, va_up_ne _ _ e1, va_up_ne _ _ e2]
theorem sI_twice (T : mT) (k : Nat) (x y : Int32) : m_sI (m_sI T k x) k y = m_sI T k y := by
  unfold m_sI
  refine Prod.ext ?_ rfl
  funext j
  show upd (upd T.1 k x) k y j = upd T.1 k y j
  by_cases e : j = k
  · subst e; rw [upd_eq, upd_eq]
  · rw [upd_ne e, upd_ne e, upd_ne e]
theorem sI_back (T : mT) (D : Int32) : m_sI (m_sI (m_sI T 1 D) 0 0) 1 (T.1 1) = m_sI T 0 0 := by
  unfold m_sI
  refine Prod.ext ?_ rfl
  funext j
  show upd (upd (upd T.1 1 D) 0 0) 1 (T.1 1) j = upd T.1 0 0 j
  by_cases e : j = 1
  · subst e; rw [upd_eq, upd_ne (by decide)]
  · rw [upd_ne e]
    by_cases e0 : j = 0
    · subst e0; rw [upd_eq, upd_eq]
    · rw [upd_ne e0, upd_ne e, upd_ne e0]
/-- s comes back on a day -/
noncomputable def retT (ns : Nat) (T : mT) (s : Nat) (day : Int32) : mT := goT (upd (T.2.1 18) s (-1)) s (T.2.1 21 s) day (m_sA (m_sA (m_sA T 18 s (-1)) 21 s (-1)) 20 s (-1)) ns
theorem retT_sI (ns : Nat) (T : mT) (s : Nat) (day : Int32) (q : Nat) (x : Int32) : retT ns (m_sI T q x) s day = m_sI (retT ns T s day) q x := goT_sI (upd (T.2.1 18) s (-1)) s (T.2.1 21 s) day (m_sA (m_sA (m_sA T 18 s (-1)) 21 s (-1)) 20 s (-1)) q x ns
def isMin (ns : Nat) (R : Nat → Int32) (D s : Nat) : Prop := s < ns ∧ ¬ R s < 0 ∧ (R s).toInt ≤ D ∧ ∀ i, i < ns → ¬ R i < 0 → (R i).toInt ≤ D → (R s).toInt < (R i).toInt ∨ ((R s).toInt = (R i).toInt ∧ s ≤ i)
def noDue (ns : Nat) (R : Nat → Int32) (D : Nat) : Prop := ∀ i, i < ns → ¬ R i < 0 → (D : Int) < (R i).toInt
def evs (ns D : Nat) : Nat → mT → mT → Prop
  | 0, _, _ => False
  | f + 1, T, T' => (noDue ns (T.2.1 20) D ∧ T' = T) ∨ ∃ s, isMin ns (T.2.1 20) D s ∧ evs ns D f (retT ns T s (T.2.1 20 s)) T'
theorem isMin_u {ns : Nat} {R : Nat → Int32} {D s s' : Nat} (h : isMin ns R D s) (h' : isMin ns R D s') : s = s' := by
  have a := h.2.2.2 s' h'.1 h'.2.1 h'.2.2.1
  have b := h'.2.2.2 s h.1 h.2.1 h.2.2.1
  omega
section DY
variable {np nr ns no : Nat} {T : mT}
theorem lent_B {b : Int} {t0 : Int32} (hv : ivB T.2.1 t0 b np ns) (hnp : np ≤ 10) (h1 : 0 ≤ t0.toInt) {i : Nat} (hi : i < ns) : T.2.1 21 i < 0 ↔ T.2.1 20 i < 0 := by
  obtain ⟨_, _, _, _, _, a6, a7, _⟩ := hv.1 i hi
  rcases a7 with ⟨e1, e2⟩ | ⟨e1, e2⟩
  · rw [e1, e2]
  · constructor
    · intro z
      rcases a6 with q | ⟨j, hj, q⟩
      · exact absurd q e2
      · rw [q] at z
        exact absurd z (nInn (by omega))
    · intro z
      have := Int32.lt_iff_toInt_lt.mp z
      have := Int32.lt_iff_toInt_lt.mp e1
      have e0 : (0 : Int32).toInt = 0 := rfl
      omega
theorem ivB_pre {b : Int} {t0 : Int32} (hv : ivB T.2.1 t0 b np ns) {s : Nat} : ivB (m_sA (m_sA (m_sA T 18 s (-1)) 21 s (-1)) 20 s (-1)).2.1 t0 b np ns := by
  have hsh : SH (upd (T.2.1 18) s (-1)) ns := hv.sh.m fun k => by
    unfold upd
    split
    · exact Or.inr rfl
    · exact Or.inl rfl
  refine ⟨fun i hi => ?_, hv.2⟩
  obtain ⟨a1, a2, a3, a4, a5, a6, a7, a8, a9⟩ := hv.1 i hi
  refine ⟨a1, a2, a3, (hsh i hi).1, a5, upd_c (P := fun x => rv x np) (Or.inl rfl) a6, ?_, a8, (hsh i hi).2⟩
  show (upd (T.2.1 20) s (-1) i = -1 ∧ upd (T.2.1 21) s (-1) i = -1) ∨ (t0 < upd (T.2.1 20) s (-1) i ∧ upd (T.2.1 21) s (-1) i ≠ -1)
  by_cases e : i = s
  · subst e
    rw [upd_eq, upd_eq]
    exact Or.inl ⟨rfl, rfl⟩
  · rw [upd_ne e, upd_ne e]
    exact a7
theorem retT_f {b : Int} {t0 : Int32} (hv : ivB T.2.1 t0 b np ns) (hb : b ≤ 1000000000) {s : Nat} (hs : s < ns) (day : Int32) : (retT ns T s day).1 = T.1 ∧ (retT ns T s day).2.2 = T.2.2 ∧ (∀ r, r ≠ 18 → r ≠ 19 → r ≠ 20 → r ≠ 21 → r ≠ 22 → r ≠ 23 → r ≠ 24 → (retT ns T s day).2.1 r = T.2.1 r) ∧ (retT ns T s day).2.1 20 = upd (T.2.1 20) s (-1) ∧ ivB (retT ns T s day).2.1 t0 (b + 1) np ns := by
  have hp := ivB_pre hv (s := s)
  obtain ⟨a1, a2, a3, _⟩ := goT_f (h := upd (T.2.1 18) s (-1)) (s := s) (p := T.2.1 21 s) (day := day) hb (fun i hi => (hp.1 i hi).2.2.2.2.2.2.2.1) ns (Nat.le_refl _)
  refine ⟨a1, a2, fun r q1 q2 q3 q4 q5 q6 q7 => (a3 r q2 q5 q6 q7).trans ?_, (a3 20 (by decide) (by decide) (by decide) (by decide)), ivB_go hp hb (hv.1 s hs).2.2.2.2.2.1⟩
  rw [sA_n q3, sA_n q4, sA_n q1]
theorem c_next {Q : Option Nat → mT → Prop} {X : String → mT → Prop} {b : Int} {t0 : Int32} {D : Nat} (hns : ns ≤ 40) (hnp : np ≤ 10) (hD : D < 2 ^ 30) (h0 : 0 ≤ t0.toInt) (hv : ivB T.2.1 t0 b np ns) (h1 : noDue ns (T.2.1 20) D → Q none T) (h2 : ∀ s, isMin ns (T.2.1 20) D s → Q (some s) T) : uX6_nextDue (cN np nr ns no) 0 (nI D) T Q X := by
  have eD : (nI D).toInt = D := nI_toInt (by omega)
  have main : ∀ d k x2, k + d = ns → ((x2 = none ∧ noDue k (T.2.1 20) D) ∨ ∃ s, x2 = some s ∧ isMin k (T.2.1 20) D s) → uX6_nextDue_L4 (cN np nr ns no) Q X (d + 1) (some 0) (nI D) x2 (nI k) T := fun d => by
    induction d with
    | zero =>
      intro k x2 hk hx
      have : k = ns := by omega
      subst this
      refine ug7 ⟨3, rfl, by decide, ifp (nI_le (b := k) (Nat.le_refl _) (by omega)) ?_⟩
      rcases hx with ⟨rfl, hx⟩ | ⟨s, rfl, hx⟩
      · exact h1 hx
      · exact h2 s hx
    | succ d ih =>
      intro k x2 hk hx
      have k1 : k < ns := by omega
      have nx : ∀ x, ((x = none ∧ noDue (k + 1) (T.2.1 20) D) ∨ ∃ s, x = some s ∧ isMin (k + 1) (T.2.1 20) D s) → uX6_nextDue_L4 (cN np nr ns no) Q X (d + 1) (some 0) (nI D) x (nI k + 1) T := fun x a => by
        rw [nI_1]
        exact ih (k + 1) x (by omega) a
      have skip : (¬ T.2.1 20 k < 0 → (D : Int) < (T.2.1 20 k).toInt) → uX6_nextDue_L4 (cN np nr ns no) Q X (d + 1) (some 0) (nI D) x2 (nI k + 1) T := fun a => by
        refine nx x2 ?_
        rcases hx with ⟨e, hx⟩ | ⟨s, e, hx⟩
        · refine Or.inl ⟨e, fun i hi q => ?_⟩
          by_cases z : i = k
          · rw [z]; rw [z] at q; exact a q
          · exact hx i (by omega) q
        · refine Or.inr ⟨s, e, by have := hx.1; omega, hx.2.1, hx.2.2.1, fun i hi q1 q2 => ?_⟩
          by_cases z : i = k
          · rw [z] at q1 q2
            have := a q1
            omega
          · exact hx.2.2.2 i (by omega) q1 q2
      refine ug7 ⟨3, rfl, by decide, ifn (nI_ge (b := ns) k1 (by omega)) (ug7 ⟨3, k, rfl, by decide, rfl, rfl, k1, k, rfl, k1, c_lent k1 (lent_B hv hnp h0 k1) fun c hc => ⟨fun z => skip fun q => absurd q (bp0 hc z), fun z => ugi (c := cN np nr ns no) (k := 6) k1 ⟨fun z2 => skip fun _ => ?_, fun z2 => ?_⟩⟩⟩)⟩
      · have := Int32.lt_iff_toInt_lt.mp z2
        rw [eD] at this
        exact this
      · have lek : (T.2.1 20 k).toInt ≤ D := by
          have := Int32.le_iff_toInt_le.mp (Int32.not_lt.mp z2)
          rw [eD] at this
          exact this
        have nk := bp1 hc z
        rcases hx with ⟨e, hx⟩ | ⟨s, e, hx⟩
        · refine ifp e (nx (some k) (Or.inr ⟨k, rfl, by omega, nk, lek, fun i hi q1 q2 => ?_⟩))
          by_cases z3 : i = k
          · rw [z3]; exact Or.inr ⟨rfl, Nat.le_refl _⟩
          · have := hx i (by omega) q1
            omega
        · rw [e]
          refine ifn (by simp) (ugi (c := cN np nr ns no) (k := 6) k1 (ugi (c := cN np nr ns no) (k := 6) (show s < ns by have := hx.1; omega) ?_))
          rw [Int32.le_iff_toInt_le]
          refine ⟨fun z3 => nx (some s) (Or.inr ⟨s, rfl, by have := hx.1; omega, hx.2.1, hx.2.2.1, fun i hi q1 q2 => ?_⟩), fun z3 => nx (some k) (Or.inr ⟨k, rfl, by omega, nk, lek, fun i hi q1 q2 => ?_⟩)⟩
          · by_cases z4 : i = k
            · rw [z4]
              have := hx.1
              omega
            · exact hx.2.2.2 i (by omega) q1 q2
          · by_cases z4 : i = k
            · rw [z4]; exact Or.inr ⟨rfl, Nat.le_refl _⟩
            · have := hx.2.2.2 i (by omega) q1 q2
              omega
  exact ⟨ns + 1, main ns 0 none (by omega) (Or.inl ⟨rfl, fun i hi => by omega⟩)⟩
theorem cp_same {R : Nat → Int32} {s : Nat} {x : Int32} (j : Nat) (hj : j ≤ s) : cp (fun i => ¬ upd R s x i < 0) j = cp (fun i => ¬ R i < 0) j := by
  induction j with
  | zero => show (0 : Nat) = 0; rfl
  | succ j ih =>
    have e : upd R s x j = R j := upd_ne (by omega)
    by_cases q : R j < 0
    · rw [cp_n (P := fun i => ¬ upd R s x i < 0) (fun z => z (by rw [e]; exact q)), cp_n (P := fun i => ¬ R i < 0) (fun z => z q), ih (by omega)]
    · rw [cp_y (P := fun i => ¬ upd R s x i < 0) (by rw [e]; exact q), cp_y (P := fun i => ¬ R i < 0) q, ih (by omega)]
theorem cp_upd {R : Nat → Int32} {s : Nat} {x : Int32} (hx : x < 0) (h : ¬ R s < 0) (k : Nat) (hs : s < k) : cp (fun i => ¬ upd R s x i < 0) k + 1 = cp (fun i => ¬ R i < 0) k := by
  induction k with
  | zero => omega
  | succ k ih =>
    by_cases e : s = k
    · subst e
      rw [cp_n (P := fun i => ¬ upd R s x i < 0) (fun z => z (by rw [upd_eq]; exact hx)), cp_y (P := fun i => ¬ R i < 0) h, cp_same s (Nat.le_refl _)]
    · have ih := ih (by omega)
      have eq : upd R s x k = R k := upd_ne (Ne.symm e)
      by_cases q : R k < 0
      · rw [cp_n (P := fun i => ¬ upd R s x i < 0) (fun z => z (by rw [eq]; exact q)), cp_n (P := fun i => ¬ R i < 0) (fun z => z q), ih]
      · rw [cp_y (P := fun i => ¬ upd R s x i < 0) (by rw [eq]; exact q), cp_y (P := fun i => ¬ R i < 0) q, ← ih]
theorem cp_zero {P : Nat → Prop} : ∀ {k : Nat}, cp P k = 0 → ∀ i, i < k → ¬ P i
  | k + 1, h, i, hi => fun hp => by
    by_cases q : P k
    · rw [cp_y q] at h
      omega
    · rw [cp_n q] at h
      by_cases e : i = k
      · rw [e] at hp; exact q hp
      · exact cp_zero h i (by omega) hp
theorem cp_le {P : Nat → Prop} : ∀ k, cp P k ≤ k
  | 0 => Nat.le_refl _
  | k + 1 => by
    have := cp_le (P := P) k
    by_cases q : P k
    · rw [cp_y q]; omega
    · rw [cp_n q]; omega
theorem c_back {Q : mT → Prop} {X : String → mT → Prop} {b : Int} {t0 : Int32} {D : Nat} (hns : ns ≤ 40) (hnp : np ≤ 10) (hD : D < 2 ^ 30) (h0 : 0 ≤ t0.toInt) (hb : b ≤ 900000000) (hv : ivB T.2.1 t0 b np ns) (h : ∀ T1, evs ns D (ns + 1) T T1 → noDue ns (T1.2.1 20) D → T1.1 = T.1 → T1.2.2 = T.2.2 → (∀ r, ¬ (15 ≤ r ∧ r < 25) → T1.2.1 r = T.2.1 r) → ivB T1.2.1 t0 (b + 40) np ns → Q T1) : uX6_bringBack (cN np nr ns no) 0 (nI D) T Q X := by
  have main : ∀ d k T', k + d = ns → T'.1 = T.1 → T'.2.2 = T.2.2 → (∀ r, ¬ (15 ≤ r ∧ r < 25) → T'.2.1 r = T.2.1 r) → ivB T'.2.1 t0 (b + k) np ns → cp (fun i => ¬ T'.2.1 20 i < 0) ns + k ≤ ns → (∀ T1, evs ns D (d + 1) T' T1 → noDue ns (T1.2.1 20) D → T1.1 = T.1 → T1.2.2 = T.2.2 → (∀ r, ¬ (15 ≤ r ∧ r < 25) → T1.2.1 r = T.2.1 r) → ivB T1.2.1 t0 (b + 40) np ns → Q T1) → uX6_bringBack_L2 (cN np nr ns no) Q X (d + 1) (some 0) (nI D) (nI k) T' := fun d => by
    induction d with
    | zero =>
      intro k T' hk e1 e2 e3 hv' hc hq
      have : k = ns := by omega
      subst this
      have nd : noDue k (T'.2.1 20) D := fun i hi q => absurd q (cp_zero (P := fun i => ¬ T'.2.1 20 i < 0) (by omega) i hi)
      exact ug7 ⟨3, rfl, by decide, ifp (nI_le (b := k) (Nat.le_refl _) (by omega)) (hq T' (Or.inl ⟨nd, rfl⟩) nd e1 e2 e3 (hv'.mono (by omega)))⟩
    | succ d ih =>
      intro k T' hk e1 e2 e3 hv' hc hq
      have k1 : k < ns := by omega
      refine ug7 ⟨3, rfl, by decide, ifn (nI_ge (b := ns) k1 (by omega)) (u7 (c_next hns hnp hD h0 hv' (fun nd => ifp' rfl (hq T' (Or.inl ⟨nd, rfl⟩) nd e1 e2 e3 (hv'.mono (by omega)))) (fun s hs => ifn' (by simp) ?_)))⟩
      have s1 := hs.1
      -- the lender
      have hl : ∃ p, p < np ∧ T'.2.1 21 s = nI p := by
        obtain ⟨_, _, _, _, _, a6, a7, _⟩ := hv'.1 s s1
        rcases a6 with q | q
        · rcases a7 with ⟨q2, _⟩ | ⟨_, q2⟩
          · exact absurd (by rw [q2]; exact m1lt) hs.2.1
          · exact absurd q q2
        · exact q
      obtain ⟨p, hp, ep⟩ := hl
      refine ugi (c := cN np nr ns no) (k := 6) s1 (ugi (c := cN np nr ns no) (k := 6) s1 ⟨fun q e => absurd e (by simp), ugi (c := cN np nr ns no) (k := 6) s1 ⟨s, rfl, s1, fun q e => absurd e (by simp), ugi (c := cN np nr ns no) (k := 6) s1 (ugi (c := cN np nr ns no) (k := 6) s1 (u7 ?_))⟩⟩)
      rw [ep, rf_n (by omega)]
      refine c_goes (T := m_sA (m_sA (m_sA T' 18 s (-1)) 21 s (-1)) 20 s (-1)) hns s1 hp (ivB_pre hv') (by omega) ?_
      obtain ⟨f1, f2, f3, f4, f5⟩ := retT_f hv' (by omega) s1 (T'.2.1 20 s)
      have er : goT ((m_sA (m_sA (m_sA T' 18 s (-1)) 21 s (-1)) 20 s (-1)).2.1 18) s (nI p) (T'.2.1 20 s) (m_sA (m_sA (m_sA T' 18 s (-1)) 21 s (-1)) 20 s (-1)) ns = retT ns T' s (T'.2.1 20 s) := by
        unfold retT
        rw [ep]
        rfl
      show uX6_bringBack_L2 _ _ _ (d + 1) (some 0) _ (nI k + 1) (goT ((m_sA (m_sA (m_sA T' 18 s (-1)) 21 s (-1)) 20 s (-1)).2.1 18) s (nI p) (T'.2.1 20 s) (m_sA (m_sA (m_sA T' 18 s (-1)) 21 s (-1)) 20 s (-1)) ns)
      rw [er, nI_1]
      refine ih (k + 1) _ (by omega) (f1.trans e1) (f2.trans e2) (fun r hr => (f3 r (by omega) (by omega) (by omega) (by omega) (by omega) (by omega) (by omega)).trans (e3 r hr)) ?_ ?_ (fun T1 hT1 => hq T1 (Or.inr ⟨s, hs, hT1⟩))
      · have : b + (k + 1 : Nat) = b + k + 1 := by omega
        rw [this]
        exact f5
      · rw [f4]
        have := cp_upd (R := T'.2.1 20) (s := s) (x := -1) m1lt hs.2.1 ns s1
        omega
  exact ⟨ns + 1, main ns 0 T (by omega) rfl rfl (fun _ _ => rfl) (hv.mono (by omega)) (by have := cp_le (P := fun i => ¬ T.2.1 20 i < 0) ns; omega) h⟩
/-- the Model goes through the days -/
theorem m_day {Q : Int32 → mT → Prop} {K : Int32 → Int32 → mT → Prop} {t0 : Int32} {D d : Nat} {x1 x2 : Int32} (hns : ns ≤ 40) (hnp : np ≤ 10) (hdD : d ≤ D) (hD : D < 2 ^ 30) (T1 : mT) (hK : ∀ (f : Nat) (b : Int) (T' : mT), ivB T'.2.1 t0 b np ns → b + f ≤ 1000000000 → T'.1 25 = nI ns → noDue ns (T'.2.1 20) d → evs ns D f T' T1 → K x1 x2 (m_sI (m_sI T' 0 0) 1 (nI d))) : ∀ (e s f : Nat) (b : Int) (T' : mT), s + e = ns → ivB T'.2.1 t0 b np ns → b + f ≤ 1000000000 → T'.1 25 = nI ns → (∀ i, i < ns → ¬ T'.2.1 20 i < 0 → (d : Int) < (T'.2.1 20 i).toInt ∨ ((T'.2.1 20 i).toInt = (d : Int) ∧ s ≤ i)) → evs ns D f T' T1 → tX8_days_L51 K Q (e + 1) x1 x2 (nI s) (m_sI (m_sI T' 0 0) 1 (nI d)) := fun e => by
  have ed : (nI d).toInt = d := nI_toInt (by omega)
  induction e with
  | zero =>
    intro s f b T' hs hv hb h25 hn he
    show (T'.1 25 ≤ nI s → _) ∧ (¬ T'.1 25 ≤ nI s → _)
    rw [h25]
    refine ifp (nI_le (by omega) (by omega)) (hK f b T' hv hb h25 (fun i hi q => ?_) he)
    rcases hn i hi q with z | z
    · exact z
    · omega
  | succ e ih =>
    intro s f b T' hs hv hb h25 hn he
    have s1 : s < ns := by omega
    show (T'.1 25 ≤ nI s → _) ∧ (¬ T'.1 25 ≤ nI s → _)
    rw [h25]
    refine ifn (nI_ge s1 (by omega)) (m_ld (show s < 40 by omega) ⟨fun z => ?_, fun z => ?_⟩)
    · -- it comes back
      have z : T'.2.1 20 s = nI d := z
      have nz : ¬ T'.2.1 20 s < 0 := by
        rw [z, Int32.lt_iff_toInt_lt, ed]
        have e0 : (0 : Int32).toInt = 0 := rfl
        omega
      have mn : isMin ns (T'.2.1 20) D s := ⟨s1, nz, by rw [z, ed]; omega, fun i hi q1 q2 => by
        rw [z, ed]
        rcases hn i hi q1 with y | y
        · exact Or.inl y
        · exact Or.inr ⟨y.1.symm, y.2⟩⟩
      cases f with
      | zero => exact absurd he id
      | succ f =>
        rcases he with ⟨nd, _⟩ | ⟨s', hs', he⟩
        · have := nd s s1 nz
          rw [z, ed] at this
          omega
        · have es := isMin_u hs' mn
          subst es
          obtain ⟨f1, f2, f3, f4, f5⟩ := retT_f hv (by omega) s1 (nI d)
          rw [z] at he
          refine m_st (show s' < 40 by omega) (m_ld (show s' < 40 by omega) (m_st (show s' < 40 by omega) (m_st (show s' < 40 by omega) ?_)))
          have ec : m_sA (m_sA (m_sA (m_sI (m_sI T' 0 0) 1 (nI d)) 18 s' (-1)) 20 s' (-1)) 21 s' (-1) = m_sI (m_sI (m_sA (m_sA (m_sA T' 18 s' (-1)) 21 s' (-1)) 20 s' (-1)) 0 0) 1 (nI d) := by
            rw [sA_comm _ (show (20 : Nat) ≠ 21 by decide)]
            rfl
          rw [ec]
          refine m_goes (T := m_sI (m_sI (m_sA (m_sA (m_sA T' 18 s' (-1)) 21 s' (-1)) 20 s' (-1)) 0 0) 1 (nI d)) (today := t0) (b := b) hns h25 s1 (ivB_pre hv) (by omega) ?_
          rw [goT_sI, goT_sI]
          show tX8_days_L51 K Q (e + 1) x1 x2 (nI s' + 1) (m_sI (m_sI (retT ns T' s' (nI d)) 0 0) 1 (nI d))
          rw [nI_1]
          refine ih (s' + 1) f (b + 1) _ (by omega) f5 (by omega) (by rw [f1]; exact h25) (fun i hi q => ?_) he
          rw [f4] at q ⊢
          by_cases y : i = s'
          · rw [y, upd_eq] at q
            exact absurd m1lt q
          · rw [upd_ne y] at q ⊢
            rcases hn i hi q with w | w
            · exact Or.inl w
            · exact Or.inr ⟨w.1, by omega⟩
    · show tX8_days_L51 K Q (e + 1) x1 x2 (nI s + 1) _
      rw [nI_1]
      refine ih (s + 1) f b T' (by omega) hv hb h25 (fun i hi q => ?_) he
      rcases hn i hi q with w | w
      · exact Or.inl w
      · by_cases y : i = s
        · refine absurd ?_ z
          show T'.2.1 20 s = nI d
          rw [y] at w
          exact Int32.toInt_inj.mp (w.1.trans ed.symm)
        · exact Or.inr ⟨w.1, by omega⟩
theorem m_days {Q : Int32 → mT → Prop} {t0 : Int32} {q m : Nat} (hns : ns ≤ 40) (hnp : np ≤ 10) (hq : q + m < 2 ^ 30) (T1 : mT) (h : Q (nI (q + m)) (m_sI (m_sI T1 0 0) 1 (nI (q + m)))) : ∀ (e k f : Nat) (b : Int) (T' : mT), k + e = m → ivB T'.2.1 t0 b np ns → b + f ≤ 1000000000 → T'.1 25 = nI ns → noDue ns (T'.2.1 20) (q + k) → evs ns (q + m) f T' T1 → tX8_days_L34 Q (e + 1) (nI m) (nI k) (m_sI (m_sI T' 0 0) 1 (nI (q + k))) := fun e => by
  induction e with
  | zero =>
    intro k f b T' hk hv hb h25 hn he
    have : k = m := by omega
    subst this
    refine ifp (nI_le (Nat.le_refl _) (by omega)) ?_
    cases f with
    | zero => exact absurd he id
    | succ f =>
      rcases he with ⟨_, e⟩ | ⟨s, hs, _⟩
      · rw [e] at h
        exact h
      · have := hn s hs.1 hs.2.1
        have := hs.2.2.1
        omega
  | succ e ih =>
    intro k f b T' hk hv hb h25 hn he
    refine ifn (nI_ge (by omega) (by omega)) ?_
    show ∃ n51, tX8_days_L51 (tX8_days_J117 (tX8_days_L34 Q (e + 1)) Q) Q n51 (nI m) (nI k) 0 (m_sI (m_sI (m_sI T' 0 0) 1 (nI (q + k))) 1 (nI (q + k) + 1))
    rw [sI_twice, nI_1]
    refine ⟨ns + 1, m_day (t0 := t0) (D := q + m) (d := q + k + 1) hns hnp (by omega) hq T1 (fun f b T' hv hb h25 hn he => ?_) ns 0 f b T' (by omega) hv hb h25 (fun i hi y => ?_) he⟩
    · show tX8_days_L34 Q (e + 1) (nI m) (nI k + 1) _
      rw [nI_1]
      exact ih (k + 1) f b T' (by omega) hv hb h25 hn he
    · have := hn i hi y
      omega
end DY
section DY2
variable {n np nr ns no : Nat} {T : mT}
theorem sim_days (hI : IV n T np nr ns no) (hn : n ≤ 600) (x : Int32) : uX7_days (cN np nr ns no) 0 x T (fun v T1 => tX8_days x T (fun b T2 => OK n np nr ns no 0 v.toInt64 b.toInt64 T1 T2)) (fun E T1 => E = IAE ∧ tX8_days x T (fun _ T2 => OK n np nr ns no 1 0 0 T1 T2)) := by
  have hs := hI.1.2.2.1
  have hnp := hI.1.1.2
  have hB := ivS_B.mp hI.2.2.2.2.1
  rcases rngc x 0 1000 with ⟨h1, h2⟩ | hno
  · have hx : bt x 0 1000 := bt_of h1 h2 (by decide) (by decide)
    have ht := hI.2.1
    obtain ⟨m, hm, rfl⟩ := ok_nI (x := x) (n := 1001) ⟨hx.1, by have := hx.2; omega⟩ (by decide)
    obtain ⟨q, hq, eq⟩ := ok_nI (x := T.1 1) (n := 600001) ⟨ht.1, by have := ht.2; omega⟩ (by decide)
    have hq2 : q ≤ 1000 * n := by
      have := ht.2
      rw [eq, nI_toInt (by omega)] at this
      omega
    refine u_cr h1 h2 (ug8 (ug8 (ug8 (ug8 (u7 ?_)))))
    show uX6_bringBack _ 0 (T.1 1 + nI m) (m_sI T 1 (T.1 1 + nI m)) _ _
    rw [eq, nI_add]
    have h00 : 0 ≤ (nI q).toInt := by rw [nI_toInt (by omega)]; omega
    refine c_back (T := m_sI T 1 (nI (q + m))) (b := 100 * n) (t0 := T.1 1) (D := q + m) hs.2 hnp (by omega) (by rw [eq]; exact h00) (by omega) hB fun T1 he hd e1 e2 e3 hv => ug8 ?_
    have t1 : T1.1 1 = nI (q + m) := by rw [e1]; rfl
    rw [t1]
    refine m_in e0l e1000l h1 h2 (ifn' one0 (m_ti0 (ifp rfl ⟨m + 1, ?_⟩)))
    have md := m_days (np := np) (ns := ns) (q := q) (m := m) (t0 := T.1 1) (Q := fun b T2 => OK n np nr ns no 0 (nI (q + m)).toInt64 b.toInt64 T1 T2) hs.2 hnp (by omega) T1 ?_ m 0 (ns + 1) (100 * n) (m_sI T 1 (nI (q + m))) (by omega) hB (by omega) hs.1 (fun i hi y => ?_) he
    · have sb := sI_back T (nI (q + m))
      rw [eq] at sb
      rw [show q + 0 = q from rfl, sb] at md
      exact md
    · refine OK.any rfl ⟨?_, ?_, fun k _ => rfl, rfl, rfl⟩ ?_
      · show upd (upd T1.1 0 0) 1 (nI (q + m)) 1 = T1.1 1
        rw [upd_eq, t1]
      · rfl
      · refine IV.S hI (fun k q1 q2 _ => ?_) ?_ (fun k _ q2 => e3 k q2) ?_
        · show upd (upd T1.1 0 0) 1 (nI (q + m)) k = _
          rw [upd_ne (by omega), upd_ne (by omega), e1]
          exact if_neg (by omega)
        · show bt (nI (q + m)) 0 _
          unfold bt
          rw [nI_toInt (by omega)]
          omega
        · show ivS T1.2.1 (nI (q + m)) (n + 1) np ns
          rw [ivS_B]
          refine ⟨fun i hi => ?_, hv.2⟩
          obtain ⟨a1, a2, a3, a4, a5, a6, a7, a8, a9⟩ := hv.1 i hi
          refine ⟨a1, a2, a3, a4, a5, a6, ?_, ⟨a8.1, by have := a8.2; omega⟩, a9⟩
          rcases a7 with y | ⟨y1, y2⟩
          · exact Or.inl y
          · refine Or.inr ⟨?_, y2⟩
            have nl : ¬ T1.2.1 20 i < 0 := fun w => by
              have w1 := Int32.lt_iff_toInt_lt.mp w
              have w2 := Int32.lt_iff_toInt_lt.mp y1
              rw [eq] at w2
              have e0 : (0 : Int32).toInt = 0 := rfl
              omega
            have := hd i hi nl
            rw [Int32.lt_iff_toInt_lt, nI_toInt (by omega)]
            exact this
    · obtain ⟨_, _, _, _, _, _, a7, _⟩ := hB.1 i hi
      rcases a7 with ⟨w, _⟩ | ⟨w, _⟩
      · have y : ¬ T.2.1 20 i < 0 := y
        rw [w] at y
        exact absurd m1lt y
      · have := Int32.lt_iff_toInt_lt.mp w
        rw [eq, nI_toInt (by omega)] at this
        exact this
  · refine u_cr_no hno ⟨rfl, ?_⟩
    exact m_in_no e0l e1000l hno (ifp' rfl (m_ti1 (ifn one0 (OK.bad hI one0))))
end DY2
