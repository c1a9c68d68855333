/-! deed. -/
theorem lI_le {z w : Int} (hz : z.natAbs ≤ 4000000000000000000) (hw : w.natAbs ≤ 4000000000000000000) : lg_cmp (lI z) (lI w) ≤ 0 ↔ z ≤ w := by
  have a := cmp_gt (lI z) (lI w)
  rw [Int64.lt_iff_toInt_lt, lI_toInt hz, lI_toInt hw] at a
  rw [← Int32.not_lt, a]
  omega
theorem lI_ge {z w : Int} (hz : z.natAbs ≤ 4000000000000000000) (hw : w.natAbs ≤ 4000000000000000000) : 0 ≤ lg_cmp (lI z) (lI w) ↔ w ≤ z := by
  have a := cmp_lt (lI z) (lI w)
  rw [Int64.lt_iff_toInt_lt, lI_toInt hz, lI_toInt hw] at a
  rw [← Int32.not_lt, a]
  omega
theorem prod_bd {a t : Int} (ha : 0 ≤ a) (ha2 : a ≤ 9) (ht : 0 ≤ t) (ht2 : t ≤ 1000) : 0 ≤ a * t ∧ a * t ≤ 9000 :=
  ⟨Int.mul_nonneg ha ht, Int.le_trans (Int.mul_le_mul ha2 ht2 ht (by decide)) (by decide)⟩
theorem mul9 {a t : Int32} (ha : bt a 0 9) (ht : bt t 1 1000) : (a * t).toInt = a.toInt * t.toInt ∧ 0 ≤ a.toInt * t.toInt ∧ a.toInt * t.toInt ≤ 9000 := by
  have h1 := ht.1
  have p := prod_bd ha.1 ha.2 (t := t.toInt) (by omega) ht.2
  refine ⟨?_, p⟩
  rw [Int32.toInt_mul, Int.bmod_eq_of_le (by omega) (by omega)]
section DE
variable {np nr ns no : Nat} {T : mT}
def FEW (R : Nat → Nat → Int32) (i r : Nat) (t : Int32) (n : Nat) : Prop := ∃ k, k < n ∧ (R 2 (4 * i + k)).toInt < (R 7 (4 * r + k)).toInt * t.toInt
def MANY (R : Nat → Nat → Int32) (i r : Nat) (t : Int32) (n : Nat) : Prop := ∃ k, k < n ∧ 1000000000 < (R 2 (4 * i + k)).toInt + ((R 8 (4 * r + k)).toInt * t.toInt - (R 7 (4 * r + k)).toInt * t.toInt)
def AN (R : Nat → Nat → Int32) (i r : Nat) (t b : Int32) : Prop := (b = 1 ∧ FEW R i r t 4) ∨ (b = 2 ∧ ¬ FEW R i r t 4 ∧ MANY R i r t 4) ∨ (b = 0 ∧ ¬ FEW R i r t 4 ∧ ¬ MANY R i r t 4)
theorem AN_u {R : Nat → Nat → Int32} {i r : Nat} {t b b' : Int32} (h : AN R i r t b) (h' : AN R i r t b') : b = b' := by
  rcases h with ⟨e, p⟩ | ⟨e, p, q⟩ | ⟨e, p, q⟩ <;> rcases h' with ⟨e', p'⟩ | ⟨e', p', q'⟩ | ⟨e', p', q'⟩ <;> first | exact absurd p p' | exact absurd p' p | exact absurd q q' | exact absurd q' q | rw [e, e']
theorem few_s {R : Nat → Nat → Int32} {i r k : Nat} {t : Int32} : FEW R i r t (k + 1) ↔ FEW R i r t k ∨ (R 2 (4 * i + k)).toInt < (R 7 (4 * r + k)).toInt * t.toInt := by
  constructor
  · rintro ⟨k', h1, h2⟩
    by_cases e : k' = k
    · rw [e] at h2; exact Or.inr h2
    · exact Or.inl ⟨k', by omega, h2⟩
  · rintro (⟨k', h1, h2⟩ | h)
    · exact ⟨k', by omega, h2⟩
    · exact ⟨k, by omega, h⟩
theorem many_s {R : Nat → Nat → Int32} {i r k : Nat} {t : Int32} : MANY R i r t (k + 1) ↔ MANY R i r t k ∨ 1000000000 < (R 2 (4 * i + k)).toInt + ((R 8 (4 * r + k)).toInt * t.toInt - (R 7 (4 * r + k)).toInt * t.toInt) := by
  constructor
  · rintro ⟨k', h1, h2⟩
    by_cases e : k' = k
    · rw [e] at h2; exact Or.inr h2
    · exact Or.inl ⟨k', by omega, h2⟩
  · rintro (⟨k', h1, h2⟩ | h)
    · exact ⟨k', by omega, h2⟩
    · exact ⟨k, by omega, h⟩
theorem c_ans {Q : Int32 → mT → Prop} {X : String → mT → Prop} {i r : Nat} {t : Int32} (hi : i < np) (hr : r < nr) (ht : bt t 1 1000) (hG : ∀ j, bt (T.2.1 2 j) 0 1000000000) (hL : ∀ j, bt (T.2.1 7 j) 0 9 ∧ bt (T.2.1 8 j) 0 9) (h : ∀ b, AN T.2.1 i r t b → Q b T) : uX2_answerTo (cN np nr ns no) i (some r) t T Q X := by
  have two : ¬ FEW T.2.1 i r t 4 → ∀ d k, k + d = 4 → ¬ MANY T.2.1 i r t k → uX2_answerTo_L34 (cN np nr ns no) Q X (d + 1) (some i) (some r) t (nI k) T := fun hf d => by
    induction d with
    | zero =>
      intro k hk hm
      have : k = 4 := by omega
      subst this
      exact ifp (nI_le (a := 4) (b := 4) (by omega) (by omega)) (h 0 (Or.inr (Or.inr ⟨rfl, hf, hm⟩)))
    | succ d ih =>
      intro k hk hm
      refine ifn (nI_ge (a := k) (b := 4) (by omega) (by omega)) (ugi (c := cN np nr ns no) (k := 3) hi (uai (c := cN np nr ns no) (k := 10) hi (show k < 4 by omega) (by decide) ⟨r, rfl, hr, c_won hr (show k < 4 by omega) ?_⟩))
      have g := hG (4 * i + k)
      have m7 := mul9 (hL (4 * r + k)).1 ht
      have m8 := mul9 (hL (4 * r + k)).2 ht
      have g1 := g.1
      have g2 := g.2
      have e : (T.2.1 2 (4 * i + k) + (T.2.1 8 (4 * r + k) - T.2.1 7 (4 * r + k)) * t).toInt = (T.2.1 2 (4 * i + k)).toInt + ((T.2.1 8 (4 * r + k)).toInt * t.toInt - (T.2.1 7 (4 * r + k)).toInt * t.toInt) := by
        have e1 : ((T.2.1 8 (4 * r + k) - T.2.1 7 (4 * r + k)) * t).toInt = (T.2.1 8 (4 * r + k)).toInt * t.toInt - (T.2.1 7 (4 * r + k)).toInt * t.toInt := by
          rw [Int32.sub_mul, Int32.toInt_sub, m7.1, m8.1, Int.bmod_eq_of_le (by omega) (by omega)]
        rw [Int32.toInt_add, e1, Int.bmod_eq_of_le (by omega) (by omega)]
      rw [Int32.le_iff_toInt_le, e]
      have eK : (1000000000 : Int32).toInt = 1000000000 := by decide
      rw [eK]
      refine ⟨fun z => ?_, fun z => h 2 (Or.inr (Or.inl ⟨rfl, hf, k, by omega, by omega⟩))⟩
      rw [nI_1]
      exact ih (k + 1) (by omega) fun q => (many_s.mp q).elim hm (fun z2 => by omega)
  have one : ∀ d k, k + d = 4 → ¬ FEW T.2.1 i r t k → uX2_answerTo_L2 (uX2_answerTo_J32 (cN np nr ns no) Q X) (cN np nr ns no) Q X (d + 1) (some i) (some r) t (nI k) T := fun d => by
    induction d with
    | zero =>
      intro k hk hf
      have : k = 4 := by omega
      subst this
      exact ifp (nI_le (a := 4) (b := 4) (by omega) (by omega)) ⟨5, two hf 4 0 (by omega) (fun ⟨k', h, _⟩ => by omega)⟩
    | succ d ih =>
      intro k hk hf
      refine ifn (nI_ge (a := k) (b := 4) (by omega) (by omega)) (ugi (c := cN np nr ns no) (k := 3) hi (uai (c := cN np nr ns no) (k := 10) hi (show k < 4 by omega) (by decide) (ugi (c := cN np nr ns no) (k := 4) hr (uai (c := cN np nr ns no) (k := 11) hr (show k < 4 by omega) (by decide) ?_))))
      have m7 := mul9 (hL (4 * r + k)).1 ht
      rw [Int32.le_iff_toInt_le, m7.1]
      refine ⟨fun z => ?_, fun z => h 1 (Or.inl ⟨rfl, k, by omega, by omega⟩)⟩
      rw [nI_1]
      exact ih (k + 1) (by omega) fun q => (few_s.mp q).elim hf (fun z2 => by omega)
  exact ⟨5, one 4 0 (by omega) (fun ⟨k', h, _⟩ => by omega)⟩
/-- k kinds have been carried out -/
def gF (R : Nat → Nat → Int32) (i r : Nat) (t : Int32) (k j : Nat) : Int32 := if 4 * i ≤ j ∧ j < 4 * i + k then R 2 j + (R 8 (4 * r + (j - 4 * i)) - R 7 (4 * r + (j - 4 * i))) * t else R 2 j
def mF (R : Nat → Int32) (J : Nat → Int64) (r : Nat) (t : Int32) (k j : Nat) : Int64 := if j < k then J j + (R (4 * r + j)).toInt64 * t.toInt64 else J j
def DS (T : mT) (i r : Nat) (t : Int32) (k : Nat) (T' : mT) : Prop := T'.1 = T.1 ∧ (∀ q, q ≠ 2 → T'.2.1 q = T.2.1 q) ∧ (∀ j, T'.2.1 2 j = gF T.2.1 i r t k j) ∧ (∀ q, q ≠ 13 → q ≠ 14 → T'.2.2 q = T.2.2 q) ∧ (∀ j, T'.2.2 13 j = mF (T.2.1 8) (T.2.2 13) r t k j) ∧ ∀ j, T'.2.2 14 j = mF (T.2.1 7) (T.2.2 14) r t k j
theorem DS.zero (T : mT) (i r : Nat) (t : Int32) : DS T i r t 0 T := ⟨rfl, fun _ _ => rfl, fun j => by unfold gF; rw [if_neg (by omega)], fun _ _ _ => rfl, fun j => by unfold mF; rw [if_neg (by omega)], fun j => by unfold mF; rw [if_neg (by omega)]⟩
theorem DS.succ {i r k : Nat} {t : Int32} {T' T2 : mT} (h : DS T i r t k T') (h1 : T2.1 = T'.1) (h2 : ∀ q, q ≠ 2 → T2.2.1 q = T'.2.1 q) (h3 : ∀ j, T2.2.1 2 j = if j = 4 * i + k then T'.2.1 2 (4 * i + k) + (T.2.1 8 (4 * r + k) - T.2.1 7 (4 * r + k)) * t else T'.2.1 2 j) (h4 : ∀ q, q ≠ 13 → q ≠ 14 → T2.2.2 q = T'.2.2 q) (h5 : ∀ j, T2.2.2 13 j = if j = k then T'.2.2 13 k + (T.2.1 8 (4 * r + k)).toInt64 * t.toInt64 else T'.2.2 13 j) (h6 : ∀ j, T2.2.2 14 j = if j = k then T'.2.2 14 k + (T.2.1 7 (4 * r + k)).toInt64 * t.toInt64 else T'.2.2 14 j) : DS T i r t (k + 1) T2 := by
  obtain ⟨a1, a2, a3, a4, a5, a6⟩ := h
  refine ⟨h1.trans a1, fun q hq => (h2 q hq).trans (a2 q hq), fun j => ?_, fun q p1 p2 => (h4 q p1 p2).trans (a4 q p1 p2), fun j => ?_, fun j => ?_⟩
  · rw [h3 j, a3, a3]
    unfold gF
    by_cases e : j = 4 * i + k
    · subst e
      rw [if_pos rfl, if_neg (by omega), if_pos (by omega), show 4 * i + k - 4 * i = k by omega]
    · rw [if_neg e]
      by_cases e2 : 4 * i ≤ j ∧ j < 4 * i + k
      · rw [if_pos e2, if_pos (by omega)]
      · rw [if_neg e2, if_neg (by omega)]
  · rw [h5 j, a5, a5]
    unfold mF
    by_cases e : j = k
    · subst e
      rw [if_pos rfl, if_neg (by omega), if_pos (by omega)]
    · rw [if_neg e]
      by_cases e2 : j < k
      · rw [if_pos e2, if_pos (by omega)]
      · rw [if_neg e2, if_neg (by omega)]
  · rw [h6 j, a6, a6]
    unfold mF
    by_cases e : j = k
    · subst e
      rw [if_pos rfl, if_neg (by omega), if_pos (by omega)]
    · rw [if_neg e]
      by_cases e2 : j < k
      · rw [if_pos e2, if_pos (by omega)]
      · rw [if_neg e2, if_neg (by omega)]
theorem mulL {a t : Int32} (ha : bt a 0 9) (ht : bt t 1 1000) : (a * t).toInt64 = a.toInt64 * t.toInt64 := by
  rw [i2lI, i2lI, i2lI, lI_mul, (mul9 ha ht).1]
theorem c_carry {Q : mT → Prop} {X : String → mT → Prop} {i r : Nat} {t : Int32} (hi : i < np) (hr : r < nr) (ht : bt t 1 1000) (hL : ∀ j, bt (T.2.1 7 j) 0 9 ∧ bt (T.2.1 8 j) 0 9) (h : ∀ T', DS T i r t 4 T' → Q (m_sI T' 6 (T'.1 6 + 1))) : uX7_carryOut (cN np nr ns no) 0 (some i) (some r) t T Q X := by
  have main : ∀ d k T', k + d = 4 → DS T i r t k T' → uX7_carryOut_L3 (cN np nr ns no) Q X (d + 1) (some 0) (some i) (some r) t (nI k) T' := fun d => by
    induction d with
    | zero =>
      intro k T' hk hD
      have : k = 4 := by omega
      subst this
      exact ifp (nI_le (a := 4) (b := 4) (by omega) (by omega)) (ug8 (ug8 (h T' hD)))
    | succ d ih =>
      intro k T' hk hD
      have k4 : k < 4 := by omega
      refine ifn (nI_ge (a := k) (b := 4) (by omega) (by omega)) (ugi (c := cN np nr ns no) (k := 4) hr (uai (c := cN np nr ns no) (k := 11) hr k4 (by decide) (ugi (c := cN np nr ns no) (k := 4) hr (uai (c := cN np nr ns no) (k := 12) hr k4 (by decide) (ugi (c := cN np nr ns no) (k := 3) hi (uai (c := cN np nr ns no) (k := 10) hi k4 (by decide) (uai (c := cN np nr ns no) (k := 10) hi k4 (by decide) (ug8 (uai (c := cN np nr ns no) (k := 19) Nat.one_pos k4 (by decide) (uai (c := cN np nr ns no) (k := 19) Nat.one_pos k4 (by decide) (ug8 (uai (c := cN np nr ns no) (k := 18) Nat.one_pos k4 (by decide) (uai (c := cN np nr ns no) (k := 18) Nat.one_pos k4 (by decide) ?_)))))))))))))
      rw [nI_1]
      refine ih (k + 1) _ (by omega) (hD.succ rfl (fun q hq => sA_n hq) (fun j => ?_) (fun q p1 p2 => ?_) (fun j => ?_) (fun j => ?_))
      · show (m_sA T' 2 (4 * i + k) _).2.1 2 j = _
        rw [sA_at, hD.2.1 8 (by decide), hD.2.1 7 (by decide), Int32.sub_mul]
      · rw [sJ_n p1, sJ_n p2]
        rfl
      · rw [sJ_at, sJ_n (by decide)]
        show (if j = k then T'.2.2 13 k + (T'.2.1 8 (4 * r + k) * t).toInt64 else T'.2.2 13 j) = _
        rw [hD.2.1 8 (by decide), mulL (hL _).2 ht]
      · rw [sJ_n (by decide), sJ_at]
        show (if j = k then T'.2.2 14 k + (T'.2.1 7 (4 * r + k) * t).toInt64 else T'.2.2 14 j) = _
        rw [hD.2.1 7 (by decide), mulL (hL _).1 ht]
  exact ⟨5, main 4 0 T (by omega) (DS.zero T i r t)⟩
theorem m_does {Q : Int32 → mT → Prop} {i r : Nat} {t : Int32} (hi : i < 10) (hr : r < 10) (ht : bt t 1 1000) (hG : ∀ j, bt (T.2.1 2 j) 0 1000000000) (hL : ∀ j, bt (T.2.1 7 j) 0 9 ∧ bt (T.2.1 8 j) 0 9) (h1 : ∀ b, b ≠ 0 → AN T.2.1 i r t b → Q b T) (h0 : AN T.2.1 i r t 0 → ∀ T', DS T i r t 4 T' → Q 0 (m_sI T' 6 (T'.1 6 + 1))) : tX8_does (nI i) (nI r) t T Q := by
  have carry : AN T.2.1 i r t 0 → ∀ d k T', k + d = 4 → DS T i r t k T' → tX8_does_L129 Q (d + 1) (nI i) (nI r) t (nI k) T' := fun hA d => by
    induction d with
    | zero =>
      intro k T' hk hD
      have : k = 4 := by omega
      subst this
      exact ifp (nI_le (a := 4) (b := 4) (by omega) (by omega)) (h0 hA T' hD)
    | succ d ih =>
      intro k T' hk hD
      have k4 : k < 4 := by omega
      refine ifn (nI_ge (a := k) (b := 4) (by omega) (by omega)) ?_
      rw [ix4, ix4]
      refine m_ld (show 4 * i + k < 40 by omega) (m_ld (show 4 * r + k < 40 by omega) (m_ld (show 4 * r + k < 40 by omega) (m_st (show 4 * i + k < 40 by omega) (m_ldJ k4 (m_ld (show 4 * r + k < 40 by omega) (m_stJ k4 (m_ldJ k4 (m_ld (show 4 * r + k < 40 by omega) (m_stJ k4 ?_)))))))))
      rw [nI_1]
      refine ih (k + 1) _ (by omega) (hD.succ rfl (fun q hq => sA_n hq) (fun j => ?_) (fun q p1 p2 => ?_) (fun j => ?_) (fun j => ?_))
      · show (m_sA T' 2 (4 * i + k) _).2.1 2 j = _
        rw [sA_at, hD.2.1 8 (by decide), hD.2.1 7 (by decide)]
      · rw [sJ_n p2, sJ_n p1]
        rfl
      · rw [sJ_n (by decide), sJ_at]
        show (if j = k then T'.2.2 13 k + (T'.2.1 8 (4 * r + k)).toInt64 * t.toInt64 else T'.2.2 13 j) = _
        rw [hD.2.1 8 (by decide)]
      · rw [sJ_at, sJ_n (by decide)]
        show (if j = k then T'.2.2 14 k + (T'.2.1 7 (4 * r + k)).toInt64 * t.toInt64 else T'.2.2 14 j) = _
        rw [hD.2.1 7 (by decide)]
  have main : ∀ d k x4 x5, k + d = 4 → bp (FEW T.2.1 i r t k) x4 → bp (MANY T.2.1 i r t k) x5 → tX8_does_L9 (tX8_does_J112 Q) Q (d + 1) (nI i) (nI r) t x4 x5 (nI k) T := fun d => by
    induction d with
    | zero =>
      intro k x4 x5 hk hf hm
      have : k = 4 := by omega
      subst this
      refine ifp (nI_le (a := 4) (b := 4) (by omega) (by omega)) ⟨fun e => ⟨fun e2 => ⟨5, carry (Or.inr (Or.inr ⟨rfl, bp0 hf e, bp0 hm e2⟩)) 4 0 T (by omega) (DS.zero T i r t)⟩, fun e2 => h1 2 (by decide) (Or.inr (Or.inl ⟨rfl, bp0 hf e, bp1 hm e2⟩))⟩, fun e => h1 1 (by decide) (Or.inl ⟨rfl, bp1 hf e⟩)⟩
    | succ d ih =>
      intro k x4 x5 hk hf hm
      have k4 : k < 4 := by omega
      have g := hG (4 * i + k)
      have m7 := mul9 (hL (4 * r + k)).1 ht
      have m8 := mul9 (hL (4 * r + k)).2 ht
      have g1 := g.1
      have g2 := g.2
      refine ifn (nI_ge (a := k) (b := 4) (by omega) (by omega)) ?_
      rw [ix4, ix4]
      refine m_ld (show 4 * i + k < 40 by omega) (m_ld (show 4 * r + k < 40 by omega) ?_)
      have nx : ∀ x4' x5', bp (FEW T.2.1 i r t (k + 1)) x4' → bp (MANY T.2.1 i r t (k + 1)) x5' → tX8_does_L9 (tX8_does_J112 Q) Q (d + 1) (nI i) (nI r) t x4' x5' (nI k + 1) T := fun x4' x5' a b => by
        rw [nI_1]
        exact ih (k + 1) x4' x5' (by omega) a b
      have more : ∀ x4', bp (FEW T.2.1 i r t (k + 1)) x4' → tX8_does_J64 (tX8_does_L9 (tX8_does_J112 Q) Q (d + 1)) Q (nI i) (nI r) t x5 (nI k) (T.2.1 2 (4 * i + k)).toInt64 ((T.2.1 7 (4 * r + k)).toInt64 * t.toInt64) x4' T := fun x4' a => by
        refine ⟨fun e => nx _ _ a (bp_y (many_s.mpr (Or.inl (bp1 hm e)))), fun e => ?_⟩
        rw [ix4]
        refine m_ld (show 4 * r + k < 40 by omega) ?_
        rw [i2lI, i2lI, i2lI, i2lI, lI_mul, lI_mul, lI_sub, lI_add, show (1000000000 : Int64) = lI 1000000000 from by decide, lI_le (by omega) (by omega)]
        exact ⟨fun z => nx _ _ a (bp_n fun q => (many_s.mp q).elim (bp0 hm e) (fun z2 => by omega)), fun z => nx _ _ a (bp_y (many_s.mpr (Or.inr (by omega))))⟩
      refine ⟨fun e => more 1 (bp_y (few_s.mpr (Or.inl (bp1 hf e)))), fun e => ?_⟩
      have ec : (0 ≤ lg_cmp (T.2.1 2 (4 * i + k)).toInt64 ((T.2.1 7 (4 * r + k)).toInt64 * t.toInt64)) ↔ (T.2.1 7 (4 * r + k)).toInt * t.toInt ≤ (T.2.1 2 (4 * i + k)).toInt := by
        rw [i2lI, i2lI, i2lI, lI_mul, lI_ge (by omega) (by omega)]
      rw [ec]
      exact ⟨fun z => more 0 (bp_n fun q => (few_s.mp q).elim (bp0 hf e) (fun z2 => by omega)), fun z => more 1 (bp_y (few_s.mpr (Or.inr (by omega))))⟩
  exact ⟨5, main 4 0 0 0 (by omega) (bp_n fun ⟨k', h, _⟩ => by omega) (bp_n fun ⟨k', h, _⟩ => by omega)⟩
end DE
section DE2
variable {n np nr ns no : Nat} {T : mT}
theorem gF_bt {R : Nat → Nat → Int32} {i r : Nat} {t : Int32} (ht : bt t 1 1000) (hG : ∀ j, bt (R 2 j) 0 1000000000) (hL : ∀ j, bt (R 7 j) 0 9 ∧ bt (R 8 j) 0 9) (hA : AN R i r t 0) (j : Nat) : bt (gF R i r t 4 j) 0 1000000000 := by
  unfold gF
  split
  · rename_i hj
    have hk : j = 4 * i + (j - 4 * i) := by omega
    generalize j - 4 * i = k at *
    subst hk
    have m7 := mul9 (hL (4 * r + k)).1 ht
    have m8 := mul9 (hL (4 * r + k)).2 ht
    have g1 := (hG (4 * i + k)).1
    have g2 := (hG (4 * i + k)).2
    have hA2 : ¬ FEW R i r t 4 ∧ ¬ MANY R i r t 4 := by
      rcases hA with ⟨e, _⟩ | ⟨e, _⟩ | ⟨_, q⟩
      · exact absurd e (by decide)
      · exact absurd e (by decide)
      · exact q
    have e1 : ((R 8 (4 * r + k) - R 7 (4 * r + k)) * t).toInt = (R 8 (4 * r + k)).toInt * t.toInt - (R 7 (4 * r + k)).toInt * t.toInt := by
      rw [Int32.sub_mul, Int32.toInt_sub, m7.1, m8.1, Int.bmod_eq_of_le (by omega) (by omega)]
    have f1 : ¬ (R 2 (4 * i + k)).toInt < (R 7 (4 * r + k)).toInt * t.toInt := fun z => hA2.1 ⟨k, by omega, z⟩
    have f2 : ¬ 1000000000 < (R 2 (4 * i + k)).toInt + ((R 8 (4 * r + k)).toInt * t.toInt - (R 7 (4 * r + k)).toInt * t.toInt) := fun z => hA2.2 ⟨k, by omega, z⟩
    unfold bt
    rw [Int32.toInt_add, e1, Int.bmod_eq_of_le (by omega) (by omega)]
    omega
  · exact hG j
theorem OK.any {v : Int64} {T1 T2 : mT} (h0 : T2.1 0 = 0) (he : eqv T1 T2) (hI : IV (n + 1) T2 np nr ns no) : OK n np nr ns no 0 v v T1 T2 := ⟨h0, fun _ => rfl, he, hI⟩
theorem sim_deed (hI : IV n T np nr ns no) (p m r t : Int32) : uX7_deed (cN np nr ns no) 0 p m r t T (fun v T1 => tX8_deed p m r t T (fun b T2 => OK n np nr ns no 0 v.toInt64 b.toInt64 T1 T2)) (fun E T1 => (E = IOB ∧ tX8_deed p m r t T (fun _ T2 => OK n np nr ns no 1 0 0 T1 T2)) ∨ (E = IAE ∧ tX8_deed p m r t T (fun _ T2 => OK n np nr ns no 2 0 0 T1 T2))) := by
  have hp := hI.1.1
  have hr := hI.1.2.1
  rcases okc p (show np ≤ 200 by omega) with ⟨i, hi, rfl⟩ | hno
  · refine u8 (u_pl hi (by omega) (u8 ?_))
    rcases okc r (show nr ≤ 200 by omega) with ⟨j, hj, rfl⟩ | hno
    · refine u_ru hj (by omega) ?_
      rcases rngc t 1 1000 with ⟨h1, h2⟩ | hno
      · have hb : bt t 1 1000 := bt_of h1 h2 (by decide) (by decide)
        obtain ⟨w1, w2, w3, w4, w5⟩ := hI.up
        have pre : ∀ Q : Int32 → mT → Prop, (((T.2.1 3 i ≤ 0 → tX8_deed_J88 Q (nI i) m (nI j) t (m_sI T 0 0)) ∧ (¬ T.2.1 3 i ≤ 0 → ((¬ m = T.2.1 3 i → tX8_deed_J88 Q (nI i) m (nI j) t (m_sI T 0 0)) ∧ (m = T.2.1 3 i → Q (T.2.1 4 i) (m_sI T 0 0)))))) → tX8_deed (nI i) m (nI j) t T Q := fun Q hq => by
          refine m_pl (n := np) hp.1 (by omega) hi (ifp' rfl (m_ru (n := nr) hr.1 (by omega) hj (ifp rfl (m_ti0 (ifp' rfl (m_in e1l e1000l h1 h2 (ifn' one0 (m_ti0 (ifp rfl (m_ld (show i < 10 by omega) ⟨fun z => hq.1 z, fun z => m_ld (show i < 10 by omega) ⟨fun z2 => (hq.2 z).1 z2, fun z2 => m_ld (show i < 10 by omega) ((hq.2 z).2 z2)⟩⟩))))))))))
        have J : ∀ (Q : Int32 → mT → Prop) (X : String → mT → Prop), (∀ v T1, tX8_deed_J88 (fun b T2 => OK n np nr ns no 0 v.toInt64 b.toInt64 T1 T2) (nI i) m (nI j) t (m_sI T 0 0) → Q v T1) → uX7_deed_J46 (cN np nr ns no) Q X (some 0) m t (some i) (some j) T := fun Q X hq => by
          refine ugi (c := cN np nr ns no) (k := 3) hi ⟨fun z => ⟨i, rfl, hi, c_ans hi hj hb w3.1 w4.1 fun b hA => ugi (c := cN np nr ns no) (k := 3) hi (ugi (c := cN np nr ns no) (k := 3) hi ⟨fun zb => ?_, fun zb => u8 (c_carry hi hj hb w4.1 fun T' hD => ?_)⟩)⟩, fun z => hq _ _ (m_ld (show i < 10 by omega) (ifn z (OK.same hI rfl)))⟩
          · -- refused
            refine hq _ _ (m_ld (show i < 10 by omega) (ifp z (m_st (show i < 10 by omega) (m_does (T := m_sA (m_sI T 0 0) 3 i m) (by omega) (by omega) hb w3.1 w4.1 (fun b' _ hA' => ?_) (fun hA' => absurd (AN_u hA hA') zb)))))
            have e : b = b' := AN_u hA hA'
            subst e
            refine m_st (show i < 10 by omega) (m_ld (show i < 10 by omega) ?_)
            rw [sA_at, if_pos rfl]
            refine OK.of (T1 := m_sA (m_sA T 3 i m) 4 i b) ⟨w1, w2, ⟨w3.1, w3.2.1, fun q hq => ⟨?_, ?_⟩⟩, w4, w5⟩
            · exact (upd_ne (by omega)).trans (w3.2.2 q hq).1
            · exact (upd_ne (by omega)).trans (w3.2.2 q hq).2
          · -- carried out
            subst zb
            refine hq _ _ (m_ld (show i < 10 by omega) (ifp z (m_st (show i < 10 by omega) (m_does (T := m_sA (m_sI T 0 0) 3 i m) (by omega) (by omega) hb w3.1 w4.1 (fun b' hb' hA' => absurd (AN_u hA' hA) hb') (fun hA' T2 hD2 => ?_)))))
            refine m_st (show i < 10 by omega) (m_ld (show i < 10 by omega) ?_)
            rw [sA_at, if_pos rfl]
            have r1 : ∀ q, q ≠ 2 → q ≠ 3 → q ≠ 4 → T'.2.1 q = T.2.1 q := fun q a b c => (hD.2.1 q a).trans ((sA_n c).trans (sA_n b))
            have r2 : ∀ q, q ≠ 2 → q ≠ 3 → T2.2.1 q = T.2.1 q := fun q a b => (hD2.2.1 q a).trans (sA_n b)
            have g1 : ∀ x, T'.2.1 2 x = gF T.2.1 i j t 4 x := hD.2.2.1
            have g2 : ∀ x, T2.2.1 2 x = gF T.2.1 i j t 4 x := hD2.2.2.1
            have t1 : T'.1 = T.1 := hD.1
            have t2 : T2.1 = (m_sI T 0 0).1 := hD2.1
            refine OK.any ?_ ⟨?_, ?_, fun k hk => ?_, ?_, ?_⟩ ?_
            · show upd T2.1 6 (T2.1 6 + 1) 0 = 0
              rw [t2]
              rfl
            · show upd T2.1 6 (T2.1 6 + 1) 1 = upd T'.1 6 (T'.1 6 + 1) 1
              rw [t1, t2]
              rfl
            · show upd T2.1 6 (T2.1 6 + 1) 6 = upd T'.1 6 (T'.1 6 + 1) 6
              rw [t1, t2]
              rfl
            · show (m_sA T2 4 i 0).2.1 k = T'.2.1 k
              by_cases k2 : k = 2
              · subst k2
                rw [sA_n (by decide)]
                funext x
                rw [g1, g2]
              · by_cases k4 : k = 4
                · subst k4
                  funext x
                  rw [sA_at, r2 4 (by decide) (by decide), hD.2.1 4 (by decide), sA_at, sA_n (by decide)]
                · rw [sA_n k4]
                  by_cases k3 : k = 3
                  · subst k3
                    rw [hD2.2.1 3 (by decide), hD.2.1 3 (by decide)]
                    rfl
                  · rw [r1 k k2 k3 k4, r2 k k2 k3]
            · show T2.2.2 13 = T'.2.2 13
              funext x
              rw [hD.2.2.2.2.1 x, hD2.2.2.2.2.1 x]
              rfl
            · show T2.2.2 14 = T'.2.2 14
              funext x
              rw [hD.2.2.2.2.2 x, hD2.2.2.2.2.2 x]
              rfl
            · have q1 : ∀ k, k ≠ 0 → k ≠ 6 → (m_sA (m_sI T2 6 (T2.1 6 + 1)) 4 i 0).1 k = T.1 k := fun k a b => by
                show upd T2.1 6 (T2.1 6 + 1) k = _
                rw [upd_ne b, t2]
                exact if_neg a
              have q2 : ∀ k, k ≠ 2 → k ≠ 3 → k ≠ 4 → (m_sA (m_sI T2 6 (T2.1 6 + 1)) 4 i 0).2.1 k = T.2.1 k := fun k a b c => (sA_n c).trans (r2 k a b)
              have q3 : (m_sA (m_sI T2 6 (T2.1 6 + 1)) 4 i 0).2.1 2 = gF T.2.1 i j t 4 := by
                rw [sA_n (by decide)]
                funext x
                exact g2 x
              have q4 : (m_sA (m_sI T2 6 (T2.1 6 + 1)) 4 i 0).2.1 3 = upd (T.2.1 3) i m := by
                rw [sA_n (by decide)]
                show T2.2.1 3 = _
                rw [hD2.2.1 3 (by decide)]
                rfl
              have q5 : (m_sA (m_sI T2 6 (T2.1 6 + 1)) 4 i 0).2.1 4 = upd (T.2.1 4) i 0 := by
                show va_up T2.2.1 4 (upd (T2.2.1 4) i 0) 4 = _
                rw [va_up_self, r2 4 (by decide) (by decide)]
              unfold IV ivG ivL ivS ivO
              simp only [q1 5 (by decide) (by decide), q1 12 (by decide) (by decide), q1 25 (by decide) (by decide), q1 28 (by decide) (by decide), q1 1 (by decide) (by decide), q3, q4, q5, q2 7 (by decide) (by decide) (by decide), q2 8 (by decide) (by decide) (by decide), q2 9 (by decide) (by decide) (by decide), q2 10 (by decide) (by decide) (by decide), q2 11 (by decide) (by decide) (by decide), q2 15 (by decide) (by decide) (by decide), q2 16 (by decide) (by decide) (by decide), q2 17 (by decide) (by decide) (by decide), q2 18 (by decide) (by decide) (by decide), q2 19 (by decide) (by decide) (by decide), q2 20 (by decide) (by decide) (by decide), q2 21 (by decide) (by decide) (by decide), q2 22 (by decide) (by decide) (by decide), q2 23 (by decide) (by decide) (by decide), q2 24 (by decide) (by decide) (by decide), q2 26 (by decide) (by decide) (by decide), q2 27 (by decide) (by decide) (by decide)]
              refine ⟨w1, w2, ⟨gF_bt hb w3.1 w4.1 hA, fun x hx => ?_, fun q hq => ⟨?_, ?_⟩⟩, w4, w5⟩
              · unfold gF
                rw [if_neg (by omega)]
                exact w3.2.1 x hx
              · exact (upd_ne (by omega)).trans (w3.2.2 q hq).1
              · exact (upd_ne (by omega)).trans (w3.2.2 q hq).2
        refine u_cr h1 h2 (ugi (c := cN np nr ns no) (k := 3) hi ⟨fun z => J _ _ fun v T1 h => pre _ (ifp z h), fun z => ugi (c := cN np nr ns no) (k := 3) hi ⟨fun z2 => J _ _ fun v T1 h => pre _ (ifn z (ifn' z2 h)), fun z2 => ugi (c := cN np nr ns no) (k := 3) hi (pre _ (ifn z (ifp' z2 (OK.same hI rfl))))⟩⟩)
      · refine u_cr_no hno (Or.inr ⟨rfl, ?_⟩)
        exact m_pl (n := np) hp.1 (by omega) hi (ifp' rfl (m_ru (n := nr) hr.1 (by omega) hj (ifp rfl (m_ti0 (ifp' rfl (m_in_no e1l e1000l hno (ifp' rfl (m_ti1 (ifn one0 (OK.bad hI (by decide)))))))))))
    · refine u_ru_no hno (by omega) (Or.inl ⟨rfl, ?_⟩)
      exact m_pl (n := np) hp.1 (by omega) hi (ifp' rfl (m_ru_no (n := nr) hr.1 (by omega) hno (ifn one0 (m_ti1 (ifn' one0 (OK.bad hI one0))))))
  · refine u8 (u_pl_no hno (by omega) (Or.inl ⟨rfl, ?_⟩))
    exact m_pl_no (n := np) hp.1 (by omega) hno (ifn' one0 (m_ti1 (ifn' one0 (OK.bad hI one0))))
end DE2
