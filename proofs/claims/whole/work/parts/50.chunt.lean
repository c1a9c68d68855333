def lI (z : Int) : Int64 := Int64.ofInt z
theorem lI_toInt {z : Int} (h : z.natAbs ≤ 4000000000000000000) : (lI z).toInt = z := Int64.toInt_ofInt_of_le (by omega) (by omega)
theorem lI_mul (a b : Int) : lI a * lI b = lI (a * b) := (Int64.ofInt_mul a b).symm
theorem lI_add (a b : Int) : lI a + lI b = lI (a + b) := (Int64.ofInt_add a b).symm
theorem lI_neg (a : Int) : - lI a = lI (- a) := (Int64.ofInt_neg a).symm
theorem lI_div {D w : Int} (hD : 0 < D) (hD2 : D ≤ 4000000000000000000) (hw : (D * w).natAbs ≤ 4000000000000000000) : lI (D * w) / lI D = lI w := by
  apply Int64.toInt_inj.mp
  have hw2 : w.natAbs ≤ 4000000000000000000 := by
    rw [Int.natAbs_mul] at hw
    have : 1 * w.natAbs ≤ D.natAbs * w.natAbs := Nat.mul_le_mul_right _ (by omega)
    omega
  rw [Int64.toInt_div, lI_toInt hw, lI_toInt (by omega), lI_toInt hw2, Int.mul_tdiv_cancel_left w (by omega)]
  rw [Int.bmod_eq_of_le (by omega) (by omega)]
theorem lI_ne {z : Int} (h : z.natAbs ≤ 4000000000000000000) (h0 : z ≠ 0) : ¬ lI z = 0 := fun e => by
  have := congrArg Int64.toInt e
  rw [lI_toInt h] at this
  exact h0 this
theorem i2lI (x : Int32) : x.toInt64 = lI x.toInt := by
  apply Int64.toInt_inj.mp
  have h1 := Int32.toInt_lt x
  have h2 := Int32.le_toInt x
  rw [Int32.toInt_toInt64, lI_toInt (by omega)]
/-! The class's hunt over T. -/
def tb (v : Nat → V4) (n : Nat → Nat) (i x : Nat) : Int := if i < 4 then - En v n i x else Cn v n x
def Ht (v : Nat → V4) (m : Nat) (n c : Nat → Nat) (T : mT) : Prop := T.1 43 = nI m ∧ T.2.2 44 0 = lI (Dn v n) ∧ (∀ i, i < 4 → T.2.1 46 i = nI (n i)) ∧ (∀ j, j < m → T.2.1 47 j = nI (c j)) ∧ ∀ i j, i < 5 → j < m → T.2.2 (50 + i) j = lI (tb v n i (c j))
def hfr (T T' : mT) : Prop := ∀ k, k < 33 → T'.1 k = T.1 k ∧ T'.2.1 k = T.2.1 k ∧ T'.2.2 k = T.2.2 k
theorem hfr.rfl (T : mT) : hfr T T := fun _ _ => ⟨Eq.refl _, Eq.refl _, Eq.refl _⟩
theorem hfr.tr {T T1 T2 : mT} (h1 : hfr T T1) (h2 : hfr T1 T2) : hfr T T2 := fun k hk => ⟨(h2 k hk).1.trans (h1 k hk).1, (h2 k hk).2.1.trans (h1 k hk).2.1, (h2 k hk).2.2.trans (h1 k hk).2.2⟩
theorem hfr.sI {T : mT} {k : Nat} {v : Int32} (hk : 33 ≤ k) : hfr T (m_sI T k v) := fun j hj => ⟨if_neg (by omega), Eq.refl _, Eq.refl _⟩
theorem hfr.sA {T : mT} {k i : Nat} {v : Int32} (hk : 33 ≤ k) : hfr T (m_sA T k i v) := fun j hj => ⟨Eq.refl _, va_up_ne _ _ (by omega), Eq.refl _⟩
theorem hfr.sJ {T : mT} {k i : Nat} {v : Int64} (hk : 33 ≤ k) : hfr T (m_sJ T k i v) := fun j hj => ⟨Eq.refl _, Eq.refl _, va_up_ne _ _ (by omega)⟩
theorem lI_le0 {z : Int} (h : z.natAbs ≤ 4000000000000000000) : lg_cmp (lI z) 0 ≤ 0 ↔ z ≤ 0 := by
  have a := cmp_gt (lI z) 0
  rw [Int64.lt_iff_toInt_lt, lI_toInt h] at a
  have b : (0 : Int64).toInt = 0 := rfl
  rw [b] at a
  rw [← Int32.not_lt, a]
  omega
theorem lI_ge0 {z : Int} (h : z.natAbs ≤ 4000000000000000000) : 0 ≤ lg_cmp (lI z) 0 ↔ 0 ≤ z := by
  have a := cmp_lt (lI z) 0
  rw [Int64.lt_iff_toInt_lt, lI_toInt h] at a
  have b : (0 : Int64).toInt = 0 := rfl
  rw [b] at a
  rw [← Int32.not_lt, a]
  omega
section CH
variable {v : Nat → V4} {m np nr ns no : Nat} {n c : Nat → Nat} {T : mT} {X : String → mT → Prop}
theorem u21 {i : Nat} {K : Option Nat → Prop} (hi : i < 5) (h : K (some i)) : u_a (cN np nr ns no) (some 0) 21 5 (nI i) (fun _ j => some j) K := uai (α := Option Nat) Nat.one_pos hi (by decide) h
theorem u20 {α : Type} {i j : Nat} {F : Nat → Nat → α} {K : α → Prop} (hi : i < 5) (hj : j < 10) (h : K (F i j)) : u_a (cN np nr ns no) (some i) 20 10 (nI j) F K := uai (k := 20) (c := cN np nr ns no) hi hj (by decide) h
theorem u17 {α : Type} {j : Nat} {F : Nat → Nat → α} {K : α → Prop} (hj : j < 10) (h : K (F 0 j)) : u_a (cN np nr ns no) (some 0) 17 10 (nI j) F K := uai (k := 17) (c := cN np nr ns no) Nat.one_pos hj (by decide) h
theorem u16 {α : Type} {j : Nat} {F : Nat → Nat → α} {K : α → Prop} (hj : j < 4) (h : K (F 0 j)) : u_a (cN np nr ns no) (some 0) 16 4 (nI j) F K := uai (k := 16) (c := cN np nr ns no) Nat.one_pos hj (by decide) h
theorem ris {Q : Int32 → mT → Prop} (hm : m ≤ 10) (h : Ht v m n c T) (hb : ∀ j, j < m → (Cn v n (c j)).natAbs ≤ 1000000) (hc : ∀ j, j < m → c j < 14) (q1 : (∀ j, j < m → Cn v n (c j) ≤ 0) → Q (-1) T) (q2 : ∀ p, p < m → 0 < Cn v n (c p) → (∀ j, j < m → 0 < Cn v n (c j) → c p ≤ c j) → Q (nI p) T) : uX0_risingColumn (cN np nr ns no) 0 T Q X := by
  have main : ∀ d j x1, j + d = m → ((x1 = -1 ∧ ∀ j', j' < j → Cn v n (c j') ≤ 0) ∨ ∃ p, p < j ∧ x1 = nI p ∧ 0 < Cn v n (c p) ∧ ∀ j', j' < j → 0 < Cn v n (c j') → c p ≤ c j') → uX0_risingColumn_L4 (cN np nr ns no) Q X (d + 1) (some 0) x1 (nI j) T := fun d => by
    induction d with
    | zero =>
      intro j x1 hj hx
      refine ug1 ?_
      rw [h.1]
      refine ifp (nI_le (by omega) (by omega)) ?_
      have e : j = m := by omega
      subst e
      rcases hx with ⟨rfl, hx⟩ | ⟨p, hp, rfl, h1, h2⟩
      · exact q1 hx
      · exact q2 p hp h1 h2
    | succ d ih =>
      intro j x1 hj hx
      refine ug1 ?_
      rw [h.1]
      refine ifn (nI_ge (by omega) (by omega)) ?_
      refine ug1 (u21 (i := 4) (by decide) (u20 (by decide) (show j < 10 by omega) ?_))
      rw [h.2.2.2.2 4 j (by decide) (by omega), show tb v n 4 (c j) = Cn v n (c j) from rfl, lI_le0 (by have := hb j (by omega); omega)]
      have nx : ∀ x1', ((x1' = -1 ∧ ∀ j', j' < j + 1 → Cn v n (c j') ≤ 0) ∨ ∃ p, p < j + 1 ∧ x1' = nI p ∧ 0 < Cn v n (c p) ∧ ∀ j', j' < j + 1 → 0 < Cn v n (c j') → c p ≤ c j') → uX0_risingColumn_L4 (cN np nr ns no) Q X (d + 1) (some 0) x1' (nI j + 1) T := fun x1' hx' => by
        rw [nI_1]
        exact ih (j + 1) x1' (by omega) hx'
      refine ⟨fun hle => nx _ ?_, fun hgt => ?_⟩
      · rcases hx with ⟨e, hx⟩ | ⟨p, hp, e, h1, h2⟩
        · refine Or.inl ⟨e, fun j' hj' => ?_⟩
          by_cases z : j' = j
          · rw [z]; exact hle
          · exact hx j' (by omega)
        · refine Or.inr ⟨p, by omega, e, h1, fun j' hj' hpos => ?_⟩
          by_cases z : j' = j
          · rw [z] at hpos; omega
          · exact h2 j' (by omega) hpos
      · rcases hx with ⟨e, hx⟩ | ⟨p, hp, e, h1, h2⟩
        · refine ifp e (nx _ (Or.inr ⟨j, by omega, rfl, by omega, fun j' hj' hpos => ?_⟩))
          by_cases z : j' = j
          · rw [z]; omega
          · have := hx j' (by omega); omega
        · have ne : ¬ x1 = -1 := fun z => by
            rw [e] at z
            have := congrArg Int32.toInt z
            rw [nI_toInt (by omega)] at this
            have e1 : (-1 : Int32).toInt = -1 := by decide
            omega
          refine ifn ne (ug1 (u17 (show j < 10 by omega) (ug1 ?_)))
          rw [e]
          refine u17 (show p < 10 by omega) ?_
          rw [h.2.2.2.1 j (by omega), h.2.2.2.1 p (by omega), nI_leI (by have := hc p (by omega); omega) (by have := hc j (by omega); omega)]
          refine ⟨fun hle => nx _ (Or.inr ⟨p, by omega, rfl, h1, fun j' hj' hpos => ?_⟩), fun hgt2 => nx _ (Or.inr ⟨j, by omega, rfl, by omega, fun j' hj' hpos => ?_⟩)⟩
          · by_cases z : j' = j
            · rw [z]; exact hle
            · exact h2 j' (by omega) hpos
          · by_cases z : j' = j
            · rw [z]; omega
            · have := h2 j' (by omega) hpos
              omega
  exact ⟨m + 1, main m 0 (-1) (by omega) (Or.inl ⟨rfl, fun j' hj' => by omega⟩)⟩
theorem hin {Q : Int32 → mT → Prop} {p : Nat} (hp : p < m) (hm : m ≤ 10) (h : Ht v m n c T) (hb : ∀ i, i < 4 → (En v n i (c p)).natAbs ≤ 1000000) (hn : ∀ i, i < 4 → n i < 14) (q1 : (∀ i, i < 4 → En v n i (c p) ≤ 0) → Q (-1) T) (q2 : ∀ r, r < 4 → 0 < En v n r (c p) → (∀ i, i < 4 → 0 < En v n i (c p) → n r ≤ n i) → Q (nI r) T) : uX0_hinderingRow (cN np nr ns no) 0 (nI p) T Q X := by
  have main : ∀ d j x1, j + d = 4 → ((x1 = -1 ∧ ∀ j', j' < j → En v n j' (c p) ≤ 0) ∨ ∃ r, r < j ∧ x1 = nI r ∧ 0 < En v n r (c p) ∧ ∀ j', j' < j → 0 < En v n j' (c p) → n r ≤ n j') → uX0_hinderingRow_L4 (cN np nr ns no) Q X (d + 1) (some 0) (nI p) x1 (nI j) T := fun d => by
    induction d with
    | zero =>
      intro j x1 hj hx
      have e : j = 4 := by omega
      subst e
      refine ifp (nI_le (a := 4) (b := 4) (by omega) (by omega)) ?_
      rcases hx with ⟨rfl, hx⟩ | ⟨r, hr, rfl, h1, h2⟩
      · exact q1 hx
      · exact q2 r hr h1 h2
    | succ d ih =>
      intro j x1 hj hx
      refine ifn (nI_ge (a := j) (b := 4) (by omega) (by omega)) ?_
      refine ug1 (u21 (show j < 5 by omega) (u20 (show j < 5 by omega) (show p < 10 by omega) ?_))
      rw [h.2.2.2.2 j p (by omega) (by omega), show tb v n j (c p) = - En v n j (c p) from if_pos (by omega), lI_ge0 (by have := hb j (by omega); omega)]
      have nx : ∀ x1', ((x1' = -1 ∧ ∀ j', j' < j + 1 → En v n j' (c p) ≤ 0) ∨ ∃ r, r < j + 1 ∧ x1' = nI r ∧ 0 < En v n r (c p) ∧ ∀ j', j' < j + 1 → 0 < En v n j' (c p) → n r ≤ n j') → uX0_hinderingRow_L4 (cN np nr ns no) Q X (d + 1) (some 0) (nI p) x1' (nI j + 1) T := fun x1' hx' => by
        rw [nI_1]
        exact ih (j + 1) x1' (by omega) hx'
      refine ⟨fun hle => nx _ ?_, fun hgt => ?_⟩
      · rcases hx with ⟨e, hx⟩ | ⟨r, hr, e, h1, h2⟩
        · refine Or.inl ⟨e, fun j' hj' => ?_⟩
          by_cases z : j' = j
          · rw [z]; omega
          · exact hx j' (by omega)
        · refine Or.inr ⟨r, by omega, e, h1, fun j' hj' hpos => ?_⟩
          by_cases z : j' = j
          · rw [z] at hpos; omega
          · exact h2 j' (by omega) hpos
      · rcases hx with ⟨e, hx⟩ | ⟨r, hr, e, h1, h2⟩
        · refine ifp e (nx _ (Or.inr ⟨j, by omega, rfl, by omega, fun j' hj' hpos => ?_⟩))
          by_cases z : j' = j
          · rw [z]; omega
          · have := hx j' (by omega); omega
        · have ne : ¬ x1 = -1 := fun z => by
            rw [e] at z
            have := congrArg Int32.toInt z
            rw [nI_toInt (by omega)] at this
            have e1 : (-1 : Int32).toInt = -1 := by decide
            omega
          refine ifn ne (ug1 (u16 (show j < 4 by omega) (ug1 ?_)))
          rw [e]
          refine u16 (show r < 4 by omega) ?_
          rw [h.2.2.1 j (by omega), h.2.2.1 r (by omega), nI_leI (by have := hn r (by omega); omega) (by have := hn j (by omega); omega)]
          refine ⟨fun hle => nx _ (Or.inr ⟨r, by omega, rfl, h1, fun j' hj' hpos => ?_⟩), fun hgt2 => nx _ (Or.inr ⟨j, by omega, rfl, by omega, fun j' hj' hpos => ?_⟩)⟩
          · by_cases z : j' = j
            · rw [z]; exact hle
            · exact h2 j' (by omega) hpos
          · by_cases z : j' = j
            · rw [z]; omega
            · have := h2 j' (by omega) hpos
              omega
  exact ⟨5, main 4 0 (-1) (by omega) (Or.inl ⟨rfl, fun j' hj' => by omega⟩)⟩
end CH
