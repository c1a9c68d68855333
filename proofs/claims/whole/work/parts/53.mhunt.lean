/-! The Model's hunt over T: one ray. -/
def bp (P : Prop) (b : Int32) : Prop := (b = 1 ∧ P) ∨ (b = 0 ∧ ¬ P)
theorem bp0 {P : Prop} {b : Int32} (h : bp P b) (e : b = 0) : ¬ P := by
  rcases h with ⟨h, _⟩ | ⟨_, h⟩
  · rw [h] at e
    exact absurd e (by decide)
  · exact h
theorem bp1 {P : Prop} {b : Int32} (h : bp P b) (e : ¬ b = 0) : P := by
  rcases h with ⟨_, h⟩ | ⟨h, _⟩
  · exact h
  · exact absurd h e
theorem bp_y {P : Prop} (h : P) : bp P 1 := Or.inl ⟨rfl, h⟩
theorem bp_n {P : Prop} (h : ¬ P) : bp P 0 := Or.inr ⟨rfl, h⟩
theorem bp_01 {P : Prop} {b : Int32} (h : bp P b) : b = 0 ∨ b = 1 := by
  rcases h with ⟨h, _⟩ | ⟨h, _⟩
  · exact Or.inr h
  · exact Or.inl h
theorem bp_iff {P P' : Prop} {b : Int32} (h : bp P b) (e : P ↔ P') : bp P' b := by
  rcases h with ⟨h, q⟩ | ⟨h, q⟩
  · exact Or.inl ⟨h, e.mp q⟩
  · exact Or.inr ⟨h, fun z => q (e.mpr z)⟩
theorem lI_lt0 {z : Int} (h : z.natAbs ≤ 4000000000000000000) : lg_cmp (lI z) 0 < 0 ↔ z < 0 := by
  rw [cmp_lt, Int64.lt_iff_toInt_lt, lI_toInt h]
  rfl
theorem lI_sub (a b : Int) : lI a - lI b = lI (a - b) := (Int64.ofInt_sub a b).symm
theorem sm_bd {f : Nat → Int} {B : Nat} : ∀ {k : Nat}, (∀ i, i < k → (f i).natAbs ≤ B) → (sm f k).natAbs ≤ k * B
  | 0, _ => by simp [sm]
  | k + 1, h => by
    have a := sm_bd (f := f) (k := k) (fun i hi => h i (by omega))
    have b := h k (by omega)
    show (sm f k + f k).natAbs ≤ _
    rw [Nat.succ_mul]
    omega
def SW (R : Nat → Nat → Int32) (k : Nat) (s : Nat → Nat) (T : mT) : Prop := T.1 30 = nI k ∧ (∀ i, i < k → T.2.1 29 i = nI (s i)) ∧ T.2.1 7 = R 7 ∧ T.2.1 8 = R 8
theorem m_lv {T : mT} {r q : Nat} {Q : Int32 → mT → Prop} (hr : r < 10) (hq : q < 4) (h : Q (T.2.1 8 (4 * r + q) - T.2.1 7 (4 * r + q)) T) : tX8_leaves (nI r) (nI q) T Q := by
  unfold tX8_leaves
  rw [ix4]
  exact m_ld (show 4 * r + q < 40 by omega) (m_ld (show 4 * r + q < 40 by omega) h)
section MH
variable {R : Nat → Nat → Int32} {k : Nat} {s : Nat → Nat} {T : mT} {y : Nat → Int}
theorem m_isg {Q : Int32 → mT → Prop} {σ : Int} (hσ : σ = 1 ∨ σ = -1) (hk : k ≤ 4) (hL : ∀ j, bt (R 7 j) 0 9 ∧ bt (R 8 j) 0 9) (hs : ∀ i, i < k → s i < 10) (hS : SW R k s T) (hy : ∀ i, i < k → T.2.2 32 i = lI (y i)) (hyb : ∀ i, i < k → (y i).natAbs ≤ 10000) (hq : ∀ b, bp (isg (fun i => Lv R (s i)) k (fun i => σ * y i)) b → Q b T) : tX8_isGain_ (lI σ) T Q := by
  obtain ⟨h30, h29, h7, h8⟩ := hS
  have bs : ∀ i, i < k → (σ * y i).natAbs ≤ 10000 := fun i hi => by
    have := hyb i hi
    rcases hσ with rfl | rfl <;> omega
  have bt : ∀ q j, j ≤ k → (sm (fun i => σ * y i * Lv R (s i) q) j).natAbs ≤ 360000 := fun q j hj => by
    have := sm_bd (f := fun i => σ * y i * Lv R (s i) q) (B := 90000) (k := j) (fun i hi => mb (x := 10000) (y := 9) (bs i (by omega)) (sub9 (hL _).2 (hL _).1).2)
    have : j * 90000 ≤ 4 * 90000 := Nat.mul_le_mul_right _ (by omega)
    omega
  -- the kinds
  have kinds : ∀ d q x3 x4, q + d = 4 → bp ((∀ i, i < k → 0 ≤ σ * y i) ∧ ∀ q', q' < q → 0 ≤ wn (fun i => Lv R (s i)) k (fun i => σ * y i) q') x3 → bp (∃ q', q' < q ∧ 0 < wn (fun i => Lv R (s i)) k (fun i => σ * y i) q') x4 → tX8_isGain__L50 (tX8_isGain__J148 Q) Q (d + 1) (lI σ) x3 x4 (nI q) T := fun d => by
    induction d with
    | zero =>
      intro q x3 x4 hq' h3 h4
      have : q = 4 := by omega
      subst this
      refine ifp (nI_le (a := 4) (b := 4) (by omega) (by omega)) ?_
      refine ⟨fun e => ⟨Or.inl rfl, hq 0 (bp_n fun z => bp0 h3 e ⟨z.1, z.2.1⟩)⟩, fun e => ⟨fun e2 => ⟨Or.inl rfl, hq 0 (bp_n fun z => bp0 h4 e2 z.2.2)⟩, fun e2 => ⟨Or.inr rfl, hq 1 (bp_y ?_)⟩⟩⟩
      have a := bp1 h3 e
      exact ⟨a.1, a.2, bp1 h4 e2⟩
    | succ d ih =>
      intro q x3 x4 hq' h3 h4
      refine ifn (nI_ge (a := q) (b := 4) (by omega) (by omega)) ?_
      have inner : ∀ e j x6, j + e = k → x6 = lI (sm (fun i => σ * y i * Lv R (s i) q) j) → tX8_isGain__L62 (tX8_isGain__J106 (tX8_isGain__L50 (tX8_isGain__J148 Q) Q (d + 1)) Q) Q (e + 1) (lI σ) x3 x4 (nI q) x6 (nI j) T := fun e => by
        induction e with
        | zero =>
          intro j x6 hj hx
          have : j = k := by omega
          subst this
          unfold tX8_isGain__L62 t_getI
          rw [h30]
          refine ifp (nI_le (Nat.le_refl _) (by omega)) ?_
          have hw : sm (fun i => σ * y i * Lv R (s i) q) j = wn (fun i => Lv R (s i)) j (fun i => σ * y i) q := rfl
          have hb := bt q j (Nat.le_refl _)
          rw [hw] at hx hb
          have nx : ∀ x3' x4', bp ((∀ i, i < j → 0 ≤ σ * y i) ∧ ∀ q', q' < q + 1 → 0 ≤ wn (fun i => Lv R (s i)) j (fun i => σ * y i) q') x3' → bp (∃ q', q' < q + 1 ∧ 0 < wn (fun i => Lv R (s i)) j (fun i => σ * y i) q') x4' → tX8_isGain__L50 (tX8_isGain__J148 Q) Q (d + 1) (lI σ) x3' x4' (nI q + 1) T := fun x3' x4' a b => by
            rw [nI_1]
            exact ih (q + 1) x3' x4' (by omega) a b
          have more : ∀ x3', bp ((∀ i, i < j → 0 ≤ σ * y i) ∧ ∀ q', q' < q + 1 → 0 ≤ wn (fun i => Lv R (s i)) j (fun i => σ * y i) q') x3' → tX8_isGain__J122 (tX8_isGain__L50 (tX8_isGain__J148 Q) Q (d + 1)) Q (lI σ) x4 (nI q) x6 x3' T := fun x3' a => by
            refine ⟨fun e4 => nx _ _ a (bp_y ?_), fun e4 => ?_⟩
            · obtain ⟨q', z1, z2⟩ := bp1 h4 e4
              exact ⟨q', by omega, z2⟩
            · rw [hx, lI_le0 (by omega)]
              refine ⟨fun z => nx _ _ a (bp_n ?_), fun z => nx _ _ a (bp_y ⟨q, by omega, by omega⟩)⟩
              rintro ⟨q', z1, z2⟩
              by_cases z3 : q' = q
              · rw [z3] at z2; omega
              · exact bp0 h4 e4 ⟨q', by omega, z2⟩
          refine ⟨fun e3 => more _ (bp_n fun z => bp0 h3 e3 ⟨z.1, fun q' hq' => z.2 q' (by omega)⟩), fun e3 => ?_⟩
          rw [hx, lI_lt0 (by omega), ← hx]
          refine ⟨fun z => more _ (bp_n fun a => by have := a.2 q (by omega); omega), fun z => more _ (bp_y ?_)⟩
          have a := bp1 h3 e3
          refine ⟨a.1, fun q' hq'' => ?_⟩
          by_cases z3 : q' = q
          · rw [z3]; omega
          · exact a.2 q' (by omega)
        | succ e ihe =>
          intro j x6 hj hx
          unfold tX8_isGain__L62 t_getI
          rw [h30]
          refine ifn (nI_ge (show j < k by omega) (by omega)) ?_
          refine m_ldJ (show j < 4 by omega) (m_ld (show j < 4 by omega) ?_)
          rw [h29 j (by omega)]
          refine m_lv (hs j (by omega)) (by omega) ?_
          rw [h7, h8, hy j (by omega), i2lI, (sub9 (hL _).2 (hL _).1).1, lI_mul, lI_mul, hx, lI_add, nI_1]
          exact ihe (j + 1) _ (by omega) rfl
      exact ⟨k + 1, inner k 0 0 (by omega) rfl⟩
  have rays : ∀ d j x3, j + d = k → bp (∀ i, i < j → 0 ≤ σ * y i) x3 → tX8_isGain__L8 (tX8_isGain__J47 Q) Q (d + 1) (lI σ) x3 0 (nI j) T := fun d => by
    induction d with
    | zero =>
      intro j x3 hj h3
      have : j = k := by omega
      subst this
      unfold tX8_isGain__L8 t_getI
      rw [h30]
      refine ifp (nI_le (Nat.le_refl _) (by omega)) ⟨5, kinds 4 0 x3 0 (by omega) (bp_iff h3 ⟨fun z => ⟨z, fun q' h => by omega⟩, fun z => z.1⟩) (bp_n fun ⟨q', h, _⟩ => by omega)⟩
    | succ d ih =>
      intro j x3 hj h3
      unfold tX8_isGain__L8 t_getI
      rw [h30]
      refine ifn (nI_ge (show j < k by omega) (by omega)) ?_
      have nx : ∀ x3', bp (∀ i, i < j + 1 → 0 ≤ σ * y i) x3' → tX8_isGain__L8 (tX8_isGain__J47 Q) Q (d + 1) (lI σ) x3' 0 (nI j + 1) T := fun x3' a => by
        rw [nI_1]
        exact ih (j + 1) x3' (by omega) a
      refine ⟨fun e => nx 0 (bp_n fun z => bp0 h3 e fun i hi => z i (by omega)), fun e => m_ldJ (show j < 4 by omega) ?_⟩
      have := bs j (by omega)
      rw [hy j (by omega), lI_mul, lI_lt0 (by omega)]
      refine ⟨fun z => nx 0 (bp_n fun a => by have := a j (by omega); omega), fun z => nx 1 (bp_y fun i hi => ?_)⟩
      by_cases z3 : i = j
      · rw [z3]; omega
      · exact bp1 h3 e i (by omega)
  exact ⟨k + 1, rays k 0 1 (by omega) (bp_y fun i hi => by omega)⟩
theorem m_gain {Q : Int32 → mT → Prop} (hk : k ≤ 4) (hL : ∀ j, bt (R 7 j) 0 9 ∧ bt (R 8 j) 0 9) (hs : ∀ i, i < k → s i < 10) (hS : SW R k s T) (hy : ∀ i, i < k → T.2.2 32 i = lI (y i)) (hyb : ∀ i, i < k → (y i).natAbs ≤ 10000) (hq : ∀ b, bp (mg (fun i => Lv R (s i)) k y) b → Q b T) : tX8_isGain T Q := by
  have e1 : isg (fun i => Lv R (s i)) k (fun i => 1 * y i) ↔ isg (fun i => Lv R (s i)) k y := by
    simp only [Int.one_mul]
  have e2 : isg (fun i => Lv R (s i)) k (fun i => -1 * y i) ↔ isg (fun i => Lv R (s i)) k (fun i => - y i) := by
    simp only [Int.neg_mul, Int.one_mul]
  refine m_isg (σ := 1) (Or.inl rfl) hk hL hs hS hy hyb fun b hb => ?_
  refine ⟨fun z => ⟨Or.inr rfl, hq 1 (bp_y (Or.inl (e1.mp (bp1 hb z))))⟩, fun z => ?_⟩
  refine m_isg (σ := -1) (Or.inr rfl) hk hL hs hS hy hyb fun b2 hb2 => ?_
  refine ⟨fun z2 => ⟨Or.inl rfl, hq 0 (bp_n ?_)⟩, fun z2 => ⟨Or.inr rfl, hq 1 (bp_y (Or.inr (e2.mp (bp1 hb2 z2))))⟩⟩
  rintro (a | a)
  · exact bp0 hb z (e1.mpr a)
  · exact bp0 hb2 z2 (e2.mpr a)
end MH
