/-! earns, bars. -/
theorem bp_u {P : Prop} {b b' : Int32} (h : bp P b) (h' : bp P b') : b = b' := by
  rcases h with ⟨h, q⟩ | ⟨h, q⟩ <;> rcases h' with ⟨h', q'⟩ | ⟨h', q'⟩
  · rw [h, h']
  · exact absurd q q'
  · exact absurd q' q
  · rw [h, h']
def eS (R : Nat → Nat → Int32) (k : Nat) : Nat → Int32
  | 0 => 0
  | r + 1 => eS R k r + (if R 9 r = 0 then R 10 r * (R 8 (4 * r + k) - R 7 (4 * r + k)) else 0)
def PE (R : Nat → Nat → Int32) (nr : Nat) : Prop := (∀ k, k < 4 → 0 ≤ eS R k nr) ∧ ∃ k, k < 4 ∧ ¬ eS R k nr ≤ 0
def wS (R : Nat → Nat → Int32) (r : Nat) : Nat → Int32
  | 0 => 0
  | k + 1 => wS R r k + R 11 k * (R 8 (4 * r + k) - R 7 (4 * r + k))
def PB (R : Nat → Nat → Int32) (nr : Nat) : Prop := (∀ k, k < 4 → ¬ R 11 k = 0) ∧ ∀ r, r < nr → R 9 r = 0 → wS R r 4 ≤ 0
section EB
variable {np nr ns no : Nat} {T : mT} {Q : Int32 → mT → Prop} {X : String → mT → Prop}
theorem c_won {i k : Nat} {Q : Int32 → mT → Prop} (hi : i < nr) (hk : k < 4) (h : Q (T.2.1 8 (4 * i + k) - T.2.1 7 (4 * i + k)) T) : uX3_won (cN np nr ns no) i (nI k) T Q X :=
  ugi (c := cN np nr ns no) (k := 4) hi (uai (c := cN np nr ns no) (k := 12) hi hk (by decide) (ugi (c := cN np nr ns no) (k := 4) hi (uai (c := cN np nr ns no) (k := 11) hi hk (by decide) h)))
theorem c_wbt {k : Nat} (hnr : nr ≤ 10) (hk : k < 4) (h : Q (eS T.2.1 k nr) T) : uX7_wonByTimes (cN np nr ns no) 0 (nI k) T Q X := by
  have main : ∀ d r, r + d = nr → uX7_wonByTimes_L4 (cN np nr ns no) Q X (d + 1) (some 0) (nI k) (eS T.2.1 k r) (nI r) T := fun d => by
    induction d with
    | zero =>
      intro r hr
      have : r = nr := by omega
      subst this
      exact ug8 ⟨1, rfl, by decide, ifp (nI_le (b := r) (Nat.le_refl _) (by omega)) h⟩
    | succ d ih =>
      intro r hr
      refine ug8 ⟨1, rfl, by decide, ifn (nI_ge (b := nr) (show r < nr by omega) (by omega)) ?_⟩
      refine ug8 ⟨1, r, rfl, by decide, rfl, rfl, (show r < nr by omega), ugi (c := cN np nr ns no) (k := 4) (show r < nr by omega) ?_⟩
      have e := ih (r + 1) (by omega)
      refine ⟨fun z => ?_, fun z => ugi (c := cN np nr ns no) (k := 4) (show r < nr by omega) ⟨r, rfl, (show r < nr by omega), c_won (show r < nr by omega) hk ?_⟩⟩
      · show uX7_wonByTimes_L4 _ _ _ (d + 1) (some 0) _ _ (nI r + 1) T
        rw [nI_1]
        unfold eS at e
        rw [if_neg z, Int32.add_zero] at e
        exact e
      · show uX7_wonByTimes_L4 _ _ _ (d + 1) (some 0) _ _ (nI r + 1) T
        rw [nI_1]
        unfold eS at e
        rw [if_pos z] at e
        exact e
  exact ⟨nr + 1, main nr 0 (by omega)⟩
theorem c_earns (hnr : nr ≤ 10) (h : ∀ b, bp (PE T.2.1 nr) b → Q b T) : uX7_earns (cN np nr ns no) 0 T Q X := by
  have main : ∀ d k x1, k + d = 4 → (∀ k', k' < k → 0 ≤ eS T.2.1 k' nr) → bp (∃ k', k' < k ∧ ¬ eS T.2.1 k' nr ≤ 0) x1 → uX7_earns_L4 (cN np nr ns no) Q X (d + 1) (some 0) x1 (nI k) T := fun d => by
    induction d with
    | zero =>
      intro k x1 hk h1 h2
      have : k = 4 := by omega
      subst this
      exact ifp (nI_le (a := 4) (b := 4) (by omega) (by omega)) ⟨bp_01 h2, h x1 (bp_iff h2 ⟨fun z => ⟨h1, z⟩, fun z => z.2⟩)⟩
    | succ d ih =>
      intro k x1 hk h1 h2
      refine ifn (nI_ge (a := k) (b := 4) (by omega) (by omega)) (u8 (c_wbt hnr (by omega) ⟨fun z => ?_, fun z => ⟨Or.inl rfl, h 0 (bp_n fun q => z (q.1 k (by omega)))⟩⟩))
      have nx : ∀ x1', bp (∃ k', k' < k + 1 ∧ ¬ eS T.2.1 k' nr ≤ 0) x1' → uX7_earns_L4 (cN np nr ns no) Q X (d + 1) (some 0) x1' (nI k + 1) T := fun x1' a => by
        rw [nI_1]
        refine ih (k + 1) x1' (by omega) (fun k' hk' => ?_) a
        by_cases e : k' = k
        · rw [e]; exact z
        · exact h1 k' (by omega)
      refine ⟨fun e => nx 1 (bp_y ?_), fun e => ⟨fun z2 => nx 0 (bp_n ?_), fun z2 => nx 1 (bp_y ⟨k, by omega, z2⟩)⟩⟩
      · obtain ⟨k', a, b⟩ := bp1 h2 e
        exact ⟨k', by omega, b⟩
      · rintro ⟨k', a, b⟩
        by_cases e2 : k' = k
        · rw [e2] at b; exact b z2
        · exact bp0 h2 e ⟨k', by omega, b⟩
  exact ⟨5, main 4 0 0 (by omega) (fun k' h => by omega) (bp_n fun ⟨k', h, _⟩ => by omega)⟩
theorem m_earns (hnr : nr ≤ 10) (h12 : T.1 12 = nI nr) (h : ∀ b, bp (PE T.2.1 nr) b → Q b (m_sI T 0 0)) : tX8_earns T Q := by
  have main : ∀ d k x1 x2, k + d = 4 → bp (∀ k', k' < k → 0 ≤ eS T.2.1 k' nr) x1 → bp (∃ k', k' < k ∧ ¬ eS T.2.1 k' nr ≤ 0) x2 → tX8_earns_L11 (tX8_earns_J107 Q) Q (d + 1) x1 x2 (nI k) (m_sI T 0 0) := fun d => by
    induction d with
    | zero =>
      intro k x1 x2 hk h1 h2
      have : k = 4 := by omega
      subst this
      refine ifp (nI_le (a := 4) (b := 4) (by omega) (by omega)) ?_
      exact ⟨fun e => ⟨Or.inl rfl, h 0 (bp_n fun q => bp0 h1 e q.1)⟩, fun e => ⟨fun e2 => ⟨Or.inl rfl, h 0 (bp_n fun q => bp0 h2 e2 q.2)⟩, fun e2 => ⟨Or.inr rfl, h 1 (bp_y ⟨bp1 h1 e, bp1 h2 e2⟩)⟩⟩⟩
    | succ d ih =>
      intro k x1 x2 hk h1 h2
      refine ifn (nI_ge (a := k) (b := 4) (by omega) (by omega)) ?_
      have inner : ∀ e r, r + e = nr → tX8_earns_L22 (tX8_earns_J71 (tX8_earns_L11 (tX8_earns_J107 Q) Q (d + 1)) Q) Q (e + 1) x1 x2 (nI k) (eS T.2.1 k r) (nI r) (m_sI T 0 0) := fun e => by
        induction e with
        | zero =>
          intro r hr
          have : r = nr := by omega
          subst this
          show (T.1 12 ≤ nI r → _) ∧ (¬ T.1 12 ≤ nI r → _)
          rw [h12]
          refine ifp (nI_le (Nat.le_refl _) (by omega)) ?_
          have nx : ∀ x1' x2', bp (∀ k', k' < k + 1 → 0 ≤ eS T.2.1 k' r) x1' → bp (∃ k', k' < k + 1 ∧ ¬ eS T.2.1 k' r ≤ 0) x2' → tX8_earns_L11 (tX8_earns_J107 Q) Q (d + 1) x1' x2' (nI k + 1) (m_sI T 0 0) := fun x1' x2' a b => by
            rw [nI_1]
            exact ih (k + 1) x1' x2' (by omega) a b
          have more : ∀ x1', bp (∀ k', k' < k + 1 → 0 ≤ eS T.2.1 k' r) x1' → tX8_earns_J85 (tX8_earns_L11 (tX8_earns_J107 Q) Q (d + 1)) Q x2 (nI k) (eS T.2.1 k r) x1' (m_sI T 0 0) := fun x1' a => by
            refine ⟨fun e => nx _ _ a (bp_y ?_), fun e => ⟨fun z2 => nx _ _ a (bp_n ?_), fun z2 => nx _ _ a (bp_y ⟨k, by omega, z2⟩)⟩⟩
            · obtain ⟨k', a, b⟩ := bp1 h2 e
              exact ⟨k', by omega, b⟩
            · rintro ⟨k', a, b⟩
              by_cases e2 : k' = k
              · rw [e2] at b; exact b z2
              · exact bp0 h2 e ⟨k', by omega, b⟩
          refine ⟨fun e => more _ (bp_n fun q => bp0 h1 e fun k' hk' => q k' (by omega)), fun e => ⟨fun z => more _ (bp_n fun q => Int32.not_le.mpr z (q k (by omega))), fun z => more _ (bp_y fun k' hk' => ?_)⟩⟩
          by_cases e2 : k' = k
          · rw [e2]; exact Int32.not_lt.mp z
          · exact bp1 h1 e k' (by omega)
        | succ e ihe =>
          intro r hr
          show (T.1 12 ≤ nI r → _) ∧ (¬ T.1 12 ≤ nI r → _)
          rw [h12]
          refine ifn (nI_ge (show r < nr by omega) (by omega)) (m_ld (show r < 10 by omega) ?_)
          have q := ihe (r + 1) (by omega)
          unfold eS at q
          rw [← nI_1] at q
          refine ⟨fun z => m_ld (show r < 10 by omega) (m_lv (by omega) (by omega) ?_), fun z => ?_⟩
          · rw [if_pos (show T.2.1 9 r = 0 from z)] at q
            exact q
          · rw [if_neg (show ¬ T.2.1 9 r = 0 from z)] at q
            exact q
      exact ⟨nr + 1, inner nr 0 (by omega)⟩
  exact ⟨5, main 4 0 1 0 (by omega) (bp_y fun k' h => by omega) (bp_n fun ⟨k', h, _⟩ => by omega)⟩
theorem c_wwb {i : Nat} (hi : i < nr) (h : Q (wS T.2.1 i 4) T) : uX7_weightWonBy (cN np nr ns no) 0 (some i) T Q X := by
  have main : ∀ d k, k + d = 4 → uX7_weightWonBy_L4 (cN np nr ns no) Q X (d + 1) (some 0) (some i) (wS T.2.1 i k) (nI k) T := fun d => by
    induction d with
    | zero =>
      intro k hk
      have : k = 4 := by omega
      subst this
      exact ifp (nI_le (a := 4) (b := 4) (by omega) (by omega)) h
    | succ d ih =>
      intro k hk
      refine ifn (nI_ge (a := k) (b := 4) (by omega) (by omega)) (ug8 (uai (c := cN np nr ns no) (k := 15) Nat.one_pos (show k < 4 by omega) (by decide) ⟨i, rfl, hi, c_won hi (by omega) ?_⟩))
      have q := ih (k + 1) (by omega)
      unfold wS at q
      rw [nI_1]
      exact q
  exact ⟨5, main 4 0 (by omega)⟩
theorem c_bars (hnr : nr ≤ 10) (h : ∀ b, bp (PB T.2.1 nr) b → Q b T) : uX7_bars (cN np nr ns no) 0 T Q X := by
  have rul : (∀ k, k < 4 → ¬ T.2.1 11 k = 0) → ∀ d r, r + d = nr → (∀ r', r' < r → T.2.1 9 r' = 0 → wS T.2.1 r' 4 ≤ 0) → uX7_bars_L26 (cN np nr ns no) Q X (d + 1) (some 0) (nI r) T := fun hw d => by
    induction d with
    | zero =>
      intro r hr hr'
      have : r = nr := by omega
      subst this
      exact ug8 ⟨1, rfl, by decide, ifp (nI_le (b := r) (Nat.le_refl _) (by omega)) ⟨Or.inr rfl, h 1 (bp_y ⟨hw, hr'⟩)⟩⟩
    | succ d ih =>
      intro r hr hr'
      refine ug8 ⟨1, rfl, by decide, ifn (nI_ge (b := nr) (show r < nr by omega) (by omega)) ?_⟩
      refine ug8 ⟨1, r, rfl, by decide, rfl, rfl, (show r < nr by omega), ugi (c := cN np nr ns no) (k := 4) (show r < nr by omega) ?_⟩
      have nx : (T.2.1 9 r = 0 → wS T.2.1 r 4 ≤ 0) → uX7_bars_L26 (cN np nr ns no) Q X (d + 1) (some 0) (nI r + 1) T := fun a => by
        rw [nI_1]
        refine ih (r + 1) (by omega) fun r' h1 h2 => ?_
        by_cases e : r' = r
        · rw [e]; rw [e] at h2; exact a h2
        · exact hr' r' (by omega) h2
      exact ⟨fun z => nx fun q => absurd q z, fun z => u8 (c_wwb (show r < nr by omega) ⟨fun z2 => nx fun _ => z2, fun z2 => ⟨Or.inl rfl, h 0 (bp_n fun q => z2 (q.2 r (by omega) z))⟩⟩)⟩
  have main : ∀ d k, k + d = 4 → (∀ k', k' < k → ¬ T.2.1 11 k' = 0) → uX7_bars_L2 (uX7_bars_J24 (cN np nr ns no) Q X) (cN np nr ns no) Q X (d + 1) (some 0) (nI k) T := fun d => by
    induction d with
    | zero =>
      intro k hk h1
      have : k = 4 := by omega
      subst this
      exact ifp (nI_le (a := 4) (b := 4) (by omega) (by omega)) ⟨nr + 1, rul h1 nr 0 (by omega) (fun r' h => by omega)⟩
    | succ d ih =>
      intro k hk h1
      refine ifn (nI_ge (a := k) (b := 4) (by omega) (by omega)) (ug8 (uai (c := cN np nr ns no) (k := 15) Nat.one_pos (show k < 4 by omega) (by decide) ⟨fun z => ?_, fun z => ⟨Or.inl rfl, h 0 (bp_n fun q => q.1 k (by omega) z)⟩⟩))
      rw [nI_1]
      refine ih (k + 1) (by omega) fun k' hk' => ?_
      by_cases e : k' = k
      · rw [e]; exact z
      · exact h1 k' (by omega)
  exact ⟨5, main 4 0 (by omega) (fun k' h => by omega)⟩
theorem m_bars (hnr : nr ≤ 10) (h12 : T.1 12 = nI nr) (hw : ∀ k, bt (T.2.1 11 k) 0 1000) (h : ∀ b, bp (PB T.2.1 nr) b → Q b (m_sI T 0 0)) : tX8_bars T Q := by
  have w0 : ∀ k, T.2.1 11 k ≤ 0 ↔ T.2.1 11 k = 0 := fun k => by
    rw [Int32.le_iff_toInt_le, ← Int32.toInt_inj]
    have := (hw k).1
    have e : (0 : Int32).toInt = 0 := rfl
    omega
  have rul : ∀ d r x1, r + d = nr → bp ((∀ k, k < 4 → ¬ T.2.1 11 k = 0) ∧ ∀ r', r' < r → T.2.1 9 r' = 0 → wS T.2.1 r' 4 ≤ 0) x1 → tX8_bars_L41 Q (d + 1) x1 (nI r) (m_sI T 0 0) := fun d => by
    induction d with
    | zero =>
      intro r x1 hr h1
      have : r = nr := by omega
      subst this
      show (T.1 12 ≤ nI r → _) ∧ (¬ T.1 12 ≤ nI r → _)
      rw [h12]
      exact ifp (nI_le (Nat.le_refl _) (by omega)) ⟨bp_01 h1, h x1 h1⟩
    | succ d ih =>
      intro r x1 hr h1
      show (T.1 12 ≤ nI r → _) ∧ (¬ T.1 12 ≤ nI r → _)
      rw [h12]
      refine ifn (nI_ge (show r < nr by omega) (by omega)) ?_
      have inner : ∀ e k, k + e = 4 → tX8_bars_L54 (tX8_bars_J84 (tX8_bars_L41 Q (d + 1)) Q) Q (e + 1) x1 (nI r) (wS T.2.1 r k) (nI k) (m_sI T 0 0) := fun e => by
        induction e with
        | zero =>
          intro k hk
          have : k = 4 := by omega
          subst this
          refine ifp (nI_le (a := 4) (b := 4) (by omega) (by omega)) ?_
          have nx : ∀ x1', bp ((∀ k, k < 4 → ¬ T.2.1 11 k = 0) ∧ ∀ r', r' < r + 1 → T.2.1 9 r' = 0 → wS T.2.1 r' 4 ≤ 0) x1' → tX8_bars_L41 Q (d + 1) x1' (nI r + 1) (m_sI T 0 0) := fun x1' a => by
            rw [nI_1]
            exact ih (r + 1) x1' (by omega) a
          have yes : ¬ x1 = 0 → (T.2.1 9 r = 0 → wS T.2.1 r 4 ≤ 0) → bp ((∀ k, k < 4 → ¬ T.2.1 11 k = 0) ∧ ∀ r', r' < r + 1 → T.2.1 9 r' = 0 → wS T.2.1 r' 4 ≤ 0) 1 := fun e a => bp_y ⟨(bp1 h1 e).1, fun r' h2 h3 => by
            by_cases e2 : r' = r
            · rw [e2]; rw [e2] at h3; exact a h3
            · exact (bp1 h1 e).2 r' (by omega) h3⟩
          refine ⟨fun e => nx 0 (bp_n fun q => bp0 h1 e ⟨q.1, fun r' h2 => q.2 r' (by omega)⟩), fun e => m_ld (show r < 10 by omega) ⟨fun z => nx 1 (yes e fun q => absurd q z), fun z => ⟨fun z2 => nx 0 (bp_n fun q => Int32.not_le.mpr z2 (q.2 r (by omega) z)), fun z2 => nx 1 (yes e fun _ => Int32.not_lt.mp z2)⟩⟩⟩
        | succ e ihe =>
          intro k hk
          refine ifn (nI_ge (a := k) (b := 4) (by omega) (by omega)) (m_ld (show k < 4 by omega) (m_lv (by omega) (by omega) ?_))
          have q := ihe (k + 1) (by omega)
          unfold wS at q
          rw [nI_1]
          exact q
      exact ⟨5, inner 4 0 (by omega)⟩
  have main : ∀ d k x1, k + d = 4 → bp (∀ k', k' < k → ¬ T.2.1 11 k' = 0) x1 → tX8_bars_L9 (tX8_bars_J39 Q) Q (d + 1) x1 (nI k) (m_sI T 0 0) := fun d => by
    induction d with
    | zero =>
      intro k x1 hk h1
      have : k = 4 := by omega
      subst this
      exact ifp (nI_le (a := 4) (b := 4) (by omega) (by omega)) ⟨nr + 1, rul nr 0 x1 (by omega) (bp_iff h1 ⟨fun z => ⟨z, fun r' h => by omega⟩, fun z => z.1⟩)⟩
    | succ d ih =>
      intro k x1 hk h1
      have nx : ∀ x1', bp (∀ k', k' < k + 1 → ¬ T.2.1 11 k' = 0) x1' → tX8_bars_L9 (tX8_bars_J39 Q) Q (d + 1) x1' (nI k + 1) (m_sI T 0 0) := fun x1' a => by
        rw [nI_1]
        exact ih (k + 1) x1' (by omega) a
      refine ifn (nI_ge (a := k) (b := 4) (by omega) (by omega)) ⟨fun e => nx 0 (bp_n fun q => bp0 h1 e fun k' h => q k' (by omega)), fun e => m_ld (show k < 4 by omega) ⟨fun z => nx 0 (bp_n fun q => q k (by omega) ((w0 k).mp z)), fun z => nx 1 (bp_y fun k' hk' => ?_)⟩⟩
      by_cases e2 : k' = k
      · rw [e2]; exact fun q => z ((w0 k).mpr q)
      · exact bp1 h1 e k' (by omega)
  exact ⟨5, main 4 0 1 (by omega) (bp_y fun k' h => by omega)⟩
end EB
section EB2
variable {n np nr ns no : Nat} {T : mT} {X : String → mT → Prop}
theorem sim_earns (hI : IV n T np nr ns no) : uX7_earns (cN np nr ns no) 0 T (fun v T1 => tX8_earns T (fun b T2 => v = b ∧ OK n np nr ns no 0 0 0 T1 T2)) X :=
  c_earns hI.1.2.1.2 fun _ hv => m_earns hI.1.2.1.2 hI.1.2.1.1 fun _ hb => ⟨bp_u hv hb, OK.same hI rfl⟩
theorem sim_bars (hI : IV n T np nr ns no) : uX7_bars (cN np nr ns no) 0 T (fun v T1 => tX8_bars T (fun b T2 => v = b ∧ OK n np nr ns no 0 0 0 T1 T2)) X :=
  c_bars hI.1.2.1.2 fun _ hv => m_bars hI.1.2.1.2 hI.1.2.1.1 hI.2.2.2.1.2.2.2.2.1 fun _ hb => ⟨bp_u hv hb, OK.same hI rfl⟩
end EB2
