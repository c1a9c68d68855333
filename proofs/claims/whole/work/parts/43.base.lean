/-! Plain facts, and the Model's small methods over T. -/
def bi (p : Prop) [Decidable p] : Int32 := if p then 1 else 0
theorem bi_t {p : Prop} [Decidable p] (h : p) : bi p = 1 := if_pos h
theorem bi_f {p : Prop} [Decidable p] (h : ¬ p) : bi p = 0 := if_neg h
theorem bi_01 (p : Prop) [Decidable p] : bi p = 0 ∨ bi p = 1 := by
  by_cases h : p
  · exact Or.inr (bi_t h)
  · exact Or.inl (bi_f h)
theorem bi_eq0 {p : Prop} [Decidable p] : bi p = 0 ↔ ¬ p := by
  by_cases h : p
  · rw [bi_t h]
    exact ⟨fun q => absurd q (by decide), fun q => absurd h q⟩
  · rw [bi_f h]
    exact ⟨fun _ => h, fun _ => rfl⟩
theorem cmp_lt (x y : Int64) : lg_cmp x y < 0 ↔ x < y := by
  unfold lg_cmp
  split
  · rename_i h
    have h1 := Int64.lt_iff_toInt_lt.mp h
    exact ⟨fun q => absurd q (by decide), fun q => by have := Int64.lt_iff_toInt_lt.mp q; omega⟩
  · rename_i h
    split
    · rename_i h2
      subst h2
      exact ⟨fun q => absurd q (by decide), fun q => by have := Int64.lt_iff_toInt_lt.mp q; omega⟩
    · rename_i h2
      refine ⟨fun _ => ?_, fun _ => by decide⟩
      have h3 : ¬ y.toInt < x.toInt := fun z => h (Int64.lt_iff_toInt_lt.mpr z)
      have h4 : x.toInt ≠ y.toInt := fun z => h2 (Int64.toInt_inj.mp z)
      exact Int64.lt_iff_toInt_lt.mpr (by omega)
theorem cmp_gt (x y : Int64) : 0 < lg_cmp x y ↔ y < x := by
  unfold lg_cmp
  split
  · rename_i h
    exact ⟨fun _ => h, fun _ => by decide⟩
  · rename_i h
    split
    · exact ⟨fun q => absurd q (by decide), fun q => absurd q h⟩
    · exact ⟨fun q => absurd q (by decide), fun q => absurd q h⟩
theorem cmp_eq (x y : Int64) : lg_cmp x y = 0 ↔ x = y := by
  unfold lg_cmp
  split
  · rename_i h
    refine ⟨fun q => absurd q (by decide), fun q => ?_⟩
    subst q
    have := Int64.lt_iff_toInt_lt.mp h
    omega
  · split
    · rename_i h
      exact ⟨fun _ => h, fun _ => rfl⟩
    · rename_i h
      exact ⟨fun q => absurd q (by decide), fun q => absurd q h⟩
theorem e_in {a b c : Int64} {T : mT} {Q : Int32 → mT → Prop} (h : Q (bi (b ≤ a ∧ a ≤ c)) T) : tX8_in a b c T Q := by
  unfold tX8_in tX8_in_J17 tX8_in_J18
  rw [cmp_lt, cmp_gt]
  refine ⟨fun q => ⟨Or.inl rfl, ?_⟩, fun q => ⟨fun q2 => ⟨Or.inl rfl, ?_⟩, fun q2 => ⟨Or.inr rfl, ?_⟩⟩⟩
  · rw [bi_f (fun z => Int64.not_le.mpr q z.1)] at h
    exact h
  · rw [bi_f (fun z => Int64.not_le.mpr q2 z.2)] at h
    exact h
  · rw [bi_t ⟨Int64.not_lt.mp q, Int64.not_lt.mp q2⟩] at h
    exact h
theorem i2l_le (x y : Int32) : x.toInt64 ≤ y.toInt64 ↔ x ≤ y := by
  rw [Int64.le_iff_toInt_le, Int32.le_iff_toInt_le, Int32.toInt_toInt64, Int32.toInt_toInt64]
theorem zero_i2l : (0 : Int64) = (0 : Int32).toInt64 := by decide
/-- a number of a call that names one of n things -/
def ok (x : Int32) (n : Nat) : Prop := 0 ≤ x.toInt ∧ x.toInt < n
theorem ok_nI {x : Int32} {n : Nat} (h : ok x n) (hn : n < 2 ^ 31) : ∃ i, i < n ∧ x = nI i := by
  refine ⟨x.toInt.toNat, by have := h.1; have := h.2; omega, ?_⟩
  apply Int32.toInt_inj.mp
  rw [nI_toInt (by have := h.1; have := h.2; omega)]
  have := h.1
  omega
theorem nI_ok {i n : Nat} (h : i < n) (hn : n < 2 ^ 31) : ok (nI i) n := by
  unfold ok
  rw [nI_toInt (by omega)]
  omega
theorem ok_rng {x : Int32} {n : Nat} (hn : n < 2 ^ 30) : ((0 : Int64) ≤ x.toInt64 ∧ x.toInt64 ≤ (nI n - 1).toInt64) ↔ ok x n := by
  rw [zero_i2l, i2l_le, i2l_le, Int32.le_iff_toInt_le, Int32.le_iff_toInt_le]
  have e : (nI n - 1).toInt = (n : Int) - 1 := pk_sub_toInt (b := 1) (by omega) (by decide)
  rw [e]
  unfold ok
  have : (0 : Int32).toInt = 0 := by decide
  rw [this]
  omega
theorem e_no {x : Int32} {n : Nat} {T : mT} {J : (Int32 → mT → Prop) → Int32 → mT → Prop} {Q : Int32 → mT → Prop} (hJ : ∀ t T, ((t = 0 ∨ t = 1) ∧ Q t T) → J Q t T) (hn : n < 2 ^ 30) (hx : ok x n → Q 0 T) (hy : ¬ ok x n → Q 1 T) : tX8_in x.toInt64 (0 : Int64) ((nI n - (1 : Int32)).toInt64) T (fun v T => ((¬ v = 0 → J Q (0 : Int32) T) ∧ (v = 0 → J Q (1 : Int32) T))) := by
  refine e_in ⟨fun q => hJ _ _ ⟨Or.inl rfl, hx ?_⟩, fun q => hJ _ _ ⟨Or.inr rfl, hy ?_⟩⟩
  · rw [bi_eq0] at q
    exact (ok_rng hn).mp (Classical.not_not.mp q)
  · rw [bi_eq0] at q
    exact fun z => q ((ok_rng hn).mpr z)
theorem e_noPlayer {x : Int32} {n : Nat} {T : mT} {Q : Int32 → mT → Prop} (hT : T.1 5 = nI n) (hn : n < 2 ^ 30) (hx : ok x n → Q 0 T) (hy : ¬ ok x n → Q 1 T) : tX8_noPlayer x T Q := by
  unfold tX8_noPlayer t_getI
  rw [hT]
  exact e_no (J := tX8_noPlayer_J21) (fun t T h => h) hn hx hy
theorem e_noRule {x : Int32} {n : Nat} {T : mT} {Q : Int32 → mT → Prop} (hT : T.1 12 = nI n) (hn : n < 2 ^ 30) (hx : ok x n → Q 0 T) (hy : ¬ ok x n → Q 1 T) : tX8_noRule x T Q := by
  unfold tX8_noRule t_getI
  rw [hT]
  exact e_no (J := tX8_noRule_J21) (fun t T h => h) hn hx hy
theorem e_noSingle {x : Int32} {n : Nat} {T : mT} {Q : Int32 → mT → Prop} (hT : T.1 25 = nI n) (hn : n < 2 ^ 30) (hx : ok x n → Q 0 T) (hy : ¬ ok x n → Q 1 T) : tX8_noSingle x T Q := by
  unfold tX8_noSingle t_getI
  rw [hT]
  exact e_no (J := tX8_noSingle_J21) (fun t T h => h) hn hx hy
theorem e_throwsIf {p : Prop} [Decidable p] {c : Int32} {T : mT} {Q : Int32 → mT → Prop} (hx : p → Q 1 (m_sI T 0 c)) (hy : ¬ p → Q 0 T) : tX8_throwsIf (bi p) c T Q := by
  unfold tX8_throwsIf tX8_throwsIf_J9 t_putI
  refine ⟨fun q => ?_, fun q => ?_⟩
  · have h := bi_eq0.mp q
    rw [bi_f h]
    exact ⟨Or.inl rfl, hy h⟩
  · have h : p := Classical.not_not.mp (fun z => q (bi_eq0.mpr z))
    rw [bi_t h]
    exact ⟨Or.inr rfl, hx h⟩
theorem e_throwsIf0 {c : Int32} {T : mT} {Q : Int32 → mT → Prop} (h : Q 0 T) : tX8_throwsIf 0 c T Q := by
  unfold tX8_throwsIf tX8_throwsIf_J9
  exact ⟨fun _ => ⟨Or.inl rfl, h⟩, fun q => absurd rfl q⟩
theorem e_throwsIf1 {c : Int32} {T : mT} {Q : Int32 → mT → Prop} (h : Q 1 (m_sI T 0 c)) : tX8_throwsIf 1 c T Q := by
  unfold tX8_throwsIf tX8_throwsIf_J9 t_putI
  exact ⟨fun q => absurd q (by decide), fun _ => ⟨Or.inr rfl, h⟩⟩
