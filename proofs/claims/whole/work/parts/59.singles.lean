/-! Singles: holders, counts. -/
theorem nI_neg {j : Nat} (h : j < 2000) : ¬ nI j = -1 := fun z => by
  have := congrArg Int32.toInt z
  rw [nI_toInt (by omega)] at this
  have e1 : (-1 : Int32).toInt = -1 := by decide
  omega
theorem rf_m : rf (-1) = none := if_pos (by decide)
theorem rf_n {j : Nat} (h : j < 2000) : rf (nI j) = some j := by
  unfold rf
  rw [if_neg (nInn h), nI_clamp (by omega)]
theorem rf_none {v : Int32} : rf v = none ↔ v < 0 := by
  unfold rf
  split
  · rename_i h
    exact ⟨fun _ => h, fun _ => rfl⟩
  · rename_i h
    exact ⟨fun q => absurd q (by simp), fun q => absurd q h⟩
theorem m1lt : (-1 : Int32) < 0 := by decide
theorem rv_vo {c : Nat → Nat} {k m : Nat} {v : Int32} (h : rv v m) (hm : m ≤ 200) (hk : c k = m) : u_vo c k (rf v) := fun i e => by
  rcases h with rfl | ⟨j, hj, rfl⟩
  · rw [rf_m] at e
    exact absurd e (by simp)
  · rw [rf_n (by omega)] at e
    injection e with e
    omega
def wr (h : Nat → Int32) : Nat → Nat → Nat → Prop
  | 0, _, _ => False
  | f + 1, k, s => ∃ j, h k = nI j ∧ j < 40 ∧ (j = s ∨ wr h f j s)
/-- k lies within s -/
def wi (h : Nat → Int32) (k s : Nat) : Prop := ∃ f, wr h f k s
theorem wi_none {h : Nat → Int32} {k s : Nat} (e : h k = -1) : ¬ wi h k s := fun ⟨f, w⟩ => by
  cases f with
  | zero => exact w
  | succ f =>
    obtain ⟨j, e2, hj, _⟩ := w
    exact nI_neg (by omega) (e2.symm.trans e)
theorem wi_step {h : Nat → Int32} {k j s : Nat} (e : h k = nI j) (hj : j < 40) : wi h k s ↔ j = s ∨ wi h j s := by
  constructor
  · rintro ⟨f, w⟩
    cases f with
    | zero => exact absurd w id
    | succ f =>
      obtain ⟨j', e2, hj', w⟩ := w
      have : j' = j := (nI_eq (by omega) (by omega)).mp (e2.symm.trans e)
      subst this
      rcases w with w | w
      · exact Or.inl w
      · exact Or.inr ⟨f, w⟩
  · rintro (w | ⟨f, w⟩)
    · exact ⟨1, j, e, hj, Or.inl w⟩
    · exact ⟨f + 1, j, e, hj, Or.inr w⟩
def SH (h : Nat → Int32) (ns : Nat) : Prop := ∀ i, i < ns → rv (h i) ns ∧ ∃ f, chn h f i
noncomputable def cp (P : Nat → Prop) : Nat → Nat
  | 0 => 0
  | n + 1 => cp P n + @ite Nat (P n) (Classical.propDecidable _) 1 0
theorem cp_y {P : Nat → Prop} {n : Nat} (h : P n) : cp P (n + 1) = cp P n + 1 := by
  show cp P n + @ite Nat (P n) (Classical.propDecidable _) 1 0 = _
  rw [if_pos h]
theorem cp_n {P : Nat → Prop} {n : Nat} (h : ¬ P n) : cp P (n + 1) = cp P n := by
  show cp P n + @ite Nat (P n) (Classical.propDecidable _) 1 0 = _
  rw [if_neg h]
  rfl
theorem c_y {P : Nat → Prop} {n : Nat} (h : P n) : nI (cp P n) + 1 = nI (cp P (n + 1)) := by rw [cp_y h, nI_1]
theorem c_n {P : Nat → Prop} {n : Nat} (h : ¬ P n) : nI (cp P n) + 0 = nI (cp P (n + 1)) := by rw [cp_n h, Int32.add_zero]
theorem c_n' {P : Nat → Prop} {n : Nat} (h : ¬ P n) : nI (cp P n) = nI (cp P (n + 1)) := by rw [cp_n h]
section SG
variable {np nr ns no : Nat} {T : mT} {X : String → mT → Prop}
theorem c_lies {Q : Int32 → mT → Prop} {k s : Nat} (hns : ns ≤ 40) (hk : k < ns) (hs : s < ns) (hS : SH (T.2.1 18) ns) (h : ∀ b, bp (wi (T.2.1 18) k s) b → Q b T) : uX5_liesWithin (cN np nr ns no) k (some s) T Q X := by
  have main : ∀ f k, k < ns → chn (T.2.1 18) f k → (∀ b, bp (wi (T.2.1 18) k s) b → Q b T) → uX5_liesWithin_L5 (cN np nr ns no) Q X f (some s) (rf (T.2.1 18 k)) T := fun f => by
    induction f with
    | zero => intro k hk hc; exact absurd hc id
    | succ f ih =>
      intro k hk hc h
      rcases hc with e | ⟨j, e, hj, hc⟩
      · rw [e, rf_m]
        exact ifp rfl ⟨Or.inl rfl, h 0 (bp_n (wi_none e))⟩
      · have jn : j < ns := by
          rcases (hS k hk).1 with z | ⟨j', hj', z⟩
          · exact absurd (e.symm.trans z) (nI_neg (by omega))
          · have := (nI_eq (by omega) (by omega)).mp (e.symm.trans z)
            omega
        rw [e, rf_n (by omega)]
        refine ifn (by simp) ⟨fun i q => by injection q with q; subst q; exact jn, fun i q => by injection q with q; subst q; exact hs, fun z => ugi (c := cN np nr ns no) (k := 6) jn (ih j jn hc fun b hb => h b (bp_iff hb ?_)), fun z => ⟨Or.inr rfl, h 1 (bp_y ((wi_step e hj).mpr (Or.inl ?_)))⟩⟩
        · rw [wi_step e hj]
          exact ⟨Or.inr, fun q => q.resolve_left fun q2 => z (by rw [q2])⟩
        · injection z
  obtain ⟨f, hc⟩ := (hS k hk).2
  exact ugi (c := cN np nr ns no) (k := 6) hk ⟨f, main f k hk hc h⟩
theorem m_with {Q : Int32 → mT → Prop} {k s : Nat} (hns : ns ≤ 40) (hk : k < ns) (hs : s < 40) (hS : SH (T.2.1 18) ns) (h : ∀ b, bp (wi (T.2.1 18) k s) b → Q b T) : tX8_isWithin (nI k) (nI s) T Q := by
  have main : ∀ f k, k < ns → chn (T.2.1 18) f k → (∀ b, bp (wi (T.2.1 18) k s) b → Q b T) → tX8_isWithin_L7 (tX8_isWithin_J26 Q) Q f (nI s) (T.2.1 18 k) T := fun f => by
    induction f with
    | zero => intro k hk hc; exact absurd hc id
    | succ f ih =>
      intro k hk hc h
      rcases hc with e | ⟨j, e, hj, hc⟩
      · rw [e]
        exact ifp m1lt (ifp m1lt ⟨Or.inl rfl, h 0 (bp_n (wi_none e))⟩)
      · have jn : j < ns := by
          rcases (hS k hk).1 with z | ⟨j', hj', z⟩
          · exact absurd (e.symm.trans z) (nI_neg (by omega))
          · have := (nI_eq (by omega) (by omega)).mp (e.symm.trans z)
            omega
        rw [e]
        refine ifn (nInn (by omega)) ⟨fun z => ifn (nInn (by omega)) ⟨Or.inr rfl, h 1 (bp_y ((wi_step e hj).mpr (Or.inl ((nI_eq (by omega) (by omega)).mp z))))⟩, fun z => m_ld (show j < 40 by omega) (ih j jn hc fun b hb => h b (bp_iff hb ?_))⟩
        rw [wi_step e hj]
        exact ⟨Or.inr, fun q => q.resolve_left fun q2 => z (by rw [q2])⟩
  obtain ⟨f, hc⟩ := (hS k hk).2
  exact m_ld (show k < 40 by omega) ⟨f, main f k hk hc h⟩
theorem c_brk {Q : Int32 → mT → Prop} {i : Nat} (hi : i < ns) (h : ∀ b, bp (T.2.1 19 i < 0) b → Q b T) : uX5_isBroken (cN np nr ns no) i T Q X :=
  ugi (c := cN np nr ns no) (k := 6) hi ⟨fun z => ⟨Or.inl rfl, h 0 (bp_n fun q => z (rf_none.mpr q))⟩, fun z => ⟨Or.inr rfl, h 1 (bp_y (rf_none.mp z))⟩⟩
theorem m_brk {Q : Int32 → mT → Prop} {i : Nat} (hi : i < 40) (h : ∀ b, bp (T.2.1 19 i < 0) b → Q b T) : tX8_isBroken (nI i) T Q :=
  m_ld (show i < 40 by omega) ⟨fun z => ⟨Or.inl rfl, h 0 (bp_n (Int32.not_lt.mpr z))⟩, fun z => ⟨Or.inr rfl, h 1 (bp_y (Int32.not_le.mp z))⟩⟩
theorem c_lent {Q : Int32 → mT → Prop} {i : Nat} (hi : i < ns) (hl : T.2.1 21 i < 0 ↔ T.2.1 20 i < 0) (h : ∀ b, bp (¬ T.2.1 20 i < 0) b → Q b T) : uX5_isLent (cN np nr ns no) i T Q X :=
  ugi (c := cN np nr ns no) (k := 6) hi ⟨fun z => ⟨Or.inl rfl, h 0 (bp_n fun q => q (hl.mp (rf_none.mp z)))⟩, fun z => ⟨Or.inr rfl, h 1 (bp_y fun q => z (rf_none.mpr (hl.mpr q)))⟩⟩
theorem m_lent {Q : Int32 → mT → Prop} {i : Nat} (hi : i < 40) (h : ∀ b, bp (¬ T.2.1 20 i < 0) b → Q b T) : tX8_isLent (nI i) T Q :=
  m_ld (show i < 40 by omega) ⟨fun z => ⟨Or.inl rfl, h 0 (bp_n fun q => q z)⟩, fun z => ⟨Or.inr rfl, h 1 (bp_y z)⟩⟩
theorem lent_iff {n : Nat} (hI : ivS T.2.1 (T.1 1) n np ns) (hnp : np ≤ 10) (h1 : 0 ≤ (T.1 1).toInt) {i : Nat} (hi : i < ns) : T.2.1 21 i < 0 ↔ T.2.1 20 i < 0 := by
  obtain ⟨_, _, _, _, _, a6, a7, _⟩ := hI.1 i hi
  rcases a7 with ⟨e1, e2⟩ | ⟨e1, e2⟩
  · rw [e1, e2]
  · constructor
    · intro z
      rcases a6 with q | ⟨j, hj, q⟩
      · exact absurd q e2
      · rw [q] at z
        exact absurd z (nInn (by omega))
    · intro z
      have := Int32.lt_iff_toInt_lt.mp z
      have := Int32.lt_iff_toInt_lt.mp e1
      have e0 : (0 : Int32).toInt = 0 := rfl
      omega
end SG
