/-! agree. -/
def chA : List (Prop × Int32) → Int32 → Prop
  | [], b => b = 0
  | (P, v) :: l, b => (P ∧ b = v) ∨ (¬ P ∧ chA l b)
theorem chA_u : ∀ {l : List (Prop × Int32)} {b b' : Int32}, chA l b → chA l b' → b = b'
  | [], _, _, h, h' => h.trans h'.symm
  | (P, v) :: l, b, b', h, h' => by
    rcases h with ⟨p, e⟩ | ⟨p, e⟩ <;> rcases h' with ⟨p', e'⟩ | ⟨p', e'⟩
    · exact e.trans e'.symm
    · exact absurd p p'
    · exact absurd p' p
    · exact chA_u e e'
def TM (R : Nat → Nat → Int32) (a k k' : Nat) (m m' : Int32) : Prop := ¬ ((R 2 (4 * a + k') - (if k = k' then m else 0)) + m') ≤ 1000000000
def HO (R : Nat → Nat → Int32) (ns a : Nat) (v : Int32) : Prop := v < 0 ∨ (R 19 v.toNatClampNeg = nI a ∧ MG R ns v.toNatClampNeg)
def WO (R : Nat → Nat → Int32) (v w : Int32) : Prop := ¬ v < 0 ∧ ¬ R 15 v.toNatClampNeg = w
def AG (R : Nat → Nat → Int32) (ns a b k k' : Nat) (m m' v v' w w' : Int32) : List (Prop × Int32) := [(¬ m ≤ R 2 (4 * a + k), 2), (¬ m' ≤ R 2 (4 * b + k'), 3), (TM R a k k' m m', 4), (TM R b k' k m' m, 5), (¬ HO R ns a v, 6), (¬ HO R ns b v', 7), (WO R v w ∨ WO R v' w', 8)]
def ixs (σ x y : Nat) : Nat := 10 * (σ / 2) + (if σ % 2 = 0 then x else y)
section AGS
variable {np nr ns no : Nat} {T : mT} {X : String → mT → Prop} {Q : Int32 → mT → Prop}
theorem c_few {σ a k : Nat} (hσ : σ < 2 * no) (ha : a < np) (hk : k < 4) (hnp : np ≤ 10) (e0 : T.2.1 26 (ixs σ 0 1) = nI a) (e3 : T.2.1 26 (ixs σ 3 6) = nI k) (h : ∀ b, bp (¬ T.2.1 26 (ixs σ 2 5) ≤ T.2.1 2 (4 * a + k)) b → Q b T) : uX4_hasTooFew (cN np nr ns no) σ T Q X := by
  refine ugi (c := cN np nr ns no) (k := 5) hσ ?_
  show u_g _ (rf (T.2.1 26 (ixs σ 0 1))) 3 _ _
  rw [e0, rf_n (by omega)]
  refine ugi (c := cN np nr ns no) (k := 3) ha (ugi (c := cN np nr ns no) (k := 5) hσ ?_)
  show u_a _ _ 10 4 (T.2.1 26 (ixs σ 3 6)) _ _
  rw [e3]
  refine uai (c := cN np nr ns no) (k := 10) ha hk (by decide) (ugi (c := cN np nr ns no) (k := 5) hσ ?_)
  exact ⟨fun z => ⟨Or.inl rfl, h 0 (bp_n fun q => q z)⟩, fun z => ⟨Or.inr rfl, h 1 (bp_y z)⟩⟩
theorem c_many {σ τ a k k' : Nat} (hσ : σ < 2 * no) (hτ : τ < 2 * no) (ha : a < np) (hk : k < 4) (hk' : k' < 4) (hnp : np ≤ 10) (e0 : T.2.1 26 (ixs σ 0 1) = nI a) (e3 : T.2.1 26 (ixs σ 3 6) = nI k) (e3' : T.2.1 26 (ixs τ 3 6) = nI k') (h : ∀ b, bp (TM T.2.1 a k k' (T.2.1 26 (ixs σ 2 5)) (T.2.1 26 (ixs τ 2 5))) b → Q b T) : uX4_wouldHaveTooMany (cN np nr ns no) σ (some τ) T Q X := by
  refine ugi (c := cN np nr ns no) (k := 5) hσ ?_
  show u_g _ (rf (T.2.1 26 (ixs σ 0 1))) 3 _ _
  rw [e0, rf_n (by omega)]
  refine ugi (c := cN np nr ns no) (k := 3) ha (ugi (c := cN np nr ns no) (k := 5) hτ ?_)
  show u_a _ _ 10 4 (T.2.1 26 (ixs τ 3 6)) _ _
  rw [e3']
  refine uai (c := cN np nr ns no) (k := 10) ha hk' (by decide) (ugi (c := cN np nr ns no) (k := 5) hσ (ugi (c := cN np nr ns no) (k := 5) hτ ?_))
  show (¬ T.2.1 26 (ixs σ 3 6) = T.2.1 26 (ixs τ 3 6) → _) ∧ (T.2.1 26 (ixs σ 3 6) = T.2.1 26 (ixs τ 3 6) → _)
  rw [e3, e3', nI_eq (by omega) (by omega)]
  refine ⟨fun z => ugi (c := cN np nr ns no) (k := 5) hτ ?_, fun z => ugi (c := cN np nr ns no) (k := 5) hσ (ugi (c := cN np nr ns no) (k := 5) hτ ?_)⟩
  · unfold TM at h
    rw [if_neg z] at h
    exact ⟨fun z2 => ⟨Or.inl rfl, h 0 (bp_n fun q => q z2)⟩, fun z2 => ⟨Or.inr rfl, h 1 (bp_y z2)⟩⟩
  · unfold TM at h
    rw [if_pos z] at h
    exact ⟨fun z2 => ⟨Or.inl rfl, h 0 (bp_n fun q => q z2)⟩, fun z2 => ⟨Or.inr rfl, h 1 (bp_y z2)⟩⟩
theorem c_hand {σ a : Nat} (hσ : σ < 2 * no) (ha : a < np) (hnp : np ≤ 10) (hns : ns ≤ 40) (hS : SH (T.2.1 18) ns) (hl : ∀ i, i < ns → (T.2.1 21 i < 0 ↔ T.2.1 20 i < 0)) (h19 : ∀ i, i < ns → rv (T.2.1 19 i) np) (e0 : T.2.1 26 (ixs σ 0 1) = nI a) (e4 : rv (T.2.1 26 (ixs σ 4 7)) ns) (h : ∀ b, bp (HO T.2.1 ns a (T.2.1 26 (ixs σ 4 7))) b → Q b T) : uX7_mayHandOver (cN np nr ns no) 0 (some σ) T Q X := by
  refine ugi (c := cN np nr ns no) (k := 5) hσ ?_
  show (rf (T.2.1 26 (ixs σ 4 7)) = none → _) ∧ (¬ rf (T.2.1 26 (ixs σ 4 7)) = none → _)
  rcases e4 with e | ⟨s, hs, e⟩
  · rw [e, rf_m]
    rw [e] at h
    exact ifp rfl ⟨Or.inr rfl, h 1 (bp_y (Or.inl m1lt))⟩
  · rw [e, rf_n (by omega)]
    have hH : HO T.2.1 ns a (T.2.1 26 (ixs σ 4 7)) ↔ (T.2.1 19 s = nI a ∧ MG T.2.1 ns s) := by
      unfold HO
      rw [e, nI_clamp (by omega)]
      exact ⟨fun q => q.resolve_left (nInn (by omega)), Or.inr⟩
    refine ifn (by simp) (ugi (c := cN np nr ns no) (k := 5) hσ ?_)
    show u_g _ (rf (T.2.1 26 (ixs σ 4 7))) 6 _ _
    rw [e, rf_n (by omega)]
    refine ugi (c := cN np nr ns no) (k := 6) hs (ugi (c := cN np nr ns no) (k := 5) hσ ?_)
    show u_vo _ 3 (rf (T.2.1 19 s)) ∧ u_vo _ 3 (rf (T.2.1 26 (ixs σ 0 1))) ∧ (¬ rf (T.2.1 19 s) = rf (T.2.1 26 (ixs σ 0 1)) → _) ∧ (rf (T.2.1 19 s) = rf (T.2.1 26 (ixs σ 0 1)) → _)
    rw [e0, rf_inj (h19 s hs) (rv_p ha) (by omega)]
    refine ⟨rv_vo (h19 s hs) (by omega) rfl, rv_vo (rv_p ha) (by omega) rfl, fun z => ⟨Or.inl rfl, h 0 (bp_n fun q => z (hH.mp q).1)⟩, fun z => ug8 (ugi (c := cN np nr ns no) (k := 5) hσ (u7 ?_))⟩
    show uX6_mayLeave _ 0 (rf (T.2.1 26 (ixs σ 4 7))) T _ _
    rw [e, rf_n (by omega)]
    exact c_may hns hs hS hl fun b hb => ⟨fun z2 => ⟨Or.inl rfl, h 0 (bp_n fun q => bp0 hb z2 (hH.mp q).2)⟩, fun z2 => ⟨Or.inr rfl, h 1 (bp_y (hH.mpr ⟨z, bp1 hb z2⟩))⟩⟩
theorem c_worn {σ : Nat} (hσ : σ < 2 * no) (hns : ns ≤ 40) (e4 : rv (T.2.1 26 (ixs σ 4 7)) ns) (h : ∀ b, bp (WO T.2.1 (T.2.1 26 (ixs σ 4 7)) (T.2.1 26 (ixs σ 8 9))) b → Q b T) : uX4_isWornSince (cN np nr ns no) σ T Q X := by
  refine ugi (c := cN np nr ns no) (k := 5) hσ ?_
  show (rf (T.2.1 26 (ixs σ 4 7)) = none → _) ∧ (¬ rf (T.2.1 26 (ixs σ 4 7)) = none → _)
  rcases e4 with e | ⟨s, hs, e⟩
  · rw [e, rf_m]
    rw [e] at h
    exact ifp rfl ⟨Or.inl rfl, h 0 (bp_n fun q => q.1 m1lt)⟩
  · rw [e, rf_n (by omega)]
    have hW : WO T.2.1 (T.2.1 26 (ixs σ 4 7)) (T.2.1 26 (ixs σ 8 9)) ↔ ¬ T.2.1 15 s = T.2.1 26 (ixs σ 8 9) := by
      unfold WO
      rw [e, nI_clamp (by omega)]
      exact ⟨fun q => q.2, fun q => ⟨nInn (by omega), q⟩⟩
    refine ifn (by simp) (ugi (c := cN np nr ns no) (k := 5) hσ ?_)
    show u_g _ (rf (T.2.1 26 (ixs σ 4 7))) 6 _ _
    rw [e, rf_n (by omega)]
    exact ugi (c := cN np nr ns no) (k := 6) hs (ugi (c := cN np nr ns no) (k := 5) hσ ⟨fun z => ⟨Or.inl rfl, h 0 (bp_n fun q => hW.mp q z)⟩, fun z => ⟨Or.inr rfl, h 1 (bp_y (hW.mpr z))⟩⟩)
end AGS
theorem ixs0 (o x y : Nat) : ixs (2 * o) x y = 10 * o + x := by
  unfold ixs
  rw [if_pos (by omega), show 2 * o / 2 = o by omega]
theorem ixs1 (o x y : Nat) : ixs (2 * o + 1) x y = 10 * o + y := by
  unfold ixs
  rw [if_neg (by omega), show (2 * o + 1) / 2 = o by omega]
section AG2
variable {n np nr ns no : Nat} {T : mT}
theorem c_agAns {Q : Int32 → mT → Prop} {X : String → mT → Prop} {o a b k k' : Nat} (hI : IV n T np nr ns no) (ho : o < no) (ha : a < np) (hb : b < np) (hk : k < 4) (hk' : k' < 4) (r0 : T.2.1 26 (10 * o) = nI a) (r1 : T.2.1 26 (10 * o + 1) = nI b) (r3 : T.2.1 26 (10 * o + 3) = nI k) (r6 : T.2.1 26 (10 * o + 6) = nI k') (h1 : T.2.1 27 o = 0 → Q 1 T) (h : ¬ T.2.1 27 o = 0 → ∀ v, chA (AG T.2.1 ns a b k k' (T.2.1 26 (10 * o + 2)) (T.2.1 26 (10 * o + 5)) (T.2.1 26 (10 * o + 4)) (T.2.1 26 (10 * o + 7)) (T.2.1 26 (10 * o + 8)) (T.2.1 26 (10 * o + 9))) v → Q v T) : uX7_answerTo (cN np nr ns no) 0 (some o) T Q X := by
  have hnp := hI.1.1.2
  have hns := hI.1.2.2.1.2
  obtain ⟨_, _, _, _, _, v4, v7, _⟩ := hI.2.2.2.2.2 o ho
  have s0 : 2 * o < 2 * no := by omega
  have s1 : 2 * o + 1 < 2 * no := by omega
  have a0 : T.2.1 26 (ixs (2 * o) 0 1) = nI a := by rw [ixs0]; exact r0
  have a3 : T.2.1 26 (ixs (2 * o) 3 6) = nI k := by rw [ixs0]; exact r3
  have b0 : T.2.1 26 (ixs (2 * o + 1) 0 1) = nI b := by rw [ixs1]; exact r1
  have b3 : T.2.1 26 (ixs (2 * o + 1) 3 6) = nI k' := by rw [ixs1]; exact r6
  have e2 : T.2.1 26 (ixs (2 * o) 2 5) = T.2.1 26 (10 * o + 2) := by rw [ixs0]
  have e5 : T.2.1 26 (ixs (2 * o + 1) 2 5) = T.2.1 26 (10 * o + 5) := by rw [ixs1]
  have e4 : T.2.1 26 (ixs (2 * o) 4 7) = T.2.1 26 (10 * o + 4) := by rw [ixs0]
  have e7 : T.2.1 26 (ixs (2 * o + 1) 4 7) = T.2.1 26 (10 * o + 7) := by rw [ixs1]
  have e8 : T.2.1 26 (ixs (2 * o) 8 9) = T.2.1 26 (10 * o + 8) := by rw [ixs0]
  have e9 : T.2.1 26 (ixs (2 * o + 1) 8 9) = T.2.1 26 (10 * o + 9) := by rw [ixs1]
  have h19 : ∀ i, i < ns → rv (T.2.1 19 i) np := fun i hi => (hI.2.2.2.2.1.1 i hi).2.2.2.2.1
  have vo0 : ∀ K : Nat → Prop, K (2 * o) → u_at (cN np nr ns no) (some (2 * o)) 5 K := fun K q => ⟨_, rfl, s0, q⟩
  have vo1 : ∀ K : Nat → Prop, K (2 * o + 1) → u_at (cN np nr ns no) (some (2 * o + 1)) 5 K := fun K q => ⟨_, rfl, s1, q⟩
  refine ugi (c := cN np nr ns no) (k := 2) ho (ugi (c := cN np nr ns no) (k := 2) ho (ugi (c := cN np nr ns no) (k := 2) ho ⟨fun zo => vo0 _ (c_few s0 ha hk hnp a0 a3 fun x1 p1 => ?_), h1⟩))
  have h := h zo
  rw [e2] at p1
  refine ⟨fun z1 => vo1 _ (c_few s1 hb hk' hnp b0 b3 fun x2 p2 => ?_), fun z1 => h 2 (Or.inl ⟨bp1 p1 z1, rfl⟩)⟩
  rw [e5] at p2
  refine ⟨fun z2 => vo0 _ (c_many s0 s1 ha hk hk' hnp a0 a3 b3 fun x3 p3 => ?_), fun z2 => h 3 (Or.inr ⟨bp0 p1 z1, Or.inl ⟨bp1 p2 z2, rfl⟩⟩)⟩
  rw [e2, e5] at p3
  refine ⟨fun z3 => vo1 _ (c_many s1 s0 hb hk' hk hnp b0 b3 a3 fun x4 p4 => ?_), fun z3 => h 4 (Or.inr ⟨bp0 p1 z1, Or.inr ⟨bp0 p2 z2, Or.inl ⟨bp1 p3 z3, rfl⟩⟩⟩)⟩
  rw [e2, e5] at p4
  refine ⟨fun z4 => u8 (c_hand s0 ha hnp hns hI.sh (fun i hi => hI.le hi) h19 a0 (by rw [e4]; exact v4) fun x5 p5 => ?_), fun z4 => h 5 (Or.inr ⟨bp0 p1 z1, Or.inr ⟨bp0 p2 z2, Or.inr ⟨bp0 p3 z3, Or.inl ⟨bp1 p4 z4, rfl⟩⟩⟩⟩)⟩
  rw [e4] at p5
  refine ⟨fun z5 => u8 (c_hand s1 hb hnp hns hI.sh (fun i hi => hI.le hi) h19 b0 (by rw [e7]; exact v7) fun x6 p6 => ?_), fun z5 => h 6 (Or.inr ⟨bp0 p1 z1, Or.inr ⟨bp0 p2 z2, Or.inr ⟨bp0 p3 z3, Or.inr ⟨bp0 p4 z4, Or.inl ⟨bp0 p5 z5, rfl⟩⟩⟩⟩⟩)⟩
  rw [e7] at p6
  refine ⟨fun z6 => vo0 _ (c_worn s0 hns (by rw [e4]; exact v4) fun x7 p7 => ?_), fun z6 => h 7 (Or.inr ⟨bp0 p1 z1, Or.inr ⟨bp0 p2 z2, Or.inr ⟨bp0 p3 z3, Or.inr ⟨bp0 p4 z4, Or.inr ⟨fun q => q (bp1 p5 z5), Or.inl ⟨bp0 p6 z6, rfl⟩⟩⟩⟩⟩⟩)⟩
  rw [e4, e8] at p7
  have fin : ∀ v, chA [(WO T.2.1 (T.2.1 26 (10 * o + 4)) (T.2.1 26 (10 * o + 8)) ∨ WO T.2.1 (T.2.1 26 (10 * o + 7)) (T.2.1 26 (10 * o + 9)), 8)] v → Q v T := fun v q => h v (Or.inr ⟨bp0 p1 z1, Or.inr ⟨bp0 p2 z2, Or.inr ⟨bp0 p3 z3, Or.inr ⟨bp0 p4 z4, Or.inr ⟨fun q => q (bp1 p5 z5), Or.inr ⟨fun q => q (bp1 p6 z6), q⟩⟩⟩⟩⟩⟩)
  refine ⟨fun z7 => fin 8 (Or.inl ⟨Or.inl (bp1 p7 z7), rfl⟩), fun z7 => vo1 _ (c_worn s1 hns (by rw [e7]; exact v7) fun x8 p8 => ?_)⟩
  rw [e7, e9] at p8
  exact ⟨fun z8 => fin 0 (Or.inr ⟨fun q => q.elim (bp0 p7 z7) (bp0 p8 z8), rfl⟩), fun z8 => fin 8 (Or.inl ⟨Or.inr (bp1 p8 z8), rfl⟩)⟩
theorem m_after {Q : Int32 → mT → Prop} {a k k' : Nat} {m m' : Int32} (ha : a < 10) (hk : k < 4) (hk' : k' < 4) (hG : ∀ j, bt (T.2.1 2 j) 0 1000000000) (hm : bt m 0 1000000) (hm' : bt m' 0 1000000) (hf : m ≤ T.2.1 2 (4 * a + k)) (h1 : ¬ TM T.2.1 a k k' m m' → ∀ v, 0 ≤ v → Q v T) (h2 : TM T.2.1 a k k' m m' → ∀ v, ¬ 0 ≤ v → Q v T) : tX8_after (nI a) (nI k) m (nI k') m' T Q := by
  have g1 := (hG (4 * a + k')).1
  have g2 := (hG (4 * a + k')).2
  have m1 := hm.1
  have m2 := hm.2
  have m1' := hm'.1
  have m2' := hm'.2
  have eK : (1000000000 : Int32).toInt = 1000000000 := by decide
  have e0 : (0 : Int32).toInt = 0 := rfl
  have key : ∀ x : Int32, 0 ≤ x.toInt → x.toInt ≤ 1000000000 → (TM T.2.1 a k k' m m' ↔ ¬ (x + m') ≤ 1000000000) → tX8_after_J25 Q m' x T := fun x x1 x2 hx => by
    have e1 : (x + m').toInt = x.toInt + m'.toInt := by
      rw [Int32.toInt_add, Int.bmod_eq_of_le (by omega) (by omega)]
    have e2 : ((1000000000 : Int32) - m').toInt = 1000000000 - m'.toInt := by
      rw [Int32.toInt_sub, eK, Int.bmod_eq_of_le (by omega) (by omega)]
    rw [Int32.le_iff_toInt_le, e1, eK] at hx
    unfold tX8_after_J25
    rw [Int32.le_iff_toInt_le, e2]
    refine ⟨fun z => h1 (fun q => by have := hx.mp q; omega) _ ?_, fun z => h2 (hx.mpr (by omega)) _ (by decide)⟩
    rw [Int32.le_iff_toInt_le, e1, e0]
    exact Int.add_nonneg x1 m1'
  unfold tX8_after
  rw [ix4]
  refine m_ld (show 4 * a + k' < 40 by omega) ?_
  rw [nI_eq (by omega) (by omega)]
  refine ⟨fun z => key _ g1 g2 ?_, fun z => ?_⟩
  · unfold TM
    rw [if_neg z, Int32.sub_zero]
  · have hf' := Int32.le_iff_toInt_le.mp hf
    rw [z] at hf'
    have e3 : (T.2.1 2 (4 * a + k') - m).toInt = (T.2.1 2 (4 * a + k')).toInt - m.toInt := by
      rw [Int32.toInt_sub, Int.bmod_eq_of_le (by omega) (by omega)]
    refine key _ (by omega) (by omega) ?_
    unfold TM
    rw [if_pos z]
theorem m_against {Q : Int32 → mT → Prop} {o a b k k' : Nat} (hI : IV n T np nr ns no) (ho : o < no) (ha : a < np) (hb : b < np) (hk : k < 4) (hk' : k' < 4) (r0 : T.2.1 26 (10 * o) = nI a) (r1 : T.2.1 26 (10 * o + 1) = nI b) (r3 : T.2.1 26 (10 * o + 3) = nI k) (r6 : T.2.1 26 (10 * o + 6) = nI k') (h : ∀ v, chA (AG T.2.1 ns a b k k' (T.2.1 26 (10 * o + 2)) (T.2.1 26 (10 * o + 5)) (T.2.1 26 (10 * o + 4)) (T.2.1 26 (10 * o + 7)) (T.2.1 26 (10 * o + 8)) (T.2.1 26 (10 * o + 9))) v → Q v T) : tX8_against (nI (10 * o)) T Q := by
  have hnp := hI.1.1.2
  have hns := hI.1.2.2.1
  have hno := hI.1.2.2.2.2
  obtain ⟨_, m2, m5, _, _, v4, v7, _⟩ := hI.2.2.2.2.2 o ho
  have hG := hI.2.2.1.1
  have L : ∀ x, x < 10 → 10 * o + x < 600 := fun x hx => by omega
  unfold tX8_against
  rw [show nI (10 * o) + 1 = nI (10 * o + 1) from nI_add _ 1, show nI (10 * o) + 2 = nI (10 * o + 2) from nI_add _ 2, show nI (10 * o) + 3 = nI (10 * o + 3) from nI_add _ 3, show nI (10 * o) + 4 = nI (10 * o + 4) from nI_add _ 4, show nI (10 * o) + 5 = nI (10 * o + 5) from nI_add _ 5, show nI (10 * o) + 6 = nI (10 * o + 6) from nI_add _ 6, show nI (10 * o) + 7 = nI (10 * o + 7) from nI_add _ 7]
  refine m_ld (L 0 (by decide)) (m_ld (L 1 (by decide)) (m_ld (L 4 (by decide)) (m_ld (L 7 (by decide)) (m_ld (L 3 (by decide)) ?_))))
  rw [r0, r1, r3, ix4]
  refine m_ld (show 4 * a + k < 40 by omega) (m_ld (L 2 (by decide)) ⟨fun z1 => m_ld (L 6 (by decide)) ?_, fun z1 => h 2 (Or.inl ⟨z1, rfl⟩)⟩)
  rw [r6, ix4]
  refine m_ld (show 4 * b + k' < 40 by omega) (m_ld (L 5 (by decide)) ⟨fun z2 => m_ld (L 3 (by decide)) (m_ld (L 2 (by decide)) (m_ld (L 6 (by decide)) (m_ld (L 5 (by decide)) ?_))), fun z2 => h 3 (Or.inr ⟨fun q => q z1, Or.inl ⟨z2, rfl⟩⟩)⟩)
  rw [r3, r6]
  refine m_after (by omega) hk hk' hG m2 m5 z1 (fun z3 v hv => ifp hv (m_ld (L 6 (by decide)) (m_ld (L 5 (by decide)) (m_ld (L 3 (by decide)) (m_ld (L 2 (by decide)) ?_))))) (fun z3 v hv => ifn hv (h 4 (Or.inr ⟨fun q => q z1, Or.inr ⟨fun q => q z2, Or.inl ⟨z3, rfl⟩⟩⟩)))
  rw [r3, r6]
  refine m_after (by omega) hk' hk hG m5 m2 z2 (fun z4 v hv => ifp hv ?_) (fun z4 v hv => ifn hv (h 5 (Or.inr ⟨fun q => q z1, Or.inr ⟨fun q => q z2, Or.inr ⟨z3, Or.inl ⟨z4, rfl⟩⟩⟩⟩)))
  have h6 : ∀ v, chA [(¬ HO T.2.1 ns a (T.2.1 26 (10 * o + 4)), 6), (¬ HO T.2.1 ns b (T.2.1 26 (10 * o + 7)), 7), (WO T.2.1 (T.2.1 26 (10 * o + 4)) (T.2.1 26 (10 * o + 8)) ∨ WO T.2.1 (T.2.1 26 (10 * o + 7)) (T.2.1 26 (10 * o + 9)), 8)] v → Q v T := fun v q => h v (Or.inr ⟨fun q => q z1, Or.inr ⟨fun q => q z2, Or.inr ⟨z3, Or.inr ⟨z4, q⟩⟩⟩⟩)
  have worn2 : HO T.2.1 ns a (T.2.1 26 (10 * o + 4)) → HO T.2.1 ns b (T.2.1 26 (10 * o + 7)) → ¬ WO T.2.1 (T.2.1 26 (10 * o + 4)) (T.2.1 26 (10 * o + 8)) → tX8_against_J264 Q (nI (10 * o)) (T.2.1 26 (10 * o + 7)) T := fun p q w => by
    have f : ∀ v, chA [(WO T.2.1 (T.2.1 26 (10 * o + 4)) (T.2.1 26 (10 * o + 8)) ∨ WO T.2.1 (T.2.1 26 (10 * o + 7)) (T.2.1 26 (10 * o + 9)), 8)] v → Q v T := fun v z => h6 v (Or.inr ⟨fun z => z p, Or.inr ⟨fun z => z q, z⟩⟩)
    unfold tX8_against_J264
    rw [show nI (10 * o) + 9 = nI (10 * o + 9) from nI_add _ 9]
    refine ⟨fun z => f 0 (Or.inr ⟨fun y => y.elim w fun y => y.1 z, rfl⟩), fun z => ?_⟩
    rcases v7 with e | ⟨s, hs, e⟩
    · rw [e] at z
      exact absurd m1lt z
    · have hW : WO T.2.1 (T.2.1 26 (10 * o + 7)) (T.2.1 26 (10 * o + 9)) ↔ ¬ T.2.1 15 s = T.2.1 26 (10 * o + 9) := by
        unfold WO
        rw [e, nI_clamp (by omega)]
        exact ⟨fun q => q.2, fun q => ⟨nInn (by omega), q⟩⟩
      rw [e]
      exact m_ld (show s < 40 by omega) (m_ld (L 9 (by decide)) ⟨fun y => f 0 (Or.inr ⟨fun x => x.elim w fun x => hW.mp x y, rfl⟩), fun y => f 8 (Or.inl ⟨Or.inr (hW.mpr y), rfl⟩)⟩)
  have worn1 : HO T.2.1 ns a (T.2.1 26 (10 * o + 4)) → HO T.2.1 ns b (T.2.1 26 (10 * o + 7)) → tX8_against_J240 Q (nI (10 * o)) (T.2.1 26 (10 * o + 4)) (T.2.1 26 (10 * o + 7)) T := fun p q => by
    unfold tX8_against_J240
    rw [show nI (10 * o) + 8 = nI (10 * o + 8) from nI_add _ 8]
    refine ⟨fun z => worn2 p q fun y => y.1 z, fun z => ?_⟩
    rcases v4 with e | ⟨s, hs, e⟩
    · rw [e] at z
      exact absurd m1lt z
    · have hW : WO T.2.1 (T.2.1 26 (10 * o + 4)) (T.2.1 26 (10 * o + 8)) ↔ ¬ T.2.1 15 s = T.2.1 26 (10 * o + 8) := by
        unfold WO
        rw [e, nI_clamp (by omega)]
        exact ⟨fun q => q.2, fun q => ⟨nInn (by omega), q⟩⟩
      have l : t_ldI T 15 (nI s) (fun v251 => t_ldI T 26 (nI (10 * o + 8)) (fun v260 => ((¬ v251 = v260 → tX8_against_J288 Q T) ∧ (v251 = v260 → tX8_against_J264 Q (nI (10 * o)) (T.2.1 26 (10 * o + 7)) T)))) := m_ld (show s < 40 by omega) (m_ld (L 8 (by decide)) ⟨fun y => h6 8 (Or.inr ⟨fun z => z p, Or.inr ⟨fun z => z q, Or.inl ⟨Or.inl (hW.mpr y), rfl⟩⟩⟩), fun y => worn2 p q fun x => hW.mp x y⟩)
      rw [← e] at l
      exact l
  have hand2 : HO T.2.1 ns a (T.2.1 26 (10 * o + 4)) → tX8_against_J212 Q (nI (10 * o)) (nI b) (T.2.1 26 (10 * o + 4)) (T.2.1 26 (10 * o + 7)) T := fun p => by
    refine ⟨fun z => worn1 p (Or.inl z), fun z => ?_⟩
    rcases v7 with e | ⟨s, hs, e⟩
    · rw [e] at z
      exact absurd m1lt z
    · have hH : HO T.2.1 ns b (T.2.1 26 (10 * o + 7)) ↔ (T.2.1 19 s = nI b ∧ MG T.2.1 ns s) := by
        unfold HO
        rw [e, nI_clamp (by omega)]
        exact ⟨fun q => q.resolve_left (nInn (by omega)), Or.inr⟩
      have l : t_ldI T 19 (nI s) (fun v223 => ((¬ v223 = nI b → tX8_against_J237 Q T) ∧ (v223 = nI b → tX8_mayGo (nI s) T (fun v231 T' => ((¬ v231 = 0 → tX8_against_J240 Q (nI (10 * o)) (T.2.1 26 (10 * o + 4)) (T.2.1 26 (10 * o + 7)) T') ∧ (v231 = 0 → tX8_against_J237 Q T')))))) := m_ld (show s < 40 by omega) ⟨fun y => h6 7 (Or.inr ⟨fun z => z p, Or.inl ⟨fun x => y (hH.mp x).1, rfl⟩⟩), fun y => m_may hns.2 hns.1 hs hI.sh fun c hc => ⟨fun x => worn1 p (hH.mpr ⟨y, bp1 hc x⟩), fun x => h6 7 (Or.inr ⟨fun z => z p, Or.inl ⟨fun w => bp0 hc x (hH.mp w).2, rfl⟩⟩)⟩⟩
      rw [← e] at l
      exact l
  refine ⟨fun z => hand2 (Or.inl z), fun z => ?_⟩
  rcases v4 with e | ⟨s, hs, e⟩
  · rw [e] at z
    exact absurd m1lt z
  · have hH : HO T.2.1 ns a (T.2.1 26 (10 * o + 4)) ↔ (T.2.1 19 s = nI a ∧ MG T.2.1 ns s) := by
      unfold HO
      rw [e, nI_clamp (by omega)]
      exact ⟨fun q => q.resolve_left (nInn (by omega)), Or.inr⟩
    have l : t_ldI T 19 (nI s) (fun v195 => ((¬ v195 = nI a → tX8_against_J209 Q T) ∧ (v195 = nI a → tX8_mayGo (nI s) T (fun v203 T' => ((¬ v203 = 0 → tX8_against_J212 Q (nI (10 * o)) (nI b) (T.2.1 26 (10 * o + 4)) (T.2.1 26 (10 * o + 7)) T') ∧ (v203 = 0 → tX8_against_J209 Q T')))))) := m_ld (show s < 40 by omega) ⟨fun y => h6 6 (Or.inl ⟨fun x => y (hH.mp x).1, rfl⟩), fun y => m_may hns.2 hns.1 hs hI.sh fun c hc => ⟨fun x => hand2 (hH.mpr ⟨y, bp1 hc x⟩), fun x => h6 6 (Or.inl ⟨fun w => bp0 hc x (hH.mp w).2, rfl⟩)⟩⟩
    rw [← e] at l
    exact l
end AG2
