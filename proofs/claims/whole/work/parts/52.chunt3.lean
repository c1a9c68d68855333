/-! The class's hunt: the rules enter. -/
def row0 (v : Nat → V4) (i j : Nat) : Int := if i < 4 then v j i else v j 0 + v j 1 + v j 2 + v j 3
theorem tb_init (v : Nat → V4) {i j : Nat} (hi : i < 5) (hj : j < 10) : tb v (fun i => 10 + i) i j = row0 v i j := by
  have e : ∀ i, i < 4 → En v (fun i => 10 + i) i j = - v j i := fun i hi => by
    rcases lt4 hi with rfl | rfl | rfl | rfl <;> simp [En, EB, DB, Bn, rp, uv, det4, om, hj]
  unfold tb row0
  split
  · rename_i h
    rw [e i h, Int.neg_neg]
  · unfold Cn
    rw [e 0 (by decide), e 1 (by decide), e 2 (by decide), e 3 (by decide), show sg j = 0 from if_pos hj]
    show _ - (1 * _ + 1 * _ + 1 * _ + 1 * _) = _
    omega
/-- m rules have entered -/
def Hm (v : Nat → V4) (m : Nat) (T : mT) : Prop := T.1 43 = nI m ∧ T.2.2 44 0 = lI 1 ∧ (∀ i, i < 4 → T.2.1 46 i = nI (10 + i)) ∧ (∀ j, j < m → T.2.1 47 j = nI j) ∧ ∀ i j, i < 5 → j < m → T.2.2 (50 + i) j = lI (row0 v i j)
theorem Hm.toHt {v : Nat → V4} {m : Nat} {T : mT} (hm : m ≤ 10) (h : Hm v m T) : Ht v m (fun i => 10 + i) (fun j => j) T := ⟨h.1, by rw [Dn_init]; exact h.2.1, h.2.2.1, h.2.2.2.1, fun i j hi hj => by rw [tb_init v hi (show j < 10 by omega)]; exact h.2.2.2.2 i j hi hj⟩
theorem fl_cut {P : Nat → Bool} {i : Nat} (hi : P i = true) : ∀ d, ∃ l, fl P (i + 1 + d) = fl P i ++ i :: l
  | 0 => ⟨[], if_pos hi⟩
  | d + 1 => by
    obtain ⟨l, e⟩ := fl_cut hi d
    show ∃ l, (if P (i + 1 + d) then fl P (i + 1 + d) ++ [i + 1 + d] else fl P (i + 1 + d)) = _
    split
    · exact ⟨l ++ [i + 1 + d], by rw [e, List.append_assoc]; rfl⟩
    · exact ⟨l, e⟩
theorem fl_at {P : Nat → Bool} {i N : Nat} (hi : P i = true) (h : i < N) : (fl P N).getD (fl P i).length 0 = i := by
  obtain ⟨l, e⟩ := fl_cut hi (N - (i + 1))
  rw [show i + 1 + (N - (i + 1)) = N by omega] at e
  rw [e]
  simp
theorem fl_le (P : Nat → Bool) : ∀ N, (fl P N).length ≤ N
  | 0 => Nat.le_refl _
  | N + 1 => by
    have := fl_le P N
    unfold fl
    split
    · rw [List.length_append]
      show _ + 1 ≤ _
      omega
    · omega
/-- what a rule leaves -/
def Lv (R : Nat → Nat → Int32) (r k : Nat) : Int := (R 8 (4 * r + k)).toInt - (R 7 (4 * r + k)).toInt
def nsr (R : Nat → Nat → Int32) (r : Nat) : Bool := R 9 r == 0
def rho (R : Nat → Nat → Int32) (N j : Nat) : Nat := (fl (nsr R) N).getD j 0
def vR (R : Nat → Nat → Int32) (N : Nat) : Nat → V4 := fun j k => Lv R (rho R N j) k
theorem sub9 {a b : Int32} (ha : bt a 0 9) (hb : bt b 0 9) : (a - b).toInt = a.toInt - b.toInt ∧ (a.toInt - b.toInt).natAbs ≤ 9 := by
  have h1 := ha.1
  have h2 := ha.2
  have h3 := hb.1
  have h4 := hb.2
  refine ⟨?_, by omega⟩
  rw [Int32.toInt_sub, Int.bmod_eq_of_le (by omega) (by omega)]
section CH3
variable {np nr ns no : Nat} {T : mT} {X : String → mT → Prop}
theorem beg {v : Nat → V4} {Q : mT → Prop} (hq : ∀ T', Hm v 0 T' → hfr T T' → Q T') : uX0_begin (cN np nr ns no) 0 T Q X := by
  refine ug1 (ug1 ?_)
  have main : ∀ d i T', i + d = 4 → T'.1 43 = nI 0 → T'.2.2 44 0 = lI 1 → (∀ i', i' < i → T'.2.1 46 i' = nI (10 + i')) → hfr T T' → uX0_begin_L12 (cN np nr ns no) Q X (d + 1) (some 0) (nI i) T' := fun d => by
    induction d with
    | zero =>
      intro i T' hi e1 e2 e3 e4
      have : i = 4 := by omega
      subst this
      exact ifp (nI_le (a := 4) (b := 4) (by omega) (by omega)) (hq T' ⟨e1, e2, e3, fun j hj => by omega, fun i j _ hj => by omega⟩ e4)
    | succ d ih =>
      intro i T' hi e1 e2 e3 e4
      refine ifn (nI_ge (a := i) (b := 4) (by omega) (by omega)) (ug1 (u16 (show i < 4 by omega) ?_))
      rw [nI_1, show (10 : Int32) + nI i = nI (10 + i) from nI_add 10 i]
      refine ih (i + 1) _ (by omega) e1 e2 (fun i' hi' => ?_) (e4.tr (hfr.sA (by decide)))
      rw [sA_at]
      by_cases z : i' = i
      · rw [if_pos z, z]
      · rw [if_neg z, e3 i' (by omega)]
  exact ⟨5, main 4 0 _ (by omega) rfl rfl (fun i' h => by omega) ((hfr.sI (by decide)).tr (hfr.sJ (by decide)))⟩
theorem ent {v : Nat → V4} {Q : mT → Prop} {m i : Nat} (hm : m < 10) (hi : i < nr) (hL : ∀ j, bt (T.2.1 7 j) 0 9 ∧ bt (T.2.1 8 j) 0 9) (hv : ∀ k, k < 4 → v m k = Lv T.2.1 i k) (h : Hm v m T) (hq : ∀ T', Hm v (m + 1) T' → hfr T T' → Q T') : uX0_enter (cN np nr ns no) 0 (some i) T Q X := by
  refine ug1 ?_
  rw [h.1]
  refine ifp (nI_lt (a := m) (b := 10) hm (by omega)) ?_
  have main : ∀ d k T' x2, k + d = 4 → x2 = lI (sm (v m) k) → T'.1 = T.1 → T'.2.1 = T.2.1 → (∀ k', k' < 50 → T'.2.2 k' = T.2.2 k') → (∀ i' j, i' < 5 → j < m → T'.2.2 (50 + i') j = lI (row0 v i' j)) → (∀ i', i' < k → T'.2.2 (50 + i') m = lI (v m i')) → uX0_enter_L15 (uX0_enter_J56 (cN np nr ns no) Q X) (cN np nr ns no) Q X (d + 1) (some 0) (some i) x2 (nI k) T' := fun d => by
    induction d with
    | zero =>
      intro k T' x2 hk ex e1 e2 e3 e4 e5
      have : k = 4 := by omega
      subst this
      refine ifp (nI_le (a := 4) (b := 4) (by omega) (by omega)) ?_
      refine ug1 (u21 (i := 4) (by decide) (ug1 ?_))
      have e43 : T'.1 43 = nI m := by rw [e1]; exact h.1
      rw [e43]
      refine u20 (by decide) hm (ug1 (ug1 (ug1 ?_)))
      show u_a _ _ 17 10 (T'.1 43) (fun _ j => m_sA _ 47 j (T'.1 43)) _
      rw [e43]
      refine u17 hm (ug1 (ug1 ?_))
      show Q (m_sI (m_sA (m_sJ T' (50 + 4) m x2) 47 m (nI m)) 43 (T'.1 43 + 1))
      rw [e43, nI_1]
      refine hq _ ⟨rfl, ?_, fun i' hi' => ?_, fun j hj => ?_, fun i' j hi' hj => ?_⟩ ?_
      · show (m_sJ T' (50 + 4) m x2).2.2 44 0 = _
        rw [sJ_n (by decide), e3 44 (by decide)]
        exact h.2.1
      · show (m_sA (m_sJ T' (50 + 4) m x2) 47 m (nI m)).2.1 46 i' = _
        rw [sA_n (by decide)]
        show T'.2.1 46 i' = _
        rw [e2]
        exact h.2.2.1 i' hi'
      · show (m_sA (m_sJ T' (50 + 4) m x2) 47 m (nI m)).2.1 47 j = _
        rw [sA_at]
        by_cases z : j = m
        · rw [if_pos z, z]
        · rw [if_neg z]
          show T'.2.1 47 j = _
          rw [e2]
          exact h.2.2.2.1 j (by omega)
      · show (m_sJ T' (50 + 4) m x2).2.2 (50 + i') j = _
        by_cases z : i' = 4
        · subst z
          rw [sJ_at]
          by_cases z2 : j = m
          · rw [if_pos z2, ex, z2, sm4]
            rfl
          · rw [if_neg z2]
            exact e4 4 j (by omega) (by omega)
        · rw [sJ_n (by omega)]
          by_cases z2 : j = m
          · rw [z2, e5 i' (by omega)]
            unfold row0
            rw [if_pos (by omega)]
          · exact e4 i' j (by omega) (by omega)
      · refine hfr.tr (T1 := T') (fun k' hk' => ⟨by rw [e1], by rw [e2], e3 k' (by omega)⟩) ?_
        exact ((hfr.sJ (by decide)).tr (hfr.sA (by decide))).tr (hfr.sI (by decide))
    | succ d ih =>
      intro k T' x2 hk ex e1 e2 e3 e4 e5
      refine ifn (nI_ge (a := k) (b := 4) (by omega) (by omega)) ⟨i, rfl, hi, ?_⟩
      refine ugi (c := cN np nr ns no) (k := 4) hi (uai (c := cN np nr ns no) (k := 12) hi (show k < 4 by omega) (by decide) (ugi (c := cN np nr ns no) (k := 4) hi (uai (c := cN np nr ns no) (k := 11) hi (show k < 4 by omega) (by decide) ?_)))
      refine ug1 (u21 (show k < 5 by omega) (ug1 ?_))
      have e43 : T'.1 43 = nI m := by rw [e1]; exact h.1
      rw [e43, e2]
      refine u20 (show k < 5 by omega) hm ?_
      have es : (T.2.1 8 (4 * i + k) - T.2.1 7 (4 * i + k)).toInt64 = lI (v m k) := by
        rw [i2lI, (sub9 (hL _).2 (hL _).1).1, hv k (by omega)]
        rfl
      rw [es, nI_1, ex, lI_add]
      refine ih (k + 1) _ _ (by omega) rfl e1 e2 (fun k' hk' => (sJ_n (by omega)).trans (e3 k' hk')) (fun i' j hi' hj => ?_) (fun i' hi' => ?_)
      · by_cases z : i' = k
        · rw [z, sJ_at, if_neg (by omega), ← z]
          exact e4 i' j hi' hj
        · rw [sJ_n (by omega)]
          exact e4 i' j hi' hj
      · by_cases z : i' = k
        · rw [z, sJ_at, if_pos rfl]
        · rw [sJ_n (by omega)]
          exact e5 i' (by omega)
  exact ⟨5, main 4 0 T 0 (by omega) rfl rfl rfl (fun _ _ => rfl) h.2.2.2.2 (fun i' h => by omega)⟩
/-- what the class answers -/
theorem c_gains {Q : Int32 → mT → Prop} (hnr : nr ≤ 10) (hL : ∀ j, bt (T.2.1 7 j) 0 9 ∧ bt (T.2.1 8 j) 0 9) (hq0 : ∀ T', hfr T T' → (¬ ∃ x, Gain (vR T.2.1 nr) (fl (nsr T.2.1) nr).length x) → Q 0 T') (hq1 : ∀ T', hfr T T' → mdl (vR T.2.1 nr) (fl (nsr T.2.1) nr).length → Q 1 T') : uX7_gains (cN np nr ns no) 0 T Q X := by
  refine ug8 (u1 (beg (v := vR T.2.1 nr) fun T0 hT0 hF0 => ?_))
  have hv : ∀ r k, (vR T.2.1 nr r k).natAbs ≤ 9 := fun r k => (sub9 (hL _).2 (hL _).1).2
  have main : ∀ d i T', i + d = nr → Hm (vR T.2.1 nr) (fl (nsr T.2.1) i).length T' → hfr T T' → uX7_gains_L9 (cN np nr ns no) Q X (d + 1) (some 0) (nI i) T' := fun d => by
    induction d with
    | zero =>
      intro i T' hi hH hF
      have : i = nr := by omega
      subst this
      refine ug8 ⟨1, rfl, by decide, ifp (nI_le (Nat.le_refl i) (by omega)) ?_⟩
      have hm := fl_le (nsr T.2.1) i
      refine ug8 (u1 (finds (v := vR T.2.1 i) (m := (fl (nsr T.2.1) i).length) (by omega) hv (hH.toHt (by omega)) (fun T2 h1 h2 => ⟨Or.inl rfl, hq0 T2 (hF.tr h1) h2⟩) (fun T2 h1 h2 => ⟨Or.inr rfl, hq1 T2 (hF.tr h1) h2⟩)))
    | succ d ih =>
      intro i T' hi hH hF
      refine ug8 ⟨1, rfl, by decide, ifn (nI_ge (b := nr) (show i < nr by omega) (by omega)) ?_⟩
      refine ug8 ⟨1, i, rfl, by decide, rfl, rfl, (show i < nr by omega), ugi (c := cN np nr ns no) (k := 4) (show i < nr by omega) ?_⟩
      have e9 : T'.2.1 9 i = T.2.1 9 i := by rw [(hF 9 (by decide)).2.1]
      rw [e9]
      refine ⟨fun h => ?_, fun h => ?_⟩
      · show uX7_gains_L9 _ _ _ (d + 1) (some 0) (nI i + 1) T'
        rw [nI_1]
        refine ih (i + 1) T' (by omega) ?_ hF
        have : fl (nsr T.2.1) (i + 1) = fl (nsr T.2.1) i := if_neg (fun z => h (by simpa [nsr] using z))
        rw [this]
        exact hH
      · have hP : nsr T.2.1 i = true := by simp [nsr, h]
        have hm := fl_le (nsr T.2.1) i
        refine ug8 (u1 (ent (v := vR T.2.1 nr) (m := (fl (nsr T.2.1) i).length) (i := i) (by omega) (by omega) (fun j => ?_) (fun k _ => ?_) hH (fun T2 h2 hF2 => ?_)))
        · rw [(hF 7 (by decide)).2.1, (hF 8 (by decide)).2.1]
          exact hL j
        · unfold vR rho Lv
          rw [fl_at hP (by omega), (hF 7 (by decide)).2.1, (hF 8 (by decide)).2.1]
        · show uX7_gains_L9 _ _ _ (d + 1) (some 0) (nI i + 1) T2
          rw [nI_1]
          refine ih (i + 1) T2 (by omega) ?_ (hF.tr hF2)
          have : fl (nsr T.2.1) (i + 1) = fl (nsr T.2.1) i ++ [i] := if_pos hP
          rw [this, List.length_append]
          exact h2
  exact ⟨nr + 1, main nr 0 T0 (by omega) hT0 hF0⟩
end CH3
