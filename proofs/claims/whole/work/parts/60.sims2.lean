/-! take, look, count, put, wear. -/
section CT
variable {np nr ns no : Nat} {T : mT} {X : String → mT → Prop} {Q : Int32 → mT → Prop}
theorem c_right {s : Nat} (hns : ns ≤ 40) (hs : s < ns) (hS : SH (T.2.1 18) ns) (h : Q (nI (cp (fun i => T.2.1 18 i = nI s) ns)) T) : uX6_rightWithin (cN np nr ns no) 0 (some s) T Q X := by
  have main : ∀ d i, i + d = ns → uX6_rightWithin_L4 (cN np nr ns no) Q X (d + 1) (some 0) (some s) (nI (cp (fun i => T.2.1 18 i = nI s) i)) (nI i) T := fun d => by
    induction d with
    | zero =>
      intro i hi
      have : i = ns := by omega
      subst this
      exact ug7 ⟨3, rfl, by decide, ifp (nI_le (b := i) (Nat.le_refl _) (by omega)) h⟩
    | succ d ih =>
      intro i hi
      have i1 : i < ns := by omega
      refine ug7 ⟨3, rfl, by decide, ifn (nI_ge (b := ns) i1 (by omega)) (ug7 ⟨3, i, rfl, by decide, rfl, rfl, i1, ugi (c := cN np nr ns no) (k := 6) i1 ⟨rv_vo (hS i i1).1 (by omega) rfl, fun k q => by injection q with q; subst q; exact hs, fun z => ?_, fun z => ?_⟩⟩)⟩
      · show uX6_rightWithin_L4 _ _ _ (d + 1) (some 0) _ _ (nI i + 1) T
        rw [nI_1, c_n' (P := fun i => T.2.1 18 i = nI s) (fun q => z (by rw [q, rf_n (by omega)]))]
        exact ih (i + 1) (by omega)
      · show uX6_rightWithin_L4 _ _ _ (d + 1) (some 0) _ _ (nI i + 1) T
        have e : T.2.1 18 i = nI s := by
          rcases (hS i i1).1 with q | ⟨j, hj, q⟩
          · rw [q, rf_m] at z
            exact absurd z (by simp)
          · rw [q, rf_n (by omega)] at z
            injection z with z
            rw [q, z]
        rw [c_y (P := fun i => T.2.1 18 i = nI s) e, nI_1]
        exact ih (i + 1) (by omega)
  exact ⟨ns + 1, main ns 0 (by omega)⟩
theorem m_right {s : Nat} (hns : ns ≤ 40) (h25 : T.1 25 = nI ns) (h : Q (nI (cp (fun i => T.2.1 18 i = nI s) ns)) T) : tX8_right (nI s) T Q := by
  have main : ∀ d i, i + d = ns → tX8_right_L4 Q (d + 1) (nI s) (nI (cp (fun i => T.2.1 18 i = nI s) i)) (nI i) T := fun d => by
    induction d with
    | zero =>
      intro i hi
      have : i = ns := by omega
      subst this
      show (T.1 25 ≤ nI i → _) ∧ (¬ T.1 25 ≤ nI i → _)
      rw [h25]
      exact ifp (nI_le (Nat.le_refl _) (by omega)) h
    | succ d ih =>
      intro i hi
      have i1 : i < ns := by omega
      show (T.1 25 ≤ nI i → _) ∧ (¬ T.1 25 ≤ nI i → _)
      rw [h25]
      refine ifn (nI_ge i1 (by omega)) (m_ld (show i < 40 by omega) ⟨fun z => ?_, fun z => ?_⟩)
      · show tX8_right_L4 Q (d + 1) _ (_ + 0) (nI i + 1) T
        rw [nI_1, c_n (P := fun i => T.2.1 18 i = nI s) z]
        exact ih (i + 1) (by omega)
      · show tX8_right_L4 Q (d + 1) _ (_ + 1) (nI i + 1) T
        rw [c_y (P := fun i => T.2.1 18 i = nI s) z, nI_1]
        exact ih (i + 1) (by omega)
  exact ⟨ns + 1, main ns 0 (by omega)⟩
theorem c_all {s : Nat} (hns : ns ≤ 40) (hs : s < ns) (hS : SH (T.2.1 18) ns) (h : Q (nI (cp (fun i => wi (T.2.1 18) i s) ns)) T) : uX6_allWithin (cN np nr ns no) 0 (some s) T Q X := by
  have main : ∀ d i, i + d = ns → uX6_allWithin_L4 (cN np nr ns no) Q X (d + 1) (some 0) (some s) (nI (cp (fun i => wi (T.2.1 18) i s) i)) (nI i) T := fun d => by
    induction d with
    | zero =>
      intro i hi
      have : i = ns := by omega
      subst this
      exact ug7 ⟨3, rfl, by decide, ifp (nI_le (b := i) (Nat.le_refl _) (by omega)) h⟩
    | succ d ih =>
      intro i hi
      have i1 : i < ns := by omega
      refine ug7 ⟨3, rfl, by decide, ifn (nI_ge (b := ns) i1 (by omega)) (ug7 ⟨3, i, rfl, by decide, rfl, rfl, i1, i, rfl, i1, c_lies hns i1 hs hS fun b hb => ⟨fun z => ?_, fun z => ?_⟩⟩)⟩
      · show uX6_allWithin_L4 _ _ _ (d + 1) (some 0) _ _ (nI i + 1) T
        rw [nI_1, c_n' (P := fun i => wi (T.2.1 18) i s) (bp0 hb z)]
        exact ih (i + 1) (by omega)
      · show uX6_allWithin_L4 _ _ _ (d + 1) (some 0) _ _ (nI i + 1) T
        rw [c_y (P := fun i => wi (T.2.1 18) i s) (bp1 hb z), nI_1]
        exact ih (i + 1) (by omega)
  exact ⟨ns + 1, main ns 0 (by omega)⟩
theorem m_all {s : Nat} (hns : ns ≤ 40) (hs : s < 40) (h25 : T.1 25 = nI ns) (hS : SH (T.2.1 18) ns) (h : Q (nI (cp (fun i => wi (T.2.1 18) i s) ns)) T) : ∃ n, tX8_look_L104 Q n (nI s) 0 0 T := by
  have main : ∀ d i, i + d = ns → tX8_look_L104 Q (d + 1) (nI s) (nI (cp (fun i => wi (T.2.1 18) i s) i)) (nI i) T := fun d => by
    induction d with
    | zero =>
      intro i hi
      have : i = ns := by omega
      subst this
      show (T.1 25 ≤ nI i → _) ∧ (¬ T.1 25 ≤ nI i → _)
      rw [h25]
      exact ifp (nI_le (Nat.le_refl _) (by omega)) h
    | succ d ih =>
      intro i hi
      have i1 : i < ns := by omega
      show (T.1 25 ≤ nI i → _) ∧ (¬ T.1 25 ≤ nI i → _)
      rw [h25]
      refine ifn (nI_ge i1 (by omega)) (m_with hns i1 hs hS fun b hb => ⟨fun z => ?_, fun z => ?_⟩)
      · show tX8_look_L104 Q (d + 1) _ (_ + 0) (nI i + 1) T
        rw [nI_1, c_n (P := fun i => wi (T.2.1 18) i s) (bp0 hb z)]
        exact ih (i + 1) (by omega)
      · show tX8_look_L104 Q (d + 1) _ (_ + 1) (nI i + 1) T
        rw [c_y (P := fun i => wi (T.2.1 18) i s) (bp1 hb z), nI_1]
        exact ih (i + 1) (by omega)
  exact ⟨ns + 1, main ns 0 (by omega)⟩
theorem c_cbr (hns : ns ≤ 40) (h : Q (nI (cp (fun i => T.2.1 19 i < 0) ns)) T) : uX6_countBroken (cN np nr ns no) 0 T Q X := by
  have main : ∀ d i, i + d = ns → uX6_countBroken_L4 (cN np nr ns no) Q X (d + 1) (some 0) (nI (cp (fun i => T.2.1 19 i < 0) i)) (nI i) T := fun d => by
    induction d with
    | zero =>
      intro i hi
      have : i = ns := by omega
      subst this
      exact ug7 ⟨3, rfl, by decide, ifp (nI_le (b := i) (Nat.le_refl _) (by omega)) h⟩
    | succ d ih =>
      intro i hi
      have i1 : i < ns := by omega
      refine ug7 ⟨3, rfl, by decide, ifn (nI_ge (b := ns) i1 (by omega)) (ug7 ⟨3, i, rfl, by decide, rfl, rfl, i1, i, rfl, i1, c_brk i1 fun b hb => ⟨fun z => ?_, fun z => ?_⟩⟩)⟩
      · show uX6_countBroken_L4 _ _ _ (d + 1) (some 0) _ (nI i + 1) T
        rw [nI_1, c_n' (P := fun i => T.2.1 19 i < 0) (bp0 hb z)]
        exact ih (i + 1) (by omega)
      · show uX6_countBroken_L4 _ _ _ (d + 1) (some 0) _ (nI i + 1) T
        rw [c_y (P := fun i => T.2.1 19 i < 0) (bp1 hb z), nI_1]
        exact ih (i + 1) (by omega)
  exact ⟨ns + 1, main ns 0 (by omega)⟩
theorem m_cbr (hns : ns ≤ 40) (h25 : T.1 25 = nI ns) (h : Q (nI (cp (fun i => T.2.1 19 i < 0) ns)) T) : ∃ n, tX8_count_L82 Q n 0 0 T := by
  have main : ∀ d i, i + d = ns → tX8_count_L82 Q (d + 1) (nI (cp (fun i => T.2.1 19 i < 0) i)) (nI i) T := fun d => by
    induction d with
    | zero =>
      intro i hi
      have : i = ns := by omega
      subst this
      show (T.1 25 ≤ nI i → _) ∧ (¬ T.1 25 ≤ nI i → _)
      rw [h25]
      exact ifp (nI_le (Nat.le_refl _) (by omega)) h
    | succ d ih =>
      intro i hi
      have i1 : i < ns := by omega
      show (T.1 25 ≤ nI i → _) ∧ (¬ T.1 25 ≤ nI i → _)
      rw [h25]
      refine ifn (nI_ge i1 (by omega)) (m_brk (by omega) fun b hb => ⟨fun z => ?_, fun z => ?_⟩)
      · show tX8_count_L82 Q (d + 1) (_ + 0) (nI i + 1) T
        rw [nI_1, c_n (P := fun i => T.2.1 19 i < 0) (bp0 hb z)]
        exact ih (i + 1) (by omega)
      · show tX8_count_L82 Q (d + 1) (_ + 1) (nI i + 1) T
        rw [c_y (P := fun i => T.2.1 19 i < 0) (bp1 hb z), nI_1]
        exact ih (i + 1) (by omega)
  exact ⟨ns + 1, main ns 0 (by omega)⟩
theorem c_cle (hns : ns ≤ 40) (hl : ∀ i, i < ns → (T.2.1 21 i < 0 ↔ T.2.1 20 i < 0)) (h : Q (nI (cp (fun i => ¬ T.2.1 20 i < 0) ns)) T) : uX6_countLent (cN np nr ns no) 0 T Q X := by
  have main : ∀ d i, i + d = ns → uX6_countLent_L4 (cN np nr ns no) Q X (d + 1) (some 0) (nI (cp (fun i => ¬ T.2.1 20 i < 0) i)) (nI i) T := fun d => by
    induction d with
    | zero =>
      intro i hi
      have : i = ns := by omega
      subst this
      exact ug7 ⟨3, rfl, by decide, ifp (nI_le (b := i) (Nat.le_refl _) (by omega)) h⟩
    | succ d ih =>
      intro i hi
      have i1 : i < ns := by omega
      refine ug7 ⟨3, rfl, by decide, ifn (nI_ge (b := ns) i1 (by omega)) (ug7 ⟨3, i, rfl, by decide, rfl, rfl, i1, i, rfl, i1, c_lent i1 (hl i i1) fun b hb => ⟨fun z => ?_, fun z => ?_⟩⟩)⟩
      · show uX6_countLent_L4 _ _ _ (d + 1) (some 0) _ (nI i + 1) T
        rw [nI_1, c_n' (P := fun i => ¬ T.2.1 20 i < 0) (bp0 hb z)]
        exact ih (i + 1) (by omega)
      · show uX6_countLent_L4 _ _ _ (d + 1) (some 0) _ (nI i + 1) T
        rw [c_y (P := fun i => ¬ T.2.1 20 i < 0) (bp1 hb z), nI_1]
        exact ih (i + 1) (by omega)
  exact ⟨ns + 1, main ns 0 (by omega)⟩
theorem m_cle (hns : ns ≤ 40) (h25 : T.1 25 = nI ns) (h : Q (nI (cp (fun i => ¬ T.2.1 20 i < 0) ns)) T) : ∃ n, tX8_count_L116 Q n 0 0 T := by
  have main : ∀ d i, i + d = ns → tX8_count_L116 Q (d + 1) (nI (cp (fun i => ¬ T.2.1 20 i < 0) i)) (nI i) T := fun d => by
    induction d with
    | zero =>
      intro i hi
      have : i = ns := by omega
      subst this
      show (T.1 25 ≤ nI i → _) ∧ (¬ T.1 25 ≤ nI i → _)
      rw [h25]
      exact ifp (nI_le (Nat.le_refl _) (by omega)) h
    | succ d ih =>
      intro i hi
      have i1 : i < ns := by omega
      show (T.1 25 ≤ nI i → _) ∧ (¬ T.1 25 ≤ nI i → _)
      rw [h25]
      refine ifn (nI_ge i1 (by omega)) (m_lent (by omega) fun b hb => ⟨fun z => ?_, fun z => ?_⟩)
      · show tX8_count_L116 Q (d + 1) (_ + 0) (nI i + 1) T
        rw [nI_1, c_n (P := fun i => ¬ T.2.1 20 i < 0) (bp0 hb z)]
        exact ih (i + 1) (by omega)
      · show tX8_count_L116 Q (d + 1) (_ + 1) (nI i + 1) T
        rw [c_y (P := fun i => ¬ T.2.1 20 i < 0) (bp1 hb z), nI_1]
        exact ih (i + 1) (by omega)
  exact ⟨ns + 1, main ns 0 (by omega)⟩
theorem c_cop (hno : no ≤ 60) (h : Q (nI (cp (fun i => ¬ T.2.1 27 i = 0) no)) T) : uX7_countOpen (cN np nr ns no) 0 T Q X := by
  have main : ∀ d i, i + d = no → uX7_countOpen_L4 (cN np nr ns no) Q X (d + 1) (some 0) (nI (cp (fun i => ¬ T.2.1 27 i = 0) i)) (nI i) T := fun d => by
    induction d with
    | zero =>
      intro i hi
      have : i = no := by omega
      subst this
      exact ug8 ⟨2, rfl, by decide, ifp (nI_le (b := i) (Nat.le_refl _) (by omega)) h⟩
    | succ d ih =>
      intro i hi
      have i1 : i < no := by omega
      refine ug8 ⟨2, rfl, by decide, ifn (nI_ge (b := no) i1 (by omega)) (ug8 ⟨2, i, rfl, by decide, rfl, rfl, i1, ugi (c := cN np nr ns no) (k := 2) i1 ⟨fun z => ?_, fun z => ?_⟩⟩)⟩
      · show uX7_countOpen_L4 _ _ _ (d + 1) (some 0) _ (nI i + 1) T
        rw [nI_1, c_n' (P := fun i => ¬ T.2.1 27 i = 0) (fun q => q z)]
        exact ih (i + 1) (by omega)
      · show uX7_countOpen_L4 _ _ _ (d + 1) (some 0) _ (nI i + 1) T
        rw [c_y (P := fun i => ¬ T.2.1 27 i = 0) z, nI_1]
        exact ih (i + 1) (by omega)
  exact ⟨no + 1, main no 0 (by omega)⟩
theorem m_cop (hno : no ≤ 60) (h28 : T.1 28 = nI no) (h : Q (nI (cp (fun i => ¬ T.2.1 27 i = 0) no)) T) : ∃ n, tX8_count_L155 Q n 0 0 T := by
  have main : ∀ d i, i + d = no → tX8_count_L155 Q (d + 1) (nI (cp (fun i => ¬ T.2.1 27 i = 0) i)) (nI i) T := fun d => by
    induction d with
    | zero =>
      intro i hi
      have : i = no := by omega
      subst this
      show (T.1 28 ≤ nI i → _) ∧ (¬ T.1 28 ≤ nI i → _)
      rw [h28]
      exact ifp (nI_le (Nat.le_refl _) (by omega)) h
    | succ d ih =>
      intro i hi
      have i1 : i < no := by omega
      show (T.1 28 ≤ nI i → _) ∧ (¬ T.1 28 ≤ nI i → _)
      rw [h28]
      refine ifn (nI_ge i1 (by omega)) (m_ld (show i < 60 by omega) ⟨fun z => ?_, fun z => ?_⟩)
      · show tX8_count_L155 Q (d + 1) (_ + 0) (nI i + 1) T
        rw [nI_1, c_n (P := fun i => ¬ T.2.1 27 i = 0) (fun q => q z)]
        exact ih (i + 1) (by omega)
      · show tX8_count_L155 Q (d + 1) (_ + 1) (nI i + 1) T
        rw [c_y (P := fun i => ¬ T.2.1 27 i = 0) z, nI_1]
        exact ih (i + 1) (by omega)
  exact ⟨no + 1, main no 0 (by omega)⟩
theorem c_num {v : Int32} (h : rv v np) (hnp : np ≤ 10) (hq : Q v T) : uX7_numberOf (cN np nr ns no) (rf v) T Q X := by
  rcases h with rfl | ⟨j, hj, rfl⟩
  · rw [rf_m]
    exact ifp' rfl hq
  · rw [rf_n (by omega)]
    exact ifn' (by simp) (ugi (c := cN np nr ns no) (k := 3) hj hq)
end CT
section S2
variable {n np nr ns no : Nat} {T : mT}
theorem IV.sh (hI : IV n T np nr ns no) : SH (T.2.1 18) ns := fun i hi => ⟨(hI.2.2.2.2.1.1 i hi).2.2.2.1, (hI.2.2.2.2.1.1 i hi).2.2.2.2.2.2.2.2⟩
theorem IV.le (hI : IV n T np nr ns no) {i : Nat} (hi : i < ns) : T.2.1 21 i < 0 ↔ T.2.1 20 i < 0 := lent_iff hI.2.2.2.2.1 hI.1.1.2 hI.2.1.1 hi
theorem IV.r18 (hI : IV n T np nr ns no) {h : Nat → Int32} (hh : SH h ns) : IV n (T.1, va_up T.2.1 18 h, T.2.2) np nr ns no := by
  obtain ⟨w1, w2, w3, w4, w5, w6⟩ := hI
  refine ⟨w1, w2, w3, w4, ⟨fun i hi => ?_, w5.2⟩, w6⟩
  obtain ⟨a1, a2, a3, a4, a5, a6, a7, a8, a9⟩ := w5.1 i hi
  exact ⟨a1, a2, a3, (hh i hi).1, a5, a6, a7, a8, (hh i hi).2⟩
theorem chn_m {h h' : Nat → Int32} (e : ∀ i, h' i = h i ∨ h' i = -1) : ∀ {f k : Nat}, chn h f k → chn h' f k
  | f + 1, k, hc => by
    rcases e k with q | q
    · rcases hc with z | ⟨j, z, hj, hc⟩
      · exact Or.inl (q.trans z)
      · exact Or.inr ⟨j, q.trans z, hj, chn_m e hc⟩
    · exact Or.inl q
theorem SH.m {h h' : Nat → Int32} (hS : SH h ns) (e : ∀ i, h' i = h i ∨ h' i = -1) : SH h' ns := fun i hi => ⟨by
  rcases e i with q | q
  · rw [q]; exact (hS i hi).1
  · exact Or.inl q, by
  obtain ⟨f, hc⟩ := (hS i hi).2
  exact ⟨f, chn_m e hc⟩⟩
theorem sim_take (hI : IV n T np nr ns no) (s : Int32) : uX7_take (cN np nr ns no) 0 s T (fun v T1 => tX8_take s T (fun b T2 => OK n np nr ns no 0 v.toInt64 b.toInt64 T1 T2)) (fun E T1 => E = IOB ∧ tX8_take s T (fun _ T2 => OK n np nr ns no 1 0 0 T1 T2)) := by
  have hp := hI.1.2.2.1
  rcases okc s (show ns ≤ 200 by omega) with ⟨i, hi, rfl⟩ | hno
  · refine ug8 (u7 (u_th hi (by omega) (ugi (c := cN np nr ns no) (k := 6) hi ⟨fun z => ⟨fun i q => absurd q (by simp), ugi (c := cN np nr ns no) (k := 6) hi ⟨Or.inr rfl, ?_⟩⟩, fun z => ⟨Or.inl rfl, ?_⟩⟩)))
    · refine m_si (n := ns) hp.1 (by omega) hi (m_ti0 (ifp' rfl (m_ld (show i < 40 by omega) (ifp (Int32.not_lt.mp fun q => z (rf_none.mpr q)) (m_st (show i < 40 by omega) ⟨Or.inr rfl, ?_⟩)))))
      refine OK.of (T1 := m_sA T 18 i (-1)) (hI.up.r18 (h := upd (T.2.1 18) i (-1)) (hI.sh.m fun k => ?_))
      unfold upd
      split
      · exact Or.inr rfl
      · exact Or.inl rfl
    · exact m_si (n := ns) hp.1 (by omega) hi (m_ti0 (ifp' rfl (m_ld (show i < 40 by omega) (ifn (fun q => Int32.not_lt.mpr q (rf_none.mp z)) ⟨Or.inl rfl, OK.same hI rfl⟩))))
  · exact ug8 (u7 (u_th_no hno (by omega) ⟨rfl, m_si_no (n := ns) hp.1 (by omega) hno (m_ti1 (ifn' one0 ⟨Or.inl rfl, OK.bad hI one0⟩))⟩))
theorem lit_no {x : Int32} {a : Int32} {v : Int} (ha : a.toInt = v) (h : x.toInt ≠ v) : ¬ x = a := fun e => h (by rw [e, ha])
theorem sim_look (hI : IV n T np nr ns no) (s w : Int32) : uX7_look (cN np nr ns no) 0 s w T (fun v T1 => tX8_look s w T (fun b T2 => OK n np nr ns no 0 v.toInt64 b.toInt64 T1 T2)) (fun E T1 => (E = IOB ∧ tX8_look s w T (fun _ T2 => OK n np nr ns no 1 0 0 T1 T2)) ∨ (E = "java/util/NoSuchElementException" ∧ tX8_look s w T (fun _ T2 => OK n np nr ns no 2 0 0 T1 T2))) := by
  have hp := hI.1.2.2.1
  have hnp := hI.1.1
  rcases okc s (show ns ≤ 200 by omega) with ⟨i, hi, rfl⟩ | hno
  · obtain ⟨a1, a2, a3, a4, a5, a6, a7, a8, a9⟩ := hI.2.2.2.2.1.1 i hi
    have hi' : i < 40 := by omega
    have pre : ∀ Q : Int32 → mT → Prop, ((w = 0 → Q (T.2.1 19 i) (m_sI T 0 0)) ∧ (w = 1 → Q (T.2.1 18 i) (m_sI T 0 0)) ∧ (w = 2 → Q (T.2.1 15 i) (m_sI T 0 0)) ∧ (w = 3 → Q (nI (cp (fun k => T.2.1 18 k = nI i) ns)) (m_sI T 0 0)) ∧ (w = 4 → Q (nI (cp (fun k => wi (T.2.1 18) k i) ns)) (m_sI T 0 0)) ∧ (w = 5 → ∀ b, bp (¬ T.2.1 20 i < 0) b → Q b (m_sI T 0 0)) ∧ (w = 6 → Q (T.2.1 20 i) (m_sI T 0 0)) ∧ (w = 7 → Q (T.2.1 21 i) (m_sI T 0 0)) ∧ (w = 8 → Q (T.2.1 24 i) (m_sI T 0 0)) ∧ ((w.toInt < 0 ∨ 8 < w.toInt) → Q 0 (m_sI (m_sI T 0 0) 0 2))) → tX8_look (nI i) w T Q := fun Q ⟨q0, q1, q2, q3, q4, q5, q6, q7, q8, q9⟩ =>
      m_si (n := ns) hp.1 (by omega) hi (m_ti0 (ifp rfl ⟨fun z => m_ld hi' (q0 z), fun z => m_ld hi' (q1 z), fun z => m_ld hi' (q2 z), fun z => m_right (T := m_sI T 0 0) (by omega) hp.1 (q3 z), fun z => m_all (T := m_sI T 0 0) (by omega) hi' hp.1 hI.sh (q4 z), fun z => m_lent hi' fun b hb => ⟨fun e => by
        have := q5 z b hb
        rw [e] at this
        exact this, fun e => by
        have := q5 z b hb
        rcases bp_01 hb with e2 | e2
        · exact absurd e2 e
        · rw [e2] at this
          exact this⟩, fun z => m_ld hi' (q6 z), fun z => m_ld hi' (q7 z), fun z => m_ld hi' (q8 z), fun z => q9 z⟩))
    have ne : ∀ (a : Int32) (v : Int), a.toInt = v → w = a → w.toInt = v := fun a v e1 e2 => by rw [e2, e1]
    have lit : ∀ (a b : Int32), a ≠ b → w = a → ¬ w = b := fun a b h1 h2 h3 => h1 (h2.symm.trans h3)
    have rg : ∀ (a : Int32) (v : Int), a.toInt = v → 0 ≤ v → v ≤ 8 → w = a → ¬ (w.toInt < 0 ∨ 8 < w.toInt) := fun a v e1 e2 e3 e4 q => by
      rw [e4, e1] at q
      omega
    refine ug8 (u7 (u_th hi (by omega) ⟨fun z => ?_, fun z => ?_, fun z => ?_, fun z => ?_, fun z => ?_, fun z => ?_, fun z => ?_, fun z => ?_, fun z => ?_, fun z => ?_⟩))
    · refine ugi (c := cN np nr ns no) (k := 6) hi (c_num a5 hnp.2 (pre _ ⟨fun _ => OK.same hI rfl, ?_⟩))
      subst z
      exact ⟨fun q => absurd q (by decide), fun q => absurd q (by decide), fun q => absurd q (by decide), fun q => absurd q (by decide), fun q => absurd q (by decide), fun q => absurd q (by decide), fun q => absurd q (by decide), fun q => absurd q (by decide), fun q => absurd q (by decide)⟩
    · refine ugi (c := cN np nr ns no) (k := 6) hi ?_
      have fin : ∀ v, v = T.2.1 18 i → tX8_look (nI i) w T (fun b T2 => OK n np nr ns no 0 v.toInt64 b.toInt64 T T2) := fun v ev => by
        subst ev
        subst z
        exact pre _ ⟨fun q => absurd q (by decide), fun _ => OK.same hI rfl, fun q => absurd q (by decide), fun q => absurd q (by decide), fun q => absurd q (by decide), fun q => absurd q (by decide), fun q => absurd q (by decide), fun q => absurd q (by decide), fun q => absurd q (by decide), fun q => absurd q (by decide)⟩
      rcases a4 with e | ⟨j, hj, e⟩
      · rw [e, rf_m]
        exact ifp' rfl (fin _ e.symm)
      · rw [e, rf_n (by omega)]
        refine ifn' (by simp) (ugi (c := cN np nr ns no) (k := 6) hi ?_)
        rw [e, rf_n (by omega)]
        exact ugi (c := cN np nr ns no) (k := 6) hj (fin _ e.symm)
    · subst z
      exact ugi (c := cN np nr ns no) (k := 6) hi (pre _ ⟨fun q => absurd q (by decide), fun q => absurd q (by decide), fun _ => OK.same hI rfl, fun q => absurd q (by decide), fun q => absurd q (by decide), fun q => absurd q (by decide), fun q => absurd q (by decide), fun q => absurd q (by decide), fun q => absurd q (by decide), fun q => absurd q (by decide)⟩)
    · subst z
      exact ug8 (u7 (c_right (by omega) hi hI.sh (pre _ ⟨fun q => absurd q (by decide), fun q => absurd q (by decide), fun q => absurd q (by decide), fun _ => OK.same hI rfl, fun q => absurd q (by decide), fun q => absurd q (by decide), fun q => absurd q (by decide), fun q => absurd q (by decide), fun q => absurd q (by decide), fun q => absurd q (by decide)⟩)))
    · subst z
      exact ug8 (u7 (c_all (by omega) hi hI.sh (pre _ ⟨fun q => absurd q (by decide), fun q => absurd q (by decide), fun q => absurd q (by decide), fun q => absurd q (by decide), fun _ => OK.same hI rfl, fun q => absurd q (by decide), fun q => absurd q (by decide), fun q => absurd q (by decide), fun q => absurd q (by decide), fun q => absurd q (by decide)⟩)))
    · subst z
      refine ⟨i, rfl, hi, c_lent hi (hI.le hi) fun b hb => ?_⟩
      have fin : ∀ v, v = b → tX8_look (nI i) 5 T (fun b T2 => OK n np nr ns no 0 v.toInt64 b.toInt64 T T2) := fun v ev => by
        subst ev
        exact pre _ ⟨fun q => absurd q (by decide), fun q => absurd q (by decide), fun q => absurd q (by decide), fun q => absurd q (by decide), fun q => absurd q (by decide), fun _ b' hb' => OK.same hI (by rw [bp_u hb hb']), fun q => absurd q (by decide), fun q => absurd q (by decide), fun q => absurd q (by decide), fun q => absurd q (by decide)⟩
      exact ⟨fun e => fin 0 e.symm, fun e => fin 1 ((bp_01 hb).resolve_left e).symm⟩
    · subst z
      exact ugi (c := cN np nr ns no) (k := 6) hi (pre _ ⟨fun q => absurd q (by decide), fun q => absurd q (by decide), fun q => absurd q (by decide), fun q => absurd q (by decide), fun q => absurd q (by decide), fun q => absurd q (by decide), fun _ => OK.same hI rfl, fun q => absurd q (by decide), fun q => absurd q (by decide), fun q => absurd q (by decide)⟩)
    · subst z
      exact ugi (c := cN np nr ns no) (k := 6) hi (c_num a6 hnp.2 (pre _ ⟨fun q => absurd q (by decide), fun q => absurd q (by decide), fun q => absurd q (by decide), fun q => absurd q (by decide), fun q => absurd q (by decide), fun q => absurd q (by decide), fun q => absurd q (by decide), fun _ => OK.same hI rfl, fun q => absurd q (by decide), fun q => absurd q (by decide)⟩))
    · subst z
      exact ugi (c := cN np nr ns no) (k := 6) hi (pre _ ⟨fun q => absurd q (by decide), fun q => absurd q (by decide), fun q => absurd q (by decide), fun q => absurd q (by decide), fun q => absurd q (by decide), fun q => absurd q (by decide), fun q => absurd q (by decide), fun q => absurd q (by decide), fun _ => OK.same hI rfl, fun q => absurd q (by decide)⟩)
    · have no : ∀ (a : Int32) (v : Int), a.toInt = v → 0 ≤ v → v ≤ 8 → w = a → False := fun a v e1 e2 e3 e4 => rg a v e1 e2 e3 e4 z
      exact Or.inr ⟨rfl, pre _ ⟨fun q => (no 0 0 rfl (by decide) (by decide) q).elim, fun q => (no 1 1 rfl (by decide) (by decide) q).elim, fun q => (no 2 2 rfl (by decide) (by decide) q).elim, fun q => (no 3 3 rfl (by decide) (by decide) q).elim, fun q => (no 4 4 rfl (by decide) (by decide) q).elim, fun q => (no 5 5 rfl (by decide) (by decide) q).elim, fun q => (no 6 6 rfl (by decide) (by decide) q).elim, fun q => (no 7 7 rfl (by decide) (by decide) q).elim, fun q => (no 8 8 rfl (by decide) (by decide) q).elim, fun _ => OK.bad hI (by decide)⟩⟩
  · exact ug8 (u7 (u_th_no hno (by omega) (Or.inl ⟨rfl, m_si_no (n := ns) hp.1 (by omega) hno (m_ti1 (ifn one0 (OK.bad hI one0)))⟩)))
end S2
