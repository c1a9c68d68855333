/-! give, lend. -/
section GI
variable {n np nr ns no : Nat} {T : mT}
theorem IV.go (hI : IV n T np nr ns no) (hn : n ≤ 600) {h : Nat → Int32} {s : Nat} {p day : Int32} (hp : rv p np) : IV (n + 1) (goT h s p day T ns) np nr ns no := by
  have hb : (100 * n : Int) ≤ 1000000000 := by omega
  obtain ⟨a1, a2, a3, a4, a5, a6⟩ := goT_f (h := h) (s := s) (p := p) (day := day) hb (fun i hi => (hI.2.2.2.2.1.1 i hi).2.2.2.2.2.2.2.1) ns (Nat.le_refl _)
  refine IV.S hI (fun k _ _ _ => by rw [a1]) (by rw [a1]; exact hI.up.2.1) (fun k q1 q2 => a3 k (by omega) (by omega) (by omega) (by omega)) ?_
  rw [a1]
  exact ivB.mono (ivB_go (h := h) (s := s) (day := day) (ivS_B.mp hI.2.2.2.2.1) hb hp) (by omega)
theorem rv_p {p : Nat} (h : p < np) : rv (nI p) np := Or.inr ⟨p, h, rfl⟩
theorem rf_p {v : Int32} {p : Nat} (hv : rv v np) (hnp : np ≤ 10) (hp : p < np) : rf v = some p ↔ v = nI p := by
  rw [← rf_n (show p < 2000 by omega)]
  exact rf_inj hv (rv_p hp) (by omega)
theorem fr_rf {v : Int32} {m : Nat} (h : rv v m) (hm : m ≤ 200) : fr (rf v) = v := by
  rcases h with rfl | ⟨j, hj, rfl⟩
  · rw [rf_m]; rfl
  · rw [rf_n (by omega)]; rfl
theorem sim_give (hI : IV n T np nr ns no) (hn : n ≤ 600) (s p : Int32) : uX7_give (cN np nr ns no) 0 s p T (fun v T1 => tX8_give s p T (fun b T2 => OK n np nr ns no 0 v.toInt64 b.toInt64 T1 T2)) (fun E T1 => E = IOB ∧ tX8_give s p T (fun _ T2 => OK n np nr ns no 1 0 0 T1 T2)) := by
  have hs := hI.1.2.2.1
  have hnp := hI.1.1
  have hb : (100 * n : Int) ≤ 1000000000 := by omega
  have hB := ivS_B.mp hI.2.2.2.2.1
  rcases okc s (show ns ≤ 200 by omega) with ⟨i, hi, rfl⟩ | hno
  · refine ug8 (u7 (u_th hi (by omega) (u8 ?_)))
    rcases okc p (show np ≤ 200 by omega) with ⟨j, hj, rfl⟩ | hno
    · have r19 := (hI.2.2.2.2.1.1 i hi).2.2.2.2.1
      have pre : ∀ Q : Int32 → mT → Prop, (MG T.2.1 ns i → ¬ T.2.1 19 i = nI j → Q 1 (m_sI (goT (T.2.1 18) i (nI j) (T.1 1) T ns) 0 0)) → (¬ (MG T.2.1 ns i ∧ ¬ T.2.1 19 i = nI j) → Q 0 (m_sI T 0 0)) → tX8_give (nI i) (nI j) T Q := fun Q q1 q0 => by
        refine m_si (n := ns) hs.1 (by omega) hi (ifp' rfl (m_pl (n := np) hnp.1 (by omega) hj (ifp rfl (m_ti0 (ifp' rfl (m_may (T := m_sI T 0 0) hs.2 hs.1 hi hI.sh fun b hbb => ⟨fun z => ⟨Or.inl rfl, q0 fun q => bp0 hbb z q.1⟩, fun z => m_ld (show i < 40 by omega) ⟨fun z2 => m_goes (T := m_sI T 0 0) (today := T.1 1) hs.2 hs.1 hi hB hb ⟨Or.inr rfl, ?_⟩, fun z2 => ⟨Or.inl rfl, q0 fun q => q.2 z2⟩⟩⟩))))))
        rw [goT_sI]
        exact q1 (bp1 hbb z) z2
      refine u_pl hj (by omega) (ugi (c := cN np nr ns no) (k := 6) hi ⟨rv_vo r19 (by omega) rfl, fun q e => by injection e with e; subst e; exact hj, ?_⟩)
      rw [rf_p r19 hnp.2 hj]
      refine ⟨fun z => ⟨Or.inl rfl, pre _ (fun _ q => absurd z q) fun _ => OK.same hI rfl⟩, fun z => ug8 (u7 (c_may hs.2 hi hI.sh (fun k hk => hI.le hk) fun b hbb => ⟨fun z2 => ug8 (ug8 (u7 (c_goes (today := T.1 1) hs.2 hi hj hB hb ⟨Or.inr rfl, pre _ (fun _ _ => OK.of (hI.go hn (rv_p hj))) fun q => absurd ⟨bp1 hbb z2, z⟩ q⟩))), fun z2 => ⟨Or.inl rfl, pre _ (fun q _ => absurd q (bp0 hbb z2)) fun _ => OK.same hI rfl⟩⟩))⟩
    · exact u_pl_no hno (by omega) ⟨rfl, m_si (n := ns) hs.1 (by omega) hi (ifp' rfl (m_pl_no (n := np) hnp.1 (by omega) hno (ifn one0 (m_ti1 (ifn' one0 ⟨Or.inl rfl, OK.bad hI one0⟩)))))⟩
  · exact ug8 (u7 (u_th_no hno (by omega) ⟨rfl, m_si_no (n := ns) hs.1 (by omega) hno (ifn' one0 (m_ti1 (ifn' one0 ⟨Or.inl rfl, OK.bad hI one0⟩)))⟩))
theorem IV.lend (hI : IV n T np nr ns no) {i : Nat} (hi : i < ns) {d : Int32} (h19 : ¬ T.2.1 19 i < 0) (hd : T.1 1 < d) : IV n (m_sA (m_sA T 21 i (T.2.1 19 i)) 20 i d) np nr ns no := by
  obtain ⟨w1, w2, w3, w4, w5, w6⟩ := hI
  refine ⟨w1, w2, w3, w4, ⟨fun k hk => ?_, w5.2⟩, w6⟩
  obtain ⟨a1, a2, a3, a4, a5, a6, a7, a8, a9⟩ := w5.1 k hk
  refine ⟨a1, a2, a3, a4, a5, upd_c (P := fun x => rv x np) (w5.1 i hi).2.2.2.2.1 a6, ?_, a8, a9⟩
  show (upd (T.2.1 20) i d k = -1 ∧ upd (T.2.1 21) i (T.2.1 19 i) k = -1) ∨ (T.1 1 < upd (T.2.1 20) i d k ∧ upd (T.2.1 21) i (T.2.1 19 i) k ≠ -1)
  by_cases e : k = i
  · subst e
    rw [upd_eq, upd_eq]
    exact Or.inr ⟨hd, fun q => h19 (by rw [q]; decide)⟩
  · rw [upd_ne e, upd_ne e]
    exact a7
theorem sim_lend (hI : IV n T np nr ns no) (hn : n ≤ 600) (s p d : Int32) : uX7_lend (cN np nr ns no) 0 s p d T (fun v T1 => tX8_lend s p d T (fun b T2 => OK n np nr ns no 0 v.toInt64 b.toInt64 T1 T2)) (fun E T1 => E = IOB ∧ tX8_lend s p d T (fun _ T2 => OK n np nr ns no 1 0 0 T1 T2)) := by
  have hs := hI.1.2.2.1
  have hnp := hI.1.1
  have hb : (100 * n : Int) ≤ 1000000000 := by omega
  rcases okc s (show ns ≤ 200 by omega) with ⟨i, hi, rfl⟩ | hno
  · refine ug8 (u7 (u_th hi (by omega) (u8 ?_)))
    rcases okc p (show np ≤ 200 by omega) with ⟨j, hj, rfl⟩ | hno
    · have r19 := (hI.2.2.2.2.1.1 i hi).2.2.2.2.1
      have pre : ∀ Q : Int32 → mT → Prop, (MG T.2.1 ns i → ¬ T.2.1 19 i = nI j → T.1 1 < d → Q 1 (m_sI (goT (T.2.1 18) i (nI j) (T.1 1) (m_sA (m_sA T 21 i (T.2.1 19 i)) 20 i d) ns) 0 0)) → (¬ (MG T.2.1 ns i ∧ ¬ T.2.1 19 i = nI j ∧ T.1 1 < d) → Q 0 (m_sI T 0 0)) → tX8_lend (nI i) (nI j) d T Q := fun Q q1 q0 => by
        refine m_si (n := ns) hs.1 (by omega) hi (ifp' rfl (m_pl (n := np) hnp.1 (by omega) hj (ifp rfl (m_ti0 (ifp' rfl (m_may (T := m_sI T 0 0) hs.2 hs.1 hi hI.sh fun b hbb => ⟨fun z => ⟨Or.inl rfl, q0 fun q => bp0 hbb z q.1⟩, fun z => m_ld (show i < 40 by omega) ⟨fun z2 => ⟨Or.inl rfl, q0 fun q => q.2.1 z2⟩, fun z2 => ⟨fun z3 => m_ld (show i < 40 by omega) (m_st (show i < 40 by omega) (m_st (show i < 40 by omega) ?_)), fun z3 => ⟨Or.inl rfl, q0 fun q => z3 q.2.2⟩⟩⟩⟩))))))
        have hB := ivS_B.mp (hI.lend hi (bp1 hbb z).1 z3).2.2.2.2.1
        refine m_goes (T := m_sI (m_sA (m_sA T 21 i (T.2.1 19 i)) 20 i d) 0 0) (today := T.1 1) hs.2 hs.1 hi hB hb ⟨Or.inr rfl, ?_⟩
        rw [goT_sI]
        exact q1 (bp1 hbb z) z2 z3
      refine u_pl hj (by omega) (ug8 ⟨fun z => ⟨Or.inl rfl, pre _ (fun _ _ q => absurd q (Int32.not_lt.mpr z)) fun _ => OK.same hI rfl⟩, fun z3 => ugi (c := cN np nr ns no) (k := 6) hi ⟨rv_vo r19 (by omega) rfl, fun q e => by injection e with e; subst e; exact hj, ?_⟩⟩)
      have z3 := Int32.not_le.mp z3
      rw [rf_p r19 hnp.2 hj]
      refine ⟨fun z => ⟨Or.inl rfl, pre _ (fun _ q => absurd z q) fun _ => OK.same hI rfl⟩, fun z => ug8 (u7 (c_may hs.2 hi hI.sh (fun k hk => hI.le hk) fun b hbb => ⟨fun z2 => ugi (c := cN np nr ns no) (k := 6) hi ⟨rv_vo r19 (by omega) rfl, ugi (c := cN np nr ns no) (k := 6) hi ?_⟩, fun z2 => ⟨Or.inl rfl, pre _ (fun q _ _ => absurd q (bp0 hbb z2)) fun _ => OK.same hI rfl⟩⟩))⟩
      rw [fr_rf r19 (by omega)]
      have hIl := hI.lend hi (bp1 hbb z2).1 z3
      refine ugi (c := cN np nr ns no) (k := 6) hi (ug8 (ug8 (u7 (c_goes (T := m_sA (m_sA T 21 i (T.2.1 19 i)) 20 i d) (today := T.1 1) hs.2 hi hj (ivS_B.mp hIl.2.2.2.2.1) hb ⟨Or.inr rfl, pre _ (fun _ _ _ => OK.of (hIl.go hn (rv_p hj))) fun q => absurd ⟨bp1 hbb z2, z, z3⟩ q⟩))))
    · exact u_pl_no hno (by omega) ⟨rfl, m_si (n := ns) hs.1 (by omega) hi (ifp' rfl (m_pl_no (n := np) hnp.1 (by omega) hno (ifn one0 (m_ti1 (ifn' one0 ⟨Or.inl rfl, OK.bad hI one0⟩)))))⟩
  · exact ug8 (u7 (u_th_no hno (by omega) ⟨rfl, m_si_no (n := ns) hs.1 (by omega) hno (ifn' one0 (m_ti1 (ifn' one0 ⟨Or.inl rfl, OK.bad hI one0⟩)))⟩))
end GI
