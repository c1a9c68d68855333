/-! count, put, wear. -/
section S3
variable {n np nr ns no : Nat} {T : mT}
theorem sim_count (hI : IV n T np nr ns no) (w : Int32) {X : String → mT → Prop} : uX7_count (cN np nr ns no) 0 w T (fun v T1 => tX8_count w T (fun b T2 => v = b ∧ OK n np nr ns no 0 0 0 T1 T2)) X := by
  have h5 := hI.1.1
  have h12 := hI.1.2.1
  have h25 := hI.1.2.2.1
  have h28 := hI.1.2.2.2
  have pre : ∀ Q : Int32 → mT → Prop, ((w = 0 → Q (T.1 1) (m_sI T 0 0)) ∧ (w = 1 → Q (nI np) (m_sI T 0 0)) ∧ (w = 2 → Q (nI nr) (m_sI T 0 0)) ∧ (w = 3 → Q (nI ns) (m_sI T 0 0)) ∧ (w = 4 → Q (nI (cp (fun i => T.2.1 19 i < 0) ns)) (m_sI T 0 0)) ∧ (w = 5 → Q (nI (cp (fun i => ¬ T.2.1 20 i < 0) ns)) (m_sI T 0 0)) ∧ (w = 6 → Q (nI no) (m_sI T 0 0)) ∧ (w = 7 → Q (nI (cp (fun i => ¬ T.2.1 27 i = 0) no)) (m_sI T 0 0)) ∧ (w = 8 → Q (T.1 6) (m_sI T 0 0)) ∧ ((w.toInt < 0 ∨ 8 < w.toInt) → Q (-1) (m_sI T 0 0))) → tX8_count w T Q := fun Q ⟨q0, q1, q2, q3, q4, q5, q6, q7, q8, q9⟩ =>
    ⟨q0, fun z => by show Q (T.1 5) _; rw [h5.1]; exact q1 z, fun z => by show Q (T.1 12) _; rw [h12.1]; exact q2 z, fun z => by show Q (T.1 25) _; rw [h25.1]; exact q3 z, fun z => m_cbr (T := m_sI T 0 0) h25.2 h25.1 (q4 z), fun z => m_cle (T := m_sI T 0 0) h25.2 h25.1 (q5 z), fun z => by show Q (T.1 28) _; rw [h28.1]; exact q6 z, fun z => m_cop (T := m_sI T 0 0) h28.2 h28.1 (q7 z), q8, q9⟩
  refine ⟨fun z => ?_, fun z => ?_, fun z => ?_, fun z => ?_, fun z => ?_, fun z => ?_, fun z => ?_, fun z => ?_, fun z => ?_, fun z => ?_⟩
  · subst z
    exact ug8 (pre _ ⟨fun _ => ⟨rfl, OK.same hI rfl⟩, fun q => absurd q (by decide), fun q => absurd q (by decide), fun q => absurd q (by decide), fun q => absurd q (by decide), fun q => absurd q (by decide), fun q => absurd q (by decide), fun q => absurd q (by decide), fun q => absurd q (by decide), fun q => absurd q (by decide)⟩)
  · subst z
    exact ug8 ⟨0, rfl, by decide, pre _ ⟨fun q => absurd q (by decide), fun _ => ⟨rfl, OK.same hI rfl⟩, fun q => absurd q (by decide), fun q => absurd q (by decide), fun q => absurd q (by decide), fun q => absurd q (by decide), fun q => absurd q (by decide), fun q => absurd q (by decide), fun q => absurd q (by decide), fun q => absurd q (by decide)⟩⟩
  · subst z
    exact ug8 ⟨1, rfl, by decide, pre _ ⟨fun q => absurd q (by decide), fun q => absurd q (by decide), fun _ => ⟨rfl, OK.same hI rfl⟩, fun q => absurd q (by decide), fun q => absurd q (by decide), fun q => absurd q (by decide), fun q => absurd q (by decide), fun q => absurd q (by decide), fun q => absurd q (by decide), fun q => absurd q (by decide)⟩⟩
  · subst z
    exact ug8 (u7 (ug7 ⟨3, rfl, by decide, pre _ ⟨fun q => absurd q (by decide), fun q => absurd q (by decide), fun q => absurd q (by decide), fun _ => ⟨rfl, OK.same hI rfl⟩, fun q => absurd q (by decide), fun q => absurd q (by decide), fun q => absurd q (by decide), fun q => absurd q (by decide), fun q => absurd q (by decide), fun q => absurd q (by decide)⟩⟩))
  · subst z
    exact ug8 (u7 (c_cbr h25.2 (pre _ ⟨fun q => absurd q (by decide), fun q => absurd q (by decide), fun q => absurd q (by decide), fun q => absurd q (by decide), fun _ => ⟨rfl, OK.same hI rfl⟩, fun q => absurd q (by decide), fun q => absurd q (by decide), fun q => absurd q (by decide), fun q => absurd q (by decide), fun q => absurd q (by decide)⟩)))
  · subst z
    exact ug8 (u7 (c_cle h25.2 (fun i hi => hI.le hi) (pre _ ⟨fun q => absurd q (by decide), fun q => absurd q (by decide), fun q => absurd q (by decide), fun q => absurd q (by decide), fun q => absurd q (by decide), fun _ => ⟨rfl, OK.same hI rfl⟩, fun q => absurd q (by decide), fun q => absurd q (by decide), fun q => absurd q (by decide), fun q => absurd q (by decide)⟩)))
  · subst z
    exact ug8 ⟨2, rfl, by decide, pre _ ⟨fun q => absurd q (by decide), fun q => absurd q (by decide), fun q => absurd q (by decide), fun q => absurd q (by decide), fun q => absurd q (by decide), fun q => absurd q (by decide), fun _ => ⟨rfl, OK.same hI rfl⟩, fun q => absurd q (by decide), fun q => absurd q (by decide), fun q => absurd q (by decide)⟩⟩
  · subst z
    exact u8 (c_cop h28.2 (pre _ ⟨fun q => absurd q (by decide), fun q => absurd q (by decide), fun q => absurd q (by decide), fun q => absurd q (by decide), fun q => absurd q (by decide), fun q => absurd q (by decide), fun q => absurd q (by decide), fun _ => ⟨rfl, OK.same hI rfl⟩, fun q => absurd q (by decide), fun q => absurd q (by decide)⟩))
  · subst z
    exact ug8 (pre _ ⟨fun q => absurd q (by decide), fun q => absurd q (by decide), fun q => absurd q (by decide), fun q => absurd q (by decide), fun q => absurd q (by decide), fun q => absurd q (by decide), fun q => absurd q (by decide), fun q => absurd q (by decide), fun _ => ⟨rfl, OK.same hI rfl⟩, fun q => absurd q (by decide)⟩)
  · have no : ∀ (a : Int32) (v : Int), a.toInt = v → 0 ≤ v → v ≤ 8 → w = a → False := fun a v e1 e2 e3 e4 => by
      rw [e4, e1] at z
      omega
    exact pre _ ⟨fun q => (no 0 0 rfl (by decide) (by decide) q).elim, fun q => (no 1 1 rfl (by decide) (by decide) q).elim, fun q => (no 2 2 rfl (by decide) (by decide) q).elim, fun q => (no 3 3 rfl (by decide) (by decide) q).elim, fun q => (no 4 4 rfl (by decide) (by decide) q).elim, fun q => (no 5 5 rfl (by decide) (by decide) q).elim, fun q => (no 6 6 rfl (by decide) (by decide) q).elim, fun q => (no 7 7 rfl (by decide) (by decide) q).elim, fun q => (no 8 8 rfl (by decide) (by decide) q).elim, fun _ => ⟨rfl, OK.same hI rfl⟩⟩
/-! put -/
theorem chn_put {h : Nat → Int32} {s o : Nat} (ho : ¬ wi h o s) (hso : o ≠ s) (ho40 : o < 40) : (∀ {f k : Nat}, chn h f k → ¬ wi h k s → k ≠ s → chn (upd h s (nI o)) f k) ∧ ∀ {f k : Nat}, (∃ g, chn h g o) → chn h f k → ∃ f', chn (upd h s (nI o)) f' k := by
  have one : ∀ f k, chn h f k → ¬ wi h k s → k ≠ s → chn (upd h s (nI o)) f k := fun f => by
    induction f with
    | zero => intro k hc; exact absurd hc id
    | succ f ih =>
      intro k hc hw hk
      rcases hc with e | ⟨j, e, hj, hc⟩
      · exact Or.inl ((upd_ne hk).trans e)
      · rw [wi_step e hj] at hw
        exact Or.inr ⟨j, (upd_ne hk).trans e, hj, ih j hc (fun z => hw (Or.inr z)) (fun z => hw (Or.inl z))⟩
  refine ⟨fun hc hw hk => one _ _ hc hw hk, fun {f k} hg hc => ?_⟩
  obtain ⟨g, hg⟩ := hg
  induction f generalizing k with
  | zero => exact absurd hc id
  | succ f ih =>
    by_cases hk : k = s
    · subst hk
      exact ⟨g + 1, Or.inr ⟨o, upd_eq, ho40, one g o hg ho hso⟩⟩
    · rcases hc with e | ⟨j, e, hj, hc⟩
      · exact ⟨1, Or.inl ((upd_ne hk).trans e)⟩
      · obtain ⟨f', h'⟩ := ih hc
        exact ⟨f' + 1, Or.inr ⟨j, (upd_ne hk).trans e, hj, h'⟩⟩
def PP (R : Nat → Nat → Int32) (ns s o : Nat) : Prop := ¬ R 19 s < 0 ∧ R 19 s = R 19 o ∧ R 18 s < 0 ∧ s ≠ o ∧ ¬ wi (R 18) o s ∧ nI (cp (fun i => R 18 i = nI o) ns) < R 17 o
theorem rf_inj {a b : Int32} {m : Nat} (ha : rv a m) (hb : rv b m) (hm : m ≤ 200) : rf a = rf b ↔ a = b := by
  refine ⟨fun e => ?_, fun e => by rw [e]⟩
  rcases ha with rfl | ⟨i, hi, rfl⟩ <;> rcases hb with rfl | ⟨j, hj, rfl⟩
  · rfl
  · rw [rf_m, rf_n (by omega)] at e
    exact absurd e (by simp)
  · rw [rf_m, rf_n (by omega)] at e
    exact absurd e (by simp)
  · rw [rf_n (by omega), rf_n (by omega)] at e
    injection e with e
    rw [e]
theorem c_mli {Q : Int32 → mT → Prop} {X : String → mT → Prop} {s o : Nat} (hI : IV n T np nr ns no) (hs : s < ns) (ho : o < ns) (h : ∀ b, bp (PP T.2.1 ns s o) b → Q b T) : uX6_mayLieIn (cN np nr ns no) 0 (some s) (some o) T Q X := by
  have hns := hI.1.2.2.1
  have hnp := hI.1.1
  have vs : ∀ k, k < ns → u_vo (cN np nr ns no) 6 (some k) := fun k hk i q => by injection q with q; subst q; exact hk
  have o1 := (hI.2.2.2.2.1.1 s hs).2.2.2.2.1
  have o2 := (hI.2.2.2.2.1.1 o ho).2.2.2.2.1
  refine ⟨s, rfl, hs, c_brk hs fun b hb => ⟨fun z => ⟨Or.inl rfl, h 0 (bp_n fun q => q.1 (bp1 hb z))⟩, fun z => ugi (c := cN np nr ns no) (k := 6) hs (ugi (c := cN np nr ns no) (k := 6) ho ⟨rv_vo o1 (by omega) rfl, rv_vo o2 (by omega) rfl, ?_⟩)⟩⟩
  rw [rf_inj o1 o2 (by omega)]
  refine ⟨fun z2 => ⟨Or.inl rfl, h 0 (bp_n fun q => z2 q.2.1)⟩, fun z2 => ugi (c := cN np nr ns no) (k := 6) hs ⟨fun z3 => ⟨Or.inl rfl, h 0 (bp_n fun q => z3 (rf_none.mpr q.2.2.1))⟩, fun z3 => ⟨vs s hs, vs o ho, fun z4 => ⟨Or.inl rfl, h 0 (bp_n fun q => q.2.2.2.1 (by injection z4))⟩, fun z4 => ⟨o, rfl, ho, c_lies hns.2 ho hs hI.sh fun b5 hb5 => ⟨fun z5 => ⟨Or.inl rfl, h 0 (bp_n fun q => q.2.2.2.2.1 (bp1 hb5 z5))⟩, fun z5 => u7 (c_right hns.2 ho hI.sh (ugi (c := cN np nr ns no) (k := 6) ho ⟨fun z6 => ⟨Or.inl rfl, h 0 (bp_n fun q => Int32.not_le.mpr q.2.2.2.2.2 z6)⟩, fun z6 => ⟨Or.inr rfl, h 1 (bp_y ⟨bp0 hb z, z2, rf_none.mp z3, fun q => z4 (by rw [q]), bp0 hb5 z5, Int32.not_le.mp z6⟩)⟩⟩))⟩⟩⟩⟩⟩
theorem sim_put (hI : IV n T np nr ns no) (s o : Int32) : uX7_put (cN np nr ns no) 0 s o T (fun v T1 => tX8_put s o T (fun b T2 => OK n np nr ns no 0 v.toInt64 b.toInt64 T1 T2)) (fun E T1 => E = IOB ∧ tX8_put s o T (fun _ T2 => OK n np nr ns no 1 0 0 T1 T2)) := by
  have hp := hI.1.2.2.1
  rcases okc s (show ns ≤ 200 by omega) with ⟨i, hi, rfl⟩ | hno
  · refine ug8 (u7 (u_th hi (by omega) (ug8 (u7 ?_))))
    rcases okc o (show ns ≤ 200 by omega) with ⟨j, hj, rfl⟩ | hno
    · have pre : ∀ Q : Int32 → mT → Prop, (PP T.2.1 ns i j → Q 1 (m_sI (m_sA T 18 i (nI j)) 0 0)) → (¬ PP T.2.1 ns i j → Q 0 (m_sI T 0 0)) → tX8_put (nI i) (nI j) T Q := fun Q q1 q0 => by
        refine m_si (n := ns) hp.1 (by omega) hi (ifp' rfl (m_si (n := ns) hp.1 (by omega) hj (ifp rfl (m_ti0 (ifp rfl (m_brk (T := m_sI T 0 0) (by omega) fun b hb => ⟨fun z => ⟨Or.inl rfl, q0 fun q => q.1 (bp1 hb z)⟩, fun z => m_ld (show i < 40 by omega) (m_ld (show j < 40 by omega) ⟨fun z2 => ⟨Or.inl rfl, q0 fun q => z2 q.2.1⟩, fun z2 => m_ld (show i < 40 by omega) ⟨fun z3 => ⟨Or.inl rfl, q0 fun q => Int32.not_lt.mpr z3 q.2.2.1⟩, fun z3 => ⟨fun z4 => ⟨Or.inl rfl, q0 fun q => q.2.2.2.1 ((nI_eq (by omega) (by omega)).mp z4)⟩, fun z4 => m_with (T := m_sI T 0 0) hp.2 hj (by omega) hI.sh fun b5 hb5 => ⟨fun z5 => ⟨Or.inl rfl, q0 fun q => q.2.2.2.2.1 (bp1 hb5 z5)⟩, fun z5 => m_right (T := m_sI T 0 0) hp.2 hp.1 (m_ld (show j < 40 by omega) ⟨fun z6 => m_st (show i < 40 by omega) ⟨Or.inr rfl, q1 ⟨bp0 hb z, z2, Int32.not_le.mp z3, fun q => z4 (by rw [q]), bp0 hb5 z5, z6⟩⟩, fun z6 => ⟨Or.inl rfl, q0 fun q => z6 q.2.2.2.2.2⟩⟩)⟩⟩⟩⟩)⟩))))))
      refine u_th hj (by omega) (ug8 (u7 (c_mli hI hi hj fun b hb => ⟨fun z => ⟨fun k q => by injection q with q; subst q; exact hj, ugi (c := cN np nr ns no) (k := 6) hi ⟨Or.inr rfl, ?_⟩⟩, fun z => ⟨Or.inl rfl, ?_⟩⟩)))
      · have hP := bp1 hb z
        refine pre _ (fun _ => ?_) (fun q => absurd hP q)
        refine OK.of (T1 := m_sA T 18 i (nI j)) (hI.up.r18 (h := upd (T.2.1 18) i (nI j)) fun k hk => ⟨?_, ?_⟩)
        · exact upd_c (P := fun x => rv x ns) (Or.inr ⟨j, hj, rfl⟩) (hI.sh k hk).1
        · obtain ⟨f, hc⟩ := (hI.sh k hk).2
          exact (chn_put hP.2.2.2.2.1 (Ne.symm hP.2.2.2.1) (by omega)).2 (hI.sh j hj).2 hc
      · exact pre _ (fun q => absurd q (bp0 hb z)) (fun _ => OK.same hI rfl)
    · exact u_th_no hno (by omega) ⟨rfl, m_si (n := ns) hp.1 (by omega) hi (ifp' rfl (m_si_no (n := ns) hp.1 (by omega) hno (ifn one0 (m_ti1 (ifn one0 ⟨Or.inl rfl, OK.bad hI one0⟩)))))⟩
  · exact ug8 (u7 (u_th_no hno (by omega) ⟨rfl, m_si_no (n := ns) hp.1 (by omega) hno (ifn' one0 (m_ti1 (ifn one0 ⟨Or.inl rfl, OK.bad hI one0⟩)))⟩))
end S3
