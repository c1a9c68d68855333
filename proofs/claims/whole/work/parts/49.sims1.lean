/-! part, times, weigh, withdraw, take, line. -/
theorem upd_c {P : Int32 → Prop} {f : Nat → Int32} {i j : Nat} {v : Int32} (h1 : P v) (h2 : P (f j)) : P (upd f i v j) := by
  unfold upd
  split
  · exact h1
  · exact h2
theorem upd_ne {f : Nat → Int32} {i j : Nat} {v : Int32} (h : j ≠ i) : upd f i v j = f j := if_neg h
theorem upd_eq {f : Nat → Int32} {i : Nat} {v : Int32} : upd f i v i = v := if_pos rfl
theorem bt_of {x a b : Int32} {c d : Int} (h1 : ¬ x < a) (h2 : x ≤ b) (ha : a.toInt = c) (hb : b.toInt = d) : bt x c d := by
  have q1 : ¬ x.toInt < a.toInt := fun z => h1 (Int32.lt_iff_toInt_lt.mpr z)
  have q2 := Int32.le_iff_toInt_le.mp h2
  exact ⟨by omega, by omega⟩
theorem rngc (x a b : Int32) : (¬ x < a ∧ x ≤ b) ∨ ¬ (¬ x < a ∧ x ≤ b) := Classical.em _
section S1
variable {n np nr ns no : Nat} {T : mT}
theorem OK.w {T1 T2 : mT} (h : T2.1 0 = 0) (e1 : T2.1 1 = T1.1 1) (e6 : T2.1 6 = T1.1 6) (eA : T2.2.1 = T1.2.1) (eJ : T2.2.2 = T1.2.2) (hI : IV (n + 1) T2 np nr ns no) {v : Int64} : OK n np nr ns no 0 v v T1 T2 := ⟨h, fun _ => rfl, ⟨e1, e6, fun _ _ => by rw [eA], by rw [eJ], by rw [eJ]⟩, hI⟩
theorem sim_part (hI : IV n T np nr ns no) (r k o v : Int32) : uX7_part (cN np nr ns no) 0 r k o v T (fun T1 => tX8_part r k o v T (fun T2 => OK n np nr ns no 0 0 0 T1 T2)) (fun E T1 => (E = IOB ∧ tX8_part r k o v T (fun T2 => OK n np nr ns no 1 0 0 T1 T2)) ∨ (E = IAE ∧ tX8_part r k o v T (fun T2 => OK n np nr ns no 2 0 0 T1 T2))) := by
  have hp := hI.1.2.1
  rcases okc r (show nr ≤ 200 by omega) with ⟨i, hi, rfl⟩ | hno
  · refine u8 (u_ru hi (by omega) ?_)
    rcases okc k (show 4 ≤ 200 by omega) with ⟨j, hj, rfl⟩ | hno
    · refine u_ck hj ?_
      have e0 : (0 : Int64) = (0 : Int32).toInt64 := i2l_lit (v := 0) (by decide) (by decide)
      have e9 : (9 : Int64) = (9 : Int32).toInt64 := i2l_lit (v := 9) (by decide) (by decide)
      rcases rngc v 0 9 with ⟨h1, h2⟩ | hno
      · have hb : bt v 0 9 := bt_of h1 h2 (by decide) (by decide)
        obtain ⟨w1, w2, w3, w4, w5⟩ := hI.up
        refine u_cr h1 h2 ⟨fun ho => ugi hi (uai hi hj (by decide) ?_), fun ho => ugi hi (uai hi hj (by decide) ?_)⟩
        · refine m_ru (n := nr) hp.1 (by omega) hi (ifp' rfl (m_ki hj (ifp rfl (m_ti0 (ifp' rfl (m_in e0 e9 h1 h2 (ifn' one0 (m_ti0 (ifp rfl (ifp ho ?_)))))))))) 
          rw [ix4]
          refine m_st (show 4 * i + j < 40 by omega) (OK.w rfl rfl rfl rfl rfl ⟨w1, w2, w3, ⟨fun q => ⟨upd_c (P := fun x => bt x 0 9) hb (w4.1 q).1, (w4.1 q).2⟩, fun q hq => ⟨?_, (w4.2.1 q hq).2⟩, w4.2.2⟩, w5⟩)
          exact (upd_ne (by omega)).trans (w4.2.1 q hq).1
        · refine m_ru (n := nr) hp.1 (by omega) hi (ifp' rfl (m_ki hj (ifp rfl (m_ti0 (ifp' rfl (m_in e0 e9 h1 h2 (ifn' one0 (m_ti0 (ifp rfl (ifn ho ?_)))))))))) 
          rw [ix4]
          refine m_st (show 4 * i + j < 40 by omega) (OK.w rfl rfl rfl rfl rfl ⟨w1, w2, w3, ⟨fun q => ⟨(w4.1 q).1, upd_c (P := fun x => bt x 0 9) hb (w4.1 q).2⟩, fun q hq => ⟨(w4.2.1 q hq).1, ?_⟩, w4.2.2⟩, w5⟩)
          exact (upd_ne (by omega)).trans (w4.2.1 q hq).2
      · refine u_cr_no hno (Or.inr ⟨rfl, ?_⟩)
        exact m_ru (n := nr) hp.1 (by omega) hi (ifp' rfl (m_ki hj (ifp rfl (m_ti0 (ifp' rfl (m_in_no e0 e9 hno (ifp' rfl (m_ti1 (ifn one0 (OK.bad hI (by decide)))))))))))
    · refine u_ck_no hno (Or.inl ⟨rfl, ?_⟩)
      exact m_ru (n := nr) hp.1 (by omega) hi (ifp' rfl (m_ki_no hno (ifn one0 (m_ti1 (ifn' one0 (OK.bad hI one0))))))
  · refine u8 (u_ru_no hno (by omega) (Or.inl ⟨rfl, ?_⟩))
    exact m_ru_no (n := nr) hp.1 (by omega) hno (ifn' one0 (m_ti1 (ifn' one0 (OK.bad hI one0))))
end S1
