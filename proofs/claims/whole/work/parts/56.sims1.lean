/-! part, times, weigh, withdraw, line. -/
theorem upd_c {P : Int32 → Prop} {f : Nat → Int32} {i j : Nat} {v : Int32} (h1 : P v) (h2 : P (f j)) : P (upd f i v j) := by
  unfold upd
  split
  · exact h1
  · exact h2
theorem upd_ne {f : Nat → Int32} {i j : Nat} {v : Int32} (h : j ≠ i) : upd f i v j = f j := if_neg h
theorem upd_eq {f : Nat → Int32} {i : Nat} {v : Int32} : upd f i v i = v := if_pos rfl
theorem bt_of {x a b : Int32} {c d : Int} (h1 : ¬ x < a) (h2 : x ≤ b) (ha : a.toInt = c) (hb : b.toInt = d) : bt x c d := by
  have q1 : ¬ x.toInt < a.toInt := fun z => h1 (Int32.lt_iff_toInt_lt.mpr z)
  have q2 := Int32.le_iff_toInt_le.mp h2
  exact ⟨by omega, by omega⟩
theorem rngc (x a b : Int32) : (¬ x < a ∧ x ≤ b) ∨ ¬ (¬ x < a ∧ x ≤ b) := Classical.em _
theorem e0l : (0 : Int64) = (0 : Int32).toInt64 := i2l_lit (v := 0) (by decide) (by decide)
theorem e1l : (1 : Int64) = (1 : Int32).toInt64 := i2l_lit (v := 1) (by decide) (by decide)
theorem e9l : (9 : Int64) = (9 : Int32).toInt64 := i2l_lit (v := 9) (by decide) (by decide)
theorem e100l : (100 : Int64) = (100 : Int32).toInt64 := i2l_lit (v := 100) (by decide) (by decide)
theorem e1000l : (1000 : Int64) = (1000 : Int32).toInt64 := i2l_lit (v := 1000) (by decide) (by decide)
theorem m_ino {x : Int32} {n : Nat} {T : mT} {Q : Int32 → mT → Prop} (hn : n ≤ 200) (hx : ok x n) (h : Q 1 T) : tX8_in x.toInt64 0 ((nI n - 1).toInt64) T Q := e_in (by rw [bi_t ((ok_rng (by omega)).mpr hx)]; exact h)
theorem m_ino_no {x : Int32} {n : Nat} {T : mT} {Q : Int32 → mT → Prop} (hn : n ≤ 200) (hx : ¬ ok x n) (h : Q 0 T) : tX8_in x.toInt64 0 ((nI n - 1).toInt64) T Q := e_in (by rw [bi_f (fun z => hx ((ok_rng (by omega)).mp z))]; exact h)
section S1
variable {n np nr ns no : Nat} {T : mT}
theorem OK.of {v : Int64} {T1 : mT} (hI : IV (n + 1) T1 np nr ns no) : OK n np nr ns no 0 v v T1 (m_sI T1 0 0) := ⟨rfl, fun _ => rfl, ⟨rfl, rfl, fun _ _ => rfl, rfl, rfl⟩, hI⟩
theorem sim_part (hI : IV n T np nr ns no) (r k o v : Int32) : uX7_part (cN np nr ns no) 0 r k o v T (fun T1 => tX8_part r k o v T (fun T2 => OK n np nr ns no 0 0 0 T1 T2)) (fun E T1 => (E = IOB ∧ tX8_part r k o v T (fun T2 => OK n np nr ns no 1 0 0 T1 T2)) ∨ (E = IAE ∧ tX8_part r k o v T (fun T2 => OK n np nr ns no 2 0 0 T1 T2))) := by
  have hp := hI.1.2.1
  rcases okc r (show nr ≤ 200 by omega) with ⟨i, hi, rfl⟩ | hno
  · refine u8 (u_ru hi (by omega) ?_)
    rcases okc k (show 4 ≤ 200 by omega) with ⟨j, hj, rfl⟩ | hno
    · refine u_ck hj ?_
      rcases rngc v 0 9 with ⟨h1, h2⟩ | hno
      · have hb : bt v 0 9 := bt_of h1 h2 (by decide) (by decide)
        obtain ⟨w1, w2, w3, w4, w5⟩ := hI.up
        refine u_cr h1 h2 ⟨fun ho => ugi hi (uai hi hj (by decide) ?_), fun ho => ugi hi (uai hi hj (by decide) ?_)⟩
        · refine m_ru (n := nr) hp.1 (by omega) hi (ifp' rfl (m_ki hj (ifp rfl (m_ti0 (ifp' rfl (m_in e0l e9l h1 h2 (ifn' one0 (m_ti0 (ifp rfl (ifp ho ?_))))))))))
          rw [ix4]
          refine m_st (show 4 * i + j < 40 by omega) ?_
          refine OK.of (T1 := m_sA T 7 (4 * i + j) v) ⟨w1, w2, w3, ⟨fun q => ⟨?_, (w4.1 q).2⟩, fun q hq => ⟨?_, (w4.2.1 q hq).2⟩, w4.2.2⟩, w5⟩
          · exact upd_c (P := fun x => bt x 0 9) hb (w4.1 q).1
          · exact (upd_ne (by omega)).trans (w4.2.1 q hq).1
        · refine m_ru (n := nr) hp.1 (by omega) hi (ifp' rfl (m_ki hj (ifp rfl (m_ti0 (ifp' rfl (m_in e0l e9l h1 h2 (ifn' one0 (m_ti0 (ifp rfl (ifn ho ?_))))))))))
          rw [ix4]
          refine m_st (show 4 * i + j < 40 by omega) ?_
          refine OK.of (T1 := m_sA T 8 (4 * i + j) v) ⟨w1, w2, w3, ⟨fun q => ⟨(w4.1 q).1, ?_⟩, fun q hq => ⟨(w4.2.1 q hq).1, ?_⟩, w4.2.2⟩, w5⟩
          · exact upd_c (P := fun x => bt x 0 9) hb (w4.1 q).2
          · exact (upd_ne (by omega)).trans (w4.2.1 q hq).2
      · refine u_cr_no hno (Or.inr ⟨rfl, ?_⟩)
        exact m_ru (n := nr) hp.1 (by omega) hi (ifp' rfl (m_ki hj (ifp rfl (m_ti0 (ifp' rfl (m_in_no e0l e9l hno (ifp' rfl (m_ti1 (ifn one0 (OK.bad hI (by decide)))))))))))
    · refine u_ck_no hno (Or.inl ⟨rfl, ?_⟩)
      exact m_ru (n := nr) hp.1 (by omega) hi (ifp' rfl (m_ki_no hno (ifn one0 (m_ti1 (ifn' one0 (OK.bad hI one0))))))
  · refine u8 (u_ru_no hno (by omega) (Or.inl ⟨rfl, ?_⟩))
    exact m_ru_no (n := nr) hp.1 (by omega) hno (ifn' one0 (m_ti1 (ifn' one0 (OK.bad hI one0))))
theorem sim_times (hI : IV n T np nr ns no) (r v : Int32) : uX7_times (cN np nr ns no) 0 r v T (fun T1 => tX8_times r v T (fun T2 => OK n np nr ns no 0 0 0 T1 T2)) (fun E T1 => (E = IOB ∧ tX8_times r v T (fun T2 => OK n np nr ns no 1 0 0 T1 T2)) ∨ (E = IAE ∧ tX8_times r v T (fun T2 => OK n np nr ns no 2 0 0 T1 T2))) := by
  have hp := hI.1.2.1
  rcases okc r (show nr ≤ 200 by omega) with ⟨i, hi, rfl⟩ | hno
  · refine u8 (u_ru hi (by omega) ?_)
    rcases rngc v 0 1000 with ⟨h1, h2⟩ | hno
    · have hb : bt v 0 1000 := bt_of h1 h2 (by decide) (by decide)
      obtain ⟨w1, w2, w3, w4, w5⟩ := hI.up
      refine u_cr h1 h2 (ugi hi ?_)
      refine m_ru (n := nr) hp.1 (by omega) hi (m_ti0 (ifp' rfl (m_in e0l e1000l h1 h2 (ifn' one0 (m_ti0 (ifp rfl (m_st (show i < 10 by omega) ?_)))))))
      refine OK.of (T1 := m_sA T 10 i v) ⟨w1, w2, w3, ⟨w4.1, w4.2.1, fun q => ?_, fun q hq => ?_, w4.2.2.2.2⟩, w5⟩
      · exact upd_c (P := fun x => bt x 0 1000) hb (w4.2.2.1 q)
      · exact (upd_ne (by omega)).trans (w4.2.2.2.1 q hq)
    · refine u_cr_no hno (Or.inr ⟨rfl, ?_⟩)
      exact m_ru (n := nr) hp.1 (by omega) hi (m_ti0 (ifp' rfl (m_in_no e0l e1000l hno (ifp' rfl (m_ti1 (ifn one0 (OK.bad hI (by decide))))))))
  · refine u8 (u_ru_no hno (by omega) (Or.inl ⟨rfl, ?_⟩))
    exact m_ru_no (n := nr) hp.1 (by omega) hno (m_ti1 (ifn' one0 (OK.bad hI one0)))
theorem sim_weigh (hI : IV n T np nr ns no) (k v : Int32) : uX7_weigh (cN np nr ns no) 0 k v T (fun T1 => tX8_weigh k v T (fun T2 => OK n np nr ns no 0 0 0 T1 T2)) (fun E T1 => (E = IOB ∧ tX8_weigh k v T (fun T2 => OK n np nr ns no 1 0 0 T1 T2)) ∨ (E = IAE ∧ tX8_weigh k v T (fun T2 => OK n np nr ns no 2 0 0 T1 T2))) := by
  rcases okc k (show 4 ≤ 200 by omega) with ⟨i, hi, rfl⟩ | hno
  · refine u_ck hi ?_
    rcases rngc v 0 1000 with ⟨h1, h2⟩ | hno
    · have hb : bt v 0 1000 := bt_of h1 h2 (by decide) (by decide)
      obtain ⟨w1, w2, w3, w4, w5⟩ := hI.up
      refine u_cr h1 h2 (ug8 (uai Nat.one_pos hi (by decide) ?_))
      refine m_ki hi (m_ti0 (ifp' rfl (m_in e0l e1000l h1 h2 (ifn' one0 (m_ti0 (ifp rfl (m_st (show i < 4 by omega) ?_)))))))
      refine OK.of (T1 := m_sA T 11 i v) ⟨w1, w2, w3, ⟨w4.1, w4.2.1, w4.2.2.1, w4.2.2.2.1, fun q => ?_, w4.2.2.2.2.2⟩, w5⟩
      exact upd_c (P := fun x => bt x 0 1000) hb (w4.2.2.2.2.1 q)
    · refine u_cr_no hno (Or.inr ⟨rfl, ?_⟩)
      exact m_ki hi (m_ti0 (ifp' rfl (m_in_no e0l e1000l hno (ifp' rfl (m_ti1 (ifn one0 (OK.bad hI (by decide))))))))
  · refine u_ck_no hno (Or.inl ⟨rfl, ?_⟩)
    exact m_ki_no hno (m_ti1 (ifn' one0 (OK.bad hI one0)))
theorem sim_withdraw (hI : IV n T np nr ns no) (o : Int32) : uX7_withdraw (cN np nr ns no) 0 o T (fun v T1 => tX8_withdraw o T (fun b T2 => OK n np nr ns no 0 v.toInt64 b.toInt64 T1 T2)) (fun E T1 => E = IOB ∧ tX8_withdraw o T (fun _ T2 => OK n np nr ns no 1 0 0 T1 T2)) := by
  have hp := hI.1.2.2.2
  have hg : ∀ Q, tX8_in o.toInt64 0 ((nI no - 1).toInt64) (m_sI T 0 0) (fun v16 T => ((¬ v16 = 0 → tX8_withdraw_J27 Q o (0 : Int32) T) ∧ (v16 = 0 → tX8_withdraw_J27 Q o (1 : Int32) T))) → tX8_withdraw o T Q := fun Q h => by
    unfold tX8_withdraw t_putI t_getI
    show tX8_in o.toInt64 0 ((T.1 28 - 1).toInt64) (m_sI T 0 0) _
    rw [hp.1]
    exact h
  rcases okc o (show no ≤ 200 by omega) with ⟨i, hi, rfl⟩ | hno
  · obtain ⟨w1, w2, w3, w4, w5, w6⟩ := hI.up
    have h01 := (w6 i hi).2.2.2.2.2.2.2
    refine u8 (u_of hi (by omega) (ugi hi ⟨Or.inl rfl, ugi hi ⟨h01, ?_⟩⟩))
    refine hg _ (m_ino (by omega) (nI_ok' hi (by omega)) (ifn' one0 (m_ti0 (ifp rfl (m_ld (show i < 60 by omega) (m_stZ (Or.inl rfl) (show i < 60 by omega) ⟨h01, ?_⟩))))))
    refine OK.of (T1 := m_sA T 27 i 0) ⟨w1, w2, w3, w4, w5, fun q hq => ?_⟩
    obtain ⟨a1, a2, a3, a4, a5, a6, a7, a8⟩ := w6 q hq
    exact ⟨a1, a2, a3, a4, a5, a6, a7, upd_c (P := fun x => x = 0 ∨ x = 1) (Or.inl rfl) a8⟩
  · refine u8 (u_of_no hno (by omega) ⟨rfl, ?_⟩)
    exact hg _ (m_ino_no (by omega) hno (ifp' rfl (m_ti1 (ifn one0 ⟨Or.inl rfl, OK.bad hI one0⟩))))
theorem sim_line (hI : IV n T np nr ns no) (s k d : Int32) : uX7_line (cN np nr ns no) 0 s k d T (fun v T1 => tX8_line s k d T (fun b T2 => OK n np nr ns no 0 v.toInt64 b.toInt64 T1 T2)) (fun E T1 => E = IOB ∧ tX8_line s k d T (fun _ T2 => OK n np nr ns no 1 0 0 T1 T2)) := by
  have hp := hI.1.2.2.1
  rcases okc s (show ns ≤ 200 by omega) with ⟨i, hi, rfl⟩ | hno
  · refine ug8 (u7 (u_th hi (by omega) ⟨fun h => ?_, fun h => ugi hi ⟨fun h2 => ?_, fun h2 => ⟨fun h3 => ?_, fun h3 => ?_⟩⟩⟩))
    · exact m_si (n := ns) hp.1 (by omega) hi (m_ti0 (ifp rfl (ifp h (OK.same hI rfl))))
    · exact m_si (n := ns) hp.1 (by omega) hi (m_ti0 (ifp rfl (ifn h (m_ld (show i < 40 by omega) (ifp h2 (OK.same hI rfl))))))
    · obtain ⟨j, hj, rfl⟩ := ok_nI (of_ok (n := 30) (by omega) h h3) (by omega)
      refine ⟨fun hd => ugi hi (uai (c := cN np nr ns no) (k := 13) hi hj (by decide) ?_), fun hd => ugi hi (uai (c := cN np nr ns no) (k := 14) hi hj (by decide) ?_)⟩
      · refine m_si (n := ns) hp.1 (by omega) hi (m_ti0 (ifp rfl (ifn h (m_ld (show i < 40 by omega) (ifn h2 (ifp h3 (ifp hd ?_)))))))
        rw [ix30]
        exact m_ld (show 30 * i + j < 1200 by omega) (OK.same hI rfl)
      · refine m_si (n := ns) hp.1 (by omega) hi (m_ti0 (ifp rfl (ifn h (m_ld (show i < 40 by omega) (ifn h2 (ifp h3 (ifn hd ?_)))))))
        rw [ix30]
        exact m_ld (show 30 * i + j < 1200 by omega) (OK.same hI rfl)
    · exact m_si (n := ns) hp.1 (by omega) hi (m_ti0 (ifp rfl (ifn h (m_ld (show i < 40 by omega) (ifn h2 (ifn h3 (OK.same hI rfl)))))))
  · exact ug8 (u7 (u_th_no hno (by omega) ⟨rfl, m_si_no (n := ns) hp.1 (by omega) hno (m_ti1 (ifn one0 (OK.bad hI one0)))⟩))
end S1
