/-! agree: all of it. -/
theorem tr_same (G : Nat → Int32) {A B : Nat} (h : A ≠ B) (m m' : Int32) (j : Nat) : tr G A A B B m m' j = if j = B then (G B - m') + m else if j = A then (G A - m) + m' else G j := by
  unfold tr
  by_cases e1 : j = B
  · subst e1
    rw [if_pos rfl, upd_eq, upd_ne (Ne.symm h), upd_eq, upd_ne (Ne.symm h)]
  · rw [if_neg e1, upd_ne e1]
    by_cases e2 : j = A
    · subst e2
      rw [if_pos rfl, upd_eq, upd_ne h, upd_eq]
    · rw [if_neg e2, upd_ne e2, upd_ne e1, upd_ne e2]
theorem tr_diff (G : Nat → Int32) {A A' B B' : Nat} (h1 : A ≠ A') (h2 : A ≠ B) (h3 : A ≠ B') (h4 : A' ≠ B) (h5 : A' ≠ B') (h6 : B ≠ B') (m m' : Int32) (j : Nat) : tr G A A' B B' m m' j = if j = B then G B + m else if j = A' then G A' + m' else if j = B' then G B' - m' else if j = A then G A - m else G j := by
  unfold tr
  by_cases e1 : j = B
  · subst e1
    rw [if_pos rfl, upd_eq, upd_ne (Ne.symm h4), upd_ne h6, upd_ne (Ne.symm h2)]
  · rw [if_neg e1, upd_ne e1]
    by_cases e2 : j = A'
    · subst e2
      rw [if_pos rfl, upd_eq, upd_ne h5, upd_ne (Ne.symm h1)]
    · rw [if_neg e2, upd_ne e2]
      by_cases e3 : j = B'
      · subst e3
        rw [if_pos rfl, upd_eq, upd_ne (Ne.symm h3)]
      · rw [if_neg e3, upd_ne e3]
        by_cases e4 : j = A
        · subst e4
          rw [if_pos rfl, upd_eq]
        · rw [if_neg e4, upd_ne e4]
theorem AG_v {R : Nat → Nat → Int32} {ns a b k k' : Nat} {m m' v v' w w' x : Int32} (h : chA (AG R ns a b k k' m m' v v' w w') x) : (x = 0 ∧ m ≤ R 2 (4 * a + k) ∧ m' ≤ R 2 (4 * b + k') ∧ ¬ TM R a k k' m m' ∧ ¬ TM R b k' k m' m) ∨ (x ≠ 0 ∧ ¬ x ≤ 0) := by
  rcases h with ⟨_, e⟩ | ⟨p1, h⟩
  · exact Or.inr (by rw [e]; decide)
  rcases h with ⟨_, e⟩ | ⟨p2, h⟩
  · exact Or.inr (by rw [e]; decide)
  rcases h with ⟨_, e⟩ | ⟨p3, h⟩
  · exact Or.inr (by rw [e]; decide)
  rcases h with ⟨_, e⟩ | ⟨p4, h⟩
  · exact Or.inr (by rw [e]; decide)
  rcases h with ⟨_, e⟩ | ⟨p5, h⟩
  · exact Or.inr (by rw [e]; decide)
  rcases h with ⟨_, e⟩ | ⟨p6, h⟩
  · exact Or.inr (by rw [e]; decide)
  rcases h with ⟨_, e⟩ | ⟨p7, h⟩
  · exact Or.inr (by rw [e]; decide)
  exact Or.inl ⟨h, Classical.not_not.mp p1, Classical.not_not.mp p2, p3, p4⟩
theorem add_bt {x y : Int32} (hx : bt x 0 1000000000) (hy : bt y 0 1000000) : (x + y).toInt = x.toInt + y.toInt := by
  have := hx.1
  have := hx.2
  have := hy.1
  have := hy.2
  rw [Int32.toInt_add, Int.bmod_eq_of_le (by omega) (by omega)]
theorem sub_bt {x y : Int32} (hx : bt x 0 1000000000) (hy : bt y 0 1000000) (h : y ≤ x) : bt (x - y) 0 1000000000 := by
  have := hx.1
  have := hx.2
  have := hy.1
  have := hy.2
  have := Int32.le_iff_toInt_le.mp h
  unfold bt
  rw [Int32.toInt_sub, Int.bmod_eq_of_le (by omega) (by omega)]
  omega
theorem addle_bt {x y : Int32} (hx : bt x 0 1000000000) (hy : bt y 0 1000000) (h : x + y ≤ 1000000000) : bt (x + y) 0 1000000000 := by
  have e := add_bt hx hy
  have h := Int32.le_iff_toInt_le.mp h
  have eK : (1000000000 : Int32).toInt = 1000000000 := by decide
  rw [eK] at h
  have h1 := hx.1
  have h2 := hy.1
  refine ⟨?_, h⟩
  rw [e]
  exact Int.add_nonneg h1 h2
theorem tr_bt {R : Nat → Nat → Int32} {a b k k' : Nat} {m m' : Int32} (hab : a ≠ b) (hk : k < 4) (hk' : k' < 4) (hG : ∀ j, bt (R 2 j) 0 1000000000) (hm : bt m 0 1000000) (hm' : bt m' 0 1000000) (h1 : m ≤ R 2 (4 * a + k)) (h2 : m' ≤ R 2 (4 * b + k')) (h3 : ¬ TM R a k k' m m') (h4 : ¬ TM R b k' k m' m) (j : Nat) : bt (tr (R 2) (4 * a + k) (4 * a + k') (4 * b + k) (4 * b + k') m m' j) 0 1000000000 := by
  unfold TM at h3 h4
  have h3 := Classical.not_not.mp h3
  have h4 := Classical.not_not.mp h4
  by_cases e : k = k'
  · subst e
    rw [if_pos rfl] at h3 h4
    rw [tr_same (R 2) (by omega)]
    split
    · exact addle_bt (sub_bt (hG _) hm' h2) hm h4
    · split
      · exact addle_bt (sub_bt (hG _) hm h1) hm' h3
      · exact hG j
  · rw [if_neg e, Int32.sub_zero] at h3
    rw [if_neg (Ne.symm e), Int32.sub_zero] at h4
    rw [tr_diff (R 2) (by omega) (by omega) (by omega) (by omega) (by omega) (by omega)]
    split
    · exact addle_bt (hG _) hm h4
    · split
      · exact addle_bt (hG _) hm' h3
      · split
        · exact sub_bt (hG _) hm' h2
        · split
          · exact sub_bt (hG _) hm h1
          · exact hG j
theorem tr_out (G : Nat → Int32) {A A' B B' j : Nat} (h1 : j ≠ A) (h2 : j ≠ A') (h3 : j ≠ B) (h4 : j ≠ B') (m m' : Int32) : tr G A A' B B' m m' j = G j := by
  unfold tr
  rw [upd_ne h3, upd_ne h2, upd_ne h4, upd_ne h1]
section AG3
variable {n np nr ns no : Nat} {T : mT}
theorem IV.agree {o a b k k' : Nat} (hI : IV n T np nr ns no) (hn : n ≤ 600) (ha : a < np) (hb : b < np) (hk : k < 4) (hk' : k' < 4) (hG : ∀ j, bt (tr (T.2.1 2) (4 * a + k) (4 * a + k') (4 * b + k) (4 * b + k') (T.2.1 26 (10 * o + 2)) (T.2.1 26 (10 * o + 5)) j) 0 1000000000) : IV (n + 1) (agT T ns o a b k k') np nr ns no := by
  have hbb : (100 * n : Int) ≤ 1000000000 := by omega
  have hI2 : IV n (st2 T (tr (T.2.1 2) (4 * a + k) (4 * a + k') (4 * b + k) (4 * b + k') (T.2.1 26 (10 * o + 2)) (T.2.1 26 (10 * o + 5)))) np nr ns no := by
    obtain ⟨w1, w2, w3, w4, w5, w6⟩ := hI
    refine ⟨w1, w2, ⟨hG, fun j hj => ?_, w3.2.2⟩, w4, w5, w6⟩
    show tr (T.2.1 2) _ _ _ _ _ _ j = 0
    rw [tr_out _ (by omega) (by omega) (by omega) (by omega)]
    exact w3.2.1 j hj
  obtain ⟨f1, f2, f3, f4⟩ := goO_f (h := T.2.1 18) (v := T.2.1 26 (10 * o + 4)) (p := nI b) (day := T.1 1) (ivS_B.mp hI2.2.2.2.2.1) hbb (rv_p hb)
  obtain ⟨g1, g2, g3, g4⟩ := goO_f (h := T.2.1 18) (v := T.2.1 26 (10 * o + 7)) (p := nI a) (day := T.1 1) f4 (by omega) (rv_p ha)
  have r : ∀ q, ¬ (15 ≤ q ∧ q < 25) → (goO (T.2.1 18) (T.2.1 26 (10 * o + 7)) (nI a) (T.1 1) ns (goO (T.2.1 18) (T.2.1 26 (10 * o + 4)) (nI b) (T.1 1) ns (st2 T (tr (T.2.1 2) (4 * a + k) (4 * a + k') (4 * b + k) (4 * b + k') (T.2.1 26 (10 * o + 2)) (T.2.1 26 (10 * o + 5)))))).2.1 q = (st2 T (tr (T.2.1 2) (4 * a + k) (4 * a + k') (4 * b + k) (4 * b + k') (T.2.1 26 (10 * o + 2)) (T.2.1 26 (10 * o + 5)))).2.1 q := fun q hq => (g3 q (by omega) (by omega) (by omega) (by omega)).trans (f3 q (by omega) (by omega) (by omega) (by omega))
  have hI3 : IV (n + 1) (goO (T.2.1 18) (T.2.1 26 (10 * o + 7)) (nI a) (T.1 1) ns (goO (T.2.1 18) (T.2.1 26 (10 * o + 4)) (nI b) (T.1 1) ns (st2 T (tr (T.2.1 2) (4 * a + k) (4 * a + k') (4 * b + k) (4 * b + k') (T.2.1 26 (10 * o + 2)) (T.2.1 26 (10 * o + 5)))))) np nr ns no := by
    refine IV.S hI2 (fun q _ _ _ => by rw [g1, f1]) (by rw [g1, f1]; exact hI2.up.2.1) (fun q _ hq => r q hq) ?_
    rw [g1, f1]
    exact ivB.mono g4 (by omega)
  obtain ⟨w1, w2, w3, w4, w5, w6⟩ := hI3
  refine ⟨w1, w2, w3, w4, w5, fun q hq => ?_⟩
  obtain ⟨a1, a2, a3, a4, a5, a6, a7, a8⟩ := w6 q hq
  exact ⟨a1, a2, a3, a4, a5, a6, a7, upd_c (P := fun x => x = 0 ∨ x = 1) (Or.inl rfl) a8⟩
theorem agT_sI {o a b k k' : Nat} : agT (m_sI T 0 0) ns o a b k k' = m_sI (agT T ns o a b k k') 0 0 := by
  unfold agT
  show m_sA (goO (T.2.1 18) (T.2.1 26 (10 * o + 7)) (nI a) (T.1 1) ns (goO (T.2.1 18) (T.2.1 26 (10 * o + 4)) (nI b) (T.1 1) ns (m_sI (st2 T (tr (T.2.1 2) (4 * a + k) (4 * a + k') (4 * b + k) (4 * b + k') (T.2.1 26 (10 * o + 2)) (T.2.1 26 (10 * o + 5)))) 0 0))) 27 o 0 = _
  rw [goO_sI, goO_sI]
  rfl
theorem sim_agree (hI : IV n T np nr ns no) (hn : n ≤ 600) (o : Int32) : uX7_agree (cN np nr ns no) 0 o T (fun v T1 => tX8_agree o T (fun b T2 => OK n np nr ns no 0 v.toInt64 b.toInt64 T1 T2)) (fun E T1 => E = IOB ∧ tX8_agree o T (fun _ T2 => OK n np nr ns no 1 0 0 T1 T2)) := by
  have hp := hI.1.2.2.2
  have hg : ∀ Q, tX8_in o.toInt64 0 ((nI no - 1).toInt64) (m_sI T 0 0) (fun v16 T => ((¬ v16 = 0 → tX8_agree_J27 Q o (0 : Int32) T) ∧ (v16 = 0 → tX8_agree_J27 Q o (1 : Int32) T))) → tX8_agree o T Q := fun Q h => by
    unfold tX8_agree t_putI t_getI
    show tX8_in o.toInt64 0 ((T.1 28 - 1).toInt64) (m_sI T 0 0) _
    rw [hp.1]
    exact h
  rcases okc o (show no ≤ 200 by omega) with ⟨i, hi, rfl⟩ | hno
  · obtain ⟨⟨a, b, ha, hb, hab, r0, r1⟩, m2, m5, ⟨k, hk, r3⟩, ⟨k', hk', r6⟩, v4, v7, _⟩ := hI.2.2.2.2.2 i hi
    have hI0 : IV n (m_sI T 0 0) np nr ns no := hI
    have pre : ∀ Q : Int32 → mT → Prop, (T.2.1 27 i = 0 → Q 1 (m_sI T 0 0)) → (¬ T.2.1 27 i = 0 → ∀ v, chA (AG T.2.1 ns a b k k' (T.2.1 26 (10 * i + 2)) (T.2.1 26 (10 * i + 5)) (T.2.1 26 (10 * i + 4)) (T.2.1 26 (10 * i + 7)) (T.2.1 26 (10 * i + 8)) (T.2.1 26 (10 * i + 9))) v → (v ≠ 0 → Q v (m_sI T 0 0)) ∧ (v = 0 → Q 0 (m_sI (agT T ns i a b k k') 0 0))) → tX8_agree (nI i) T Q := fun Q q1 q2 => by
      refine hg Q (m_ino (by omega) (nI_ok' hi (by omega)) (ifn' one0 (m_ti0 (ifp rfl (m_ld (show i < 60 by omega) ⟨fun z => ?_, q1⟩)))))
      rw [ix10, show nI (10 * i) + 1 = nI (10 * i + 1) from nI_add _ 1, show nI (10 * i) + 2 = nI (10 * i + 2) from nI_add _ 2, show nI (10 * i) + 3 = nI (10 * i + 3) from nI_add _ 3, show nI (10 * i) + 4 = nI (10 * i + 4) from nI_add _ 4, show nI (10 * i) + 5 = nI (10 * i + 5) from nI_add _ 5, show nI (10 * i) + 6 = nI (10 * i + 6) from nI_add _ 6]
      refine m_against hI0 hi ha hb hk hk' r0 r1 r3 r6 fun v hv => ⟨fun z2 => ?_, fun z2 => ?_⟩
      · rcases AG_v hv with ⟨e, _⟩ | ⟨_, e⟩
        · refine m_trade hI0 hn hi ha hb hab hk hk' r0 r1 r3 r6 ?_
          rw [agT_sI]
          exact (q2 z v hv).2 e
        · exact absurd z2 e
      · rcases AG_v hv with ⟨e, _⟩ | ⟨e, _⟩
        · rw [e] at z2
          exact absurd (by decide) z2
        · exact (q2 z v hv).1 e
    refine u8 (u_of hi (by omega) (u8 (c_agAns hI hi ha hb hk hk' r0 r1 r3 r6 (fun z => ?_) (fun z v hv => ?_))))
    · exact ⟨fun _ => pre _ (fun _ => OK.same hI rfl) (fun q => absurd z q), fun q => absurd q one0⟩
    · refine ⟨fun z2 => pre _ (fun q => absurd q z) fun _ v' hv' => ⟨fun _ => OK.same hI (by rw [chA_u hv hv']), fun q => absurd ((chA_u hv hv').trans q) z2⟩, fun z2 => ugi (c := cN np nr ns no) (k := 2) hi (ugi (c := cN np nr ns no) (k := 2) hi (u8 (c_trade hI hn hi ha hb hk hk' r0 r1 r3 r6 ⟨Or.inl rfl, ugi (c := cN np nr ns no) (k := 2) hi ?_⟩)))⟩
      refine pre _ (fun q => absurd q z) fun _ v' hv' => ⟨fun q => absurd ((chA_u hv' hv).trans z2) q, fun _ => ?_⟩
      rw [z2]
      rcases AG_v hv with ⟨_, c1, c2, c3, c4⟩ | ⟨e, _⟩
      · exact OK.of (T1 := agT T ns i a b k k') (hI.agree hn ha hb hk hk' (tr_bt hab hk hk' hI.2.2.1.1 m2 m5 c1 c2 c3 c4))
      · exact absurd z2 e
  · refine u8 (u_of_no hno (by omega) ⟨rfl, ?_⟩)
    exact hg _ (m_ino_no (by omega) hno (ifp' rfl (m_ti1 (ifn one0 (OK.bad hI one0)))))
end AG3
