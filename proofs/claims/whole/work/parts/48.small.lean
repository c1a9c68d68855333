theorem lt0_ok {x : Int32} {n : Nat} (h : x < 0) : ¬ ok x n := fun q => by
  have := Int32.lt_iff_toInt_lt.mp h
  have h0 : (0 : Int32).toInt = 0 := by decide
  have := q.1
  omega
theorem of_ok {x : Int32} {n : Nat} (hn : n < 2 ^ 31) (h0 : ¬ x < 0) (h : x < nI n) : ok x n := by
  have h1 := Int32.lt_iff_toInt_lt.mp h
  rw [nI_toInt hn] at h1
  have h2 : ¬ x.toInt < 0 := fun z => h0 (Int32.lt_iff_toInt_lt.mpr z)
  exact ⟨by omega, h1⟩
/-! Small steps on both sides. -/
theorem ifp {c A B : Prop} (h : c) (a : A) : (c → A) ∧ (¬ c → B) := ⟨fun _ => a, fun z => absurd h z⟩
theorem ifn {c A B : Prop} (h : ¬ c) (b : B) : (c → A) ∧ (¬ c → B) := ⟨fun z => absurd z h, fun _ => b⟩
theorem ifp' {c A B : Prop} (h : c) (b : B) : (¬ c → A) ∧ (c → B) := ⟨fun z => absurd h z, fun _ => b⟩
theorem ifn' {c A B : Prop} (h : ¬ c) (a : A) : (¬ c → A) ∧ (c → B) := ⟨fun _ => a, fun z => absurd z h⟩
theorem one0 : ¬ (1 : Int32) = 0 := by decide
theorem okc (x : Int32) {n : Nat} (hn : n ≤ 200) : (∃ i, i < n ∧ x = nI i) ∨ ¬ ok x n := by
  by_cases h : ok x n
  · exact Or.inl (ok_nI h (by omega))
  · exact Or.inr h
theorem nI_ok' {i n : Nat} (h : i < n) (hn : n ≤ 200) : ok (nI i) n := nI_ok h (by omega)
theorem nIlt {i n : Nat} (h : i < n) (hn : n ≤ 2000) : nI i < nI n := nI_lt h (by omega)
theorem nInn {i : Nat} (hn : i < 2000) : ¬ nI i < 0 := nI_pos (by omega)
section SM
variable {np nr ns no : Nat} {T : mT} {X : String → mT → Prop}
theorem u8 {K : Nat → Prop} (h : K 0) : u_at (cN np nr ns no) (some 0) 8 K := ⟨0, rfl, Nat.one_pos, h⟩
theorem u7 {K : Nat → Prop} (h : K 0) : u_at (cN np nr ns no) (some 0) 7 K := ⟨0, rfl, Nat.one_pos, h⟩
theorem u1 {K : Nat → Prop} (h : K 0) : u_at (cN np nr ns no) (some 0) 1 K := ⟨0, rfl, Nat.one_pos, h⟩
theorem ug8 {α : Type} {F : Nat → α} {K : α → Prop} (h : K (F 0)) : u_g (cN np nr ns no) (some 0) 8 F K := ⟨0, rfl, Nat.one_pos, h⟩
theorem ug7 {α : Type} {F : Nat → α} {K : α → Prop} (h : K (F 0)) : u_g (cN np nr ns no) (some 0) 7 F K := ⟨0, rfl, Nat.one_pos, h⟩
theorem ug1 {α : Type} {F : Nat → α} {K : α → Prop} (h : K (F 0)) : u_g (cN np nr ns no) (some 0) 1 F K := ⟨0, rfl, Nat.one_pos, h⟩
theorem ugi {α : Type} {c : Nat → Nat} {k i : Nat} {F : Nat → α} {K : α → Prop} (hi : i < c k) (h : K (F i)) : u_g c (some i) k F K := ⟨i, rfl, hi, h⟩
theorem uai {α : Type} {c : Nat → Nat} {k i j n : Nat} {F : Nat → Nat → α} {K : α → Prop} (hi : i < c k) (hj : j < n) (hn : n ≤ 30) (h : K (F i j)) : u_a c (some i) k n (nI j) F K := ⟨i, rfl, hi, vp_in_nI hj (by omega), by rw [nI_clamp (by omega)]; exact h⟩
theorem u_ck {j : Nat} {Q : mT → Prop} {c : Nat → Nat} (hj : j < 4) (h : Q T) : uX7_checkKind c (nI j) T Q X := ifn (nInn (by omega)) (ifp (nIlt (n := 4) hj (by omega)) h)
theorem u_ck_no {x : Int32} {Q : mT → Prop} {c : Nat → Nat} (hx : ¬ ok x 4) (h : X "java/lang/IndexOutOfBoundsException" T) : uX7_checkKind c x T Q X :=
  ⟨fun _ => h, fun q => ⟨fun q2 => absurd (of_ok (n := 4) (by decide) q q2) hx, fun _ => h⟩⟩
theorem u_cr {x a b : Int32} {Q : mT → Prop} {c : Nat → Nat} (h1 : ¬ x < a) (h2 : x ≤ b) (h : Q T) : uX7_checkRange c x a b T Q X := ifn h1 (ifp h2 h)
theorem u_cr_no {x a b : Int32} {Q : mT → Prop} {c : Nat → Nat} (h1 : ¬ (¬ x < a ∧ x ≤ b)) (h : X "java/lang/IllegalArgumentException" T) : uX7_checkRange c x a b T Q X :=
  ⟨fun _ => h, fun q => ⟨fun q2 => absurd ⟨q, q2⟩ h1, fun _ => h⟩⟩
theorem u_pl {i : Nat} {Q : Option Nat → mT → Prop} (hi : i < np) (hn : np ≤ 200) (h : Q (some i) T) : uX7_playerAt (cN np nr ns no) 0 (nI i) T Q X :=
  ifn (nInn (by omega)) (ug8 ⟨0, rfl, by decide, ifp (nIlt (n := np) hi (by omega)) (ug8 ⟨0, i, rfl, by decide, rfl, rfl, hi, h⟩)⟩)
theorem u_pl_no {x : Int32} {Q : Option Nat → mT → Prop} (hx : ¬ ok x np) (hn : np ≤ 200) (h : X "java/lang/IndexOutOfBoundsException" T) : uX7_playerAt (cN np nr ns no) 0 x T Q X :=
  ⟨fun _ => h, fun q => ug8 ⟨0, rfl, by decide, ⟨fun q2 => absurd (of_ok (n := np) (by omega) q q2) hx, fun _ => h⟩⟩⟩
theorem u_ru {i : Nat} {Q : Option Nat → mT → Prop} (hi : i < nr) (hn : nr ≤ 200) (h : Q (some i) T) : uX7_ruleAt (cN np nr ns no) 0 (nI i) T Q X :=
  ifn (nInn (by omega)) (ug8 ⟨1, rfl, by decide, ifp (nIlt (n := nr) hi (by omega)) (ug8 ⟨1, i, rfl, by decide, rfl, rfl, hi, h⟩)⟩)
theorem u_ru_no {x : Int32} {Q : Option Nat → mT → Prop} (hx : ¬ ok x nr) (hn : nr ≤ 200) (h : X "java/lang/IndexOutOfBoundsException" T) : uX7_ruleAt (cN np nr ns no) 0 x T Q X :=
  ⟨fun _ => h, fun q => ug8 ⟨1, rfl, by decide, ⟨fun q2 => absurd (of_ok (n := nr) (by omega) q q2) hx, fun _ => h⟩⟩⟩
theorem u_of {i : Nat} {Q : Option Nat → mT → Prop} (hi : i < no) (hn : no ≤ 200) (h : Q (some i) T) : uX7_offerAt (cN np nr ns no) 0 (nI i) T Q X :=
  ifn (nInn (by omega)) (ug8 ⟨2, rfl, by decide, ifp (nIlt (n := no) hi (by omega)) (ug8 ⟨2, i, rfl, by decide, rfl, rfl, hi, h⟩)⟩)
theorem u_of_no {x : Int32} {Q : Option Nat → mT → Prop} (hx : ¬ ok x no) (hn : no ≤ 200) (h : X "java/lang/IndexOutOfBoundsException" T) : uX7_offerAt (cN np nr ns no) 0 x T Q X :=
  ⟨fun _ => h, fun q => ug8 ⟨2, rfl, by decide, ⟨fun q2 => absurd (of_ok (n := no) (by omega) q q2) hx, fun _ => h⟩⟩⟩
theorem u_th {i : Nat} {Q : Option Nat → mT → Prop} (hi : i < ns) (hn : ns ≤ 200) (h : Q (some i) T) : uX6_at (cN np nr ns no) 0 (nI i) T Q X :=
  ifn (nInn (by omega)) (ug7 ⟨3, rfl, by decide, ifp (nIlt (n := ns) hi (by omega)) (ug7 ⟨3, i, rfl, by decide, rfl, rfl, hi, h⟩)⟩)
theorem u_th_no {x : Int32} {Q : Option Nat → mT → Prop} (hx : ¬ ok x ns) (hn : ns ≤ 200) (h : X "java/lang/IndexOutOfBoundsException" T) : uX6_at (cN np nr ns no) 0 x T Q X :=
  ⟨fun _ => h, fun q => ug7 ⟨3, rfl, by decide, ⟨fun q2 => absurd (of_ok (n := ns) (by omega) q q2) hx, fun _ => h⟩⟩⟩
end SM
section MM
variable {T : mT} {Q : Int32 → mT → Prop} {x : Int32} {i n : Nat}
theorem m_pl (hT : T.1 5 = nI n) (hn : n ≤ 200) (hi : i < n) (h : Q 0 T) : tX8_noPlayer (nI i) T Q := e_noPlayer hT (by omega) (fun _ => h) (fun z => absurd (nI_ok' hi hn) z)
theorem m_pl_no (hT : T.1 5 = nI n) (hn : n ≤ 200) (hx : ¬ ok x n) (h : Q 1 T) : tX8_noPlayer x T Q := e_noPlayer hT (by omega) (fun z => absurd z hx) (fun _ => h)
theorem m_ru (hT : T.1 12 = nI n) (hn : n ≤ 200) (hi : i < n) (h : Q 0 T) : tX8_noRule (nI i) T Q := e_noRule hT (by omega) (fun _ => h) (fun z => absurd (nI_ok' hi hn) z)
theorem m_ru_no (hT : T.1 12 = nI n) (hn : n ≤ 200) (hx : ¬ ok x n) (h : Q 1 T) : tX8_noRule x T Q := e_noRule hT (by omega) (fun z => absurd z hx) (fun _ => h)
theorem m_si (hT : T.1 25 = nI n) (hn : n ≤ 200) (hi : i < n) (h : Q 0 T) : tX8_noSingle (nI i) T Q := e_noSingle hT (by omega) (fun _ => h) (fun z => absurd (nI_ok' hi hn) z)
theorem m_si_no (hT : T.1 25 = nI n) (hn : n ≤ 200) (hx : ¬ ok x n) (h : Q 1 T) : tX8_noSingle x T Q := e_noSingle hT (by omega) (fun z => absurd z hx) (fun _ => h)
theorem m_ki (hi : i < 4) (h : Q 0 T) : tX8_noKind (nI i) T Q := e_no (n := 4) (J := tX8_noKind_J17) (fun t T h => h) (by decide) (fun _ => h) (fun z => absurd (nI_ok' hi (by decide)) z)
theorem m_ki_no (hx : ¬ ok x 4) (h : Q 1 T) : tX8_noKind x T Q := e_no (n := 4) (J := tX8_noKind_J17) (fun t T h => h) (by decide) (fun z => absurd z hx) (fun _ => h)
theorem i2l_lit {v : Int} {a : Int32} {b : Int64} (h1 : a.toInt = v) (h2 : b.toInt = v) : b = a.toInt64 := by
  apply Int64.toInt_inj.mp
  rw [h2, Int32.toInt_toInt64, h1]
theorem m_in {a b : Int64} {a' b' : Int32} (ha : a = a'.toInt64) (hb : b = b'.toInt64) (h1 : ¬ x < a') (h2 : x ≤ b') (h : Q 1 T) : tX8_in x.toInt64 a b T Q := by
  refine e_in ?_
  rw [ha, hb, bi_t ⟨(i2l_le _ _).mpr (Int32.not_lt.mp h1), (i2l_le _ _).mpr h2⟩]
  exact h
theorem m_in_no {a b : Int64} {a' b' : Int32} (ha : a = a'.toInt64) (hb : b = b'.toInt64) (h1 : ¬ (¬ x < a' ∧ x ≤ b')) (h : Q 0 T) : tX8_in x.toInt64 a b T Q := by
  refine e_in ?_
  rw [ha, hb, bi_f (fun z => h1 ⟨Int32.not_lt.mpr ((i2l_le _ _).mp z.1), (i2l_le _ _).mp z.2⟩)]
  exact h
theorem m_ti0 {c : Int32} (h : Q 0 T) : tX8_throwsIf 0 c T Q := e_throwsIf0 h
theorem m_ti1 {c : Int32} (h : Q 1 (m_sI T 0 c)) : tX8_throwsIf 1 c T Q := e_throwsIf1 h
theorem m_len_le (k : Nat) : m_len k ≤ 1200 := by
  unfold m_len
  (repeat' split) <;> omega
theorem m_ld {k : Nat} {K : Int32 → Prop} (hi : i < m_len k) (h : K (T.2.1 k i)) : t_ldI T k (nI i) K := ⟨vp_in_nI hi (by have := m_len_le k; omega), by rw [nI_clamp (by have := m_len_le k; omega)]; exact h⟩
theorem m_ldJ {k : Nat} {K : Int64 → Prop} (hi : i < m_len k) (h : K (T.2.2 k i)) : t_ldJ T k (nI i) K := ⟨vp_in_nI hi (by have := m_len_le k; omega), by rw [nI_clamp (by have := m_len_le k; omega)]; exact h⟩
theorem m_st {k : Nat} {K : mT → Prop} {v : Int32} (hi : i < m_len k) (h : K (m_sA T k i v)) : t_stI T k (nI i) v K := ⟨vp_in_nI hi (by have := m_len_le k; omega), by rw [nI_clamp (by have := m_len_le k; omega)]; exact h⟩
theorem m_stJ {k : Nat} {K : mT → Prop} {v : Int64} (hi : i < m_len k) (h : K (m_sJ T k i v)) : t_stJ T k (nI i) v K := ⟨vp_in_nI hi (by have := m_len_le k; omega), by rw [nI_clamp (by have := m_len_le k; omega)]; exact h⟩
theorem nar01 {v : Int32} (h : v = 0 ∨ v = 1) : vp_nar .boolean v = v := by
  rcases h with rfl | rfl <;> decide
theorem m_stZ {k : Nat} {K : mT → Prop} {v : Int32} (hv : v = 0 ∨ v = 1) (hi : i < m_len k) (h : K (m_sA T k i v)) : t_stZ T k (nI i) v K := ⟨vp_in_nI hi (by have := m_len_le k; omega), by rw [nI_clamp (by have := m_len_le k; omega), nar01 hv]; exact h⟩
end MM
theorem ix4 (i j : Nat) : (4 : Int32) * nI i + nI j = nI (4 * i + j) := by
  rw [show (4 : Int32) = nI 4 from rfl, pk_mul, nI_add]
theorem ix30 (i j : Nat) : (30 : Int32) * nI i + nI j = nI (30 * i + j) := by
  rw [show (30 : Int32) = nI 30 from rfl, pk_mul, nI_add]
theorem ix10 (i : Nat) : (10 : Int32) * nI i = nI (10 * i) := by
  rw [show (10 : Int32) = nI 10 from rfl, pk_mul]
section OKS
variable {n np nr ns no : Nat} {T : mT}
theorem OK.bad {k : Int32} {v b : Int64} (hI : IV n T np nr ns no) (hk : k ≠ 0) : OK n np nr ns no k v b T (m_sI (m_sI T 0 0) 0 k) := ⟨rfl, fun z => absurd z hk, ⟨rfl, rfl, fun _ _ => rfl, rfl, rfl⟩, hI.up⟩
theorem OK.same {v b : Int64} (hI : IV n T np nr ns no) (hv : v = b) : OK n np nr ns no 0 v b T (m_sI T 0 0) := ⟨rfl, fun _ => hv, ⟨rfl, rfl, fun _ _ => rfl, rfl, rfl⟩, hI.up⟩
abbrev IOB : String := "java/lang/IndexOutOfBoundsException"
abbrev IAE : String := "java/lang/IllegalArgumentException"
abbrev UOE : String := "java/lang/UnsupportedOperationException"
theorem sim_has (hI : IV n T np nr ns no) (p k : Int32) : uX7_has (cN np nr ns no) 0 p k T (fun v T1 => tX8_has p k T (fun b T2 => OK n np nr ns no 0 v.toInt64 b.toInt64 T1 T2)) (fun E T1 => E = IOB ∧ tX8_has p k T (fun _ T2 => OK n np nr ns no 1 0 0 T1 T2)) := by
  have hp := hI.1.1
  rcases okc p (show np ≤ 200 by omega) with ⟨i, hi, rfl⟩ | hno
  · refine u8 (u_pl hi (by omega) ?_)
    rcases okc k (show 4 ≤ 200 by omega) with ⟨j, hj, rfl⟩ | hno
    · refine u_ck hj (ugi hi (uai hi hj (by decide) ?_))
      refine m_pl (n := np) hp.1 (by omega) hi (ifp' rfl (m_ki hj (ifp rfl (m_ti0 (ifp rfl ?_)))))
      rw [ix4]
      exact m_ld (show 4 * i + j < 40 by omega) (OK.same hI rfl)
    · refine u_ck_no hno ⟨rfl, ?_⟩
      exact m_pl (n := np) hp.1 (by omega) hi (ifp' rfl (m_ki_no hno (ifn one0 (m_ti1 (ifn one0 (OK.bad hI one0))))))
  · refine u8 (u_pl_no hno (by omega) ⟨rfl, ?_⟩)
    exact m_pl_no (n := np) hp.1 (by omega) hno (ifn' one0 (m_ti1 (ifn one0 (OK.bad hI one0))))
theorem sim_sum (hI : IV n T np nr ns no) (k b : Int32) : uX7_sum (cN np nr ns no) 0 k b T (fun v T1 => tX8_sum k b T (fun w T2 => OK n np nr ns no 0 v w T1 T2)) (fun E T1 => E = IOB ∧ tX8_sum k b T (fun _ T2 => OK n np nr ns no 1 0 0 T1 T2)) := by
  rcases okc k (show 4 ≤ 200 by omega) with ⟨j, hj, rfl⟩ | hno
  · refine u_ck hj ⟨fun hb => ug8 (uai Nat.one_pos hj (by decide) ?_), fun hb => ug8 (uai Nat.one_pos hj (by decide) ?_)⟩
    · exact m_ki hj (m_ti0 (ifp rfl (ifp hb (m_ldJ (show j < 4 by omega) (OK.same hI rfl)))))
    · exact m_ki hj (m_ti0 (ifp rfl (ifn hb (m_ldJ (show j < 4 by omega) (OK.same hI rfl)))))
  · exact u_ck_no hno ⟨rfl, m_ki_no hno (m_ti1 (ifn one0 (OK.bad hI one0)))⟩
end OKS
