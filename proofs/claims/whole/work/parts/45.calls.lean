/-! The invariant, and the calls one by one. -/
/-- T is sound: what the numbers can be after n calls -/
def IV (n : Nat) (T : mT) (np nr ns no : Nat) : Prop := (T.1 5 = nI np ∧ np ≤ 10) ∧ (T.1 12 = nI nr ∧ nr ≤ 10) ∧ (T.1 25 = nI ns ∧ ns ≤ 40) ∧ (T.1 28 = nI no ∧ no ≤ 60)
def outP (S : qS) (x3 : Nat) : Prop := inP S x3 29 ∧ qN S x3 = 1
def VV (g : Nat × Nat) (n x1 x2 x3 : Nat) (S : qS) : Prop := ∃ (A : Nat → Nat → Nat) (C : Nat → Nat) (ad : Nat → Nat) (T : mT) (np nr ns no : Nat), IV n T np nr ns no ∧ RC g S x1 A C T np nr ns no ∧ RM S x2 ad T ∧ outP S x3
theorem c_has {g : Nat × Nat} {x np nr ns no : Nat} {p k : Int32} {S : qS} {A : Nat → Nat → Nat} {C : Nat → Nat} {T : mT} {post : Int32 → qS → Prop} {xp : String → qS → Prop} (hC : RC g S x A C T np nr ns no) (hn : np ≤ 10) (h1 : ∀ i j, i < np → j < 4 → p = nI i → k = nI j → post (T.2.1 2 (4 * i + j)) S) (h2 : ¬ (ok p np ∧ ok k 4) → xp "java/lang/IndexOutOfBoundsException" S) : pX7_has x p k S post xp := by
  obtain ⟨hX, -, hP, -, -, -, hL, -⟩ := hC
  refine g_at hX.1 (c_playerAt hX.1 hX.2.1 hL.1 (by omega) (fun i hi ei => ?_) (fun q => h2 (fun z => q z.1)))
  refine c_checkKind (fun q => ?_) (fun q => h2 (fun z => q z.2))
  obtain ⟨j, hj, rfl⟩ := ok_nI q (by decide)
  obtain ⟨a1, a2, a3, a4, a5, a6, a7, a8⟩ := hP i hi
  exact g_R a1 rfl a3 (g_ldI a6 a7 hj (by decide) (a8 j hj) (h1 i j hi hj ei rfl))
theorem e_noKind {x : Int32} {T : mT} {Q : Int32 → mT → Prop} (hx : ok x 4 → Q 0 T) (hy : ¬ ok x 4 → Q 1 T) : tX8_noKind x T Q := by
  unfold tX8_noKind
  exact e_no (n := 4) (J := tX8_noKind_J17) (fun t T h => h) (by decide) hx hy
theorem ix4 (i j : Nat) : (4 : Int32) * nI i + nI j = nI (4 * i + j) := by
  rw [show (4 : Int32) = nI 4 from rfl, pk_mul, nI_add]
theorem t_ld {T : mT} {k i : Nat} {K : Int32 → Prop} (hi : i < m_len k) (hl : m_len k < 2 ^ 31) (h : K (T.2.1 k i)) : t_ldI T k (nI i) K := ⟨vp_in_nI hi hl, by rw [nI_clamp (by omega)]; exact h⟩
theorem m_has {np : Nat} {p k : Int32} {T : mT} {Q : Int32 → mT → Prop} (hT : T.1 5 = nI np) (hn : np ≤ 10) (h1 : ∀ i j, i < np → j < 4 → p = nI i → k = nI j → Q (T.2.1 2 (4 * i + j)) (m_sI T 0 0)) (h2 : ¬ (ok p np ∧ ok k 4) → ∀ v, Q v (m_sI (m_sI T 0 0) 0 1)) : tX8_has p k T Q := by
  unfold tX8_has t_putI
  refine e_noPlayer (n := np) hT (by omega) (fun q => ⟨fun z => absurd rfl z, fun _ => ?_⟩) (fun q => ⟨fun _ => ?_, fun z => absurd z (by decide)⟩)
  · refine e_noKind (fun q2 => ⟨fun _ => ?_, fun z => absurd rfl z⟩) (fun q2 => ⟨fun z => absurd z (by decide), fun _ => ?_⟩)
    · obtain ⟨i, hi, rfl⟩ := ok_nI q (by omega)
      obtain ⟨j, hj, rfl⟩ := ok_nI q2 (by decide)
      unfold tX8_has_J26 tX8_has_J47
      refine e_throwsIf0 ⟨fun _ => ?_, fun z => absurd rfl z⟩
      rw [ix4]
      exact t_ld (by show _ < 40; omega) (by decide) (h1 i j hi hj rfl rfl)
    · unfold tX8_has_J21 tX8_has_J26 tX8_has_J47
      exact e_throwsIf1 ⟨fun z => absurd z (by decide), fun _ => h2 (fun z => q2 z.2) _⟩
  · unfold tX8_has_J21 tX8_has_J26 tX8_has_J47
    exact e_throwsIf1 ⟨fun z => absurd z (by decide), fun _ => h2 (fun z => q z.1) _⟩
