/-! The invariant, and the calls one by one. -/
/-- T is sound: what the numbers can be after n calls -/
def IV (n : Nat) (T : mT) (np nr ns no : Nat) : Prop := (T.1 5 = nI np ∧ np ≤ 10) ∧ (T.1 12 = nI nr ∧ nr ≤ 10) ∧ (T.1 25 = nI ns ∧ ns ≤ 40) ∧ (T.1 28 = nI no ∧ no ≤ 60)
def outP (S : qS) (x3 : Nat) : Prop := inP S x3 29 ∧ qN S x3 = 1
def VV (g : Nat × Nat) (n x1 x2 x3 : Nat) (S : qS) : Prop := ∃ (A : Nat → Nat → Nat) (C : Nat → Nat) (ad : Nat → Nat) (T : mT) (np nr ns no : Nat), IV n T np nr ns no ∧ RC g S x1 A C T np nr ns no ∧ RM S x2 ad T ∧ outP S x3
theorem c_has {g : Nat × Nat} {x np nr ns no : Nat} {p k : Int32} {S : qS} {A : Nat → Nat → Nat} {C : Nat → Nat} {T : mT} {post : Int32 → qS → Prop} {xp : String → qS → Prop} (hC : RC g S x A C T np nr ns no) (hn : np ≤ 10) (h1 : ∀ i j, i < np → j < 4 → p = nI i → k = nI j → post (T.2.1 2 (4 * i + j)) S) (h2 : ¬ (ok p np ∧ ok k 4) → xp "java/lang/IndexOutOfBoundsException" S) : pX7_has x p k S post xp := by
  obtain ⟨hX, -, hP, -, -, -, hL, -⟩ := hC
  refine g_at hX.1 (c_playerAt hX.1 hX.2.1 hL.1 (by omega) (fun i hi ei => ?_) (fun q => h2 (fun z => q z.1)))
  refine c_checkKind (fun q => ?_) (fun q => h2 (fun z => q z.2))
  obtain ⟨j, hj, rfl⟩ := ok_nI q (by decide)
  obtain ⟨a1, a2, a3, a4, a5, a6, a7, a8⟩ := hP i hi
  exact g_R a1 rfl a3 (g_ldI a6 a7 hj (by decide) (a8 j hj) (h1 i j hi hj ei rfl))
theorem e_noKind {x : Int32} {T : mT} {Q : Int32 → mT → Prop} (hx : ok x 4 → Q 0 T) (hy : ¬ ok x 4 → Q 1 T) : tX8_noKind x T Q := by
  unfold tX8_noKind
  exact e_no (n := 4) (J := tX8_noKind_J17) (fun t T h => h) (by decide) hx hy
theorem ix4 (i j : Nat) : (4 : Int32) * nI i + nI j = nI (4 * i + j) := by
  rw [show (4 : Int32) = nI 4 from rfl, pk_mul, nI_add]
theorem t_ld {T : mT} {k i : Nat} {K : Int32 → Prop} (hi : i < m_len k) (hl : m_len k < 2 ^ 31) (h : K (T.2.1 k i)) : t_ldI T k (nI i) K := ⟨vp_in_nI hi hl, by rw [nI_clamp (by omega)]; exact h⟩
theorem m_has {np : Nat} {p k : Int32} {T : mT} {Q : Int32 → mT → Prop} (hT : T.1 5 = nI np) (hn : np ≤ 10) (h1 : ∀ i j, i < np → j < 4 → p = nI i → k = nI j → Q (T.2.1 2 (4 * i + j)) (m_sI T 0 0)) (h2 : ¬ (ok p np ∧ ok k 4) → ∀ v, Q v (m_sI (m_sI T 0 0) 0 1)) : tX8_has p k T Q := by
  unfold tX8_has t_putI
  refine e_noPlayer (n := np) hT (by omega) (fun q => ⟨fun z => absurd rfl z, fun _ => ?_⟩) (fun q => ⟨fun _ => ?_, fun z => absurd z (by decide)⟩)
  · refine e_noKind (fun q2 => ⟨fun _ => ?_, fun z => absurd rfl z⟩) (fun q2 => ⟨fun z => absurd z (by decide), fun _ => ?_⟩)
    · obtain ⟨i, hi, rfl⟩ := ok_nI q (by omega)
      obtain ⟨j, hj, rfl⟩ := ok_nI q2 (by decide)
      unfold tX8_has_J26 tX8_has_J47
      refine e_throwsIf0 ⟨fun _ => ?_, fun z => absurd rfl z⟩
      rw [ix4]
      exact t_ld (by show _ < 40; omega) (by decide) (h1 i j hi hj rfl rfl)
    · unfold tX8_has_J21 tX8_has_J26 tX8_has_J47
      exact e_throwsIf1 ⟨fun z => absurd z (by decide), fun _ => h2 (fun z => q2 z.2) _⟩
  · unfold tX8_has_J21 tX8_has_J26 tX8_has_J47
    exact e_throwsIf1 ⟨fun z => absurd z (by decide), fun _ => h2 (fun z => q z.1) _⟩
/-- S and S' differ in nothing that the class's relation sees -/
def ag (S S' : qS) : Prop := qL S' = qL S ∧ qK S' = qK S ∧ qN S' = qN S ∧ (∀ f, f < 360 → qI S' f = qI S f) ∧ qR S' = qR S ∧ (∀ k, k < 29 → qAI S' k = qAI S k) ∧ (∀ k, k < 29 → qAJ S' k = qAJ S k) ∧ qAO S' = qAO S
theorem ag.of {S S' : qS} (h : mfr S S') : ag S S' := ⟨h.1, h.2.1, h.2.2.2.2.2.1, h.2.2.1, h.2.2.2.2.1, fun k hk => h.2.2.2.2.2.2.1 k (by omega), fun k hk => h.2.2.2.2.2.2.2.1 k (by omega), h.2.2.2.2.2.2.2.2⟩
theorem ag.out (S : qS) (a i : Nat) (v : Int64) : ag S (qsAJ S 29 a i v) := ⟨rfl, rfl, rfl, fun _ _ => rfl, rfl, fun _ _ => rfl, fun k hk => by
  funext b
  show q_u2 (qAJ S) 29 a _ k b = qAJ S k b
  unfold q_u2
  rw [if_neg (by omega)], rfl⟩
set_option maxHeartbeats 1000000 in
theorem RC.ag {g : Nat × Nat} {S S' : qS} {x np nr ns no : Nat} {A : Nat → Nat → Nat} {C : Nat → Nat} {T : mT} (h : RC g S x A C T np nr ns no) (ha : ag S S') : RC g S' x A C T np nr ns no := by
  obtain ⟨hL, hK, hN, hI, hR, hAI, hAJ, hAO⟩ := ha
  simp only [RC, rcX, rcH, rcP, rcR, rcS, rcO, rcSide, rcList, inP, hL, hK, hN, hR, hAO, hI _ (show 328 < 360 by decide), hI _ (show 329 < 360 by decide), hI _ (show 120 < 360 by decide), hI _ (show 122 < 360 by decide), hI _ (show 123 < 360 by decide), hI _ (show 160 < 360 by decide), hI _ (show 163 < 360 by decide), hI _ (show 240 < 360 by decide), hI _ (show 241 < 360 by decide), hI _ (show 242 < 360 by decide), hI _ (show 245 < 360 by decide), hI _ (show 246 < 360 by decide), hI _ (show 247 < 360 by decide), hI _ (show 82 < 360 by decide), hI _ (show 201 < 360 by decide), hI _ (show 202 < 360 by decide), hI _ (show 204 < 360 by decide), hI _ (show 2 < 360 by decide), hAI _ (show 15 < 29 by decide), hAI _ (show 10 < 29 by decide), hAI _ (show 11 < 29 by decide), hAI _ (show 12 < 29 by decide), hAI _ (show 13 < 29 by decide), hAI _ (show 14 < 29 by decide), hAJ _ (show 18 < 29 by decide), hAJ _ (show 19 < 29 by decide)]
  exact h
theorem RM.out {S : qS} {mo a i : Nat} {v : Int64} {ad : Nat → Nat} {T : mT} (h : RM S mo ad T) : RM (qsAJ S 29 a i v) mo ad T := ⟨h.1, h.2.1, h.2.2.1, h.2.2.2.1, h.2.2.2.2.1, fun k hk ht => by
  show q_u2 (qAJ S) 29 a _ (30 + k) (ad k) = T.2.2 k
  unfold q_u2
  rw [if_neg (by omega)]
  exact h.2.2.2.2.2 k hk ht⟩
theorem RC.thr {g : Nat × Nat} {S : qS} {x np nr ns no : Nat} {A : Nat → Nat → Nat} {C : Nat → Nat} {T : mT} {c : Int32} (h : RC g S x A C T np nr ns no) : RC g S x A C (m_sI T 0 c) np nr ns no := h
theorem IV.thr {n : Nat} {T : mT} {np nr ns no : Nat} {c : Int32} (h : IV n T np nr ns no) : IV n (m_sI T 0 c) np nr ns no := h
theorem IV.up {n : Nat} {T : mT} {np nr ns no : Nat} (h : IV n T np nr ns no) : IV (n + 1) T np nr ns no := h
theorem outP.ag {S S' : qS} {x : Nat} (h : outP S x) (ha : ag S S') : outP S' x := by
  unfold outP inP at h ⊢
  rw [ha.1, ha.2.1, ha.2.2.1]
  exact h
theorem vin {n L j : Nat} (hj : j ≤ 8) (h : 9 * n + 9 ≤ L) (hL : L ≤ 4608) : vp_in (nI (9 * n) + nI j) L := by
  rw [nI_add]
  exact vp_in_nI (by omega) (by omega)
theorem e_thrown {S : qS} {mo : Nat} {ad : Nat → Nat} {T : mT} {post : Int32 → qS → Prop} {xp : String → qS → Prop} (hM : RM S mo ad T) (h : post (T.1 0) S) : pX8_thrown mo S post xp := g_I ⟨hM.1, hM.2.1⟩ rfl (hM.2.2.1 0 (by decide) (by decide)) h
theorem outw {S : qS} {x3 : Nat} {v : Int64} {K : qS → Prop} (h : outP S x3) (hk : K (qsAJ S 29 x3 0 v)) : w_stJ S (some x3) 29 (0 : Int32) v K := ⟨x3, rfl, h.1.1, h.1.2, by rw [h.2]; exact vp_in_nI (n := 0) (by decide) (by decide), hk⟩
theorem outr {S : qS} {x3 : Nat} {K : Int64 → Prop} (h : outP S x3) (hk : K (qAJ S 29 x3 0)) : w_ldJ S (some x3) 29 (0 : Int32) K := ⟨x3, rfl, h.1.1, h.1.2, by rw [h.2]; exact vp_in_nI (n := 0) (by decide) (by decide), hk⟩
theorem outv (S : qS) (x3 : Nat) (v : Int64) : qAJ (qsAJ S 29 x3 0 v) 29 x3 0 = v := by
  show q_u2 (qAJ S) 29 x3 (vp_updL (qAJ S 29 x3) 0 v) 29 x3 0 = v
  simp [q_u2, vp_updL]
/-- the law's comparison behind a call that answers an int -/
theorem fin_i {S : qS} {x2 x3 : Nat} {ad : Nat → Nat} {T : mT} {c b : Int32} {J : Prop} (hM : RM S x2 ad T) (ht : T.1 0 = c) (ho : outP S x3) (hv : c = 0 → qAJ S 29 x3 0 = b.toInt64) (hJ : J) :
    w_at S (some x2) 9 (fun b486 => pX8_thrown b486 S (fun v486 S' => ((v486 = c → ((¬ c = 0 → S' = S → J) ∧ (c = 0 → w_ldJ S' (some x3) 29 (0 : Int32) (fun v503 => (((lg_cmp v503 b.toInt64) = 0 → S' = S → J) ∧ (¬ (lg_cmp v503 b.toInt64) = 0 → False)))))) ∧ (¬ v486 = c → False))) (fun _ _ => False)) := by
  refine g_at ⟨hM.1, hM.2.1⟩ (e_thrown hM ⟨fun _ => ⟨fun _ _ => hJ, fun q => outr ho ⟨fun _ _ => hJ, fun z => z ((cmp_eq _ _).mpr (hv q))⟩⟩, fun z => z ht⟩)
