/-! What T can be after n calls; what class and Model must agree in; the invariant of the law's loop. -/
def rv (v : Int32) (m : Nat) : Prop := v = -1 ∨ ∃ j, j < m ∧ v = nI j
def bt (v : Int32) (a b : Int) : Prop := a ≤ v.toInt ∧ v.toInt ≤ b
/-- the chain of holders from k ends -/
def chn (h : Nat → Int32) : Nat → Nat → Prop
  | 0, _ => False
  | f + 1, k => h k = -1 ∨ ∃ j, h k = nI j ∧ j < 40 ∧ chn h f j
def ivG (R : Nat → Nat → Int32) (np : Nat) : Prop := (∀ j, bt (R 2 j) 0 1000000000) ∧ (∀ j, 4 * np ≤ j → R 2 j = 0) ∧ (∀ i, np ≤ i → R 3 i = 0 ∧ R 4 i = 0)
def ivL (R : Nat → Nat → Int32) (nr : Nat) : Prop := (∀ j, bt (R 7 j) 0 9 ∧ bt (R 8 j) 0 9) ∧ (∀ j, 4 * nr ≤ j → R 7 j = 0 ∧ R 8 j = 0) ∧ (∀ i, bt (R 10 i) 0 1000) ∧ (∀ i, nr ≤ i → R 10 i = 0) ∧ (∀ k, bt (R 11 k) 0 1000) ∧ (∀ i, R 9 i = 0 ∨ R 9 i = 1)
def ivS (R : Nat → Nat → Int32) (today : Int32) (n np ns : Nat) : Prop := (∀ i, i < ns → bt (R 15 i) 0 100 ∧ (R 16 i = 0 ∨ R 16 i = 1) ∧ bt (R 17 i) 0 8 ∧ rv (R 18 i) ns ∧ rv (R 19 i) np ∧ rv (R 21 i) np ∧ ((R 20 i = -1 ∧ R 21 i = -1) ∨ (today < R 20 i ∧ R 21 i ≠ -1)) ∧ bt (R 24 i) 0 (100 * n) ∧ ∃ f, chn (R 18) f i) ∧ (∀ i, ns ≤ i → R 15 i = 0 ∧ R 24 i = 0) ∧ (∀ j, 30 * ns ≤ j → R 22 j = 0 ∧ R 23 j = 0)
def ivO (R : Nat → Nat → Int32) (np ns no : Nat) : Prop := ∀ i, i < no → (∃ a b, a < np ∧ b < np ∧ a ≠ b ∧ R 26 (10 * i) = nI a ∧ R 26 (10 * i + 1) = nI b) ∧ bt (R 26 (10 * i + 2)) 0 1000000 ∧ bt (R 26 (10 * i + 5)) 0 1000000 ∧ (∃ k, k < 4 ∧ R 26 (10 * i + 3) = nI k) ∧ (∃ k, k < 4 ∧ R 26 (10 * i + 6) = nI k) ∧ rv (R 26 (10 * i + 4)) ns ∧ rv (R 26 (10 * i + 7)) ns ∧ (R 27 i = 0 ∨ R 27 i = 1)
def IV (n : Nat) (T : mT) (np nr ns no : Nat) : Prop := ((T.1 5 = nI np ∧ np ≤ 10) ∧ (T.1 12 = nI nr ∧ nr ≤ 10) ∧ (T.1 25 = nI ns ∧ ns ≤ 40) ∧ (T.1 28 = nI no ∧ no ≤ 60)) ∧ bt (T.1 1) 0 (1000 * n) ∧ ivG T.2.1 np ∧ ivL T.2.1 nr ∧ ivS T.2.1 (T.1 1) n np ns ∧ ivO T.2.1 np ns no
theorem IV.up {n np nr ns no : Nat} {T : mT} (h : IV n T np nr ns no) : IV (n + 1) T np nr ns no := by
  obtain ⟨h1, h2, h3, h4, h5, h6⟩ := h
  refine ⟨h1, ⟨h2.1, by have := h2.2; omega⟩, h3, h4, ⟨fun i hi => ?_, h5.2⟩, h6⟩
  obtain ⟨a1, a2, a3, a4, a5, a6, a7, a8, a9⟩ := h5.1 i hi
  exact ⟨a1, a2, a3, a4, a5, a6, a7, ⟨a8.1, by have := a8.2; omega⟩, a9⟩
/-- class and Model agree -/
def eqv (T1 T2 : mT) : Prop := T2.1 1 = T1.1 1 ∧ T2.1 6 = T1.1 6 ∧ (∀ k, k < 29 → T2.2.1 k = T1.2.1 k) ∧ T2.2.2 13 = T1.2.2 13 ∧ T2.2.2 14 = T1.2.2 14
def mix (T1 T2 : mT) : mT := (fun k => if k < 33 then T2.1 k else T1.1 k, fun k => if k < 33 then T2.2.1 k else T1.2.1 k, fun k => if k < 33 then T2.2.2 k else T1.2.2 k)
theorem mix_I {T1 T2 : mT} {k : Nat} (h : k < 33) : (mix T1 T2).1 k = T2.1 k := if_pos h
theorem mix_A {T1 T2 : mT} {k : Nat} (h : k < 33) : (mix T1 T2).2.1 k = T2.2.1 k := if_pos h
theorem mix_J {T1 T2 : mT} {k : Nat} (h : k < 33) : (mix T1 T2).2.2 k = T2.2.2 k := if_pos h
theorem mix_I' {T1 T2 : mT} {k : Nat} (h : ¬ k < 33) : (mix T1 T2).1 k = T1.1 k := if_neg h
theorem mix_A' {T1 T2 : mT} {k : Nat} (h : ¬ k < 33) : (mix T1 T2).2.1 k = T1.2.1 k := if_neg h
theorem mix_J' {T1 T2 : mT} {k : Nat} (h : ¬ k < 33) : (mix T1 T2).2.2 k = T1.2.2 k := if_neg h
theorem IV.mix {n np nr ns no : Nat} {T1 T2 : mT} (h : IV n T2 np nr ns no) : IV n (mix T1 T2) np nr ns no := h
theorem RM.mix {S : qS} {mo : Nat} {ad : Nat → Nat} {T1 T2 : mT} (h : RM S mo ad T2) : RM S mo ad (mix T1 T2) :=
  ⟨h.1, h.2.1, fun k hk ht => (h.2.2.1 k hk ht).trans (mix_I hk).symm, h.2.2.2.1, fun k hk ht => (h.2.2.2.2.1 k hk ht).trans (mix_A hk).symm, fun k hk ht => (h.2.2.2.2.2 k hk ht).trans (mix_J hk).symm⟩
/-- S and S' differ in nothing that the class's relation sees -/
def ag (S S' : qS) : Prop := qL S' = qL S ∧ qK S' = qK S ∧ qN S' = qN S ∧ (∀ f, f < 360 → qI S' f = qI S f) ∧ qJ S' = qJ S ∧ qR S' = qR S ∧ (∀ k, k < 29 → qAI S' k = qAI S k) ∧ (∀ k, k < 29 → qAJ S' k = qAJ S k) ∧ qAO S' = qAO S
theorem ag.of {S S' : qS} (h : mfr S S') : ag S S' := ⟨h.1, h.2.1, h.2.2.2.2.2.1, h.2.2.1, h.2.2.2.1, h.2.2.2.2.1, fun k hk => h.2.2.2.2.2.2.1 k (by omega), fun k hk => h.2.2.2.2.2.2.2.1 k (by omega), h.2.2.2.2.2.2.2.2⟩
theorem ag.out (S : qS) (a i : Nat) (v : Int64) : ag S (qsAJ S 29 a i v) := ⟨rfl, rfl, rfl, fun _ _ => rfl, rfl, rfl, fun _ _ => rfl, fun k hk => by
  funext b
  exact u2_ne (by omega), rfl⟩
theorem f_lo : (∀ f ∈ fLI, f < 360 ∧ f_row f < 29) ∧ (∀ f ∈ fLR, f < 360 ∧ f_row f < 29) ∧ (∀ f ∈ fLF, f < 360) ∧ (∀ k ∈ aLI, k < 29 ∧ (a_row k < 29 ∨ 33 ≤ a_row k)) := by decide
theorem RU.ag {g : Nat × Nat} {S S' : qS} {A : Nat → Nat → Nat} {C c : Nat → Nat} {T : mT} (h : RU g S A C c T) (ha : ag S S') : RU g S' A C c T := by
  obtain ⟨hL, hK, hN, hI, hJ, hR, hAI, hAJ, hAO⟩ := ha
  obtain ⟨h1, h2, h3, h4, ⟨h5, h6, h7⟩, h8, h9, h10, h11, h12, ⟨h13, h14⟩, h15⟩ := h
  refine ⟨fun k i hi => by unfold inP; rw [hL, hK]; exact h1 k i hi, fun f i hf hi => by rw [hI f (f_lo.1 f hf).1]; exact h2 f i hf hi, by rw [hR]; exact h3, by rw [hR]; exact h4, ⟨fun f i hf hi => by rw [hI f (f_lo.2.2.1 f hf)]; exact h5 f i hf hi, fun f i hf hi => ?_, by rw [hJ]; exact h7⟩, fun k i j hk hi hj => by rw [hAI k (f_lo.2.2.2 k hk).1]; exact h8 k i j hk hi hj, fun k i j hk hi hj => ?_, by rw [hAO]; exact h10, by rw [hN]; exact h11, h12, ⟨fun l hl => ?_, h14⟩, h15⟩
  · rw [hI f]
    · exact h6 f i hf hi
    · simp only [List.mem_cons, List.not_mem_nil, or_false] at hf
      omega
  · rw [hAJ k]
    · exact h9 k i j hk hi hj
    · simp only [aLJ, List.mem_cons, List.not_mem_nil, or_false] at hk
      omega
  · have := h13 l hl
    unfold rcList inP at this ⊢
    rw [hI 2 (by decide), hR, hL, hK, hN, hAO]
    exact this
theorem RU.eqv {g : Nat × Nat} {S : qS} {A : Nat → Nat → Nat} {C c : Nat → Nat} {T1 T2 : mT} (h : RU g S A C c T1) (he : eqv T1 T2) : RU g S A C c (mix T1 T2) := by
  obtain ⟨e1, e6, eA, e13, e14⟩ := he
  obtain ⟨h1, h2, h3, h4, ⟨h5, h6, h7⟩, h8, h9, h10, h11, h12, ⟨h13, h14⟩, h15⟩ := h
  have rA : ∀ k, k < 29 → (mix T1 T2).2.1 k = T1.2.1 k := fun k hk => (mix_A (by omega)).trans (eA k hk)
  refine ⟨h1, fun f i hf hi => by rw [rA _ (f_lo.1 f hf).2]; exact h2 f i hf hi, fun f i hf hi => by rw [rA _ (f_lo.2.1 f hf).2]; exact h3 f i hf hi, h4, ⟨fun f i hf hi => ?_, h6, by rw [mix_J' (by decide)]; exact h7⟩, fun k i j hk hi hj => ?_, fun k i j hk hi hj => ?_, h10, h11, h12, ⟨h13, h14⟩, h15⟩
  · rw [h5 f i hf hi]
    simp only [fLF, List.mem_cons, List.not_mem_nil, or_false] at hf
    rcases hf with rfl | rfl | rfl
    · exact (e6.symm.trans (mix_I (by decide)).symm)
    · exact (e1.symm.trans (mix_I (by decide)).symm)
    · exact (mix_I' (by decide)).symm
  · rw [h8 k i j hk hi hj]
    rcases (f_lo.2.2.2 k hk).2 with q | q
    · rw [rA _ q]
    · rw [mix_A' (by omega)]
  · rw [h9 k i j hk hi hj]
    simp only [aLJ, List.mem_cons, List.not_mem_nil, or_false] at hk
    rcases hk with rfl | rfl | rfl
    · show T1.2.2 13 j = (mix T1 T2).2.2 13 j
      rw [mix_J (by decide), e13]
    · show T1.2.2 14 j = (mix T1 T2).2.2 14 j
      rw [mix_J (by decide), e14]
    · show T1.2.2 (50 + i) j = (mix T1 T2).2.2 (50 + i) j
      rw [mix_J' (by omega)]
theorem RM.out {S : qS} {mo a i : Nat} {v : Int64} {ad : Nat → Nat} {T : mT} (h : RM S mo ad T) : RM (qsAJ S 29 a i v) mo ad T := ⟨h.1, h.2.1, h.2.2.1, h.2.2.2.1, h.2.2.2.2.1, fun k hk ht => (show q_u2 (qAJ S) 29 a _ (30 + k) (ad k) = _ from u2_ne (by omega)).trans (h.2.2.2.2.2 k hk ht)⟩
def outP (S : qS) (x3 : Nat) : Prop := inP S x3 29 ∧ qN S x3 = 1
theorem outP.ag {S S' : qS} {x : Nat} (h : outP S x) (ha : ag S S') : outP S' x := by
  unfold outP inP at h ⊢
  rw [ha.1, ha.2.1, ha.2.2.1]
  exact h
theorem outP.cfr {S S' : qS} {x : Nat} (h : outP S x) (ha : cfr S S') : outP S' x := ⟨⟨(ha.1 x h.1.1).1, (ha.1 x h.1.1).2.1.trans h.1.2⟩, (ha.1 x h.1.1).2.2.trans h.2⟩
def VV (g : Nat × Nat) (n x1 x2 x3 : Nat) (S : qS) : Prop := ∃ (A : Nat → Nat → Nat) (C : Nat → Nat) (ad : Nat → Nat) (T : mT) (np nr ns no : Nat), IV n T np nr ns no ∧ RU g S A C (cN np nr ns no) T ∧ A 8 0 = x1 ∧ RM S x2 ad T ∧ outP S x3
theorem vin {n L j : Nat} (hj : j ≤ 8) (h : 9 * n + 9 ≤ L) (hL : L ≤ 4608) : vp_in (nI (9 * n) + nI j) L := by
  rw [nI_add]
  exact vp_in_nI (by omega) (by omega)
theorem e_thrown {S : qS} {mo : Nat} {ad : Nat → Nat} {T : mT} {post : Int32 → qS → Prop} {xp : String → qS → Prop} (hM : RM S mo ad T) (h : post (T.1 0) S) : pX8_thrown mo S post xp := by
  refine ⟨mo, rfl, hM.1, hM.2.1, ?_⟩
  show post (qI S (360 + 0) mo) S
  rw [hM.2.2.1 0 (by decide) (by decide)]
  exact h
theorem outw {S : qS} {x3 : Nat} {v : Int64} {K : qS → Prop} (h : outP S x3) (hk : K (qsAJ S 29 x3 0 v)) : w_stJ S (some x3) 29 (0 : Int32) v K := ⟨x3, rfl, h.1.1, h.1.2, by rw [h.2]; exact vp_in_nI (n := 0) (by decide) (by decide), hk⟩
theorem outr {S : qS} {x3 : Nat} {v : Int64} {K : Int64 → Prop} (h : outP S x3) (hv : qAJ S 29 x3 0 = v) (hk : K v) : w_ldJ S (some x3) 29 (0 : Int32) K := ⟨x3, rfl, h.1.1, h.1.2, by rw [h.2]; exact vp_in_nI (n := 0) (by decide) (by decide), by rw [← hv] at hk; exact hk⟩
theorem outv (S : qS) (x3 : Nat) (v : Int64) : qAJ (qsAJ S 29 x3 0 v) 29 x3 0 = v := by
  show q_u2 (qAJ S) 29 x3 (vp_updL (qAJ S 29 x3) 0 v) 29 x3 0 = v
  simp [q_u2, vp_updL]
theorem outv2 {S S' : qS} {x3 : Nat} {v : Int64} (h : mfr (qsAJ S 29 x3 0 v) S') : qAJ S' 29 x3 0 = v := by
  rw [h.2.2.2.2.2.2.2.1 29 (by decide)]
  exact outv S x3 v
/-- the end of a call -/
theorem fin {g : Nat × Nat} {n x2 x3 np nr ns no : Nat} {S1 S2 : qS} {A : Nat → Nat → Nat} {C ad : Nat → Nat} {T1 T2 : mT} (hU : RU g S1 A C (cN np nr ns no) T1) (ha : ag S1 S2) (hM : RM S2 x2 ad T2) (ho : outP S1 x3) (he : eqv T1 T2) (hI : IV (n + 1) T2 np nr ns no) : VV g (n + 1) (A 8 0) x2 x3 S2 :=
  ⟨A, C, ad, mix T1 T2, np, nr, ns, no, hI.mix, (hU.ag ha).eqv he, rfl, hM.mix, ho.ag ha⟩
theorem RU.at8 {g : Nat × Nat} {S : qS} {A : Nat → Nat → Nat} {C : Nat → Nat} {np nr ns no : Nat} {T : mT} {K : Nat → Prop} (hU : RU g S A C (cN np nr ns no) T) (h : K (A 8 0)) : w_at S (some (A 8 0)) 8 K := ⟨A 8 0, rfl, (hU.1 8 0 Nat.one_pos).1, (hU.1 8 0 Nat.one_pos).2, h⟩
/-- what a call must give on both sides: code k, answers v and b -/
def OK (n np nr ns no : Nat) (k : Int32) (v b : Int64) (T1 T2 : mT) : Prop := T2.1 0 = k ∧ (k = 0 → v = b) ∧ eqv T1 T2 ∧ IV (n + 1) T2 np nr ns no
