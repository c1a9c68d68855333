/-! The relation with one object more. -/
theorem six_ok {np nr ns no f i : Nat} (hf : f ∈ fLS) (hi : i < cN np nr ns no (f / 40)) : f_six f i < cN np nr ns no (f_tk f) := by
  simp only [fLS, List.mem_cons, List.not_mem_nil, or_false] at hf
  rcases hf with rfl | rfl | rfl | rfl | rfl | rfl | rfl | rfl | rfl | rfl | rfl | rfl | rfl | rfl | rfl | rfl | rfl | rfl | rfl <;> simp [cN, f_six, f_tk] at hi ⊢ <;> omega
theorem f_nz : (∀ f ∈ fLI, f / 40 ≠ 0 ∧ f / 40 ≠ 22) ∧ (∀ f ∈ fLR, f / 40 ≠ 0 ∧ f / 40 ≠ 22 ∧ f_tk f ≠ 22) ∧ (∀ f ∈ fLS, f / 40 ≠ 0 ∧ f / 40 ≠ 22 ∧ f_tk f ≠ 22) ∧ (∀ f ∈ fLF, f / 40 = 8 ∨ f / 40 = 1) ∧ (∀ k ∈ aLI, k ≠ 0 ∧ k ≠ 22) ∧ (∀ k ∈ aLJ, k = 18 ∨ k = 19 ∨ k = 20) := by decide
def A1 (A N : Nat → Nat → Nat) (c : Nat → Nat) (l ea : Nat) : Nat → Nat → Nat := fun k i => if k = 22 then (if i = l then ea else A 22 i) else if i < c k then A k i else N k i
theorem A1_o {A N : Nat → Nat → Nat} {c : Nat → Nat} {l ea k i : Nat} (hk : k ≠ 22) (hi : i < c k) : A1 A N c l ea k i = A k i := by
  unfold A1
  rw [if_neg hk, if_pos hi]
theorem A1_n {A N : Nat → Nat → Nat} {c : Nat → Nat} {l ea k i : Nat} (hk : k ≠ 22) (hi : c k ≤ i) : A1 A N c l ea k i = N k i := by
  unfold A1
  rw [if_neg hk, if_neg (by omega)]
theorem RU.add {g : Nat × Nat} {S1 S2 : qS} {A N : Nat → Nat → Nat} {C : Nat → Nat} {T T' : mT} {np nr ns no np' nr' ns' no' l ea' cap' : Nat} (hU : RU g S1 A C (cN np nr ns no) T) (hl : l < 4)
    (hs : ∀ a, a ∈ qL S1 → a ≠ A 0 l → (cN np nr ns no (l_k l) ≠ 0 → a ≠ A 22 l) → sameA S1 S2 a) (hli : inP S2 (A 0 l) 0) (hea' : ea' ∉ qL S1 ∨ (cN np nr ns no (l_k l) ≠ 0 ∧ ea' = A 22 l))
    (hrc : rcList S2 g (A 0 l) ea' cap' (cN np nr ns no (l_k l) + 1) (fun i => if i = cN np nr ns no (l_k l) then N (l_k l) (cN np nr ns no (l_k l)) else A (l_k l) i))
    (hb : np' ≤ 10 ∧ nr' ≤ 10 ∧ ns' ≤ 40 ∧ no' ≤ 60) (hc : ∀ k, cN np nr ns no k ≤ cN np' nr' ns' no' k) (hc1 : cN np' nr' ns' no' (l_k l) = cN np nr ns no (l_k l) + 1) (hc2 : ∀ m, m < 4 → m ≠ l → cN np' nr' ns' no' (l_k m) = cN np nr ns no (l_k m))
    (n1 : ∀ k i, cN np nr ns no k ≤ i → i < cN np' nr' ns' no' k → inP S2 (N k i) k ∧ ∀ j, j < cN np nr ns no k → N k i ≠ A k j) (ni : ∀ k i j, cN np nr ns no k ≤ i → i < cN np' nr' ns' no' k → cN np nr ns no k ≤ j → j < cN np' nr' ns' no' k → N k i = N k j → i = j)
    (nI2 : ∀ f i, f ∈ fLI → cN np nr ns no (f / 40) ≤ i → i < cN np' nr' ns' no' (f / 40) → qI S2 f (N (f / 40) i) = T'.2.1 (f_row f) (f_ix f i))
    (nR2 : ∀ f i, f ∈ fLR → cN np nr ns no (f / 40) ≤ i → i < cN np' nr' ns' no' (f / 40) → qR S2 f (N (f / 40) i) = (rf (T'.2.1 (f_row f) (f_ix f i))).map (A1 A N (cN np nr ns no) l ea' (f_tk f)))
    (nS2 : ∀ f i, f ∈ fLS → cN np nr ns no (f / 40) ≤ i → i < cN np' nr' ns' no' (f / 40) → qR S2 f (N (f / 40) i) = some (A1 A N (cN np nr ns no) l ea' (f_tk f) (f_six f i)))
    (n120 : ∀ f i, f ∈ [120, 240] → cN np nr ns no (f / 40) ≤ i → i < cN np' nr' ns' no' (f / 40) → qI S2 f (N (f / 40) i) = nI i)
    (nA2 : ∀ k i j, k ∈ aLI → cN np nr ns no k ≤ i → i < cN np' nr' ns' no' k → j < a_len k → qAI S2 k (N k i) j = T'.2.1 (a_row k) (a_st k * i + j))
    (nN2 : ∀ k i, 10 ≤ k → k < 22 → cN np nr ns no k ≤ i → i < cN np' nr' ns' no' k → qN S2 (N k i) = a_len k)
    (tI : ∀ f i, f ∈ fLI → i < cN np nr ns no (f / 40) → T'.2.1 (f_row f) (f_ix f i) = T.2.1 (f_row f) (f_ix f i)) (tR : ∀ f i, f ∈ fLR → i < cN np nr ns no (f / 40) → T'.2.1 (f_row f) (f_ix f i) = T.2.1 (f_row f) (f_ix f i) ∧ ∀ j, rf (T.2.1 (f_row f) (f_ix f i)) = some j → j < cN np nr ns no (f_tk f))
    (tF : ∀ k, 1 ≤ k → T'.1 k = T.1 k) (tA : ∀ k i j, k ∈ aLI → i < cN np nr ns no k → j < a_len k → T'.2.1 (a_row k) (a_st k * i + j) = T.2.1 (a_row k) (a_st k * i + j)) (tJ : T'.2.2 = T.2.2) :
    RU g S2 (A1 A N (cN np nr ns no) l ea') (fun m => if m = l then cap' else C m) (cN np' nr' ns' no') T' := by
  obtain ⟨h1, h2, h3, h4, ⟨h5, h6, h7⟩, h8, h9, h10, h11, h12, ⟨h13, h14⟩, h15⟩ := hU
  have row : ∀ m, m < 4 → cN np nr ns no (l_k m) ≠ 0 → inP S1 (A 22 m) 22 := fun m hm hn => by
    rcases (h13 m hm).2 with ⟨z, _⟩ | ⟨z, _⟩
    · exact absurd z hn
    · exact z
  -- what is not a list and not a list's row is as it was
  have o : ∀ k i, k ≠ 0 → k ≠ 22 → i < cN np nr ns no k → sameA S1 S2 (A k i) := fun k i hk hk2 hi => hs _ (h1 k i hi).1 (fun z => hk (by rw [← (h1 k i hi).2, z]; exact (h1 0 l hl).2)) (fun hn z => hk2 (by rw [← (h1 k i hi).2, z]; exact (row l hl hn).2))
  have o0 : ∀ m, m < 4 → m ≠ l → sameA S1 S2 (A 0 m) := fun m hm hne => hs _ (h1 0 m hm).1 (fun z => hne (h12 0 m l hm hl z)) (fun hn z => by
    have a := (h1 0 m hm).2
    rw [z, (row l hl hn).2] at a
    exact absurd a (by decide))
  have k22 : ∀ i, ¬ i < cN np' nr' ns' no' 22 := fun i => Nat.not_lt_zero i
  have e8 : cN np' nr' ns' no' 8 = cN np nr ns no 8 := rfl
  have e1 : cN np' nr' ns' no' 1 = cN np nr ns no 1 := rfl
  refine ⟨fun k i hi => ?_, fun f i hf hi => ?_, fun f i hf hi => ?_, fun f i hf hi => ?_, ⟨fun f i hf hi => ?_, fun f i hf hi => ?_, fun i hi => ?_⟩, fun k i j hk hi hj => ?_, fun k i j hk hi hj => ?_, fun i j hi hj => ?_, fun k i ka kb hi => ?_, fun k => ?_, ⟨fun m hm => ?_, fun m m' hm hm' hne q1 q2 => ?_⟩, np', nr', ns', no', rfl, hb⟩
  · -- kinds
    have hk : k ≠ 22 := fun z => by rw [z] at hi; exact k22 i hi
    by_cases z : i < cN np nr ns no k
    · rw [A1_o hk z]
      by_cases k0 : k = 0
      · subst k0
        by_cases zl : i = l
        · rw [zl]; exact hli
        · have s := o0 i z zl
          exact ⟨s.1, s.2.1.trans (h1 0 i z).2⟩
      · have s := o k i k0 hk z
        exact ⟨s.1, s.2.1.trans (h1 k i z).2⟩
    · rw [A1_n hk (by omega)]
      exact (n1 k i (by omega) hi).1
  · have q := f_nz.1 f hf
    by_cases z : i < cN np nr ns no (f / 40)
    · rw [A1_o q.2 z, ((o _ i q.1 q.2 z).2.2.2.1 f).1, tI f i hf z]
      exact h2 f i hf z
    · rw [A1_n q.2 (by omega)]
      exact nI2 f i hf (by omega) hi
  · have q := f_nz.2.1 f hf
    by_cases z : i < cN np nr ns no (f / 40)
    · rw [A1_o q.2.1 z, ((o _ i q.1 q.2.1 z).2.2.2.1 f).2.2, (tR f i hf z).1, h3 f i hf z]
      have lt := (tR f i hf z).2
      cases e : rf (T.2.1 (f_row f) (f_ix f i)) with
      | none => rfl
      | some j =>
        show some (A (f_tk f) j) = some (A1 A N (cN np nr ns no) l ea' (f_tk f) j)
        rw [A1_o q.2.2 (lt j e)]
    · rw [A1_n q.2.1 (by omega)]
      exact nR2 f i hf (by omega) hi
  · have q := f_nz.2.2.1 f hf
    by_cases z : i < cN np nr ns no (f / 40)
    · rw [A1_o q.2.1 z, ((o _ i q.1 q.2.1 z).2.2.2.1 f).2.2, h4 f i hf z, A1_o q.2.2 (six_ok hf z)]
    · rw [A1_n q.2.1 (by omega)]
      exact nS2 f i hf (by omega) hi
  · have q := f_nz.2.2.2.1 f hf
    have z : i < cN np nr ns no (f / 40) := by
      rcases q with e | e
      · rw [e] at hi ⊢; exact hi
      · rw [e] at hi ⊢; exact hi
    have q0 : f / 40 ≠ 0 ∧ f / 40 ≠ 22 := by omega
    rw [A1_o q0.2 z, ((o _ i q0.1 q0.2 z).2.2.2.1 f).1, h5 f i hf z, tF (f_k f) (by
      simp only [fLF, List.mem_cons, List.not_mem_nil, or_false] at hf
      rcases hf with rfl | rfl | rfl <;> decide)]
  · have q : f / 40 ≠ 0 ∧ f / 40 ≠ 22 := by
      simp only [List.mem_cons, List.not_mem_nil, or_false] at hf
      omega
    by_cases z : i < cN np nr ns no (f / 40)
    · rw [A1_o q.2 z, ((o _ i q.1 q.2 z).2.2.2.1 f).1]
      exact h6 f i hf z
    · rw [A1_n q.2 (by omega)]
      exact n120 f i hf (by omega) hi
  · rw [A1_o (c := cN np nr ns no) (by decide) hi, ((o 1 i (by decide) (by decide) hi).2.2.2.1 44).2.1, h7 i hi, tJ]
  · have q := f_nz.2.2.2.2.1 k hk
    by_cases z : i < cN np nr ns no k
    · rw [A1_o q.2 z, ((o k i q.1 q.2 z).2.2.2.2 k).1, tA k i j hk z hj]
      exact h8 k i j hk z hj
    · rw [A1_n q.2 (by omega)]
      exact nA2 k i j hk (by omega) hi hj
  · have q := f_nz.2.2.2.2.2 k hk
    have z : i < cN np nr ns no k := by
      rcases q with rfl | rfl | rfl
      · exact hi
      · exact hi
      · exact hi
    have q0 : k ≠ 0 ∧ k ≠ 22 := by omega
    rw [A1_o q0.2 z, ((o k i q0.1 q0.2 z).2.2.2.2 k).2.1, tJ]
    exact h9 k i j hk z hj
  · rw [A1_o (c := cN np nr ns no) (by decide) hi, ((o 21 i (by decide) (by decide) hi).2.2.2.2 21).2.2, A1_o (c := cN np nr ns no) (by decide) (show j < 5 from hj)]
    exact h10 i j hi hj
  · by_cases z : i < cN np nr ns no k
    · rw [A1_o (by omega) z, (o k i (by omega) (by omega) z).2.2.1]
      exact h11 k i ka kb z
    · rw [A1_n (by omega) (by omega)]
      exact nN2 k i ka kb (by omega) hi
  · by_cases k2 : k = 22
    · subst k2
      exact fun i j hi => absurd hi (k22 i)
    · intro i j hi hj e
      by_cases zi : i < cN np nr ns no k <;> by_cases zj : j < cN np nr ns no k
      · rw [A1_o k2 zi, A1_o k2 zj] at e
        exact h12 k i j zi zj e
      · rw [A1_o k2 zi, A1_n k2 (by omega)] at e
        exact absurd e.symm ((n1 k j (by omega) hj).2 i zi)
      · rw [A1_n k2 (by omega), A1_o k2 zj] at e
        exact absurd e ((n1 k i (by omega) hi).2 j zj)
      · rw [A1_n k2 (by omega), A1_n k2 (by omega)] at e
        exact ni k i j (by omega) hi (by omega) hj e
  · -- the lists
    have lk : l_k m ≠ 22 := by
      have : m = 0 ∨ m = 1 ∨ m = 2 ∨ m = 3 := by omega
      rcases this with rfl | rfl | rfl | rfl <;> decide
    have e22 : A1 A N (cN np nr ns no) l ea' 22 m = if m = l then ea' else A 22 m := if_pos rfl
    rw [A1_o (by decide) (show m < 4 from hm), e22]
    by_cases zl : m = l
    · subst zl
      rw [if_pos rfl, hc1]
      show rcList S2 g (A 0 m) ea' (if m = m then cap' else C m) _ _
      rw [if_pos rfl]
      obtain ⟨r1, r2⟩ := hrc
      refine ⟨r1, ?_⟩
      rcases r2 with ⟨z, _⟩ | ⟨z1, z2, z3, z4, z5, z6, z7⟩
      · omega
      · refine Or.inr ⟨z1, z2, z3, z4, z5, z6, fun i hi => ?_⟩
        rw [z7 i hi]
        show some (if i = cN np nr ns no (l_k m) then N (l_k m) (cN np nr ns no (l_k m)) else A (l_k m) i) = _
        by_cases y : i = cN np nr ns no (l_k m)
        · rw [if_pos y, A1_n lk (by omega), y]
        · rw [if_neg y, A1_o lk (by omega)]
    · rw [if_neg zl, hc2 m hm zl]
      show rcList S2 g (A 0 m) (A 22 m) (if m = l then cap' else C m) _ _
      rw [if_neg zl]
      obtain ⟨r1, r2⟩ := h13 m hm
      have s := o0 m hm zl
      refine ⟨(s.2.2.2.1 2).1.trans r1, ?_⟩
      rcases r2 with ⟨y1, y2⟩ | ⟨y1, y2, y3, y4, y5, y6, y7⟩
      · exact Or.inl ⟨y1, (s.2.2.2.1 1).2.2.trans y2⟩
      · have se : sameA S1 S2 (A 22 m) := hs _ y1.1 (fun z => by
          have a := y1.2
          rw [z, (h1 0 l hl).2] at a
          exact absurd a (by decide)) (fun hn => h14 m l hm hl zl (by omega) hn)
        refine Or.inr ⟨⟨se.1, se.2.1.trans y1.2⟩, (s.2.2.2.1 1).2.2.trans y2, se.2.2.1.trans y3, y4, y5, y6, fun i hi => ?_⟩
        rw [(se.2.2.2.2 22).2.2, y7 i hi, A1_o lk hi]
  · have ee : ∀ m, A1 A N (cN np nr ns no) l ea' 22 m = if m = l then ea' else A 22 m := fun m => if_pos rfl
    rw [ee, ee]
    have key : ∀ m, m < 4 → m ≠ l → cN np' nr' ns' no' (l_k m) ≠ 0 → ea' ≠ A 22 m := fun m hm zm q z => by
      rw [hc2 m hm zm] at q
      rcases hea' with y | ⟨y1, y2⟩
      · exact y (z ▸ (row m hm q).1)
      · exact h14 l m hl hm (Ne.symm zm) y1 q (y2.symm.trans z)
    by_cases z1 : m = l
    · rw [if_pos z1, if_neg (fun z => hne (z1.trans z.symm))]
      exact key m' hm' (fun z => hne (z1.trans z.symm)) q2
    · rw [if_neg z1]
      by_cases z2 : m' = l
      · rw [if_pos z2]
        exact fun z => key m hm z1 q1 z.symm
      · rw [if_neg z2]
        rw [hc2 m hm z1] at q1
        rw [hc2 m' hm' z2] at q2
        exact h14 m m' hm hm' hne q1 q2
