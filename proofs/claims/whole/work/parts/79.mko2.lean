/-! offer: in the relation. -/
theorem RU.offer {g : Nat × Nat} {n : Nat} {S4 S5 : qS} {A : Nat → Nat → Nat} {C : Nat → Nat} {np nr ns no i j q q1 q2 ea cap : Nat} {T : mT} {m k s m' k' s' : Int32} (hI : IV n T np nr ns no) (hU4 : RU g S4 A C (cN np nr ns no) T) (hn : no < 60) (hi : i < np) (hj : j < np) (hs1 : sgl s ns) (hs2 : sgl s' ns) (fq : ∀ k x, x < cN np nr ns no k → A k x ≠ q ∧ A k x ≠ q1 ∧ A k x ≠ q2) (q12 : q1 ≠ q2)
    (iq : inP S4 q 2) (hI4 : ∀ f, qI S4 f q = if f = 82 then 1 else 0) (hR4 : ∀ f, qR S4 f q = if f = 81 then some q2 else if f = 80 then some q1 else none) (sd1 : SDF A T.2.1 i m k s q1 S4) (sd2 : SDF A T.2.1 j m' k' s' q2 S4)
    (hs : ∀ a, a ∈ qL S4 → a ≠ A 0 2 → (cN np nr ns no (l_k 2) ≠ 0 → a ≠ A 22 2) → sameA S4 S5 a) (hli : inP S5 (A 0 2) 0) (hea : ea ∉ qL S4 ∨ (cN np nr ns no (l_k 2) ≠ 0 ∧ ea = A 22 2)) (hrc : rcList S5 g (A 0 2) ea cap (cN np nr ns no (l_k 2) + 1) (fun i => if i = cN np nr ns no (l_k 2) then q else A (l_k 2) i)) :
    ∃ A' C', RU g S5 A' C' (cN np nr ns (no + 1)) (ofT T no (nI i) (nI j) m k s m' k' s' (wnt T.2.1 s) (wnt T.2.1 s')) ∧ A' 8 0 = A 8 0 := by
  have hnew : ∀ a k, inP S4 a k → k ≠ 0 → k ≠ 22 → a ≠ A 0 2 ∧ (no ≠ 0 → a ≠ A 22 2) := fun a k ha k0 k2 => ⟨fun e => k0 (by rw [← ha.2, e]; exact (hU4.1 0 2 (show 2 < 4 by decide)).2), fun hn e => by
    rcases (hU4.2.2.2.2.2.2.2.2.2.2.1.1 2 (by decide)).2 with ⟨y, _⟩ | ⟨y, _⟩
    · exact hn y
    · exact k2 (by rw [← ha.2, e]; exact y.2)⟩
  have sq := hs q iq.1 (hnew q 2 iq (by decide) (by decide)).1 (hnew q 2 iq (by decide) (by decide)).2
  have s1 := hs q1 sd1.1.1 (hnew q1 5 sd1.1 (by decide) (by decide)).1 (hnew q1 5 sd1.1 (by decide) (by decide)).2
  have s2 := hs q2 sd2.1.1 (hnew q2 5 sd2.1 (by decide) (by decide)).1 (hnew q2 5 sd2.1 (by decide) (by decide)).2
  have cl : ∀ k, k ≠ 2 → k ≠ 5 → cN np nr ns (no + 1) k = cN np nr ns no k := fun k a b => by
    unfold cN
    split <;> first | rfl | omega
  have i2 : ∀ x, no ≤ x → x < no + 1 → x = no := fun i a b => by omega
  have i5 : ∀ x, 2 * no ≤ x → x < 2 * (no + 1) → x = 2 * no ∨ x = 2 * no + 1 := fun i a b => by omega
  have hnp := hI.1.1.2
  have hns := hI.1.2.2.1.2
  obtain ⟨v0, v1, v2, v3, v4, v5, v6, v7, v8, v9⟩ := ofR_v (T.2.1 26) no (nI i) (nI j) m k s m' k' s' (wnt T.2.1 s) (wnt T.2.1 s')
  have d0 : (2 * no) / 2 = no := by omega
  have d1 : (2 * no + 1) / 2 = no := by omega
  have r0 : (2 * no) % 2 = 0 := by omega
  have r1 : ¬ (2 * no + 1) % 2 = 0 := by omega
  have smap : ∀ (N : Nat → Nat → Nat) (x : Int32), sgl x ns → (rf x).map (A 6) = (rf x).map (A1 A N (cN np nr ns no) 2 ea 6) := fun N x hx => by
    rcases hx with e | e
    · rw [e, rf_m]; rfl
    · obtain ⟨t, ht, rfl⟩ := ok_nI e (by omega)
      rw [rf_n (by omega)]
      show some (A 6 t) = some (A1 A N (cN np nr ns no) 2 ea 6 t)
      rw [A1_o (k := 6) (by decide) ht]
  refine ⟨_, _, RU.add (l := 2) (N := fun k x => if k = 2 then q else if x = 2 * no then q1 else q2) (T' := ofT T no (nI i) (nI j) m k s m' k' s' (wnt T.2.1 s) (wnt T.2.1 s')) (np' := np) (nr' := nr) (ns' := ns) (no' := no + 1) hU4 (by decide) hs hli hea hrc ⟨hI.1.1.2, hI.1.2.1.2, hI.1.2.2.1.2, by omega⟩ (fun k => ?_) rfl (fun x hm hne => ?_) (fun k x a b => ?_) (fun k x y a b c d e => ?_) (fun f x hf a b => ?_) (fun f x hf a b => ?_) (fun f x hf a b => ?_) (fun f x hf a b => ?_) (fun k x y hk a b hj => ?_) (fun k x ka kb a b => ?_) (fun f x hf hx => ?_) (fun f x hf hx => ⟨?_, fun y hy => ?_⟩) (fun _ _ => rfl) (fun k x y hk hx hy => ?_) rfl, ?_⟩
  · by_cases e : k = 2
    · rw [e]; exact Nat.le_succ no
    · by_cases e5 : k = 5
      · rw [e5]; show 2 * no ≤ 2 * (no + 1); omega
      · rw [cl k e e5]; exact Nat.le_refl _
  · have : x = 0 ∨ x = 1 ∨ x = 3 := by omega
    rcases this with rfl | rfl | rfl <;> rfl
  · by_cases e : k = 2
    · subst e
      exact ⟨⟨sq.1, sq.2.1.trans iq.2⟩, fun j hj e => (fq 2 j hj).1 e.symm⟩
    · by_cases e5 : k = 5
      · subst e5
        rcases i5 x a b with rfl | rfl
        · show inP S5 (if (2 * no) = 2 * no then q1 else q2) 5 ∧ ∀ j, j < cN np nr ns no 5 → (if (2 * no) = 2 * no then q1 else q2) ≠ A 5 j
          rw [if_pos rfl]
          exact ⟨⟨s1.1, s1.2.1.trans sd1.1.2⟩, fun j hj e => (fq 5 j hj).2.1 e.symm⟩
        · show inP S5 (if (2 * no + 1) = 2 * no then q1 else q2) 5 ∧ ∀ j, j < cN np nr ns no 5 → (if (2 * no + 1) = 2 * no then q1 else q2) ≠ A 5 j
          rw [if_neg (by omega)]
          exact ⟨⟨s2.1, s2.2.1.trans sd2.1.2⟩, fun j hj e => (fq 5 j hj).2.2 e.symm⟩
      · rw [cl k e e5] at b; omega
  · by_cases e2 : k = 2
    · subst e2
      exact (i2 x a b).trans (i2 y c d).symm
    · by_cases e5 : k = 5
      · subst e5
        have e : (if x = 2 * no then q1 else q2) = (if y = 2 * no then q1 else q2) := e
        rcases i5 x a b with rfl | rfl <;> rcases i5 y c d with rfl | rfl
        · rfl
        · rw [if_pos rfl, if_neg (by omega)] at e
          exact absurd e q12
        · rw [if_pos rfl, if_neg (by omega)] at e
          exact absurd e.symm q12
        · rfl
      · rw [cl k e2 e5] at b; omega
  · by_cases e2 : f / 40 = 2
    · have ef : f = 82 := by
        simp only [fLI, List.mem_cons, List.not_mem_nil, or_false] at hf
        omega
      subst ef
      have ej : x = no := i2 x a b
      subst ej
      show qI S5 82 q = (ofT T x (nI i) (nI j) m k s m' k' s' (wnt T.2.1 s) (wnt T.2.1 s')).2.1 27 x
      rw [(sq.2.2.2.1 82).1, hI4 82, ofT_27, upd_eq]
      rfl
    · by_cases e5 : f / 40 = 5
      · have ef : f = 201 ∨ f = 202 ∨ f = 204 := by
          simp only [fLI, List.mem_cons, List.not_mem_nil, or_false] at hf
          omega
        have hx : x = 2 * no ∨ x = 2 * no + 1 := by rw [e5] at a b; exact i5 x a b
        rcases hx with rfl | rfl
        · show qI S5 f (if f / 40 = 2 then q else if 2 * no = 2 * no then q1 else q2) = _
          rw [if_neg e2, if_pos rfl, (s1.2.2.2.1 f).1, sd1.2.1 f]
          rcases ef with rfl | rfl | rfl
          · show m = ofR (T.2.1 26) no (nI i) (nI j) m k s m' k' s' (wnt T.2.1 s) (wnt T.2.1 s') (10 * (2 * no / 2) + (if 2 * no % 2 = 0 then 2 else 5))
            rw [d0, if_pos r0, v2]
          · show k = ofR (T.2.1 26) no (nI i) (nI j) m k s m' k' s' (wnt T.2.1 s) (wnt T.2.1 s') (10 * (2 * no / 2) + (if 2 * no % 2 = 0 then 3 else 6))
            rw [d0, if_pos r0, v3]
          · show wnt T.2.1 s = ofR (T.2.1 26) no (nI i) (nI j) m k s m' k' s' (wnt T.2.1 s) (wnt T.2.1 s') (10 * (2 * no / 2) + (if 2 * no % 2 = 0 then 8 else 9))
            rw [d0, if_pos r0, v8]
        · show qI S5 f (if f / 40 = 2 then q else if 2 * no + 1 = 2 * no then q1 else q2) = _
          rw [if_neg e2, if_neg (by omega), (s2.2.2.2.1 f).1, sd2.2.1 f]
          rcases ef with rfl | rfl | rfl
          · show m' = ofR (T.2.1 26) no (nI i) (nI j) m k s m' k' s' (wnt T.2.1 s) (wnt T.2.1 s') (10 * ((2 * no + 1) / 2) + (if (2 * no + 1) % 2 = 0 then 2 else 5))
            rw [d1, if_neg r1, v5]
          · show k' = ofR (T.2.1 26) no (nI i) (nI j) m k s m' k' s' (wnt T.2.1 s) (wnt T.2.1 s') (10 * ((2 * no + 1) / 2) + (if (2 * no + 1) % 2 = 0 then 3 else 6))
            rw [d1, if_neg r1, v6]
          · show wnt T.2.1 s' = ofR (T.2.1 26) no (nI i) (nI j) m k s m' k' s' (wnt T.2.1 s) (wnt T.2.1 s') (10 * ((2 * no + 1) / 2) + (if (2 * no + 1) % 2 = 0 then 8 else 9))
            rw [d1, if_neg r1, v9]
      · rw [cl _ e2 e5] at b
        omega
  · by_cases e5 : f / 40 = 5
    · have ef : f = 200 ∨ f = 203 := by
        simp only [fLR, List.mem_cons, List.not_mem_nil, or_false] at hf
        omega
      have hx : x = 2 * no ∨ x = 2 * no + 1 := by rw [e5] at a b; exact i5 x a b
      rcases hx with rfl | rfl
      · show qR S5 f (if f / 40 = 2 then q else if 2 * no = 2 * no then q1 else q2) = _
        rw [if_neg (by omega), if_pos rfl, (s1.2.2.2.1 f).2.2, sd1.2.2 f]
        rcases ef with rfl | rfl
        · show some (A 3 i) = (rf (ofR (T.2.1 26) no (nI i) (nI j) m k s m' k' s' (wnt T.2.1 s) (wnt T.2.1 s') (10 * (2 * no / 2) + (if 2 * no % 2 = 0 then 0 else 1)))).map (A1 A _ _ 2 ea 3)
          rw [d0, if_pos r0, Nat.add_zero, v0, rf_n (by omega)]
          show some (A 3 i) = some (A1 A _ _ 2 ea 3 i)
          rw [A1_o (k := 3) (by decide) hi]
        · show (rf s).map (A 6) = (rf (ofR (T.2.1 26) no (nI i) (nI j) m k s m' k' s' (wnt T.2.1 s) (wnt T.2.1 s') (10 * (2 * no / 2) + (if 2 * no % 2 = 0 then 4 else 7)))).map (A1 A _ _ 2 ea 6)
          rw [d0, if_pos r0, v4]
          exact smap _ s hs1
      · show qR S5 f (if f / 40 = 2 then q else if 2 * no + 1 = 2 * no then q1 else q2) = _
        rw [if_neg (by omega), if_neg (by omega), (s2.2.2.2.1 f).2.2, sd2.2.2 f]
        rcases ef with rfl | rfl
        · show some (A 3 j) = (rf (ofR (T.2.1 26) no (nI i) (nI j) m k s m' k' s' (wnt T.2.1 s) (wnt T.2.1 s') (10 * ((2 * no + 1) / 2) + (if (2 * no + 1) % 2 = 0 then 0 else 1)))).map (A1 A _ _ 2 ea 3)
          rw [d1, if_neg r1, v1, rf_n (by omega)]
          show some (A 3 j) = some (A1 A _ _ 2 ea 3 j)
          rw [A1_o (k := 3) (by decide) hj]
        · show (rf s').map (A 6) = (rf (ofR (T.2.1 26) no (nI i) (nI j) m k s m' k' s' (wnt T.2.1 s) (wnt T.2.1 s') (10 * ((2 * no + 1) / 2) + (if (2 * no + 1) % 2 = 0 then 4 else 7)))).map (A1 A _ _ 2 ea 6)
          rw [d1, if_neg r1, v7]
          exact smap _ s' hs2
    · rw [cl _ (by simp only [fLR, List.mem_cons, List.not_mem_nil, or_false] at hf; omega) e5] at b
      omega
  · by_cases e2 : f / 40 = 2
    · have ef : f = 80 ∨ f = 81 := by
        simp only [fLS, List.mem_cons, List.not_mem_nil, or_false] at hf
        omega
      have ej : x = no := by rw [e2] at a b; exact i2 x a b
      subst ej
      show qR S5 f (if f / 40 = 2 then q else _) = _
      rw [if_pos e2, (sq.2.2.2.1 f).2.2, hR4 f]
      rcases ef with rfl | rfl
      · show some q1 = some (A1 A _ _ 2 ea 5 (2 * x))
        rw [A1_n (k := 5) (by decide) (show 2 * x ≤ 2 * x from Nat.le_refl _)]
        show some q1 = some (if 2 * x = 2 * x then q1 else q2)
        rw [if_pos rfl]
      · show some q2 = some (A1 A _ _ 2 ea 5 (2 * x + 1))
        rw [A1_n (k := 5) (by decide) (show 2 * x ≤ 2 * x + 1 by omega)]
        show some q2 = some (if 2 * x + 1 = 2 * x then q1 else q2)
        rw [if_neg (by omega)]
    · rw [cl _ e2 (by simp only [fLS, List.mem_cons, List.not_mem_nil, or_false] at hf; omega)] at b
      omega
  · rw [cl _ (by simp only [List.mem_cons, List.not_mem_nil, or_false] at hf; omega) (by simp only [List.mem_cons, List.not_mem_nil, or_false] at hf; omega)] at b
    omega
  · rw [cl k (by simp only [aLI, List.mem_cons, List.not_mem_nil, or_false] at hk; omega) (by simp only [aLI, List.mem_cons, List.not_mem_nil, or_false] at hk; omega)] at b
    omega
  · rw [cl k (by omega) (by omega)] at b
    omega
  · by_cases e2 : f / 40 = 2
    · have ef : f = 82 := by
        simp only [fLI, List.mem_cons, List.not_mem_nil, or_false] at hf
        omega
      subst ef
      have hx : x < no := hx
      show upd (T.2.1 27) no 1 x = T.2.1 27 x
      rw [upd_ne (by omega)]
    · by_cases e5 : f / 40 = 5
      · have ef : f = 201 ∨ f = 202 ∨ f = 204 := by
          simp only [fLI, List.mem_cons, List.not_mem_nil, or_false] at hf
          omega
        have hx : x < 2 * no := by rw [e5] at hx; exact hx
        rcases ef with rfl | rfl | rfl
        · show ofR (T.2.1 26) no _ _ _ _ _ _ _ _ _ _ (10 * (x / 2) + (if x % 2 = 0 then 2 else 5)) = T.2.1 26 (10 * (x / 2) + (if x % 2 = 0 then 2 else 5))
          exact ofR_o (by split <;> omega)
        · show ofR (T.2.1 26) no _ _ _ _ _ _ _ _ _ _ (10 * (x / 2) + (if x % 2 = 0 then 3 else 6)) = T.2.1 26 (10 * (x / 2) + (if x % 2 = 0 then 3 else 6))
          exact ofR_o (by split <;> omega)
        · show ofR (T.2.1 26) no _ _ _ _ _ _ _ _ _ _ (10 * (x / 2) + (if x % 2 = 0 then 8 else 9)) = T.2.1 26 (10 * (x / 2) + (if x % 2 = 0 then 8 else 9))
          exact ofR_o (by split <;> omega)
      · rw [ofT_o (by
          simp only [fLI, List.mem_cons, List.not_mem_nil, or_false] at hf
          rcases hf with rfl | rfl | rfl | rfl | rfl | rfl | rfl | rfl | rfl | rfl | rfl | rfl | rfl <;> first | exact absurd rfl e2 | exact absurd rfl e5 | decide) (by
          simp only [fLI, List.mem_cons, List.not_mem_nil, or_false] at hf
          rcases hf with rfl | rfl | rfl | rfl | rfl | rfl | rfl | rfl | rfl | rfl | rfl | rfl | rfl <;> first | exact absurd rfl e2 | exact absurd rfl e5 | decide)]
  · by_cases e5 : f / 40 = 5
    · have ef : f = 200 ∨ f = 203 := by
        simp only [fLR, List.mem_cons, List.not_mem_nil, or_false] at hf
        omega
      have hx : x < 2 * no := by rw [e5] at hx; exact hx
      rcases ef with rfl | rfl
      · show ofR (T.2.1 26) no _ _ _ _ _ _ _ _ _ _ (10 * (x / 2) + (if x % 2 = 0 then 0 else 1)) = T.2.1 26 (10 * (x / 2) + (if x % 2 = 0 then 0 else 1))
        exact ofR_o (by split <;> omega)
      · show ofR (T.2.1 26) no _ _ _ _ _ _ _ _ _ _ (10 * (x / 2) + (if x % 2 = 0 then 4 else 7)) = T.2.1 26 (10 * (x / 2) + (if x % 2 = 0 then 4 else 7))
        exact ofR_o (by split <;> omega)
    · rw [ofT_o (by
        simp only [fLR, List.mem_cons, List.not_mem_nil, or_false] at hf
        rcases hf with rfl | rfl | rfl | rfl | rfl <;> first | exact absurd rfl e5 | decide) (by
        simp only [fLR, List.mem_cons, List.not_mem_nil, or_false] at hf
        rcases hf with rfl | rfl | rfl | rfl | rfl <;> first | exact absurd rfl e5 | decide)]
  · exact IV.rlt hI hf hx hy
  · rw [ofT_o (by
      simp only [aLI, List.mem_cons, List.not_mem_nil, or_false] at hk
      rcases hk with rfl | rfl | rfl | rfl | rfl | rfl | rfl | rfl <;> decide) (by
      simp only [aLI, List.mem_cons, List.not_mem_nil, or_false] at hk
      rcases hk with rfl | rfl | rfl | rfl | rfl | rfl | rfl | rfl <;> decide)]
  · exact A1_o (c := cN np nr ns no) (by decide) Nat.one_pos
theorem SDF.old {A : Nat → Nat → Nat} {R : Nat → Nat → Int32} {i q : Nat} {m k s : Int32} {S S' : qS} (h : SDF A R i m k s q S) (ho : old S S') : SDF A R i m k s q S' := by
  have o := ho q h.1.1
  exact ⟨⟨o.1, o.2.1.trans h.1.2⟩, fun f => (o.2.2.2.1 f).1.trans (h.2.1 f), fun f => (o.2.2.2.1 f).2.2.trans (h.2.2 f)⟩
/-- the class's offer: its answers by what is wrong -/
theorem c_offer {g : Nat × Nat} {n : Nat} {S : qS} {A : Nat → Nat → Nat} {C : Nat → Nat} {np nr ns no : Nat} {T : mT} {a b m k s m' k' s' : Int32} {post : Int32 → qS → Prop} {xp : String → qS → Prop} (hI : IV n T np nr ns no) (hU : RU g S A C (cN np nr ns no) T)
    (hb : ¬ (ok a np ∧ ok k 4 ∧ sgl s ns ∧ ok b np ∧ ok k' 4 ∧ sgl s' ns) → ∀ S', RU g S' A C (cN np nr ns no) T → cfr S S' → xp IOB S')
    (hc : (ok a np ∧ ok k 4 ∧ sgl s ns ∧ ok b np ∧ ok k' 4 ∧ sgl s' ns) → (a = b ∨ ¬ (¬ m < 0 ∧ m ≤ 1000000) ∨ ¬ (¬ m' < 0 ∧ m' ≤ 1000000)) → ∀ S', RU g S' A C (cN np nr ns no) T → cfr S S' → xp IAE S')
    (hd : (ok a np ∧ ok k 4 ∧ sgl s ns ∧ ok b np ∧ ok k' 4 ∧ sgl s' ns) → a ≠ b → (¬ m < 0 ∧ m ≤ 1000000) → (¬ m' < 0 ∧ m' ≤ 1000000) → ¬ no < 60 → ∀ S', RU g S' A C (cN np nr ns no) T → cfr S S' → xp UOE S')
    (he : (ok a np ∧ ok k 4 ∧ sgl s ns ∧ ok b np ∧ ok k' 4 ∧ sgl s' ns) → a ≠ b → (¬ m < 0 ∧ m ≤ 1000000) → (¬ m' < 0 ∧ m' ≤ 1000000) → no < 60 → ∀ (A' : Nat → Nat → Nat) (C' : Nat → Nat) (S' : qS), RU g S' A' C' (cN np nr ns (no + 1)) (ofT T no a b m k s m' k' s' (wnt T.2.1 s) (wnt T.2.1 s')) → A' 8 0 = A 8 0 → cfr S S' → post (nI no) S') : pX7_offer (A 8 0) a b m k s m' k' s' S g post xp := by
  have hnp := hI.1.1.2
  by_cases z1 : ok a np ∧ ok k 4 ∧ sgl s ns
  · obtain ⟨za, zk, zs⟩ := z1
    obtain ⟨i, hi, rfl⟩ := ok_nI za (by omega)
    obtain ⟨kk, hkk, rfl⟩ := ok_nI zk (by omega)
    refine hU.at8 (p_side hI hU hi hkk zs fun S1 q1 o1 f1 sd1 => ?_)
    have hU1 := hU.old o1
    by_cases z2 : ok b np ∧ ok k' 4 ∧ sgl s' ns
    · have all : ok (nI i) np ∧ ok (nI kk) 4 ∧ sgl s ns ∧ ok b np ∧ ok k' 4 ∧ sgl s' ns := ⟨za, zk, zs, z2⟩
      obtain ⟨zb, zk', zs'⟩ := z2
      obtain ⟨j, hj, rfl⟩ := ok_nI zb (by omega)
      obtain ⟨kk', hkk', rfl⟩ := ok_nI zk' (by omega)
      refine hU1.at8 (p_side hI hU1 hj hkk' zs' fun S2 q2 o2 f2 sd2 => ?_)
      have hU2 := hU1.old o2
      have sd1' := sd1.old o2
      refine ⟨fun e => ?_, fun e => hc all (Or.inl e) S2 hU2 (o1.tr o2).cfr⟩
      rcases rngc m 0 1000000 with r1 | r1
      · refine p_cr r1.1 r1.2 ?_
        rcases rngc m' 0 1000000 with r2 | r2
        · have x8 := hU2.1 8 0 Nat.one_pos
          have hr : qR S2 (40 * 8 + 2) (A 8 0) = some (A 0 2) := hU2.2.2.2.1 322 0 (by decide) Nat.one_pos
          refine p_cr r2.1 r2.2 (wgR x8 hr (wsz hU2 (by decide) ⟨fun z => wgR x8 hr ?_, fun z => hd all e r1 r2 (fun y => z (nI_lt (b := 60) y (by omega))) S2 hU2 (o1.tr o2).cfr⟩))
          have hno : no < 60 := (nI_ltI (b := 60) (by have := hI.1.2.2.2.2; omega) (by omega)).mp z
          intro q hq
          have o3 : old S2 (q_nw S2 2 q 0) := old.nw hq
          have iq : inP (q_nw S2 2 q 0) q 2 := ⟨mem_nw, va_up_self _ _ _⟩
          have zI : ∀ f, qI (q_nw S2 2 q 0) f q = 0 := fun f => if_pos rfl
          have zR : ∀ f, qR (q_nw S2 2 q 0) f q = none := fun f => if_pos rfl
          generalize q_nw S2 2 q 0 = S3 at o3 iq zI zR ⊢
          refine ⟨q, rfl, iq.1, iq.2, Or.inr rfl, q, rfl, iq.1, iq.2, q, rfl, iq.1, iq.2, ?_⟩
          have o4 : old S2 (qsR (qsR (qsI S3 (40 * 2 + 2) q 1) (40 * 2 + 0) q (some q1)) (40 * 2 + 1) q (some q2)) := ((o3.sI hq).sR hq).sR hq
          have iq4 : inP (qsR (qsR (qsI S3 (40 * 2 + 2) q 1) (40 * 2 + 0) q (some q1)) (40 * 2 + 1) q (some q2)) q 2 := iq
          have hI4 : ∀ f, qI (qsR (qsR (qsI S3 (40 * 2 + 2) q 1) (40 * 2 + 0) q (some q1)) (40 * 2 + 1) q (some q2)) f q = if f = 82 then 1 else 0 := fun f => by
            show q_u2 (qI S3) 82 q 1 f q = _
            rw [u2n, zI]
          have hR4 : ∀ f, qR (qsR (qsR (qsI S3 (40 * 2 + 2) q 1) (40 * 2 + 0) q (some q1)) (40 * 2 + 1) q (some q2)) f q = if f = 81 then some q2 else if f = 80 then some q1 else none := fun f => by
            show q_u2 (q_u2 (qR S3) 80 q (some q1)) 81 q (some q2) f q = _
            rw [u2n, u2n, zR]
          show w_at (qsR (qsR (qsI S3 (40 * 2 + 2) q 1) (40 * 2 + 0) q (some q1)) (40 * 2 + 1) q (some q2)) (some (A 0 2)) 0 (fun b96 => pJx4a65c_add_9ea2d b96 (some q) (qsR (qsR (qsI S3 (40 * 2 + 2) q 1) (40 * 2 + 0) q (some q1)) (40 * 2 + 1) q (some q2)) g (fun v96 S => post (nI no) S) xp)
          generalize qsR (qsR (qsI S3 (40 * 2 + 2) q 1) (40 * 2 + 0) q (some q1)) (40 * 2 + 1) q (some q2) = S4 at o4 iq4 hI4 hR4 ⊢
          have hU4 := hU2.old o4
          have q1S2 := sd1'.1.1
          have q2S2 := sd2.1.1
          have fq1 : ∀ k x, x < cN np nr ns no k → A k x ≠ q ∧ A k x ≠ q1 ∧ A k x ≠ q2 := fun k x hx => ⟨fun e => hq (e ▸ (hU2.1 k x hx).1), fun e => f1 (e ▸ (hU.1 k x hx).1), fun e => f2 (e ▸ (hU1.1 k x hx).1)⟩
          refine li_at hU4 (by decide) (addL (k := 2) (hU4.1 0 2 (show 2 < 4 by decide)) (hU4.2.2.2.2.2.2.2.2.2.2.1.1 2 (by decide)) (show no < 60 from hno) (fun i hi => hU4.1 2 i hi) iq4 (Or.inl rfl) fun S5 ea cap hs hli _ hea hrc hcf => ?_)
          obtain ⟨A', C', hU', hA'⟩ := RU.offer (q := q) (q1 := q1) (q2 := q2) hI hU4 hno hi hj zs zs' fq1 (fun e => f2 (e ▸ sd1.1.1)) iq4 hI4 hR4 (sd1'.old o4) (sd2.old o4) hs hli hea hrc
          exact he all e r1 r2 hno A' C' S5 hU' hA' (((o1.tr o2).tr o4).cfr.tr hcf)
        · exact p_cr_no r2 (hc all (Or.inr (Or.inr r2)) S2 hU2 (o1.tr o2).cfr)
      · exact p_cr_no r1 (hc all (Or.inr (Or.inl r1)) S2 hU2 (o1.tr o2).cfr)
    · exact hU1.at8 (p_side_no hI hU1 z2 (hb (fun y => z2 ⟨y.2.2.2.1, y.2.2.2.2.1, y.2.2.2.2.2⟩) S1 hU1 o1.cfr))
  · exact hU.at8 (p_side_no hI hU z1 (hb (fun y => z1 ⟨y.1, y.2.1, y.2.2.1⟩) S hU cfr.rf))
