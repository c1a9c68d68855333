/-! single: in the relation. -/
/-- what a new single adds -/
def sgT (T : mT) (s : Nat) (b r p d : Int32) : mT := m_sA (m_sA (m_sA (m_sA (m_sA (m_sA (m_sA (m_sA (m_sA T 16 s b) 17 s r) 18 s (-1)) 19 s p) 20 s (-1)) 21 s (-1)) 22 (30 * s) p) 23 (30 * s) d) 24 s 1
theorem sgT_o {T : mT} {s : Nat} {b r p d : Int32} {k : Nat} (hk : ¬ (16 ≤ k ∧ k ≤ 24)) : (sgT T s b r p d).2.1 k = T.2.1 k := by
  unfold sgT
  rw [sA_n (by omega), sA_n (by omega), sA_n (by omega), sA_n (by omega), sA_n (by omega), sA_n (by omega), sA_n (by omega), sA_n (by omega), sA_n (by omega)]
theorem sgT_r (T : mT) (s : Nat) (b r p d : Int32) : (sgT T s b r p d).2.1 16 = upd (T.2.1 16) s b ∧ (sgT T s b r p d).2.1 17 = upd (T.2.1 17) s r ∧ (sgT T s b r p d).2.1 18 = upd (T.2.1 18) s (-1) ∧ (sgT T s b r p d).2.1 19 = upd (T.2.1 19) s p ∧ (sgT T s b r p d).2.1 20 = upd (T.2.1 20) s (-1) ∧ (sgT T s b r p d).2.1 21 = upd (T.2.1 21) s (-1) ∧ (sgT T s b r p d).2.1 22 = upd (T.2.1 22) (30 * s) p ∧ (sgT T s b r p d).2.1 23 = upd (T.2.1 23) (30 * s) d ∧ (sgT T s b r p d).2.1 24 = upd (T.2.1 24) s 1 := ⟨rfl, rfl, rfl, rfl, rfl, rfl, rfl, rfl, rfl⟩
theorem RU.single {g : Nat × Nat} {n : Nat} {S4 S5 : qS} {A : Nat → Nat → Nat} {C : Nat → Nat} {np nr ns no i q p p2 ea cap : Nat} {T : mT} {x2 x3 : Int32} (hI : IV n T np nr ns no) (hU4 : RU g S4 A C (cN np nr ns no) T) (hn : ns < 40) (hi : i < np) (fq : ∀ k j, j < cN np nr ns no k → A k j ≠ q ∧ A k j ≠ p ∧ A k j ≠ p2)
    (iq : inP S4 q 6) (ip : inP S4 p 13) (ip2 : inP S4 p2 14) (hI4 : ∀ f, qI S4 f q = if f = 245 then 1 else if f = 242 then x3 else if f = 241 then x2 else if f = 240 then nI ns else if f = 247 then -1 else 0) (hR4 : ∀ f, qR S4 f q = if f = 249 then some (A 3 i) else if f = 244 then some p2 else if f = 243 then some p else none) (hA1 : ∀ j, qAI S4 13 p j = if j = 0 then nI i else 0) (hA2 : ∀ j, qAI S4 14 p2 j = if j = 0 then T.1 1 else 0) (hN1 : qN S4 p = 30) (hN2 : qN S4 p2 = 30)
    (hs : ∀ a, a ∈ qL S4 → a ≠ A 0 3 → (cN np nr ns no (l_k 3) ≠ 0 → a ≠ A 22 3) → sameA S4 S5 a) (hli : inP S5 (A 0 3) 0) (hea : ea ∉ qL S4 ∨ (cN np nr ns no (l_k 3) ≠ 0 ∧ ea = A 22 3)) (hrc : rcList S5 g (A 0 3) ea cap (cN np nr ns no (l_k 3) + 1) (fun i => if i = cN np nr ns no (l_k 3) then q else A (l_k 3) i)) :
    ∃ A' C', RU g S5 A' C' (cN np nr (ns + 1) no) (sgT T ns x2 x3 (nI i) (T.1 1)) ∧ A' 8 0 = A 8 0 := by
  have hnew : ∀ a k, inP S4 a k → k ≠ 0 → k ≠ 22 → a ≠ A 0 3 ∧ (ns ≠ 0 → a ≠ A 22 3) := fun a k ha k0 k2 => ⟨fun e => k0 (by rw [← ha.2, e]; exact (hU4.1 0 3 (show 3 < 4 by decide)).2), fun hn e => by
    rcases (hU4.2.2.2.2.2.2.2.2.2.2.1.1 3 (by decide)).2 with ⟨y, _⟩ | ⟨y, _⟩
    · exact hn y
    · exact k2 (by rw [← ha.2, e]; exact y.2)⟩
  have sq := hs q iq.1 (hnew q 6 iq (by decide) (by decide)).1 (hnew q 6 iq (by decide) (by decide)).2
  have sp := hs p ip.1 (hnew p 13 ip (by decide) (by decide)).1 (hnew p 13 ip (by decide) (by decide)).2
  have sp2 := hs p2 ip2.1 (hnew p2 14 ip2 (by decide) (by decide)).1 (hnew p2 14 ip2 (by decide) (by decide)).2
  have cl : ∀ k, k ≠ 6 → k ≠ 13 → k ≠ 14 → cN np nr (ns + 1) no k = cN np nr ns no k := fun k a b c => by
    unfold cN
    split <;> first | rfl | omega
  have i6 : ∀ i, ns ≤ i → i < ns + 1 → i = ns := fun i a b => by omega
  have hnp := hI.1.1.2
  obtain ⟨t16, t17, t18, t19, t20, t21, t22, t23, t24⟩ := sgT_r T ns x2 x3 (nI i) (T.1 1)
  have z15 := hI.2.2.2.2.1.2.1
  have z22 := hI.2.2.2.2.1.2.2
  have ioldS : ∀ j, j < cN np nr ns no 6 → j ≠ ns := fun j hj => by
    have hj : j < ns := hj
    omega
  refine ⟨_, _, RU.add (l := 3) (N := fun k _ => if k = 6 then q else if k = 13 then p else p2) (T' := sgT T ns x2 x3 (nI i) (T.1 1)) (np' := np) (nr' := nr) (ns' := ns + 1) (no' := no) hU4 (by decide) hs hli hea hrc ⟨hI.1.1.2, hI.1.2.1.2, by omega, hI.1.2.2.2.2⟩ (fun k => ?_) rfl (fun m hm hne => ?_) (fun k j a b => ?_) (fun k i j a b c d _ => ?_) (fun f j hf a b => ?_) (fun f j hf a b => ?_) (fun f j hf a b => ?_) (fun f j hf a b => ?_) (fun k j j' hk a b hj => ?_) (fun k j ka kb a b => ?_) (fun f j hf hj => ?_) (fun f j hf hj => ⟨?_, fun j' hj' => ?_⟩) (fun _ _ => rfl) (fun k j j' hk hj hj' => ?_) rfl, ?_⟩
  · by_cases e : k = 6 ∨ k = 13 ∨ k = 14
    · rcases e with rfl | rfl | rfl <;> exact Nat.le_succ ns
    · rw [cl k (by omega) (by omega) (by omega)]; exact Nat.le_refl _
  · have : m = 0 ∨ m = 1 ∨ m = 2 := by omega
    rcases this with rfl | rfl | rfl <;> rfl
  · by_cases e : k = 6 ∨ k = 13 ∨ k = 14
    · rcases e with rfl | rfl | rfl
      · exact ⟨⟨sq.1, sq.2.1.trans iq.2⟩, fun j hj e => (fq 6 j hj).1 e.symm⟩
      · exact ⟨⟨sp.1, sp.2.1.trans ip.2⟩, fun j hj e => (fq 13 j hj).2.1 e.symm⟩
      · exact ⟨⟨sp2.1, sp2.2.1.trans ip2.2⟩, fun j hj e => (fq 14 j hj).2.2 e.symm⟩
    · rw [cl k (by omega) (by omega) (by omega)] at b; omega
  · by_cases e : k = 6 ∨ k = 13 ∨ k = 14
    · rcases e with rfl | rfl | rfl <;> exact (i6 i a b).trans (i6 j c d).symm
    · rw [cl k (by omega) (by omega) (by omega)] at b; omega
  · by_cases e6 : f / 40 = 6
    · have ef : f = 241 ∨ f = 242 ∨ f = 245 ∨ f = 246 ∨ f = 247 := by
        simp only [fLI, List.mem_cons, List.not_mem_nil, or_false] at hf
        omega
      have ej : j = ns := by rw [e6] at a b; exact i6 j a b
      subst ej
      have eq : qI S5 f (if f / 40 = 6 then q else if f / 40 = 13 then p else p2) = qI S4 f q := by
        rw [if_pos e6]
        exact (sq.2.2.2.1 f).1
      show qI S5 f (if f / 40 = 6 then q else if f / 40 = 13 then p else p2) = _
      rw [eq, hI4 f]
      rcases ef with rfl | rfl | rfl | rfl | rfl
      · show x2 = (sgT T j x2 x3 (nI i) (T.1 1)).2.1 16 j
        rw [t16, upd_eq]
      · show x3 = (sgT T j x2 x3 (nI i) (T.1 1)).2.1 17 j
        rw [t17, upd_eq]
      · show 1 = (sgT T j x2 x3 (nI i) (T.1 1)).2.1 24 j
        rw [t24, upd_eq]
      · show 0 = (sgT T j x2 x3 (nI i) (T.1 1)).2.1 15 j
        rw [sgT_o (by decide), (z15 j (Nat.le_refl _)).1]
      · show -1 = (sgT T j x2 x3 (nI i) (T.1 1)).2.1 20 j
        rw [t20, upd_eq]
    · rw [cl _ e6 (by simp only [fLI, List.mem_cons, List.not_mem_nil, or_false] at hf; omega) (by simp only [fLI, List.mem_cons, List.not_mem_nil, or_false] at hf; omega)] at b
      omega
  · by_cases e6 : f / 40 = 6
    · have ef : f = 248 ∨ f = 249 ∨ f = 250 := by
        simp only [fLR, List.mem_cons, List.not_mem_nil, or_false] at hf
        omega
      have ej : j = ns := by rw [e6] at a b; exact i6 j a b
      subst ej
      have eq : qR S5 f (if f / 40 = 6 then q else if f / 40 = 13 then p else p2) = qR S4 f q := by
        rw [if_pos e6]
        exact (sq.2.2.2.1 f).2.2
      show qR S5 f (if f / 40 = 6 then q else if f / 40 = 13 then p else p2) = _
      rw [eq, hR4 f]
      rcases ef with rfl | rfl | rfl
      · show none = (rf ((sgT T j x2 x3 (nI i) (T.1 1)).2.1 21 j)).map _
        rw [t21, upd_eq, rf_m]
        rfl
      · show some (A 3 i) = (rf ((sgT T j x2 x3 (nI i) (T.1 1)).2.1 19 j)).map (A1 A _ _ 3 ea 3)
        rw [t19, upd_eq, rf_n (by omega)]
        show some (A 3 i) = some (A1 A _ _ 3 ea 3 i)
        rw [A1_o (k := 3) (by decide) hi]
      · show none = (rf ((sgT T j x2 x3 (nI i) (T.1 1)).2.1 18 j)).map _
        rw [t18, upd_eq, rf_m]
        rfl
    · rw [cl _ e6 (by simp only [fLR, List.mem_cons, List.not_mem_nil, or_false] at hf; omega) (by simp only [fLR, List.mem_cons, List.not_mem_nil, or_false] at hf; omega)] at b
      omega
  · by_cases e6 : f / 40 = 6
    · have ef : f = 243 ∨ f = 244 := by
        simp only [fLS, List.mem_cons, List.not_mem_nil, or_false] at hf
        omega
      have ej : j = ns := by rw [e6] at a b; exact i6 j a b
      subst ej
      have eq : qR S5 f (if f / 40 = 6 then q else if f / 40 = 13 then p else p2) = qR S4 f q := by
        rw [if_pos e6]
        exact (sq.2.2.2.1 f).2.2
      show qR S5 f (if f / 40 = 6 then q else if f / 40 = 13 then p else p2) = _
      rw [eq, hR4 f]
      rcases ef with rfl | rfl
      · show some p = some (A1 A _ _ 3 ea 13 j)
        rw [A1_n (k := 13) (by decide) (show j ≤ j from Nat.le_refl _)]
        rfl
      · show some p2 = some (A1 A _ _ 3 ea 14 j)
        rw [A1_n (k := 14) (by decide) (show j ≤ j from Nat.le_refl _)]
        rfl
    · rw [cl _ e6 (by simp only [fLS, List.mem_cons, List.not_mem_nil, or_false] at hf; omega) (by simp only [fLS, List.mem_cons, List.not_mem_nil, or_false] at hf; omega)] at b
      omega
  · by_cases e6 : f / 40 = 6
    · have ef : f = 240 := by
        simp only [List.mem_cons, List.not_mem_nil, or_false] at hf
        omega
      subst ef
      have ej : j = ns := i6 j a b
      show qI S5 240 q = nI j
      rw [(sq.2.2.2.1 240).1, hI4 240, ej]
      rfl
    · rw [cl _ e6 (by simp only [List.mem_cons, List.not_mem_nil, or_false] at hf; omega) (by simp only [List.mem_cons, List.not_mem_nil, or_false] at hf; omega)] at b
      omega
  · by_cases e13 : k = 13
    · subst e13
      have ej : j = ns := i6 j a b
      subst ej
      have hj : j' < 30 := hj
      show qAI S5 13 p j' = (sgT T j x2 x3 (nI i) (T.1 1)).2.1 22 (30 * j + j')
      rw [(sp.2.2.2.2 13).1, hA1 j', t22]
      by_cases y : j' = 0
      · rw [y, if_pos rfl, Nat.add_zero, upd_eq]
      · rw [if_neg y, upd_ne (by omega), (z22 (30 * j + j') (by omega)).1]
    · by_cases e14 : k = 14
      · subst e14
        have ej : j = ns := i6 j a b
        subst ej
        have hj : j' < 30 := hj
        show qAI S5 14 p2 j' = (sgT T j x2 x3 (nI i) (T.1 1)).2.1 23 (30 * j + j')
        rw [(sp2.2.2.2.2 14).1, hA2 j', t23]
        by_cases y : j' = 0
        · rw [y, if_pos rfl, Nat.add_zero, upd_eq]
        · rw [if_neg y, upd_ne (by omega), (z22 (30 * j + j') (by omega)).2]
      · rw [cl k (by simp only [aLI, List.mem_cons, List.not_mem_nil, or_false] at hk; omega) e13 e14] at b
        omega
  · by_cases e13 : k = 13
    · subst e13
      show qN S5 p = 30
      rw [sp.2.2.1]
      exact hN1
    · by_cases e14 : k = 14
      · subst e14
        show qN S5 p2 = 30
        rw [sp2.2.2.1]
        exact hN2
      · rw [cl k (by omega) e13 e14] at b
        omega
  · by_cases e6 : f / 40 = 6
    · have ef : f = 241 ∨ f = 242 ∨ f = 245 ∨ f = 246 ∨ f = 247 := by
        simp only [fLI, List.mem_cons, List.not_mem_nil, or_false] at hf
        omega
      have ne : j ≠ ns := by rw [e6] at hj; exact ioldS j hj
      rcases ef with rfl | rfl | rfl | rfl | rfl
      · show (sgT T ns x2 x3 (nI i) (T.1 1)).2.1 16 j = T.2.1 16 j
        rw [t16, upd_ne ne]
      · show (sgT T ns x2 x3 (nI i) (T.1 1)).2.1 17 j = T.2.1 17 j
        rw [t17, upd_ne ne]
      · show (sgT T ns x2 x3 (nI i) (T.1 1)).2.1 24 j = T.2.1 24 j
        rw [t24, upd_ne ne]
      · show (sgT T ns x2 x3 (nI i) (T.1 1)).2.1 15 j = T.2.1 15 j
        rw [sgT_o (by decide)]
      · show (sgT T ns x2 x3 (nI i) (T.1 1)).2.1 20 j = T.2.1 20 j
        rw [t20, upd_ne ne]
    · rw [sgT_o (by
        simp only [fLI, List.mem_cons, List.not_mem_nil, or_false] at hf
        rcases hf with rfl | rfl | rfl | rfl | rfl | rfl | rfl | rfl | rfl | rfl | rfl | rfl | rfl <;> first | exact absurd rfl e6 | decide)]
  · by_cases e6 : f / 40 = 6
    · have ef : f = 248 ∨ f = 249 ∨ f = 250 := by
        simp only [fLR, List.mem_cons, List.not_mem_nil, or_false] at hf
        omega
      have ne : j ≠ ns := by rw [e6] at hj; exact ioldS j hj
      rcases ef with rfl | rfl | rfl
      · show (sgT T ns x2 x3 (nI i) (T.1 1)).2.1 21 j = T.2.1 21 j
        rw [t21, upd_ne ne]
      · show (sgT T ns x2 x3 (nI i) (T.1 1)).2.1 19 j = T.2.1 19 j
        rw [t19, upd_ne ne]
      · show (sgT T ns x2 x3 (nI i) (T.1 1)).2.1 18 j = T.2.1 18 j
        rw [t18, upd_ne ne]
    · rw [sgT_o (by
        simp only [fLR, List.mem_cons, List.not_mem_nil, or_false] at hf
        rcases hf with rfl | rfl | rfl | rfl | rfl <;> first | exact absurd rfl e6 | decide)]
  · exact IV.rlt hI hf hj hj'
  · by_cases e13 : k = 13
    · subst e13
      have hj : j < ns := hj
      have hj' : j' < 30 := hj'
      show (sgT T ns x2 x3 (nI i) (T.1 1)).2.1 22 (30 * j + j') = T.2.1 22 (30 * j + j')
      rw [t22, upd_ne (by omega)]
    · by_cases e14 : k = 14
      · subst e14
        have hj : j < ns := hj
        have hj' : j' < 30 := hj'
        show (sgT T ns x2 x3 (nI i) (T.1 1)).2.1 23 (30 * j + j') = T.2.1 23 (30 * j + j')
        rw [t23, upd_ne (by omega)]
      · rw [sgT_o (by
          simp only [aLI, List.mem_cons, List.not_mem_nil, or_false] at hk
          rcases hk with rfl | rfl | rfl | rfl | rfl | rfl | rfl | rfl <;> first | exact absurd rfl e13 | exact absurd rfl e14 | decide)]
  · exact A1_o (c := cN np nr ns no) (by decide) Nat.one_pos
theorem c_single {g : Nat × Nat} {n : Nat} {S : qS} {A : Nat → Nat → Nat} {C : Nat → Nat} {np nr ns no i : Nat} {T : mT} {x2 x3 : Int32} {post : Int32 → qS → Prop} {xp : String → qS → Prop} (hx : x2 = 0 ∨ x2 = 1) (hI : IV n T np nr ns no) (hU : RU g S A C (cN np nr ns no) T) (hi : i < np) (hr1 : ¬ x3 < 0) (hr2 : x3 ≤ 8) (h1 : ns < 40 → ∀ (A' : Nat → Nat → Nat) (C' : Nat → Nat) (S' : qS), RU g S' A' C' (cN np nr (ns + 1) no) (sgT T ns x2 x3 (nI i) (T.1 1)) → A' 8 0 = A 8 0 → cfr S S' → post (nI ns) S') (h2 : ¬ ns < 40 → xp UOE S) : pX7_single (A 8 0) (nI i) x2 x3 S g post xp := by
  have hr : qR S (40 * 8 + 3) (A 8 0) = some (A 7 0) := hU.2.2.2.1 323 0 (by decide) Nat.one_pos
  have hr7 : qR S (40 * 7 + 0) (A 7 0) = some (A 0 3) := hU.2.2.2.1 280 0 (by decide) Nat.one_pos
  have x8 := hU.1 8 0 Nat.one_pos
  have x7 := hU.1 7 0 Nat.one_pos
  refine hU.at8 (p_pl hU hi hI.1.1.2 (p_cr hr1 hr2 (wgR x8 hr ⟨A 7 0, rfl, x7.1, x7.2, wgR x7 hr7 (wsz hU (by decide) ⟨fun z => ?_, fun z => h2 fun y => z (nI_lt (b := 40) y (by omega))⟩)⟩)))
  have hn : ns < 40 := (nI_ltI (b := 40) (by have := hI.1.2.2.1.2; omega) (by omega)).mp z
  intro q hq
  have o1 : old S (q_nw S 6 q 0) := old.nw hq
  have iq1 : inP (q_nw S 6 q 0) q 6 := ⟨mem_nw, va_up_self _ _ _⟩
  have zI : ∀ f, qI (q_nw S 6 q 0) f q = 0 := fun f => if_pos rfl
  have zR : ∀ f, qR (q_nw S 6 q 0) f q = none := fun f => if_pos rfl
  generalize q_nw S 6 q 0 = S1 at o1 iq1 zI zR ⊢
  refine i_single iq1 zI zR hx fun S2 p p2 sm2 hp hp2 pp iq2 ip2 ipp2 hI2 hR2 hA2 hB2 hN2 hM2 => ?_
  have o2 : old S S2 := fun a ha => (o1 a ha).tr (sm2 a (o1 a ha).1 (fun e => hq (e ▸ ha)))
  have hU2 := hU.old o2
  have e329 : qI S2 (40 * 8 + 9) (A 8 0) = T.1 1 := hU2.2.2.2.2.1.1 329 0 (by decide) Nat.one_pos
  have il := hU2.1 3 i hi
  have e120 : qI S2 120 (A 3 i) = nI i := hU2.2.2.2.2.1.2.1 120 i (by decide) hi
  refine wgI (hU2.1 8 0 Nat.one_pos) e329 ⟨q, rfl, iq2.1, iq2.2, i_pass (fI := fun f => if f = 242 then x3 else if f = 241 then x2 else if f = 240 then nI ns else if f = 247 then -1 else 0) (fR := fun f => if f = 244 then some p2 else if f = 243 then some p else none) iq2 ip2 ipp2 il hI2 hR2 rfl rfl rfl hA2 hB2 hN2 hM2 e120 fun S3 sm3 iq3 ip3 ipp3 hI3 hR3 hA3 hB3 hN3 hM3 => ?_⟩
  have pS : p ∉ qL S := fun y => hp (o1 p y).1
  have p2S : p2 ∉ qL S := fun y => hp2 (o1 p2 y).1
  have o3 : old S S3 := fun a ha => (o2 a ha).tr (sm3 a (o2 a ha).1 (fun e => hq (e ▸ ha)) (fun e => pS (e ▸ ha)) (fun e => p2S (e ▸ ha)))
  have hU3 := hU.old o3
  have hr3 : qR S3 (40 * 8 + 3) (A 8 0) = some (A 7 0) := hU3.2.2.2.1 323 0 (by decide) Nat.one_pos
  have hr73 : qR S3 (40 * 7 + 0) (A 7 0) = some (A 0 3) := hU3.2.2.2.1 280 0 (by decide) Nat.one_pos
  have x73 := hU3.1 7 0 Nat.one_pos
  refine wgR (hU3.1 8 0 Nat.one_pos) hr3 ⟨A 7 0, rfl, x73.1, x73.2, wgR x73 hr73 (li_at hU3 (by decide) (addL (k := 6) (hU3.1 0 3 (show 3 < 4 by decide)) (hU3.2.2.2.2.2.2.2.2.2.2.1.1 3 (by decide)) (show ns < 60 by omega) (fun i hi => hU3.1 6 i hi) iq3 (Or.inr (Or.inr (Or.inr rfl))) fun S5 ea cap hs hli _ hea hrc hcf => ?_))⟩
  obtain ⟨A', C', hU', hA'⟩ := RU.single (q := q) (p := p) (p2 := p2) hI hU3 hn hi (fun k j hj => ⟨fun e => hq (e ▸ (hU.1 k j hj).1), fun e => pS (e ▸ (hU.1 k j hj).1), fun e => p2S (e ▸ (hU.1 k j hj).1)⟩) iq3 ip3 ipp3 hI3 hR3 hA3 hB3 hN3 hM3 hs hli hea hrc
  exact h1 hn A' C' S5 hU' hA' (o3.cfr.tr hcf)
