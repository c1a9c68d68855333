/-! rule. -/
theorem c_rule {g : Nat × Nat} {n : Nat} {S : qS} {A : Nat → Nat → Nat} {C : Nat → Nat} {np nr ns no : Nat} {T : mT} {x : Int32} {post : Int32 → qS → Prop} {xp : String → qS → Prop} (hx : x = 0 ∨ x = 1) (hI : IV n T np nr ns no) (hU : RU g S A C (cN np nr ns no) T) (h1 : nr < 10 → ∀ (A' : Nat → Nat → Nat) (C' : Nat → Nat) (S' : qS), RU g S' A' C' (cN np (nr + 1) ns no) (m_sA T 9 nr x) → A' 8 0 = A 8 0 → cfr S S' → post (nI nr) S') (h2 : ¬ nr < 10 → xp UOE S) : pX7_rule (A 8 0) x S g post xp := by
  have hr : qR S (40 * 8 + 1) (A 8 0) = some (A 0 1) := hU.2.2.2.1 321 0 (by decide) Nat.one_pos
  have x8 := hU.1 8 0 Nat.one_pos
  refine wgR x8 hr (wsz hU (by decide) ⟨fun z => wgR x8 hr ?_, fun z => h2 fun y => z (nI_lt (b := 10) y (by omega))⟩)
  have hn : nr < 10 := (nI_ltI (b := 10) (by have := hI.1.2.1.2; omega) (by omega)).mp z
  intro q hq
  intro p hp
  have o1 : old S (q_nw S 4 q 0) := old.nw hq
  have o2 : old (q_nw S 4 q 0) (q_nw (q_nw S 4 q 0) 11 p 4) := old.nw hp
  have qp : q ≠ p := fun e => hp (by rw [← e]; exact mem_nw)
  have pS : p ∉ qL S := fun y => hp (o1 p y).1
  have q2 := o2 q mem_nw
  have kq : qK (q_nw (q_nw S 4 q 0) 11 p 4) q = 4 := by rw [q2.2.1]; exact va_up_self _ _ _
  refine ⟨q, rfl, q2.1, kq, ?_⟩
  intro p2 hp2
  have hp2 : p2 ∉ qL (qsR (q_nw (q_nw S 4 q 0) 11 p 4) (40 * 4 + 1) q (some p)) := hp2
  have o3 : old S (qsR (q_nw (q_nw S 4 q 0) 11 p 4) (40 * 4 + 1) q (some p)) := (o1.tr o2).sR hq
  have o4 : old (qsR (q_nw (q_nw S 4 q 0) 11 p 4) (40 * 4 + 1) q (some p)) (q_nw (qsR (q_nw (q_nw S 4 q 0) 11 p 4) (40 * 4 + 1) q (some p)) 12 p2 4) := old.nw hp2
  have q4 := o4 q q2.1
  have p4 := o4 p (mem_nw (S := q_nw S 4 q 0) (k := 11) (n := 4))
  have qp2 : q ≠ p2 := fun e => hp2 (by rw [← e]; exact q2.1)
  have pp2 : p ≠ p2 := fun e => hp2 (by rw [← e]; exact (mem_nw (S := q_nw S 4 q 0) (k := 11) (n := 4)))
  have p2S : p2 ∉ qL S := fun y => hp2 (o3 p2 y).1
  have kq4 : qK (q_nw (qsR (q_nw (q_nw S 4 q 0) 11 p 4) (40 * 4 + 1) q (some p)) 12 p2 4) q = 4 := q4.2.1.trans kq
  refine ⟨q, rfl, q4.1, kq4, q, rfl, q4.1, kq4, hx, ?_⟩
  show w_at (qsI (qsR (q_nw (qsR (q_nw (q_nw S 4 q 0) 11 p 4) (40 * 4 + 1) q (some p)) 12 p2 4) (40 * 4 + 2) q (some p2)) (40 * 4 + 0) q x) (some (A 0 1)) 0 (fun b36 => pJx4a65c_add_9ea2d b36 (some q) (qsI (qsR (q_nw (qsR (q_nw (q_nw S 4 q 0) 11 p 4) (40 * 4 + 1) q (some p)) 12 p2 4) (40 * 4 + 2) q (some p2)) (40 * 4 + 0) q x) g (fun v36 S => post (nI nr) S) xp)
  have o6 : old S (qsI (qsR (q_nw (qsR (q_nw (q_nw S 4 q 0) 11 p 4) (40 * 4 + 1) q (some p)) 12 p2 4) (40 * 4 + 2) q (some p2)) (40 * 4 + 0) q x) := ((o3.tr o4).sR hq).sI hq
  have hI4 : ∀ f, qI (qsI (qsR (q_nw (qsR (q_nw (q_nw S 4 q 0) 11 p 4) (40 * 4 + 1) q (some p)) 12 p2 4) (40 * 4 + 2) q (some p2)) (40 * 4 + 0) q x) f q = if f = 160 then x else 0 := fun f => by
    show q_u2 (qI (q_nw (qsR (q_nw (q_nw S 4 q 0) 11 p 4) (40 * 4 + 1) q (some p)) 12 p2 4)) 160 q x f q = _
    by_cases e : f = 160
    · rw [e, u2s, if_pos rfl]
    · rw [u2_ne e, if_neg e, (q4.2.2.2.1 f).1]
      show qI (q_nw (q_nw S 4 q 0) 11 p 4) f q = 0
      rw [(q2.2.2.2.1 f).1]
      exact if_pos rfl
  have hR1 : qR (qsI (qsR (q_nw (qsR (q_nw (q_nw S 4 q 0) 11 p 4) (40 * 4 + 1) q (some p)) 12 p2 4) (40 * 4 + 2) q (some p2)) (40 * 4 + 0) q x) 161 q = some p := by
    show q_u2 (qR (q_nw (qsR (q_nw (q_nw S 4 q 0) 11 p 4) (40 * 4 + 1) q (some p)) 12 p2 4)) 162 q (some p2) 161 q = some p
    rw [u2_ne (by decide), (q4.2.2.2.1 161).2.2]
    exact u2s
  have hR2 : qR (qsI (qsR (q_nw (qsR (q_nw (q_nw S 4 q 0) 11 p 4) (40 * 4 + 1) q (some p)) 12 p2 4) (40 * 4 + 2) q (some p2)) (40 * 4 + 0) q x) 162 q = some p2 := u2s
  have hA1 : ∀ j, qAI (qsI (qsR (q_nw (qsR (q_nw (q_nw S 4 q 0) 11 p 4) (40 * 4 + 1) q (some p)) 12 p2 4) (40 * 4 + 2) q (some p2)) (40 * 4 + 0) q x) 11 p j = 0 := fun j => by
    show qAI (q_nw (qsR (q_nw (q_nw S 4 q 0) 11 p 4) (40 * 4 + 1) q (some p)) 12 p2 4) 11 p j = 0
    rw [(p4.2.2.2.2 11).1]
    show (if p = p then (fun _ => (0 : Int32)) else _) j = 0
    rw [if_pos rfl]
  have hA2 : ∀ j, qAI (qsI (qsR (q_nw (qsR (q_nw (q_nw S 4 q 0) 11 p 4) (40 * 4 + 1) q (some p)) 12 p2 4) (40 * 4 + 2) q (some p2)) (40 * 4 + 0) q x) 12 p2 j = 0 := fun j => by
    show (if p2 = p2 then (fun _ => (0 : Int32)) else _) j = 0
    rw [if_pos rfl]
  have hN1 : qN (qsI (qsR (q_nw (qsR (q_nw (q_nw S 4 q 0) 11 p 4) (40 * 4 + 1) q (some p)) 12 p2 4) (40 * 4 + 2) q (some p2)) (40 * 4 + 0) q x) p = 4 := p4.2.2.1.trans (va_up_self _ _ _)
  have hN2 : qN (qsI (qsR (q_nw (qsR (q_nw (q_nw S 4 q 0) 11 p 4) (40 * 4 + 1) q (some p)) 12 p2 4) (40 * 4 + 2) q (some p2)) (40 * 4 + 0) q x) p2 = 4 := va_up_self _ _ _
  have iq : inP (qsI (qsR (q_nw (qsR (q_nw (q_nw S 4 q 0) 11 p 4) (40 * 4 + 1) q (some p)) 12 p2 4) (40 * 4 + 2) q (some p2)) (40 * 4 + 0) q x) q 4 := ⟨q4.1, kq4⟩
  have ip : inP (qsI (qsR (q_nw (qsR (q_nw (q_nw S 4 q 0) 11 p 4) (40 * 4 + 1) q (some p)) 12 p2 4) (40 * 4 + 2) q (some p2)) (40 * 4 + 0) q x) p 11 := ⟨p4.1, p4.2.1.trans (va_up_self _ _ _)⟩
  have ip2 : inP (qsI (qsR (q_nw (qsR (q_nw (q_nw S 4 q 0) 11 p 4) (40 * 4 + 1) q (some p)) 12 p2 4) (40 * 4 + 2) q (some p2)) (40 * 4 + 0) q x) p2 12 := ⟨mem_nw (k := 12) (n := 4), va_up_self _ _ _⟩
  generalize qsI (qsR (q_nw (qsR (q_nw (q_nw S 4 q 0) 11 p 4) (40 * 4 + 1) q (some p)) 12 p2 4) (40 * 4 + 2) q (some p2)) (40 * 4 + 0) q x = S4 at o6 hI4 hR1 hR2 hA1 hA2 hN1 hN2 iq ip ip2 ⊢
  have hU4 := hU.old o6
  have hnew : ∀ a k, inP S4 a k → k ≠ 0 → k ≠ 22 → a ≠ A 0 1 ∧ (nr ≠ 0 → a ≠ A 22 1) := fun a k ha k0 k2 => ⟨fun e => k0 (by rw [← ha.2, e]; exact (hU4.1 0 1 (show 1 < 4 by decide)).2), fun hn e => by
    rcases (hU4.2.2.2.2.2.2.2.2.2.2.1.1 1 (by decide)).2 with ⟨y, _⟩ | ⟨y, _⟩
    · exact hn y
    · exact k2 (by rw [← ha.2, e]; exact y.2)⟩
  refine li_at hU4 (by decide) (addL (k := 4) (hU4.1 0 1 (show 1 < 4 by decide)) (hU4.2.2.2.2.2.2.2.2.2.2.1.1 1 (by decide)) (show nr < 60 by omega) (fun i hi => hU4.1 4 i hi) iq (Or.inr (Or.inr (Or.inl rfl))) fun S5 ea cap hs hli _ hea hrc hcf => ?_)
  have sq := hs q iq.1 (hnew q 4 iq (by decide) (by decide)).1 (hnew q 4 iq (by decide) (by decide)).2
  have sp := hs p ip.1 (hnew p 11 ip (by decide) (by decide)).1 (hnew p 11 ip (by decide) (by decide)).2
  have sp2 := hs p2 ip2.1 (hnew p2 12 ip2 (by decide) (by decide)).1 (hnew p2 12 ip2 (by decide) (by decide)).2
  have cl : ∀ k, k ≠ 4 → k ≠ 11 → k ≠ 12 → cN np (nr + 1) ns no k = cN np nr ns no k := fun k a b c => by
    unfold cN
    split <;> first | rfl | omega
  have i4 : ∀ i, nr ≤ i → i < nr + 1 → i = nr := fun i a b => by omega
  have zero := hI.2.2.2.1.2.1
  refine h1 hn _ _ S5 (RU.add (l := 1) (N := fun k _ => if k = 4 then q else if k = 11 then p else p2) (T' := m_sA T 9 nr x) (np' := np) (nr' := nr + 1) (ns' := ns) (no' := no) hU4 (by decide) hs hli hea hrc ⟨hI.1.1.2, by omega, hI.1.2.2.1.2, hI.1.2.2.2.2⟩ (fun k => ?_) rfl (fun m hm hne => ?_) (fun k i a b => ?_) (fun k i j a b c d _ => ?_) (fun f i hf a b => ?_) (fun f i hf a b => ?_) (fun f i hf a b => ?_) (fun f i hf a b => ?_) (fun k i j hk a b hj => ?_) (fun k i ka kb a b => ?_) (fun f i hf hi => ?_) (fun f i hf hi => ⟨?_, fun j hj => ?_⟩) (fun _ _ => rfl) (fun k i j hk hi hj => ?_) rfl) ?_ (o6.cfr.tr hcf)
  · by_cases e : k = 4 ∨ k = 11 ∨ k = 12
    · rcases e with rfl | rfl | rfl <;> exact Nat.le_succ nr
    · rw [cl k (by omega) (by omega) (by omega)]; exact Nat.le_refl _
  · have : m = 0 ∨ m = 2 ∨ m = 3 := by omega
    rcases this with rfl | rfl | rfl <;> rfl
  · by_cases e : k = 4 ∨ k = 11 ∨ k = 12
    · rcases e with rfl | rfl | rfl
      · exact ⟨⟨sq.1, sq.2.1.trans iq.2⟩, fun j hj e => hq (by rw [show q = A 4 j from e]; exact (hU.1 4 j hj).1)⟩
      · exact ⟨⟨sp.1, sp.2.1.trans ip.2⟩, fun j hj e => pS (by rw [show p = A 11 j from e]; exact (hU.1 11 j hj).1)⟩
      · exact ⟨⟨sp2.1, sp2.2.1.trans ip2.2⟩, fun j hj e => p2S (by rw [show p2 = A 12 j from e]; exact (hU.1 12 j hj).1)⟩
    · rw [cl k (by omega) (by omega) (by omega)] at b; omega
  · by_cases e : k = 4 ∨ k = 11 ∨ k = 12
    · rcases e with rfl | rfl | rfl <;> exact (i4 i a b).trans (i4 j c d).symm
    · rw [cl k (by omega) (by omega) (by omega)] at b; omega
  · by_cases e4 : f / 40 = 4
    · have ef : f = 160 ∨ f = 163 := by
        simp only [fLI, List.mem_cons, List.not_mem_nil, or_false] at hf
        omega
      rcases ef with rfl | rfl
      · have ei : i = nr := i4 i a b
        subst ei
        show qI S5 160 q = (m_sA T 9 i x).2.1 9 i
        rw [(sq.2.2.2.1 160).1, hI4 160, sA_at, if_pos rfl, if_pos rfl]
      · have ei : i = nr := i4 i a b
        subst ei
        show qI S5 163 q = (m_sA T 9 i x).2.1 10 i
        rw [(sq.2.2.2.1 163).1, hI4 163, sA_n (by decide), hI.2.2.2.1.2.2.2.1 i (Nat.le_refl _)]
        rfl
    · rw [cl _ e4 (by simp only [fLI, List.mem_cons, List.not_mem_nil, or_false] at hf; omega) (by simp only [fLI, List.mem_cons, List.not_mem_nil, or_false] at hf; omega)] at b
      omega
  · rw [cl _ (by simp only [fLR, List.mem_cons, List.not_mem_nil, or_false] at hf; omega) (by simp only [fLR, List.mem_cons, List.not_mem_nil, or_false] at hf; omega) (by simp only [fLR, List.mem_cons, List.not_mem_nil, or_false] at hf; omega)] at b
    omega
  · by_cases e4 : f / 40 = 4
    · have ef : f = 161 ∨ f = 162 := by
        simp only [fLS, List.mem_cons, List.not_mem_nil, or_false] at hf
        omega
      rcases ef with rfl | rfl
      · have ei : i = nr := i4 i a b
        subst ei
        show qR S5 161 q = some (A1 A _ _ 1 ea 11 i)
        rw [(sq.2.2.2.1 161).2.2, hR1, A1_n (k := 11) (by decide) (show i ≤ i from Nat.le_refl _)]
        rfl
      · have ei : i = nr := i4 i a b
        subst ei
        show qR S5 162 q = some (A1 A _ _ 1 ea 12 i)
        rw [(sq.2.2.2.1 162).2.2, hR2, A1_n (k := 12) (by decide) (show i ≤ i from Nat.le_refl _)]
        rfl
    · rw [cl _ e4 (by simp only [fLS, List.mem_cons, List.not_mem_nil, or_false] at hf; omega) (by simp only [fLS, List.mem_cons, List.not_mem_nil, or_false] at hf; omega)] at b
      omega
  · rw [cl _ (by simp only [List.mem_cons, List.not_mem_nil, or_false] at hf; omega) (by simp only [List.mem_cons, List.not_mem_nil, or_false] at hf; omega) (by simp only [List.mem_cons, List.not_mem_nil, or_false] at hf; omega)] at b
    omega
  · by_cases e11 : k = 11
    · subst e11
      have ei : i = nr := i4 i a b
      subst ei
      show qAI S5 11 p j = T.2.1 7 (4 * i + j)
      rw [(sp.2.2.2.2 11).1, hA1 j]
      exact (zero (4 * i + j) (by omega)).1.symm
    · by_cases e12 : k = 12
      · subst e12
        have ei : i = nr := i4 i a b
        subst ei
        show qAI S5 12 p2 j = T.2.1 8 (4 * i + j)
        rw [(sp2.2.2.2.2 12).1, hA2 j]
        exact (zero (4 * i + j) (by omega)).2.symm
      · rw [cl k (by simp only [aLI, List.mem_cons, List.not_mem_nil, or_false] at hk; omega) e11 e12] at b
        omega
  · by_cases e11 : k = 11
    · subst e11
      show qN S5 p = 4
      rw [sp.2.2.1]
      exact hN1
    · by_cases e12 : k = 12
      · subst e12
        show qN S5 p2 = 4
        rw [sp2.2.2.1]
        exact hN2
      · rw [cl k (by omega) e11 e12] at b
        omega
  · by_cases e : f = 160
    · subst e
      show (m_sA T 9 nr x).2.1 9 i = T.2.1 9 i
      have hi : i < nr := hi
      rw [sA_at, if_neg (by omega)]
    · rw [sA_n (by
        simp only [fLI, List.mem_cons, List.not_mem_nil, or_false] at hf
        rcases hf with rfl | rfl | rfl | rfl | rfl | rfl | rfl | rfl | rfl | rfl | rfl | rfl | rfl <;> first | exact absurd rfl e | decide)]
  · rw [sA_n (by
      simp only [fLR, List.mem_cons, List.not_mem_nil, or_false] at hf
      rcases hf with rfl | rfl | rfl | rfl | rfl <;> decide)]
  · exact IV.rlt hI hf hi hj
  · rw [sA_n (by
      simp only [aLI, List.mem_cons, List.not_mem_nil, or_false] at hk
      rcases hk with rfl | rfl | rfl | rfl | rfl | rfl | rfl | rfl <;> decide)]
  · exact A1_o (c := cN np nr ns no) (by decide) Nat.one_pos
