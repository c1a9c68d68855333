/-! player. -/
theorem rv_lt {v : Int32} {m j : Nat} (h : rv v m) (hm : m ≤ 200) (e : rf v = some j) : j < m := by
  rcases h with rfl | ⟨i, hi, rfl⟩
  · rw [rf_m] at e
    exact absurd e (by simp)
  · rw [rf_n (by omega)] at e
    injection e with e
    omega
theorem IV.rlt {n np nr ns no f i j : Nat} {T : mT} (hI : IV n T np nr ns no) (hf : f ∈ fLR) (hi : i < cN np nr ns no (f / 40)) (hj : rf (T.2.1 (f_row f) (f_ix f i)) = some j) : j < cN np nr ns no (f_tk f) := by
  have hnp := hI.1.1.2
  have hns := hI.1.2.2.1.2
  simp only [fLR, List.mem_cons, List.not_mem_nil, or_false] at hf
  rcases hf with rfl | rfl | rfl | rfl | rfl
  · exact rv_lt (hI.2.2.2.2.1.1 i hi).2.2.2.2.2.1 (show np ≤ 200 by omega) hj
  · exact rv_lt (hI.2.2.2.2.1.1 i hi).2.2.2.2.1 (show np ≤ 200 by omega) hj
  · exact rv_lt (hI.2.2.2.2.1.1 i hi).2.2.2.1 (show ns ≤ 200 by omega) hj
  · have hi : i < 2 * no := hi
    obtain ⟨⟨a, b, ha, hb, _, r0, r1⟩, _⟩ := hI.2.2.2.2.2 (i / 2) (by omega)
    have hj : rf (T.2.1 26 (10 * (i / 2) + (if i % 2 = 0 then 0 else 1))) = some j := hj
    split at hj
    · exact rv_lt (m := np) (by rw [show 10 * (i / 2) + 0 = 10 * (i / 2) from rfl, r0]; exact rv_p ha) (by omega) hj
    · exact rv_lt (m := np) (by rw [r1]; exact rv_p hb) (by omega) hj
  · have hi : i < 2 * no := hi
    obtain ⟨_, _, _, _, _, v4, v7, _⟩ := hI.2.2.2.2.2 (i / 2) (by omega)
    have hj : rf (T.2.1 26 (10 * (i / 2) + (if i % 2 = 0 then 4 else 7))) = some j := hj
    split at hj
    · exact rv_lt (m := ns) v4 (by omega) hj
    · exact rv_lt (m := ns) v7 (by omega) hj
theorem li_at {g : Nat × Nat} {S : qS} {A : Nat → Nat → Nat} {C : Nat → Nat} {np nr ns no l : Nat} {T : mT} {K : Nat → Prop} (hU : RU g S A C (cN np nr ns no) T) (hl : l < 4) (h : K (A 0 l)) : w_at S (some (A 0 l)) 0 K := ⟨A 0 l, rfl, (hU.1 0 l hl).1, (hU.1 0 l hl).2, h⟩
theorem wgR {S : qS} {a ci k : Nat} {v : Option Nat} {K : Option Nat → Prop} (hin : inP S a ci) (hv : qR S (40 * ci + k) a = v) (h : K v) : w_getR S (some a) ci k K := ⟨a, rfl, hin.1, hin.2, by rw [← hv] at h; exact h⟩
theorem wgI {S : qS} {a ci k : Nat} {v : Int32} {K : Int32 → Prop} (hin : inP S a ci) (hv : qI S (40 * ci + k) a = v) (h : K v) : w_getI S (some a) ci k K := ⟨a, rfl, hin.1, hin.2, by rw [← hv] at h; exact h⟩
theorem wsz {g : Nat × Nat} {S : qS} {A : Nat → Nat → Nat} {C : Nat → Nat} {np nr ns no l : Nat} {T : mT} {post : Int32 → qS → Prop} {xp : String → qS → Prop} (hU : RU g S A C (cN np nr ns no) T) (hl : l < 4) (h : post (nI (cN np nr ns no (l_k l))) S) : w_at S (some (A 0 l)) 0 (fun b => pJx4a65c_size_8abf5 b S post xp) := ⟨A 0 l, rfl, (hU.1 0 l hl).1, (hU.1 0 l hl).2, wgI (hU.1 0 l hl) (hU.2.2.2.2.2.2.2.2.2.2.1.1 l hl).1 h⟩
theorem mem_nw {S : qS} {k q n : Nat} : q ∈ qL (q_nw S k q n) := List.mem_append_right _ (List.mem_singleton.mpr rfl)
theorem c_player {g : Nat × Nat} {n : Nat} {S : qS} {A : Nat → Nat → Nat} {C : Nat → Nat} {np nr ns no : Nat} {T : mT} {post : Int32 → qS → Prop} {xp : String → qS → Prop} (hI : IV n T np nr ns no) (hU : RU g S A C (cN np nr ns no) T) (h1 : np < 10 → ∀ (A' : Nat → Nat → Nat) (C' : Nat → Nat) (S' : qS), RU g S' A' C' (cN (np + 1) nr ns no) T → A' 8 0 = A 8 0 → cfr S S' → post (nI np) S') (h2 : ¬ np < 10 → xp UOE S) : pX7_player (A 8 0) S g post xp := by
  have hr : qR S (40 * 8 + 0) (A 8 0) = some (A 0 0) := hU.2.2.2.1 320 0 (by decide) Nat.one_pos
  have hsz : qI S (40 * 0 + 2) (A 0 0) = nI np := (hU.2.2.2.2.2.2.2.2.2.2.1.1 0 (by decide)).1
  have x8 := hU.1 8 0 Nat.one_pos
  refine wgR x8 hr (wsz hU (by decide) ⟨fun z => wgR x8 hr ?_, fun z => h2 fun y => z (nI_lt (b := 10) y (by omega))⟩)
  have hn : np < 10 := (nI_ltI (b := 10) (by have := hI.1.1.2; omega) (by omega)).mp z
  intro q hq
  intro p hp
  have o1 : old S (q_nw S 3 q 0) := old.nw hq
  have o2 : old (q_nw S 3 q 0) (q_nw (q_nw S 3 q 0) 10 p 4) := old.nw hp
  have qp : q ≠ p := fun e => hp (by rw [← e]; exact mem_nw)
  have pS : p ∉ qL S := fun y => hp (o1 p y).1
  have q2 := o2 q mem_nw
  have kq : qK (q_nw (q_nw S 3 q 0) 10 p 4) q = 3 := by rw [q2.2.1]; exact va_up_self _ _ _
  refine ⟨q, rfl, q2.1, kq, q, rfl, q2.1, kq, ?_⟩
  show w_at (qsI (qsR (q_nw (q_nw S 3 q 0) 10 p 4) (40 * 3 + 1) q (some p)) (40 * 3 + 0) q (nI np)) (some (A 0 0)) 0 (fun b36 => pJx4a65c_add_9ea2d b36 (some q) (qsI (qsR (q_nw (q_nw S 3 q 0) 10 p 4) (40 * 3 + 1) q (some p)) (40 * 3 + 0) q (nI np)) g (fun v36 S => post (nI np) S) xp)
  have o4 : old S (qsI (qsR (q_nw (q_nw S 3 q 0) 10 p 4) (40 * 3 + 1) q (some p)) (40 * 3 + 0) q (nI np)) := ((o1.tr o2).sR hq).sI hq
  have hI4 : ∀ f, qI (qsI (qsR (q_nw (q_nw S 3 q 0) 10 p 4) (40 * 3 + 1) q (some p)) (40 * 3 + 0) q (nI np)) f q = if f = 120 then nI np else 0 := fun f => by
    show q_u2 (qI (q_nw (q_nw S 3 q 0) 10 p 4)) 120 q (nI np) f q = _
    by_cases e : f = 120
    · rw [e, u2s, if_pos rfl]
    · rw [u2_ne e, if_neg e, (q2.2.2.2.1 f).1]
      exact if_pos rfl
  have hR4 : qR (qsI (qsR (q_nw (q_nw S 3 q 0) 10 p 4) (40 * 3 + 1) q (some p)) (40 * 3 + 0) q (nI np)) 121 q = some p := u2s
  have hA4 : ∀ j, qAI (qsI (qsR (q_nw (q_nw S 3 q 0) 10 p 4) (40 * 3 + 1) q (some p)) (40 * 3 + 0) q (nI np)) 10 p j = 0 := fun j => by
    show (if p = p then (fun _ => (0 : Int32)) else _) j = 0
    rw [if_pos rfl]
  have hN4 : qN (qsI (qsR (q_nw (q_nw S 3 q 0) 10 p 4) (40 * 3 + 1) q (some p)) (40 * 3 + 0) q (nI np)) p = 4 := va_up_self _ _ _
  have pq4 : inP (qsI (qsR (q_nw (q_nw S 3 q 0) 10 p 4) (40 * 3 + 1) q (some p)) (40 * 3 + 0) q (nI np)) q 3 := ⟨q2.1, kq⟩
  have pp4 : inP (qsI (qsR (q_nw (q_nw S 3 q 0) 10 p 4) (40 * 3 + 1) q (some p)) (40 * 3 + 0) q (nI np)) p 10 := ⟨mem_nw (k := 10) (n := 4), va_up_self _ _ _⟩
  generalize qsI (qsR (q_nw (q_nw S 3 q 0) 10 p 4) (40 * 3 + 1) q (some p)) (40 * 3 + 0) q (nI np) = S4 at o4 hI4 hR4 hA4 hN4 pq4 pp4 ⊢
  have hU4 := hU.old o4
  have hnew : ∀ a k, inP S4 a k → k ≠ 0 → k ≠ 22 → a ≠ A 0 0 ∧ (np ≠ 0 → a ≠ A 22 0) := fun a k ha k0 k2 => ⟨fun e => k0 (by rw [← ha.2, e]; exact (hU4.1 0 0 (show 0 < 4 by decide)).2), fun hn e => by
    rcases (hU4.2.2.2.2.2.2.2.2.2.2.1.1 0 (by decide)).2 with ⟨y, _⟩ | ⟨y, _⟩
    · exact hn y
    · exact k2 (by rw [← ha.2, e]; exact y.2)⟩
  refine li_at hU4 (by decide) (addL (k := 3) (hU4.1 0 0 (show 0 < 4 by decide)) (hU4.2.2.2.2.2.2.2.2.2.2.1.1 0 (by decide)) (show np < 60 by omega) (fun i hi => hU4.1 3 i hi) pq4 (Or.inr (Or.inl rfl)) fun S5 ea cap hs hli _ hea hrc hcf => ?_)
  have sq := hs q pq4.1 (hnew q 3 pq4 (by decide) (by decide)).1 (hnew q 3 pq4 (by decide) (by decide)).2
  have sp := hs p pp4.1 (hnew p 10 pp4 (by decide) (by decide)).1 (hnew p 10 pp4 (by decide) (by decide)).2
  have cl : ∀ k, k ≠ 3 → k ≠ 10 → cN (np + 1) nr ns no k = cN np nr ns no k := fun k a b => by
    unfold cN
    split <;> first | rfl | omega
  have i3 : ∀ i, cN np nr ns no 3 ≤ i → i < cN (np + 1) nr ns no 3 → i = np := fun i a b => by
    have a : np ≤ i := a
    have b : i < np + 1 := b
    omega
  have i10 : ∀ i, cN np nr ns no 10 ≤ i → i < cN (np + 1) nr ns no 10 → i = np := fun i a b => by
    have a : np ≤ i := a
    have b : i < np + 1 := b
    omega
  refine h1 hn _ _ S5 (RU.add (l := 0) (N := fun k _ => if k = 3 then q else p) (T' := T) (np' := np + 1) (nr' := nr) (ns' := ns) (no' := no) hU4 (by decide) hs hli hea hrc ⟨by omega, hI.1.2.1.2, hI.1.2.2.1.2, hI.1.2.2.2.2⟩ (fun k => ?_) rfl (fun m hm hne => ?_) (fun k i a b => ?_) (fun k i j a b c d _ => ?_) (fun f i hf a b => ?_) (fun f i hf a b => ?_) (fun f i hf a b => ?_) (fun f i hf a b => ?_) (fun k i j hk a b hj => ?_) (fun k i ka kb a b => ?_) (fun _ _ _ _ => rfl) (fun f i hf hi => ⟨rfl, fun j hj => ?_⟩) (fun _ _ => rfl) (fun _ _ _ _ _ _ => rfl) rfl) ?_ (o4.cfr.tr hcf)
  · by_cases e3 : k = 3
    · rw [e3]; exact Nat.le_succ np
    · by_cases e10 : k = 10
      · rw [e10]; exact Nat.le_succ np
      · rw [cl k e3 e10]; exact Nat.le_refl _
  · have : m = 1 ∨ m = 2 ∨ m = 3 := by omega
    rcases this with rfl | rfl | rfl <;> rfl
  · by_cases e3 : k = 3
    · subst e3
      exact ⟨⟨sq.1, sq.2.1.trans pq4.2⟩, fun j hj e => hq (by rw [show q = A 3 j from e]; exact (hU.1 3 j hj).1)⟩
    · by_cases e10 : k = 10
      · subst e10
        exact ⟨⟨sp.1, sp.2.1.trans pp4.2⟩, fun j hj e => pS (by rw [show p = A 10 j from e]; exact (hU.1 10 j hj).1)⟩
      · rw [cl k e3 e10] at b; omega
  · by_cases e3 : k = 3
    · subst e3
      rw [i3 i a b, i3 j c d]
    · by_cases e10 : k = 10
      · subst e10
        rw [i10 i a b, i10 j c d]
      · rw [cl k e3 e10] at b; omega
  · by_cases e3 : f / 40 = 3
    · have ef : f = 122 ∨ f = 123 := by
        simp only [fLI, List.mem_cons, List.not_mem_nil, or_false] at hf
        omega
      rw [e3] at a b ⊢
      rw [i3 i a b]
      show qI S5 f q = _
      rw [(sq.2.2.2.1 f).1, hI4 f]
      have z := hI.2.2.1.2.2 np (Nat.le_refl _)
      rcases ef with rfl | rfl
      · exact z.1.symm
      · exact z.2.symm
    · rw [cl _ e3 (by simp only [fLI, List.mem_cons, List.not_mem_nil, or_false] at hf; omega)] at b
      omega
  · rw [cl _ (by simp only [fLR, List.mem_cons, List.not_mem_nil, or_false] at hf; omega) (by simp only [fLR, List.mem_cons, List.not_mem_nil, or_false] at hf; omega)] at b
    omega
  · by_cases e3 : f / 40 = 3
    · have ef : f = 121 := by
        simp only [fLS, List.mem_cons, List.not_mem_nil, or_false] at hf
        omega
      subst ef
      have : i = np := i3 i a b
      subst this
      show qR S5 121 q = some (A1 A _ _ 0 ea 10 i)
      rw [(sq.2.2.2.1 121).2.2, hR4, A1_n (k := 10) (by decide) (show i ≤ i from Nat.le_refl _)]
      rfl
    · rw [cl _ e3 (by simp only [fLS, List.mem_cons, List.not_mem_nil, or_false] at hf; omega)] at b
      omega
  · by_cases e3 : f / 40 = 3
    · have ef : f = 120 := by
        simp only [List.mem_cons, List.not_mem_nil, or_false] at hf
        omega
      subst ef
      show qI S5 120 q = nI i
      rw [(sq.2.2.2.1 120).1, hI4 120, i3 i a b]
      rfl
    · rw [cl _ e3 (by simp only [List.mem_cons, List.not_mem_nil, or_false] at hf; omega)] at b
      omega
  · by_cases e10 : k = 10
    · subst e10
      show qAI S5 10 p j = T.2.1 2 (4 * i + j)
      rw [(sp.2.2.2.2 10).1, hA4 j, i10 i a b]
      exact (hI.2.2.1.2.1 (4 * np + j) (by omega)).symm
    · rw [cl k (by simp only [aLI, List.mem_cons, List.not_mem_nil, or_false] at hk; omega) e10] at b
      omega
  · by_cases e10 : k = 10
    · subst e10
      show qN S5 p = 4
      rw [sp.2.2.1]
      exact hN4
    · rw [cl k (by omega) e10] at b
      omega
  · exact IV.rlt hI hf hi hj
  · exact A1_o (c := cN np nr ns no) (by decide) Nat.one_pos
