/-! The class without its heap: its objects by kind and number, what they hold as places of T. -/
def inP (S : qS) (a k : Nat) : Prop := a ∈ qL S ∧ qK S a = k
def rf (v : Int32) : Option Nat := if v < 0 then none else some v.toNatClampNeg
def fr (r : Option Nat) : Int32 := match r with | none => -1 | some i => nI i
def fLI : List Nat := [122, 123, 160, 163, 241, 242, 245, 246, 247, 82, 201, 202, 204]
def fWI : List Nat := [122, 123, 163, 245, 246, 247, 82]
def fLR : List Nat := [248, 249, 250, 200, 203]
def fWR : List Nat := [248, 249, 250]
def fLS : List Nat := [121, 161, 162, 243, 244, 80, 81, 320, 321, 322, 323, 324, 325, 326, 327, 280, 40, 41, 42]
def f_row (f : Nat) : Nat := match f with | 122 => 3 | 123 => 4 | 160 => 9 | 163 => 10 | 241 => 16 | 242 => 17 | 245 => 24 | 246 => 15 | 247 => 20 | 82 => 27 | 248 => 21 | 249 => 19 | 250 => 18 | _ => 26
def f_ix (f i : Nat) : Nat := match f with | 201 => 10 * (i / 2) + (if i % 2 = 0 then 2 else 5) | 202 => 10 * (i / 2) + (if i % 2 = 0 then 3 else 6) | 204 => 10 * (i / 2) + (if i % 2 = 0 then 8 else 9) | 200 => 10 * (i / 2) + (if i % 2 = 0 then 0 else 1) | 203 => 10 * (i / 2) + (if i % 2 = 0 then 4 else 7) | _ => i
def f_tk (f : Nat) : Nat := match f with | 248 => 3 | 249 => 3 | 250 => 6 | 200 => 3 | 203 => 6 | 121 => 10 | 161 => 11 | 162 => 12 | 243 => 13 | 244 => 14 | 80 => 5 | 81 => 5 | 323 => 7 | 324 => 1 | 325 => 15 | 326 => 18 | 327 => 19 | 40 => 21 | 41 => 16 | 42 => 17 | _ => 0
def f_six (f i : Nat) : Nat := match f with | 80 => 2 * i | 81 => 2 * i + 1 | 320 => 0 | 321 => 1 | 322 => 2 | 323 => 0 | 324 => 0 | 325 => 0 | 326 => 0 | 327 => 0 | 280 => 3 | 40 => 0 | 41 => 0 | 42 => 0 | _ => i
def fLF : List Nat := [328, 329, 43]
def f_k (f : Nat) : Nat := match f with | 328 => 6 | 329 => 1 | _ => 43
def aLI : List Nat := [10, 11, 12, 13, 14, 15, 16, 17]
def aLJ : List Nat := [18, 19, 20]
def a_row (k : Nat) : Nat := match k with | 10 => 2 | 11 => 7 | 12 => 8 | 13 => 22 | 14 => 23 | 15 => 11 | 16 => 46 | _ => 47
def a_st (k : Nat) : Nat := match k with | 10 => 4 | 11 => 4 | 12 => 4 | 13 => 30 | 14 => 30 | _ => 0
def a_rowJ (k i : Nat) : Nat := match k with | 18 => 13 | 19 => 14 | _ => 50 + i
def a_len (k : Nat) : Nat := match k with | 13 => 30 | 14 => 30 | 17 => 10 | 20 => 10 | 21 => 5 | _ => 4
def l_k (l : Nat) : Nat := match l with | 0 => 3 | 1 => 4 | 2 => 2 | _ => 6
def cN (np nr ns no k : Nat) : Nat := match k with | 0 => 4 | 1 => 1 | 2 => no | 3 => np | 4 => nr | 5 => 2 * no | 6 => ns | 7 => 1 | 8 => 1 | 10 => np | 11 => nr | 12 => nr | 13 => ns | 14 => ns | 15 => 1 | 16 => 1 | 17 => 1 | 18 => 1 | 19 => 1 | 20 => 5 | 21 => 1 | _ => 0
def inj (f : Nat → Nat) (n : Nat) : Prop := ∀ i j, i < n → j < n → f i = f j → i = j
/-- a list li of n elements el, in the row ea of cap places (none of them: the empty row of the JDK) -/
def rcList (S : qS) (g : Nat × Nat) (li ea cap n : Nat) (el : Nat → Nat) : Prop := qI S 2 li = nI n ∧ ((n = 0 ∧ qR S 1 li = some g.1) ∨ (inP S ea 22 ∧ qR S 1 li = some ea ∧ qN S ea = cap ∧ (n ≤ cap ∧ 0 < n) ∧ 10 ≤ cap ∧ cap ≤ 90 ∧ ∀ i, i < n → qAO S 22 ea i = some (el i)))
def RU (g : Nat × Nat) (S : qS) (A : Nat → Nat → Nat) (C : Nat → Nat) (c : Nat → Nat) (T : mT) : Prop :=
  (∀ k i, i < c k → inP S (A k i) k) ∧
  (∀ f i, f ∈ fLI → i < c (f / 40) → qI S f (A (f / 40) i) = T.2.1 (f_row f) (f_ix f i)) ∧
  (∀ f i, f ∈ fLR → i < c (f / 40) → qR S f (A (f / 40) i) = (rf (T.2.1 (f_row f) (f_ix f i))).map (A (f_tk f))) ∧
  (∀ f i, f ∈ fLS → i < c (f / 40) → qR S f (A (f / 40) i) = some (A (f_tk f) (f_six f i))) ∧
  ((∀ f i, f ∈ fLF → i < c (f / 40) → qI S f (A (f / 40) i) = T.1 (f_k f)) ∧ (∀ f i, f ∈ [120, 240] → i < c (f / 40) → qI S f (A (f / 40) i) = nI i) ∧ (∀ i, i < c 1 → qJ S 44 (A 1 i) = T.2.2 44 0)) ∧
  (∀ k i j, k ∈ aLI → i < c k → j < a_len k → qAI S k (A k i) j = T.2.1 (a_row k) (a_st k * i + j)) ∧
  (∀ k i j, k ∈ aLJ → i < c k → j < a_len k → qAJ S k (A k i) j = T.2.2 (a_rowJ k i) j) ∧
  (∀ i j, i < c 21 → j < 5 → qAO S 21 (A 21 i) j = some (A 20 j)) ∧
  (∀ k i, 10 ≤ k → k < 22 → i < c k → qN S (A k i) = a_len k) ∧
  (∀ k, inj (A k) (c k)) ∧
  ((∀ l, l < 4 → rcList S g (A 0 l) (A 22 l) (C l) (c (l_k l)) (A (l_k l))) ∧ (∀ l m, l < 4 → m < 4 → l ≠ m → c (l_k l) ≠ 0 → c (l_k m) ≠ 0 → A 22 l ≠ A 22 m)) ∧
  (∃ np nr ns no, c = cN np nr ns no ∧ np ≤ 10 ∧ nr ≤ 10 ∧ ns ≤ 40 ∧ no ≤ 60)
/-- only the class's maps have changed; the pool may have grown -/
def cfr (S S' : qS) : Prop := (∀ a, a ∈ qL S → a ∈ qL S' ∧ qK S' a = qK S a ∧ qN S' a = qN S a) ∧ (∀ f, 360 ≤ f → ∀ a, a ∈ qL S → qI S' f a = qI S f a ∧ qR S' f a = qR S f a) ∧ (∀ k, 29 ≤ k → ∀ a, a ∈ qL S → qAI S' k a = qAI S k a ∧ qAJ S' k a = qAJ S k a)
theorem cfr.rf {S : qS} : cfr S S := ⟨fun _ h => ⟨h, rfl, rfl⟩, fun _ _ _ _ => ⟨rfl, rfl⟩, fun _ _ _ _ => ⟨rfl, rfl⟩⟩
theorem cfr.tr {S1 S2 S3 : qS} (h : cfr S1 S2) (k : cfr S2 S3) : cfr S1 S3 := by
  refine ⟨fun a ha => ?_, fun f hf a ha => ?_, fun f hf a ha => ?_⟩
  · obtain ⟨a1, a2, a3⟩ := h.1 a ha
    obtain ⟨b1, b2, b3⟩ := k.1 a a1
    exact ⟨b1, b2.trans a2, b3.trans a3⟩
  · obtain ⟨a1, -, -⟩ := h.1 a ha
    obtain ⟨c1, c2⟩ := h.2.1 f hf a ha
    obtain ⟨d1, d2⟩ := k.2.1 f hf a a1
    exact ⟨d1.trans c1, d2.trans c2⟩
  · obtain ⟨a1, -, -⟩ := h.1 a ha
    obtain ⟨c1, c2⟩ := h.2.2 f hf a ha
    obtain ⟨d1, d2⟩ := k.2.2 f hf a a1
    exact ⟨d1.trans c1, d2.trans c2⟩
theorem RM.cfr {S S' : qS} {mo : Nat} {ad : Nat → Nat} {T : mT} (h : RM S mo ad T) (hc : cfr S S') : RM S' mo ad T := by
  obtain ⟨h1, h2, h3, h4, h5, h6⟩ := h
  obtain ⟨c1, c2, c3⟩ := hc
  refine ⟨(c1 _ h1).1, (c1 _ h1).2.1.trans h2, fun k hk ht => ((c2 _ (by omega) _ h1).1).trans (h3 k hk ht), fun k hk ht => ?_, fun k hk ht => ?_, fun k hk ht => ?_⟩
  · obtain ⟨a1, a2, a3, a4⟩ := h4 k hk ht
    exact ⟨((c2 _ (by omega) _ h1).2).trans a1, (c1 _ a2).1, (c1 _ a2).2.1.trans a3, (c1 _ a2).2.2.trans a4⟩
  · obtain ⟨a1, a2, a3, a4⟩ := h4 k hk (by rw [ht]; decide)
    exact ((c3 _ (by omega) _ a2).1).trans (h5 k hk ht)
  · obtain ⟨a1, a2, a3, a4⟩ := h4 k hk (by rw [ht]; decide)
    exact ((c3 _ (by omega) _ a2).2).trans (h6 k hk ht)
theorem cfr.I (S : qS) {f a : Nat} {v : Int32} (hf : f < 360) : cfr S (qsI S f a v) := ⟨fun _ h => ⟨h, rfl, rfl⟩, fun f' h' b _ => ⟨by show q_u2 (qI S) f a v f' b = qI S f' b; unfold q_u2; rw [if_neg (by omega)], rfl⟩, fun _ _ _ _ => ⟨rfl, rfl⟩⟩
theorem cfr.R (S : qS) {f a : Nat} {v : Option Nat} (hf : f < 360) : cfr S (qsR S f a v) := ⟨fun _ h => ⟨h, rfl, rfl⟩, fun f' h' b _ => ⟨rfl, by show q_u2 (qR S) f a v f' b = qR S f' b; unfold q_u2; rw [if_neg (by omega)]⟩, fun _ _ _ _ => ⟨rfl, rfl⟩⟩
theorem cfr.J (S : qS) {f a : Nat} {v : Int64} : cfr S (qsJ S f a v) := ⟨fun _ h => ⟨h, rfl, rfl⟩, fun _ _ _ _ => ⟨rfl, rfl⟩, fun _ _ _ _ => ⟨rfl, rfl⟩⟩
theorem cfr.AI (S : qS) {k a i : Nat} {v : Int32} (hf : k < 29) : cfr S (qsAI S k a i v) := ⟨fun _ h => ⟨h, rfl, rfl⟩, fun _ _ _ _ => ⟨rfl, rfl⟩, fun k' h' b _ => ⟨by show q_u2 (qAI S) k a _ k' b = qAI S k' b; unfold q_u2; rw [if_neg (by omega)], rfl⟩⟩
theorem cfr.AJ (S : qS) {k a i : Nat} {v : Int64} (hf : k < 29) : cfr S (qsAJ S k a i v) := ⟨fun _ h => ⟨h, rfl, rfl⟩, fun _ _ _ _ => ⟨rfl, rfl⟩, fun k' h' b _ => ⟨rfl, by show q_u2 (qAJ S) k a _ k' b = qAJ S k' b; unfold q_u2; rw [if_neg (by omega)]⟩⟩
theorem u2_ne {α : Type} {F : Nat → Nat → α} {f a : Nat} {v : α} {f' b : Nat} (h : f' ≠ f) : q_u2 F f a v f' b = F f' b := by
  unfold q_u2
  rw [if_neg (fun z => h z.1)]
theorem sA_ne {T : mT} {r i : Nat} {v : Int32} {r' : Nat} (h : r' ≠ r) : (m_sA T r i v).2.1 r' = T.2.1 r' := by
  show va_up T.2.1 r _ r' = _
  unfold va_up
  rw [if_neg h]
theorem sA_eq {T : mT} {r i : Nat} {v : Int32} : (m_sA T r i v).2.1 r = upd (T.2.1 r) i v := by
  show va_up T.2.1 r _ r = _
  unfold va_up
  rw [if_pos rfl]
theorem sA_v {T : mT} {r i : Nat} {v : Int32} : (m_sA T r i v).2.1 r i = v := by
  rw [sA_eq]
  unfold upd
  rw [if_pos rfl]
theorem sA_o {T : mT} {r i j : Nat} {v : Int32} (h : j ≠ i) : (m_sA T r i v).2.1 r j = T.2.1 r j := by
  rw [sA_eq]
  unfold upd
  rw [if_neg h]
theorem sJ_ne {T : mT} {r i : Nat} {v : Int64} {r' : Nat} (h : r' ≠ r) : (m_sJ T r i v).2.2 r' = T.2.2 r' := by
  show va_up T.2.2 r _ r' = _
  unfold va_up
  rw [if_neg h]
theorem sJ_eq {T : mT} {r i : Nat} {v : Int64} : (m_sJ T r i v).2.2 r = vp_updL (T.2.2 r) i v := by
  show va_up T.2.2 r _ r = _
  unfold va_up
  rw [if_pos rfl]
theorem sJ_v {T : mT} {r i : Nat} {v : Int64} : (m_sJ T r i v).2.2 r i = v := by
  rw [sJ_eq]
  unfold vp_updL
  rw [if_pos rfl]
theorem sJ_o {T : mT} {r i j : Nat} {v : Int64} (h : j ≠ i) : (m_sJ T r i v).2.2 r j = T.2.2 r j := by
  rw [sJ_eq]
  unfold vp_updL
  rw [if_neg h]
theorem f_wi : ∀ f ∈ fWI, (∀ f' ∈ fLI, f_row f' = f_row f → f' = f) ∧ (∀ f' ∈ fLR, f_row f' ≠ f_row f) ∧ (∀ k ∈ aLI, a_row k ≠ f_row f) ∧ f ∉ fLF ∧ f ≠ 120 ∧ f ≠ 240 ∧ f ≠ 2 ∧ f < 360 ∧ f ∈ fLI := by decide
theorem f_ixw : ∀ f ∈ fWI, ∀ i, f_ix f i = i := by
  intro f hf i
  simp only [fWI, List.mem_cons, List.not_mem_nil, or_false] at hf
  rcases hf with rfl | rfl | rfl | rfl | rfl | rfl | rfl <;> rfl
theorem f_wr : ∀ f ∈ fWR, (∀ f' ∈ fLI, f_row f' ≠ f_row f) ∧ (∀ f' ∈ fLR, f_row f' = f_row f → f' = f) ∧ (∀ k ∈ aLI, a_row k ≠ f_row f) ∧ f ∉ fLS ∧ f ≠ 1 ∧ f < 360 ∧ f ∈ fLR := by decide
theorem f_ixr : ∀ f ∈ fWR, ∀ i, f_ix f i = i := by
  intro f hf i
  simp only [fWR, List.mem_cons, List.not_mem_nil, or_false] at hf
  rcases hf with rfl | rfl | rfl <;> rfl
theorem a_wi : ∀ k ∈ aLI, (∀ k' ∈ aLI, a_row k' = a_row k → k' = k) ∧ (∀ f ∈ fLI, f_row f ≠ a_row k) ∧ (∀ f ∈ fLR, f_row f ≠ a_row k) ∧ k < 22 ∧ 10 ≤ k := by decide
theorem f_wf : ∀ f ∈ fLF, (∀ f' ∈ fLF, f_k f' = f_k f → f' = f) ∧ f ∉ fLI ∧ f ≠ 120 ∧ f ≠ 240 ∧ f ≠ 2 ∧ f < 360 := by decide
section RUW
variable {g : Nat × Nat} {S : qS} {A : Nat → Nat → Nat} {C c : Nat → Nat} {T : mT}
theorem RU.wI {f i : Nat} {v : Int32} (hM : RU g S A C c T) (hf : f ∈ fWI) (hi : i < c (f / 40)) : RU g (qsI S f (A (f / 40) i) v) A C c (m_sA T (f_row f) i v) := by
  obtain ⟨h1, h2, h3, h4, ⟨h5, h6, h7⟩, h8, h9, h10, h11, h12, ⟨h13, h14⟩, h15⟩ := hM
  obtain ⟨w1, w2, w3, w4, w5, w6, w7, w8, w9⟩ := f_wi f hf
  refine ⟨h1, fun f' i' hf' hi' => ?_, fun f' i' hf' hi' => ?_, h4, ⟨fun f' i' hf' hi' => ?_, fun f' i' hf' hi' => ?_, h7⟩, fun k' i' j' hk' hi' hj' => ?_, h9, h10, h11, h12, ⟨fun l hl => ?_, h14⟩, h15⟩
  · by_cases e : f' = f
    · subst e
      rw [f_ixw _ hf, sA_eq]
      show q_u2 (qI S) f' _ v f' _ = _
      unfold q_u2 upd
      by_cases e2 : i' = i
      · subst e2
        rw [if_pos ⟨rfl, rfl⟩, if_pos rfl]
      · rw [if_neg (fun z => e2 (h12 _ _ _ hi' hi z.2)), if_neg e2, h2 f' i' hf' hi', f_ixw _ hf]
    · rw [sA_ne (fun z => e (w1 f' hf' z))]
      exact (u2_ne e).trans (h2 f' i' hf' hi')
  · rw [sA_ne (w2 f' hf')]
    exact h3 f' i' hf' hi'
  · exact (u2_ne (show f' ≠ f from fun z => w4 (z ▸ hf'))).trans (h5 f' i' hf' hi')
  · refine (u2_ne (fun z => ?_)).trans (h6 f' i' hf' hi')
    subst z
    simp only [List.mem_cons, List.not_mem_nil, or_false] at hf'
    rcases hf' with z | z
    · exact w5 z
    · exact w6 z
  · rw [sA_ne (w3 k' hk')]
    exact h8 k' i' j' hk' hi' hj'
  · refine ⟨(u2_ne (fun z => w7 z.symm)).trans (h13 l hl).1, (h13 l hl).2⟩
theorem rf_fr {r : Option Nat} {n : Nat} (h : ∀ i, r = some i → i < n) (hn : n ≤ 200) : rf (fr r) = r := by
  cases r with
  | none => rfl
  | some i =>
    have := h i rfl
    unfold rf fr
    rw [if_neg (nI_pos (by omega)), nI_clamp (by omega)]
theorem RU.cle (hM : RU g S A C c T) (k : Nat) : c k ≤ 200 := by
  obtain ⟨np, nr, ns, no, rfl, h1, h2, h3, h4⟩ := hM.2.2.2.2.2.2.2.2.2.2.2
  unfold cN
  split <;> omega
theorem RU.wR {f i : Nat} {r : Option Nat} (hM : RU g S A C c T) (hf : f ∈ fWR) (hi : i < c (f / 40)) (hr : ∀ j, r = some j → j < c (f_tk f)) : RU g (qsR S f (A (f / 40) i) (r.map (A (f_tk f)))) A C c (m_sA T (f_row f) i (fr r)) := by
  have hcl := hM.cle (f_tk f)
  obtain ⟨h1, h2, h3, h4, ⟨h5, h6, h7⟩, h8, h9, h10, h11, h12, ⟨h13, h14⟩, h15⟩ := hM
  obtain ⟨w1, w2, w3, w4, w5, w6, w7⟩ := f_wr f hf
  refine ⟨h1, fun f' i' hf' hi' => ?_, fun f' i' hf' hi' => ?_, fun f' i' hf' hi' => ?_, ⟨h5, h6, h7⟩, fun k' i' j' hk' hi' hj' => ?_, h9, h10, h11, h12, ⟨fun l hl => ⟨(h13 l hl).1, ?_⟩, h14⟩, h15⟩
  · rw [sA_ne (w1 f' hf')]
    exact h2 f' i' hf' hi'
  · by_cases e : f' = f
    · subst e
      rw [f_ixr _ hf, sA_eq]
      show q_u2 (qR S) f' _ _ f' _ = _
      unfold q_u2 upd
      by_cases e2 : i' = i
      · subst e2
        rw [if_pos ⟨rfl, rfl⟩, if_pos rfl, rf_fr hr hcl]
      · rw [if_neg (fun z => e2 (h12 _ _ _ hi' hi z.2)), if_neg e2, h3 f' i' hf' hi', f_ixr _ hf]
    · rw [sA_ne (fun z => e (w2 f' hf' z))]
      exact (u2_ne e).trans (h3 f' i' hf' hi')
  · exact (u2_ne (show f' ≠ f from fun z => w4 (z ▸ hf'))).trans (h4 f' i' hf' hi')
  · rw [sA_ne (w3 k' hk')]
    exact h8 k' i' j' hk' hi' hj'
  · rw [show qR (qsR S f (A (f / 40) i) (r.map (A (f_tk f)))) 1 (A 0 l) = qR S 1 (A 0 l) from u2_ne (fun z => w5 z.symm)]
    exact (h13 l hl).2
theorem RU.wF {f i : Nat} {v : Int32} (hM : RU g S A C c T) (hf : f ∈ fLF) (hi : i < c (f / 40)) (hc1 : c (f / 40) = 1) : RU g (qsI S f (A (f / 40) i) v) A C c (m_sI T (f_k f) v) := by
  obtain ⟨h1, h2, h3, h4, ⟨h5, h6, h7⟩, h8, h9, h10, h11, h12, ⟨h13, h14⟩, h15⟩ := hM
  obtain ⟨w1, w2, w3, w4, w5, w6⟩ := f_wf f hf
  refine ⟨h1, fun f' i' hf' hi' => ?_, h3, h4, ⟨fun f' i' hf' hi' => ?_, fun f' i' hf' hi' => ?_, h7⟩, h8, h9, h10, h11, h12, ⟨fun l hl => ?_, h14⟩, h15⟩
  · exact (u2_ne (show f' ≠ f from fun z => w2 (z ▸ hf'))).trans (h2 f' i' hf' hi')
  · by_cases e : f' = f
    · subst e
      have : i' = i := by omega
      subst this
      show q_u2 (qI S) f' _ v f' _ = upd T.1 (f_k f') v (f_k f')
      unfold q_u2 upd
      rw [if_pos ⟨rfl, rfl⟩, if_pos rfl]
    · refine (u2_ne e).trans ((h5 f' i' hf' hi').trans ?_)
      show _ = upd T.1 (f_k f) v (f_k f')
      unfold upd
      rw [if_neg (fun z => e (w1 f' hf' z))]
  · refine (u2_ne (fun z => ?_)).trans (h6 f' i' hf' hi')
    subst z
    simp only [List.mem_cons, List.not_mem_nil, or_false] at hf'
    rcases hf' with z | z
    · exact w3 z
    · exact w4 z
  · refine ⟨(u2_ne (fun z => w5 z.symm)).trans (h13 l hl).1, (h13 l hl).2⟩
theorem RU.wJ {i : Nat} {v : Int64} (hM : RU g S A C c T) (hi : i < c 1) (hc1 : c 1 = 1) : RU g (qsJ S 44 (A 1 i) v) A C c (m_sJ T 44 0 v) := by
  obtain ⟨h1, h2, h3, h4, ⟨h5, h6, h7⟩, h8, h9, h10, h11, h12, ⟨h13, h14⟩, h15⟩ := hM
  refine ⟨h1, h2, h3, h4, ⟨h5, h6, fun i' hi' => ?_⟩, h8, fun k i' j hk hi' hj => ?_, h10, h11, h12, ⟨h13, h14⟩, h15⟩
  · have : i' = i := by omega
    subst this
    rw [sJ_v]
    show q_u2 (qJ S) 44 _ v 44 _ = _
    unfold q_u2
    rw [if_pos ⟨rfl, rfl⟩]
  · rw [sJ_ne]
    · exact h9 k i' j hk hi' hj
    · simp only [aLJ, List.mem_cons, List.not_mem_nil, or_false] at hk
      rcases hk with rfl | rfl | rfl
      · show 13 ≠ 44
        omega
      · show 14 ≠ 44
        omega
      · show 50 + i' ≠ 44
        omega
theorem RU.wA {k i j : Nat} {v : Int32} (hM : RU g S A C c T) (hk : k ∈ aLI) (hi : i < c k) (hj : j < a_len k) (hst : ∀ i' j', i' < c k → j' < a_len k → a_st k * i' + j' = a_st k * i + j → i' = i ∧ j' = j) : RU g (qsAI S k (A k i) j v) A C c (m_sA T (a_row k) (a_st k * i + j) v) := by
  obtain ⟨h1, h2, h3, h4, ⟨h5, h6, h7⟩, h8, h9, h10, h11, h12, ⟨h13, h14⟩, h15⟩ := hM
  obtain ⟨w1, w2, w3, w4⟩ := a_wi k hk
  refine ⟨h1, fun f' i' hf' hi' => ?_, fun f' i' hf' hi' => ?_, h4, ⟨h5, h6, h7⟩, fun k' i' j' hk' hi' hj' => ?_, h9, h10, h11, h12, ⟨h13, h14⟩, h15⟩
  · rw [sA_ne (w2 f' hf')]
    exact h2 f' i' hf' hi'
  · rw [sA_ne (w3 f' hf')]
    exact h3 f' i' hf' hi'
  · by_cases e : k' = k
    · subst e
      rw [sA_eq]
      show q_u2 (qAI S) k' (A k' i) (upd (qAI S k' (A k' i)) j v) k' (A k' i') j' = _
      unfold q_u2
      by_cases e2 : i' = i
      · subst e2
        rw [if_pos ⟨rfl, rfl⟩]
        unfold upd
        by_cases e3 : j' = j
        · subst e3
          rw [if_pos rfl, if_pos rfl]
        · rw [if_neg e3, if_neg (by omega)]
          exact h8 k' i' j' hk' hi' hj'
      · rw [if_neg (fun z => e2 (h12 _ _ _ hi' hi z.2))]
        unfold upd
        rw [if_neg (fun z => e2 (hst i' j' hi' hj' z).1)]
        exact h8 k' i' j' hk' hi' hj'
    · rw [sA_ne (fun z => e (w1 k' hk' z))]
      refine Eq.trans ?_ (h8 k' i' j' hk' hi' hj')
      show q_u2 (qAI S) k (A k i) _ k' (A k' i') j' = _
      rw [u2_ne e]
theorem RU.wAJ {k i j : Nat} {v : Int64} (hM : RU g S A C c T) (hk : k ∈ aLJ) (hi : i < c k) (hj : j < a_len k) : RU g (qsAJ S k (A k i) j v) A C c (m_sJ T (a_rowJ k i) j v) := by
  have hc1 : ∀ k' i', k' ∈ aLJ → i' < c k' → a_rowJ k' i' ≠ 44 ∧ (a_rowJ k' i' = a_rowJ k i → k' = k ∧ i' = i) := by
    intro k' i' hk' hi'
    obtain ⟨np, nr, ns, no, rfl, -⟩ := hM.2.2.2.2.2.2.2.2.2.2.2
    simp only [aLJ, List.mem_cons, List.not_mem_nil, or_false] at hk hk'
    rcases hk with rfl | rfl | rfl <;> rcases hk' with rfl | rfl | rfl <;> refine ⟨?_, fun z => ⟨?_, ?_⟩⟩ <;> simp only [a_rowJ, cN] at * <;> omega
  obtain ⟨h1, h2, h3, h4, ⟨h5, h6, h7⟩, h8, h9, h10, h11, h12, ⟨h13, h14⟩, h15⟩ := hM
  refine ⟨h1, h2, h3, h4, ⟨h5, h6, fun i' hi' => ?_⟩, h8, fun k' i' j' hk' hi' hj' => ?_, h10, h11, h12, ⟨h13, h14⟩, h15⟩
  · rw [sJ_ne (fun z => (hc1 k i hk hi).1 z.symm)]
    exact h7 i' hi'
  · obtain ⟨-, hq⟩ := hc1 k' i' hk' hi'
    by_cases e : k' = k ∧ i' = i
    · obtain ⟨rfl, rfl⟩ := e
      rw [sJ_eq]
      show q_u2 (qAJ S) k' (A k' i') (vp_updL (qAJ S k' (A k' i')) j v) k' (A k' i') j' = _
      unfold q_u2
      rw [if_pos ⟨rfl, rfl⟩]
      unfold vp_updL
      by_cases e3 : j' = j
      · subst e3
        rw [if_pos rfl, if_pos rfl]
      · rw [if_neg e3, if_neg e3]
        exact h9 k' i' j' hk' hi' hj'
    · rw [sJ_ne (fun z => e (hq z))]
      refine Eq.trans ?_ (h9 k' i' j' hk' hi' hj')
      show q_u2 (qAJ S) k (A k i) _ k' (A k' i') j' = _
      unfold q_u2
      rw [if_neg (fun z => e ⟨z.1, by
        have := z.1
        subst this
        exact h12 _ _ _ hi' hi z.2⟩)]
end RUW
/-! The class's instructions over T: u_.. what is asked, uq_.. / um_.. that it gives the one over the pool. -/
def u_vo (c : Nat → Nat) (k : Nat) (r : Option Nat) : Prop := ∀ i, r = some i → i < c k
def u_at (c : Nat → Nat) (r : Option Nat) (k : Nat) (K : Nat → Prop) : Prop := ∃ i, r = some i ∧ i < c k ∧ K i
def u_g {α : Type} (c : Nat → Nat) (r : Option Nat) (k : Nat) (F : Nat → α) (K : α → Prop) : Prop := ∃ i, r = some i ∧ i < c k ∧ K (F i)
def u_a {α : Type} (c : Nat → Nat) (r : Option Nat) (k n : Nat) (x : Int32) (F : Nat → Nat → α) (K : α → Prop) : Prop := ∃ i, r = some i ∧ i < c k ∧ vp_in x n ∧ K (F i x.toNatClampNeg)
def u_sz (c : Nat → Nat) (r : Option Nat) (K : Int32 → Prop) : Prop := ∃ l, r = some l ∧ l < 4 ∧ K (nI (c (l_k l)))
def u_el (c : Nat → Nat) (r : Option Nat) (k : Nat) (x : Int32) (K : Option Nat → Prop) : Prop := ∃ l j, r = some l ∧ l < 4 ∧ l_k l = k ∧ x = nI j ∧ j < c k ∧ K (some j)
theorem vp_in_lt {x : Int32} {n : Nat} (h : vp_in x n) : x.toNatClampNeg < n := Nat.not_le.mp (fun z => h (Or.inr z))
section UQ
variable {g : Nat × Nat} {S S0 : qS} {A : Nat → Nat → Nat} {C c : Nat → Nat} {T : mT} {r : Option Nat} {k f n m : Nat}
theorem uq_at {Kt Kp : Nat → Prop} (hM : RU g S A C c T) (h : u_at c r k Kt) (kk : ∀ i, i < c k → Kt i → Kp (A k i)) : w_at S (r.map (A k)) k Kp := by
  obtain ⟨i, rfl, hi, h⟩ := h
  exact ⟨A k i, rfl, (hM.1 k i hi).1, (hM.1 k i hi).2, kk i hi h⟩
theorem uq_g {α : Type} {F : Nat → α} {Kt : α → Prop} {Kp : Nat → Prop} (hM : RU g S A C c T) (h : u_g c r k F Kt) (kk : ∀ i, i < c k → Kt (F i) → Kp (A k i)) : w_at S (r.map (A k)) k Kp := by
  obtain ⟨i, rfl, hi, h⟩ := h
  exact ⟨A k i, rfl, (hM.1 k i hi).1, (hM.1 k i hi).2, kk i hi h⟩
theorem uq_I {F : Nat → Int32} {Kt Kp : Int32 → Prop} (f : Nat) (hM : RU g S A C c T) (hf : f ∈ fLI ∧ 40 * k + m = f ∧ f / 40 = k) (hF : ∀ i, F i = T.2.1 (f_row f) (f_ix f i)) (h : u_g c r k F Kt) (kk : ∀ v, Kt v → Kp v) : w_getI S (r.map (A k)) k m Kp := by
  obtain ⟨h1, h2, rfl⟩ := hf
  refine uq_g hM h (fun i hi h => ?_)
  rw [h2, hM.2.1 f i h1 hi, ← hF]
  exact kk _ h
theorem uq_F {F : Nat → Int32} {Kt Kp : Int32 → Prop} (f : Nat) (hM : RU g S A C c T) (hf : f ∈ fLF ∧ 40 * k + m = f ∧ f / 40 = k) (hF : ∀ i, F i = T.1 (f_k f)) (h : u_g c r k F Kt) (kk : ∀ v, Kt v → Kp v) : w_getI S (r.map (A k)) k m Kp := by
  obtain ⟨h1, h2, rfl⟩ := hf
  refine uq_g hM h (fun i hi h => ?_)
  rw [h2, hM.2.2.2.2.1.1 f i h1 hi, ← hF i]
  exact kk _ h
theorem uq_N {F : Nat → Int32} {Kt Kp : Int32 → Prop} (f : Nat) (hM : RU g S A C c T) (hf : f ∈ [120, 240] ∧ 40 * k + m = f ∧ f / 40 = k) (hF : ∀ i, F i = nI i) (h : u_g c r k F Kt) (kk : ∀ v, Kt v → Kp v) : w_getI S (r.map (A k)) k m Kp := by
  obtain ⟨h1, h2, rfl⟩ := hf
  refine uq_g hM h (fun i hi h => ?_)
  rw [h2, hM.2.2.2.2.1.2.1 f i h1 hi, ← hF]
  exact kk _ h
theorem uq_J {F : Nat → Int64} {Kt Kp : Int64 → Prop} (hM : RU g S A C c T) (hF : ∀ i, F i = T.2.2 44 0) (h : u_g c r 1 F Kt) (kk : ∀ v, Kt v → Kp v) : w_getJ S (r.map (A 1)) 1 4 Kp := by
  refine uq_g hM h (fun i hi h => ?_)
  rw [hM.2.2.2.2.1.2.2 i hi, ← hF i]
  exact kk _ h
theorem uq_R {F : Nat → Option Nat} {Kt Kp : Option Nat → Prop} (f : Nat) (hM : RU g S A C c T) (hf : f ∈ fLR ∧ 40 * k + m = f ∧ f / 40 = k) (hF : ∀ i, F i = rf (T.2.1 (f_row f) (f_ix f i))) (h : u_g c r k F Kt) (kk : ∀ v, Kt v → Kp (v.map (A (f_tk f)))) : w_getR S (r.map (A k)) k m Kp := by
  obtain ⟨h1, h2, rfl⟩ := hf
  refine uq_g hM h (fun i hi h => ?_)
  rw [h2, hM.2.2.1 f i h1 hi, ← hF]
  exact kk _ h
theorem uq_S {F : Nat → Option Nat} {Kt Kp : Option Nat → Prop} (f : Nat) (hM : RU g S A C c T) (hf : f ∈ fLS ∧ 40 * k + m = f ∧ f / 40 = k) (hF : ∀ i, F i = some (f_six f i)) (h : u_g c r k F Kt) (kk : ∀ v, Kt v → Kp (v.map (A (f_tk f)))) : w_getR S (r.map (A k)) k m Kp := by
  obtain ⟨h1, h2, rfl⟩ := hf
  refine uq_g hM h (fun i hi h => ?_)
  rw [h2, hM.2.2.2.1 f i h1 hi]
  rw [hF] at h
  exact kk _ h
theorem uq_A {F : Nat → Nat → Int32} {x : Int32} {Kt Kp : Int32 → Prop} (hM : RU g S A C c T) (hk : k ∈ aLI ∧ a_len k = n) (hF : ∀ i j, F i j = T.2.1 (a_row k) (a_st k * i + j)) (h : u_a c r k n x F Kt) (kk : ∀ v, Kt v → Kp v) : w_ldI S (r.map (A k)) k x Kp := by
  obtain ⟨i, rfl, hi, hx, h⟩ := h
  obtain ⟨h1, rfl⟩ := hk
  obtain ⟨-, -, -, w4, w5⟩ := a_wi k h1
  refine ⟨A k i, rfl, (hM.1 k i hi).1, (hM.1 k i hi).2, by rw [hM.2.2.2.2.2.2.2.2.1 k i w5 w4 hi]; exact hx, ?_⟩
  rw [hM.2.2.2.2.2.1 k i _ h1 hi (vp_in_lt hx), ← hF]
  exact kk _ h
theorem uq_AJ {F : Nat → Nat → Int64} {x : Int32} {Kt Kp : Int64 → Prop} (hM : RU g S A C c T) (hk : k ∈ aLJ ∧ a_len k = n ∧ 10 ≤ k ∧ k < 22) (hF : ∀ i j, F i j = T.2.2 (a_rowJ k i) j) (h : u_a c r k n x F Kt) (kk : ∀ v, Kt v → Kp v) : w_ldJ S (r.map (A k)) k x Kp := by
  obtain ⟨i, rfl, hi, hx, h⟩ := h
  obtain ⟨h1, rfl, w5, w4⟩ := hk
  refine ⟨A k i, rfl, (hM.1 k i hi).1, (hM.1 k i hi).2, by rw [hM.2.2.2.2.2.2.2.2.1 k i w5 w4 hi]; exact hx, ?_⟩
  rw [hM.2.2.2.2.2.2.1 k i _ h1 hi (vp_in_lt hx), ← hF]
  exact kk _ h
theorem uq_AO {x : Int32} {Kt Kp : Option Nat → Prop} (hM : RU g S A C c T) (h : u_a c r 21 5 x (fun _ j => some j) Kt) (kk : ∀ v, Kt v → Kp (v.map (A 20))) : w_ldO S (r.map (A 21)) 21 x Kp := by
  obtain ⟨i, rfl, hi, hx, h⟩ := h
  refine ⟨A 21 i, rfl, (hM.1 21 i hi).1, (hM.1 21 i hi).2, by rw [hM.2.2.2.2.2.2.2.2.1 21 i (by decide) (by decide) hi]; exact hx, ?_⟩
  rw [hM.2.2.2.2.2.2.2.1 i _ hi (vp_in_lt hx)]
  exact kk _ h
theorem um_I {v : Int32} {p : Nat} {Kt : mT → Prop} {Kp : qS → Prop} (f : Nat) (hM : RU g S A C c T) (hF : cfr S0 S) (hf : f ∈ fWI ∧ 40 * k + m = f ∧ f / 40 = k ∧ f_row f = p) (h : u_g c r k (fun i => m_sA T p i v) Kt) (kk : ∀ T' S', Kt T' → RU g S' A C c T' → cfr S0 S' → Kp S') : w_putI S (r.map (A k)) k m v Kp := by
  obtain ⟨h1, h2, rfl, rfl⟩ := hf
  refine uq_g hM h (fun i hi h => ?_)
  rw [h2]
  exact kk _ _ h (hM.wI h1 hi) (hF.tr (cfr.I S (f_wi f h1).2.2.2.2.2.2.2.1))
theorem um_Z {v : Int32} {p : Nat} {Kt : mT → Prop} {Kp : qS → Prop} (f : Nat) (hM : RU g S A C c T) (hF : cfr S0 S) (hf : f ∈ fWI ∧ 40 * k + m = f ∧ f / 40 = k ∧ f_row f = p) (h : (v = 0 ∨ v = 1) ∧ u_g c r k (fun i => m_sA T p i v) Kt) (kk : ∀ T' S', Kt T' → RU g S' A C c T' → cfr S0 S' → Kp S') : w_putZ S (r.map (A k)) k m v Kp := by
  obtain ⟨h1, h2, rfl, rfl⟩ := hf
  refine uq_g hM h.2 (fun i hi h9 => ⟨h.1, ?_⟩)
  rw [h2]
  exact kk _ _ h9 (hM.wI h1 hi) (hF.tr (cfr.I S (f_wi f h1).2.2.2.2.2.2.2.1))
theorem um_F {v : Int32} {p : Nat} {Kt : mT → Prop} {Kp : qS → Prop} (f : Nat) (hM : RU g S A C c T) (hF : cfr S0 S) (hf : f ∈ fLF ∧ 40 * k + m = f ∧ f / 40 = k ∧ f_k f = p ∧ (k = 8 ∨ k = 1)) (h : u_g c r k (fun _ => m_sI T p v) Kt) (kk : ∀ T' S', Kt T' → RU g S' A C c T' → cfr S0 S' → Kp S') : w_putI S (r.map (A k)) k m v Kp := by
  obtain ⟨h1, h2, h3, rfl, h4⟩ := hf
  have hc1 : c (f / 40) = 1 := by
    obtain ⟨np, nr, ns, no, rfl, -⟩ := hM.2.2.2.2.2.2.2.2.2.2.2
    rw [h3]
    rcases h4 with rfl | rfl <;> rfl
  subst h3
  refine uq_g hM h (fun i hi h => ?_)
  rw [h2]
  exact kk _ _ h (hM.wF h1 hi hc1) (hF.tr (cfr.I S (f_wf f h1).2.2.2.2.2))
theorem um_J {v : Int64} {Kt : mT → Prop} {Kp : qS → Prop} (hM : RU g S A C c T) (hF : cfr S0 S) (h : u_g c r 1 (fun _ => m_sJ T 44 0 v) Kt) (kk : ∀ T' S', Kt T' → RU g S' A C c T' → cfr S0 S' → Kp S') : w_putJ S (r.map (A 1)) 1 4 v Kp := by
  have hc1 : c 1 = 1 := by
    obtain ⟨np, nr, ns, no, rfl, -⟩ := hM.2.2.2.2.2.2.2.2.2.2.2
    rfl
  refine uq_g hM h (fun i hi h => ?_)
  exact kk _ _ h (hM.wJ hi hc1) (hF.tr (cfr.J S))
theorem um_R {x : Option Nat} {p : Nat} {Kt : mT → Prop} {Kp : qS → Prop} (f : Nat) (hM : RU g S A C c T) (hF : cfr S0 S) (hf : f ∈ fWR ∧ 40 * k + m = f ∧ f / 40 = k ∧ f_row f = p) (h : u_vo c (f_tk f) x ∧ u_g c r k (fun i => m_sA T p i (fr x)) Kt) (kk : ∀ T' S', Kt T' → RU g S' A C c T' → cfr S0 S' → Kp S') : w_putR S (r.map (A k)) k m (x.map (A (f_tk f))) Kp := by
  obtain ⟨h1, h2, rfl, rfl⟩ := hf
  refine uq_g hM h.2 (fun i hi h9 => ?_)
  rw [h2]
  exact kk _ _ h9 (hM.wR h1 hi h.1) (hF.tr (cfr.R S (f_wr f h1).2.2.2.2.2.1))
theorem um_A {v x : Int32} {F : Nat → Nat → mT} {Kt : mT → Prop} {Kp : qS → Prop} (hM : RU g S A C c T) (hF : cfr S0 S) (hk : k ∈ aLI ∧ a_len k = n ∧ (a_st k = a_len k ∨ k = 15 ∨ k = 16 ∨ k = 17)) (hf : ∀ i j, F i j = m_sA T (a_row k) (a_st k * i + j) v) (h : u_a c r k n x F Kt) (kk : ∀ T' S', Kt T' → RU g S' A C c T' → cfr S0 S' → Kp S') : w_stI S (r.map (A k)) k x v Kp := by
  obtain ⟨i, rfl, hi, hx, h⟩ := h
  obtain ⟨h1, rfl, h3⟩ := hk
  obtain ⟨-, -, -, w4, w5⟩ := a_wi k h1
  rw [hf] at h
  have hj := vp_in_lt hx
  refine ⟨A k i, rfl, (hM.1 k i hi).1, (hM.1 k i hi).2, by rw [hM.2.2.2.2.2.2.2.2.1 k i w5 w4 hi]; exact hx, kk _ _ h (hM.wA h1 hi hj (fun i' j' hi' hj' e => ?_)) (hF.tr (cfr.AI S (by omega)))⟩
  rcases h3 with h3 | h3
  · rw [h3] at e
    have e1 : i' = i := by
      have q1 : (a_len k * i' + j') / a_len k = (a_len k * i + x.toNatClampNeg) / a_len k := by rw [e]
      rw [Nat.mul_add_div (by omega), Nat.mul_add_div (by omega), Nat.div_eq_of_lt hj, Nat.div_eq_of_lt hj'] at q1
      omega
    subst e1
    exact ⟨rfl, by omega⟩
  · have hc1 : c k = 1 ∧ a_st k = 0 := by
      obtain ⟨np, nr, ns, no, rfl, -⟩ := hM.2.2.2.2.2.2.2.2.2.2.2
      rcases h3 with rfl | rfl | rfl <;> exact ⟨rfl, rfl⟩
    rw [hc1.2] at e
    omega
theorem um_AJ {v : Int64} {x : Int32} {F : Nat → Nat → mT} {Kt : mT → Prop} {Kp : qS → Prop} (hM : RU g S A C c T) (hF : cfr S0 S) (hk : k ∈ aLJ ∧ a_len k = n ∧ 10 ≤ k ∧ k < 22) (hf : ∀ i j, F i j = m_sJ T (a_rowJ k i) j v) (h : u_a c r k n x F Kt) (kk : ∀ T' S', Kt T' → RU g S' A C c T' → cfr S0 S' → Kp S') : w_stJ S (r.map (A k)) k x v Kp := by
  obtain ⟨i, rfl, hi, hx, h⟩ := h
  obtain ⟨h1, rfl, w5, w4⟩ := hk
  rw [hf] at h
  exact ⟨A k i, rfl, (hM.1 k i hi).1, (hM.1 k i hi).2, by rw [hM.2.2.2.2.2.2.2.2.1 k i w5 w4 hi]; exact hx, kk _ _ h (hM.wAJ h1 hi (vp_in_lt hx)) (hF.tr (cfr.AJ S (by omega)))⟩
theorem uq_sz {Kt : Int32 → Prop} {Kp : Int32 → qS → Prop} {xp : String → qS → Prop} (hM : RU g S A C c T) (h : u_sz c r Kt) (kk : ∀ v, Kt v → Kp v S) : w_at S (r.map (A 0)) 0 (fun b => pJx4a65c_size_8abf5 b S Kp xp) := by
  obtain ⟨l, rfl, hl, h⟩ := h
  have hc1 : c 0 = 4 := by
    obtain ⟨np, nr, ns, no, rfl, -⟩ := hM.2.2.2.2.2.2.2.2.2.2.2
    rfl
  have hi := hM.1 0 l (by omega)
  refine ⟨A 0 l, rfl, hi.1, hi.2, ⟨A 0 l, rfl, hi.1, hi.2, ?_⟩⟩
  show Kp (qI S 2 (A 0 l)) S
  rw [(hM.2.2.2.2.2.2.2.2.2.2.1.1 l hl).1]
  exact kk _ h
theorem uq_el {x : Int32} {Kt : Option Nat → Prop} {Kp : Option Nat → qS → Prop} {xp : String → qS → Prop} (hM : RU g S A C c T) (h : u_el c r k x Kt) (kk : ∀ v, Kt v → Kp (v.map (A k)) S) : w_at S (r.map (A 0)) 0 (fun b => pJx4a65c_get_915e3 b x S (fun v S => w_cast S v k (Kp v S)) xp) := by
  obtain ⟨l, j, rfl, hl, rfl, rfl, hj, h⟩ := h
  have hc1 : c 0 = 4 := by
    obtain ⟨np, nr, ns, no, rfl, -⟩ := hM.2.2.2.2.2.2.2.2.2.2.2
    rfl
  have hi := hM.1 0 l (by omega)
  have hcl := hM.cle (l_k l)
  obtain ⟨h2, h4⟩ := hM.2.2.2.2.2.2.2.2.2.2.1.1 l hl
  refine ⟨A 0 l, rfl, hi.1, hi.2, ⟨A 0 l, rfl, hi.1, hi.2, ?_⟩⟩
  show _ ∧ _
  rw [show qI S (40 * 0 + 2) (A 0 l) = nI (c (l_k l)) from h2]
  refine ⟨fun q => absurd q (nI_pos (by omega)), fun _ => ⟨fun _ => ?_, fun q => absurd (nI_lt hj (by omega)) q⟩⟩
  rcases h4 with ⟨e, -⟩ | ⟨e1, e2, e3, e4, e5, e6, e7⟩
  · omega
  · refine ⟨A 0 l, rfl, hi.1, hi.2, ⟨A 0 l, rfl, hi.1, hi.2, ?_⟩⟩
    show w_ldO S (qR S 1 (A 0 l)) 22 (nI j) _
    rw [e2]
    refine ⟨_, rfl, e1.1, e1.2, by rw [e3]; exact vp_in_nI (by omega) (by omega), ?_⟩
    rw [nI_clamp (by omega), e7 j hj]
    exact ⟨Or.inr ⟨_, rfl, (hM.1 _ j hj).1, (hM.1 _ j hj).2⟩, kk _ h⟩
theorem ua_eq {x y : Option Nat} (hM : RU g S A C c T) (hx : u_vo c k x) (hy : u_vo c k y) : x.map (A k) = y.map (A k) ↔ x = y := by
  refine ⟨fun h => ?_, fun h => by rw [h]⟩
  cases x with
  | none =>
    cases y with
    | none => rfl
    | some j => exact absurd h (by simp)
  | some i =>
    cases y with
    | none => exact absurd h (by simp)
    | some j => rw [hM.2.2.2.2.2.2.2.2.2.1 k i j (hx i rfl) (hy j rfl) (Option.some.inj h)]
theorem ua_no {x : Option Nat} : x.map (A k) = none ↔ x = none := by cases x <;> simp
end UQ
