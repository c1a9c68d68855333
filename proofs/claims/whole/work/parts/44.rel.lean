/-! The class's objects and the Model's T: what it is that they hold the same. -/
def orf (f : Nat → Nat) (v : Int32) : Option Nat := if v < 0 then none else some (f v.toNatClampNeg)
def inP (S : qS) (a k : Nat) : Prop := a ∈ qL S ∧ qK S a = k
/-- a list li of n elements el, in the row ea of cap places (none of them: the empty row of the JDK) -/
def rcList (S : qS) (g : Nat × Nat) (li ea cap n ck : Nat) (el : Nat → Nat) : Prop := inP S li 0 ∧ qI S 2 li = nI n ∧ (∀ i, i < n → inP S (el i) ck) ∧ ((n = 0 ∧ qR S 1 li = some g.1) ∨ (inP S ea 22 ∧ qR S 1 li = some ea ∧ qN S ea = cap ∧ n ≤ cap ∧ 10 ≤ cap ∧ cap ≤ 90 ∧ ∀ i, i < n → qAO S 22 ea i = some (el i)))
/-- A: addresses by role: 0 players 1 their goods 2 rules 3 in 4 out 5 singles 6 linePlayers 7 lineDays 8 offers 9 first 10 second; 11 the lists, 12 their rows (0 players 1 rules 2 offers 3 singles); 13: 0 things 1 hunt 2 weights 3 made 4 broken 5 rows 6 rowNames 7 columnNames; 14 inner rows -/
def rcX (S : qS) (x : Nat) (A : Nat → Nat → Nat) (T : mT) : Prop := inP S x 8 ∧ qR S 320 x = some (A 11 0) ∧ qR S 321 x = some (A 11 1) ∧ qR S 322 x = some (A 11 2) ∧ qR S 323 x = some (A 13 0) ∧ qR S 324 x = some (A 13 1) ∧ qR S 325 x = some (A 13 2) ∧ qR S 326 x = some (A 13 3) ∧ qR S 327 x = some (A 13 4) ∧ qI S 328 x = T.1 6 ∧ qI S 329 x = T.1 1 ∧
  (inP S (A 13 0) 7 ∧ qR S 280 (A 13 0) = some (A 11 3)) ∧ (inP S (A 13 2) 15 ∧ qN S (A 13 2) = 4 ∧ ∀ k, k < 4 → qAI S 15 (A 13 2) k = T.2.1 11 k) ∧ (inP S (A 13 3) 18 ∧ qN S (A 13 3) = 4 ∧ ∀ k, k < 4 → qAJ S 18 (A 13 3) k = T.2.2 13 k) ∧ (inP S (A 13 4) 19 ∧ qN S (A 13 4) = 4 ∧ ∀ k, k < 4 → qAJ S 19 (A 13 4) k = T.2.2 14 k)
def rcH (S : qS) (A : Nat → Nat → Nat) : Prop := inP S (A 13 1) 1 ∧ qR S 40 (A 13 1) = some (A 13 5) ∧ qR S 41 (A 13 1) = some (A 13 6) ∧ qR S 42 (A 13 1) = some (A 13 7) ∧ (inP S (A 13 5) 21 ∧ qN S (A 13 5) = 5 ∧ ∀ i, i < 5 → qAO S 21 (A 13 5) i = some (A 14 i)) ∧ (inP S (A 13 6) 16 ∧ qN S (A 13 6) = 4) ∧ (inP S (A 13 7) 17 ∧ qN S (A 13 7) = 10) ∧ ∀ i, i < 5 → inP S (A 14 i) 20 ∧ qN S (A 14 i) = 10
def rcP (S : qS) (A : Nat → Nat → Nat) (T : mT) (np : Nat) : Prop := ∀ i, i < np → inP S (A 0 i) 3 ∧ qI S 120 (A 0 i) = nI i ∧ qR S 121 (A 0 i) = some (A 1 i) ∧ qI S 122 (A 0 i) = T.2.1 3 i ∧ qI S 123 (A 0 i) = T.2.1 4 i ∧ inP S (A 1 i) 10 ∧ qN S (A 1 i) = 4 ∧ ∀ k, k < 4 → qAI S 10 (A 1 i) k = T.2.1 2 (4 * i + k)
def rcR (S : qS) (A : Nat → Nat → Nat) (T : mT) (nr : Nat) : Prop := ∀ i, i < nr → inP S (A 2 i) 4 ∧ qI S 160 (A 2 i) = T.2.1 9 i ∧ qR S 161 (A 2 i) = some (A 3 i) ∧ qR S 162 (A 2 i) = some (A 4 i) ∧ qI S 163 (A 2 i) = T.2.1 10 i ∧ inP S (A 3 i) 11 ∧ qN S (A 3 i) = 4 ∧ inP S (A 4 i) 12 ∧ qN S (A 4 i) = 4 ∧ ∀ k, k < 4 → qAI S 11 (A 3 i) k = T.2.1 7 (4 * i + k) ∧ qAI S 12 (A 4 i) k = T.2.1 8 (4 * i + k)
def rcS (S : qS) (A : Nat → Nat → Nat) (T : mT) (ns : Nat) : Prop := ∀ i, i < ns → inP S (A 5 i) 6 ∧ qI S 240 (A 5 i) = nI i ∧ qI S 241 (A 5 i) = T.2.1 16 i ∧ qI S 242 (A 5 i) = T.2.1 17 i ∧ qR S 243 (A 5 i) = some (A 6 i) ∧ qR S 244 (A 5 i) = some (A 7 i) ∧ qI S 245 (A 5 i) = T.2.1 24 i ∧ qI S 246 (A 5 i) = T.2.1 15 i ∧ qI S 247 (A 5 i) = T.2.1 20 i ∧ qR S 248 (A 5 i) = orf (A 0) (T.2.1 21 i) ∧ qR S 249 (A 5 i) = orf (A 0) (T.2.1 19 i) ∧ qR S 250 (A 5 i) = orf (A 5) (T.2.1 18 i) ∧
  inP S (A 6 i) 13 ∧ qN S (A 6 i) = 30 ∧ inP S (A 7 i) 14 ∧ qN S (A 7 i) = 30 ∧ ∀ k, k < 30 → qAI S 13 (A 6 i) k = T.2.1 22 (30 * i + k) ∧ qAI S 14 (A 7 i) k = T.2.1 23 (30 * i + k)
def rcSide (S : qS) (A : Nat → Nat → Nat) (T : mT) (b j0 j2 j3 j4 j8 : Nat) (i : Nat) : Prop := inP S b 5 ∧ qR S 200 b = orf (A 0) (T.2.1 26 (10 * i + j0)) ∧ qI S 201 b = T.2.1 26 (10 * i + j2) ∧ qI S 202 b = T.2.1 26 (10 * i + j3) ∧ qR S 203 b = orf (A 5) (T.2.1 26 (10 * i + j4)) ∧ qI S 204 b = T.2.1 26 (10 * i + j8)
def rcO (S : qS) (A : Nat → Nat → Nat) (T : mT) (no : Nat) : Prop := ∀ i, i < no → inP S (A 8 i) 2 ∧ qR S 80 (A 8 i) = some (A 9 i) ∧ qR S 81 (A 8 i) = some (A 10 i) ∧ qI S 82 (A 8 i) = T.2.1 27 i ∧ rcSide S A T (A 9 i) 0 2 3 4 8 i ∧ rcSide S A T (A 10 i) 1 5 6 7 9 i
def inj (f : Nat → Nat) (n : Nat) : Prop := ∀ i j, i < n → j < n → f i = f j → i = j
/-- the whole of it -/
def RC (g : Nat × Nat) (S : qS) (x : Nat) (A : Nat → Nat → Nat) (C : Nat → Nat) (T : mT) (np nr ns no : Nat) : Prop := rcX S x A T ∧ rcH S A ∧ rcP S A T np ∧ rcR S A T nr ∧ rcS S A T ns ∧ rcO S A T no ∧
  (rcList S g (A 11 0) (A 12 0) (C 0) np 3 (A 0) ∧ rcList S g (A 11 1) (A 12 1) (C 1) nr 4 (A 2) ∧ rcList S g (A 11 2) (A 12 2) (C 2) no 2 (A 8) ∧ rcList S g (A 11 3) (A 12 3) (C 3) ns 6 (A 5)) ∧
  (inj (A 0) np ∧ inj (A 1) np ∧ inj (A 2) nr ∧ inj (A 3) nr ∧ inj (A 4) nr ∧ inj (A 5) ns ∧ inj (A 6) ns ∧ inj (A 7) ns ∧ inj (A 8) no ∧ inj (A 11) 4 ∧ inj (A 12) 4 ∧ inj (A 14) 5)
/-- only the class's maps have changed; the pool may have grown -/
def cfr (S S' : qS) : Prop := (∀ a, a ∈ qL S → a ∈ qL S' ∧ qK S' a = qK S a ∧ qN S' a = qN S a) ∧ (∀ f, 360 ≤ f → ∀ a, a ∈ qL S → qI S' f a = qI S f a ∧ qR S' f a = qR S f a) ∧ (∀ k, 29 ≤ k → ∀ a, a ∈ qL S → qAI S' k a = qAI S k a ∧ qAJ S' k a = qAJ S k a)
theorem cfr.rf {S : qS} : cfr S S := ⟨fun _ h => ⟨h, rfl, rfl⟩, fun _ _ _ _ => ⟨rfl, rfl⟩, fun _ _ _ _ => ⟨rfl, rfl⟩⟩
theorem cfr.tr {S1 S2 S3 : qS} (h : cfr S1 S2) (k : cfr S2 S3) : cfr S1 S3 := by
  refine ⟨fun a ha => ?_, fun f hf a ha => ?_, fun f hf a ha => ?_⟩
  · obtain ⟨a1, a2, a3⟩ := h.1 a ha
    obtain ⟨b1, b2, b3⟩ := k.1 a a1
    exact ⟨b1, b2.trans a2, b3.trans a3⟩
  · obtain ⟨a1, -, -⟩ := h.1 a ha
    obtain ⟨c1, c2⟩ := h.2.1 f hf a ha
    obtain ⟨d1, d2⟩ := k.2.1 f hf a a1
    exact ⟨d1.trans c1, d2.trans c2⟩
  · obtain ⟨a1, -, -⟩ := h.1 a ha
    obtain ⟨c1, c2⟩ := h.2.2 f hf a ha
    obtain ⟨d1, d2⟩ := k.2.2 f hf a a1
    exact ⟨d1.trans c1, d2.trans c2⟩
theorem RM.cfr {S S' : qS} {mo : Nat} {ad : Nat → Nat} {T : mT} (h : RM S mo ad T) (hc : cfr S S') : RM S' mo ad T := by
  obtain ⟨h1, h2, h3, h4, h5, h6⟩ := h
  obtain ⟨c1, c2, c3⟩ := hc
  refine ⟨(c1 _ h1).1, (c1 _ h1).2.1.trans h2, fun k hk ht => ((c2 _ (by omega) _ h1).1).trans (h3 k hk ht), fun k hk ht => ?_, fun k hk ht => ?_, fun k hk ht => ?_⟩
  · obtain ⟨a1, a2, a3, a4⟩ := h4 k hk ht
    exact ⟨((c2 _ (by omega) _ h1).2).trans a1, (c1 _ a2).1, (c1 _ a2).2.1.trans a3, (c1 _ a2).2.2.trans a4⟩
  · obtain ⟨a1, a2, a3, a4⟩ := h4 k hk (by rw [ht]; decide)
    exact ((c3 _ (by omega) _ a2).1).trans (h5 k hk ht)
  · obtain ⟨a1, a2, a3, a4⟩ := h4 k hk (by rw [ht]; decide)
    exact ((c3 _ (by omega) _ a2).2).trans (h6 k hk ht)
/-! reads -/
theorem g_at {S : qS} {a k : Nat} {K : Nat → Prop} (h : inP S a k) (hk : K a) : w_at S (some a) k K := ⟨a, rfl, h.1, h.2, hk⟩
theorem g_I {S : qS} {a ci k f : Nat} {v : Int32} {K : Int32 → Prop} (h : inP S a ci) (hf : 40 * ci + k = f) (hv : qI S f a = v) (hk : K v) : w_getI S (some a) ci k K := by
  subst hf
  exact ⟨a, rfl, h.1, h.2, by show K (qI S (40 * ci + k) a); rw [hv]; exact hk⟩
theorem g_R {S : qS} {a ci k f : Nat} {v : Option Nat} {K : Option Nat → Prop} (h : inP S a ci) (hf : 40 * ci + k = f) (hv : qR S f a = v) (hk : K v) : w_getR S (some a) ci k K := by
  subst hf
  exact ⟨a, rfl, h.1, h.2, by show K (qR S (40 * ci + k) a); rw [hv]; exact hk⟩
theorem g_ldI {S : qS} {a k i n : Nat} {v : Int32} {K : Int32 → Prop} (h : inP S a k) (hn : qN S a = n) (hi : i < n) (hn31 : n < 2 ^ 31) (hv : qAI S k a i = v) (hk : K v) : w_ldI S (some a) k (nI i) K :=
  ⟨a, rfl, h.1, h.2, by rw [hn]; exact vp_in_nI hi hn31, by rw [nI_clamp (by omega), hv]; exact hk⟩
theorem g_ldJ {S : qS} {a k i n : Nat} {v : Int64} {K : Int64 → Prop} (h : inP S a k) (hn : qN S a = n) (hi : i < n) (hn31 : n < 2 ^ 31) (hv : qAJ S k a i = v) (hk : K v) : w_ldJ S (some a) k (nI i) K :=
  ⟨a, rfl, h.1, h.2, by rw [hn]; exact vp_in_nI hi hn31, by rw [nI_clamp (by omega), hv]; exact hk⟩
theorem c_size {S : qS} {g : Nat × Nat} {li ea cap n ck : Nat} {el : Nat → Nat} {post : Int32 → qS → Prop} {xp : String → qS → Prop} (h : rcList S g li ea cap n ck el) (hp : post (nI n) S) : pJx4a65c_size_8abf5 li S post xp := g_I h.1 rfl h.2.1 hp
theorem c_get {S : qS} {g : Nat × Nat} {li ea cap n ck i : Nat} {el : Nat → Nat} {post : Option Nat → qS → Prop} {xp : String → qS → Prop} (h : rcList S g li ea cap n ck el) (hi : i < n) (hp : post (some (el i)) S) : pJx4a65c_get_915e3 li (nI i) S post xp := by
  obtain ⟨h1, h2, h3, h4⟩ := h
  rcases h4 with ⟨rfl, -⟩ | ⟨e1, e2, e3, e4, e5, e6, e7⟩
  · omega
  · refine g_I h1 rfl h2 ⟨fun q => absurd q (nI_pos (by omega)), fun _ => ⟨fun _ => ?_, fun q => absurd (nI_lt hi (by omega)) q⟩⟩
    refine g_at h1 (g_R h1 rfl e2 ?_)
    exact ⟨ea, rfl, e1.1, e1.2, by rw [e3]; exact vp_in_nI (by omega) (by omega), by rw [nI_clamp (by omega), e7 i hi]; exact hp⟩
theorem lt0_ok {x : Int32} {n : Nat} (h : x < 0) : ¬ ok x n := fun q => by
  have := Int32.lt_iff_toInt_lt.mp h
  have h0 : (0 : Int32).toInt = 0 := by decide
  have := q.1
  omega
theorem ge_ok {x : Int32} {n : Nat} (hn : n < 2 ^ 31) (h : ¬ x < nI n) : ¬ ok x n := fun q => h (by
  rw [Int32.lt_iff_toInt_lt, nI_toInt hn]
  exact q.2)
theorem of_ok {x : Int32} {n : Nat} (hn : n < 2 ^ 31) (h0 : ¬ x < 0) (h : x < nI n) : ok x n := by
  have h1 := Int32.lt_iff_toInt_lt.mp h
  rw [nI_toInt hn] at h1
  have h2 : ¬ x.toInt < 0 := fun z => h0 (Int32.lt_iff_toInt_lt.mpr z)
  exact ⟨by omega, h1⟩
theorem c_checkKind {x : Int32} {S : qS} {post : qS → Prop} {xp : String → qS → Prop} (h1 : ok x 4 → post S) (h2 : ¬ ok x 4 → xp "java/lang/IndexOutOfBoundsException" S) : pX7_checkKind x S post xp :=
  ⟨fun q => h2 (lt0_ok q), fun q => ⟨fun q2 => h1 (of_ok (n := 4) (by decide) q q2), fun q2 => h2 (ge_ok (n := 4) (by decide) q2)⟩⟩
theorem c_playerAt {g : Nat × Nat} {x np cap ea : Nat} {p : Int32} {S : qS} {A : Nat → Nat → Nat} {post : Option Nat → qS → Prop} {xp : String → qS → Prop} (hx : inP S x 8) (hl : qR S 320 x = some (A 11 0)) (hL : rcList S g (A 11 0) ea cap np 3 (A 0)) (hn : np < 2 ^ 31) (h1 : ∀ i, i < np → p = nI i → post (some (A 0 i)) S) (h2 : ¬ ok p np → xp "java/lang/IndexOutOfBoundsException" S) : pX7_playerAt x p S post xp := by
  refine ⟨fun q => h2 (lt0_ok q), fun q => g_R hx rfl hl (g_at hL.1 (c_size hL ⟨fun q2 => ?_, fun q2 => h2 (ge_ok hn q2)⟩))⟩
  obtain ⟨i, hi, rfl⟩ := ok_nI (of_ok hn q q2) hn
  exact g_R hx rfl hl (g_at hL.1 (c_get hL hi ⟨Or.inr ⟨_, rfl, (hL.2.2.1 i hi).1, (hL.2.2.1 i hi).2⟩, h1 i hi rfl⟩))
