def uX7_checkKind_J9  (c : Nat → Nat) (Q : mT → Prop) (X : String → mT → Prop)  (T : mT) : Prop :=
  X "java/lang/IndexOutOfBoundsException" T
def uX7_checkKind (c : Nat → Nat) (x0 : Int32) (T : mT) (Q : mT → Prop) (X : String → mT → Prop) : Prop :=
  ((x0 < 0 →
  uX7_checkKind_J9 c Q X T) ∧ (¬ x0 < 0 →
  ((x0 < (4 : Int32) →
  Q T) ∧ (¬ x0 < (4 : Int32) →
  uX7_checkKind_J9 c Q X T))))
set_option maxHeartbeats 4000000 in
set_option maxRecDepth 100000 in
theorem rX7_checkKind {g : Nat × Nat} {S : qS} {A : Nat → Nat → Nat} {C c : Nat → Nat} {T : mT} {x0 : Int32} {Q : mT → Prop} {X : String → mT → Prop} {post : qS → Prop} {xp : String → qS → Prop} (hM : RU g S A C c T) (h : uX7_checkKind c x0 T Q X) (hp : ∀ (T' : mT) (S' : qS), Q T' → RU g S' A C c T' → cfr S S' → post S') (hx : ∀ (n : String) (T' : mT) (S' : qS), X n T' → RU g S' A C c T' → cfr S S' → xp n S') : pX7_checkKind x0 S post xp := by
  unfold uX7_checkKind at h
  unfold pX7_checkKind
  obtain ⟨S0, hS0⟩ : ∃ S0, S0 = S := ⟨_, rfl⟩
  rw [← hS0] at hp hx
  have hF : cfr S0 S := by rw [hS0]; exact cfr.rf
  clear hS0
  have jn9 : ∀ (T : mT) (S : qS), uX7_checkKind_J9 c Q X T → RU g S A C c T → cfr S0 S → pX7_checkKind_J9 post xp S := by
    intro T S h hM hF
    unfold uX7_checkKind_J9 at h
    unfold pX7_checkKind_J9
    exact hx _ _ _ h hM hF
  refine ⟨fun c1 => ?_, fun c1 => ?_⟩
  · have h := h.1 c1
    exact jn9 _ _ h hM hF
  · have h := h.2 c1
    refine ⟨fun c6 => ?_, fun c6 => ?_⟩
    · have h := h.1 c6
      exact hp _ _ h hM hF
    · have h := h.2 c6
      exact jn9 _ _ h hM hF

def uX7_checkRange_J10  (c : Nat → Nat) (Q : mT → Prop) (X : String → mT → Prop)  (T : mT) : Prop :=
  X "java/lang/IllegalArgumentException" T
def uX7_checkRange (c : Nat → Nat) (x0 : Int32) (x1 : Int32) (x2 : Int32) (T : mT) (Q : mT → Prop) (X : String → mT → Prop) : Prop :=
  ((x0 < x1 →
  uX7_checkRange_J10 c Q X T) ∧ (¬ x0 < x1 →
  ((x0 ≤ x2 →
  Q T) ∧ (¬ x0 ≤ x2 →
  uX7_checkRange_J10 c Q X T))))
set_option maxHeartbeats 4000000 in
set_option maxRecDepth 100000 in
theorem rX7_checkRange {g : Nat × Nat} {S : qS} {A : Nat → Nat → Nat} {C c : Nat → Nat} {T : mT} {x0 : Int32} {x1 : Int32} {x2 : Int32} {Q : mT → Prop} {X : String → mT → Prop} {post : qS → Prop} {xp : String → qS → Prop} (hM : RU g S A C c T) (h : uX7_checkRange c x0 x1 x2 T Q X) (hp : ∀ (T' : mT) (S' : qS), Q T' → RU g S' A C c T' → cfr S S' → post S') (hx : ∀ (n : String) (T' : mT) (S' : qS), X n T' → RU g S' A C c T' → cfr S S' → xp n S') : pX7_checkRange x0 x1 x2 S post xp := by
  unfold uX7_checkRange at h
  unfold pX7_checkRange
  obtain ⟨S0, hS0⟩ : ∃ S0, S0 = S := ⟨_, rfl⟩
  rw [← hS0] at hp hx
  have hF : cfr S0 S := by rw [hS0]; exact cfr.rf
  clear hS0
  have jn10 : ∀ (T : mT) (S : qS), uX7_checkRange_J10 c Q X T → RU g S A C c T → cfr S0 S → pX7_checkRange_J10 post xp S := by
    intro T S h hM hF
    unfold uX7_checkRange_J10 at h
    unfold pX7_checkRange_J10
    exact hx _ _ _ h hM hF
  refine ⟨fun c2 => ?_, fun c2 => ?_⟩
  · have h := h.1 c2
    exact jn10 _ _ h hM hF
  · have h := h.2 c2
    refine ⟨fun c7 => ?_, fun c7 => ?_⟩
    · have h := h.1 c7
      exact hp _ _ h hM hF
    · have h := h.2 c7
      exact jn10 _ _ h hM hF

def uX7_numberOf_J12  (c : Nat → Nat) (Q : Int32 → mT → Prop) (X : String → mT → Prop) (t0 : Int32) (T : mT) : Prop :=
  Q t0 T
def uX7_numberOf (c : Nat → Nat) (x0 : Option Nat) (T : mT) (Q : Int32 → mT → Prop) (X : String → mT → Prop) : Prop :=
  ((¬ x0 = none →
  u_g c x0 3 (fun i => nI i) (fun v9 =>
  uX7_numberOf_J12 c Q X v9 T)) ∧ (x0 = none →
  uX7_numberOf_J12 c Q X (-1 : Int32) T))
set_option maxHeartbeats 4000000 in
set_option maxRecDepth 100000 in
theorem rX7_numberOf {g : Nat × Nat} {S : qS} {A : Nat → Nat → Nat} {C c : Nat → Nat} {T : mT} {x0 : Option Nat} {Q : Int32 → mT → Prop} {X : String → mT → Prop} {post : Int32 → qS → Prop} {xp : String → qS → Prop} (hM : RU g S A C c T) (h : uX7_numberOf c x0 T Q X) (hp : ∀ (v : Int32) (T' : mT) (S' : qS), Q v T' → RU g S' A C c T' → cfr S S' → post v S') (hx : ∀ (n : String) (T' : mT) (S' : qS), X n T' → RU g S' A C c T' → cfr S S' → xp n S') : pX7_numberOf (Option.map (A 3) x0) S post xp := by
  unfold uX7_numberOf at h
  unfold pX7_numberOf
  obtain ⟨S0, hS0⟩ : ∃ S0, S0 = S := ⟨_, rfl⟩
  rw [← hS0] at hp hx
  have hF : cfr S0 S := by rw [hS0]; exact cfr.rf
  clear hS0
  have jn12 : ∀ (t0 : Int32) (T : mT) (S : qS), uX7_numberOf_J12 c Q X t0 T → RU g S A C c T → cfr S0 S → pX7_numberOf_J12 post xp t0 S := by
    intro t0 T S h hM hF
    unfold uX7_numberOf_J12 at h
    unfold pX7_numberOf_J12
    exact hp _ _ _ h hM hF
  refine ⟨fun c1 => ?_, fun c1 => ?_⟩
  · have h := h.1 (fun z => c1 (ua_no.mpr z))
    refine uq_N 120 hM (by decide) (fun _ => rfl) h (fun v9 h => ?_)
    exact jn12 _ _ _ h hM hF
  · have h := h.2 (ua_no.mp c1)
    exact jn12 _ _ _ h hM hF

def uX7_playerAt_J15  (c : Nat → Nat) (Q : Option Nat → mT → Prop) (X : String → mT → Prop)  (T : mT) : Prop :=
  X "java/lang/IndexOutOfBoundsException" T
def uX7_playerAt (c : Nat → Nat) (x0 : Nat) (x1 : Int32) (T : mT) (Q : Option Nat → mT → Prop) (X : String → mT → Prop) : Prop :=
  ((x1 < 0 →
  uX7_playerAt_J15 c Q X T) ∧ (¬ x1 < 0 →
  u_g c (some x0) 8 (fun _ => some (0)) (fun v6 =>
  u_sz c v6 (fun v9 =>
  ((x1 < v9 →
  u_g c (some x0) 8 (fun _ => some (0)) (fun v27 =>
  u_el c v27 3 x1 (fun v31 =>
  Q v31 T))) ∧ (¬ x1 < v9 →
  uX7_playerAt_J15 c Q X T))))))
set_option maxHeartbeats 4000000 in
set_option maxRecDepth 100000 in
theorem rX7_playerAt {g : Nat × Nat} {S : qS} {A : Nat → Nat → Nat} {C c : Nat → Nat} {T : mT} {x0 : Nat} {x1 : Int32} {Q : Option Nat → mT → Prop} {X : String → mT → Prop} {post : Option Nat → qS → Prop} {xp : String → qS → Prop} (hM : RU g S A C c T) (h : uX7_playerAt c x0 x1 T Q X) (hp : ∀ (v : Option Nat) (T' : mT) (S' : qS), Q v T' → RU g S' A C c T' → cfr S S' → post (Option.map (A 3) v) S') (hx : ∀ (n : String) (T' : mT) (S' : qS), X n T' → RU g S' A C c T' → cfr S S' → xp n S') : pX7_playerAt (A 8 x0) x1 S post xp := by
  unfold uX7_playerAt at h
  unfold pX7_playerAt
  obtain ⟨S0, hS0⟩ : ∃ S0, S0 = S := ⟨_, rfl⟩
  rw [← hS0] at hp hx
  have hF : cfr S0 S := by rw [hS0]; exact cfr.rf
  clear hS0
  have jn15 : ∀ (T : mT) (S : qS), uX7_playerAt_J15 c Q X T → RU g S A C c T → cfr S0 S → pX7_playerAt_J15 post xp S := by
    intro T S h hM hF
    unfold uX7_playerAt_J15 at h
    unfold pX7_playerAt_J15
    exact hx _ _ _ h hM hF
  refine ⟨fun c1 => ?_, fun c1 => ?_⟩
  · have h := h.1 c1
    exact jn15 _ _ h hM hF
  · have h := h.2 c1
    refine uq_S 320 hM (by decide) (fun _ => rfl) h (fun v6 h => ?_)
    refine uq_sz hM h (fun v9 h => ?_)
    refine ⟨fun c12 => ?_, fun c12 => ?_⟩
    · have h := h.1 c12
      refine uq_S 320 hM (by decide) (fun _ => rfl) h (fun v27 h => ?_)
      refine uq_el hM h (fun v31 h => ?_)
      exact hp _ _ _ h hM hF
    · have h := h.2 c12
      exact jn15 _ _ h hM hF

def uX7_ruleAt_J15  (c : Nat → Nat) (Q : Option Nat → mT → Prop) (X : String → mT → Prop)  (T : mT) : Prop :=
  X "java/lang/IndexOutOfBoundsException" T
def uX7_ruleAt (c : Nat → Nat) (x0 : Nat) (x1 : Int32) (T : mT) (Q : Option Nat → mT → Prop) (X : String → mT → Prop) : Prop :=
  ((x1 < 0 →
  uX7_ruleAt_J15 c Q X T) ∧ (¬ x1 < 0 →
  u_g c (some x0) 8 (fun _ => some (1)) (fun v6 =>
  u_sz c v6 (fun v9 =>
  ((x1 < v9 →
  u_g c (some x0) 8 (fun _ => some (1)) (fun v27 =>
  u_el c v27 4 x1 (fun v31 =>
  Q v31 T))) ∧ (¬ x1 < v9 →
  uX7_ruleAt_J15 c Q X T))))))
set_option maxHeartbeats 4000000 in
set_option maxRecDepth 100000 in
theorem rX7_ruleAt {g : Nat × Nat} {S : qS} {A : Nat → Nat → Nat} {C c : Nat → Nat} {T : mT} {x0 : Nat} {x1 : Int32} {Q : Option Nat → mT → Prop} {X : String → mT → Prop} {post : Option Nat → qS → Prop} {xp : String → qS → Prop} (hM : RU g S A C c T) (h : uX7_ruleAt c x0 x1 T Q X) (hp : ∀ (v : Option Nat) (T' : mT) (S' : qS), Q v T' → RU g S' A C c T' → cfr S S' → post (Option.map (A 4) v) S') (hx : ∀ (n : String) (T' : mT) (S' : qS), X n T' → RU g S' A C c T' → cfr S S' → xp n S') : pX7_ruleAt (A 8 x0) x1 S post xp := by
  unfold uX7_ruleAt at h
  unfold pX7_ruleAt
  obtain ⟨S0, hS0⟩ : ∃ S0, S0 = S := ⟨_, rfl⟩
  rw [← hS0] at hp hx
  have hF : cfr S0 S := by rw [hS0]; exact cfr.rf
  clear hS0
  have jn15 : ∀ (T : mT) (S : qS), uX7_ruleAt_J15 c Q X T → RU g S A C c T → cfr S0 S → pX7_ruleAt_J15 post xp S := by
    intro T S h hM hF
    unfold uX7_ruleAt_J15 at h
    unfold pX7_ruleAt_J15
    exact hx _ _ _ h hM hF
  refine ⟨fun c1 => ?_, fun c1 => ?_⟩
  · have h := h.1 c1
    exact jn15 _ _ h hM hF
  · have h := h.2 c1
    refine uq_S 321 hM (by decide) (fun _ => rfl) h (fun v6 h => ?_)
    refine uq_sz hM h (fun v9 h => ?_)
    refine ⟨fun c12 => ?_, fun c12 => ?_⟩
    · have h := h.1 c12
      refine uq_S 321 hM (by decide) (fun _ => rfl) h (fun v27 h => ?_)
      refine uq_el hM h (fun v31 h => ?_)
      exact hp _ _ _ h hM hF
    · have h := h.2 c12
      exact jn15 _ _ h hM hF

def uX7_offerAt_J15  (c : Nat → Nat) (Q : Option Nat → mT → Prop) (X : String → mT → Prop)  (T : mT) : Prop :=
  X "java/lang/IndexOutOfBoundsException" T
def uX7_offerAt (c : Nat → Nat) (x0 : Nat) (x1 : Int32) (T : mT) (Q : Option Nat → mT → Prop) (X : String → mT → Prop) : Prop :=
  ((x1 < 0 →
  uX7_offerAt_J15 c Q X T) ∧ (¬ x1 < 0 →
  u_g c (some x0) 8 (fun _ => some (2)) (fun v6 =>
  u_sz c v6 (fun v9 =>
  ((x1 < v9 →
  u_g c (some x0) 8 (fun _ => some (2)) (fun v27 =>
  u_el c v27 2 x1 (fun v31 =>
  Q v31 T))) ∧ (¬ x1 < v9 →
  uX7_offerAt_J15 c Q X T))))))
set_option maxHeartbeats 4000000 in
set_option maxRecDepth 100000 in
theorem rX7_offerAt {g : Nat × Nat} {S : qS} {A : Nat → Nat → Nat} {C c : Nat → Nat} {T : mT} {x0 : Nat} {x1 : Int32} {Q : Option Nat → mT → Prop} {X : String → mT → Prop} {post : Option Nat → qS → Prop} {xp : String → qS → Prop} (hM : RU g S A C c T) (h : uX7_offerAt c x0 x1 T Q X) (hp : ∀ (v : Option Nat) (T' : mT) (S' : qS), Q v T' → RU g S' A C c T' → cfr S S' → post (Option.map (A 2) v) S') (hx : ∀ (n : String) (T' : mT) (S' : qS), X n T' → RU g S' A C c T' → cfr S S' → xp n S') : pX7_offerAt (A 8 x0) x1 S post xp := by
  unfold uX7_offerAt at h
  unfold pX7_offerAt
  obtain ⟨S0, hS0⟩ : ∃ S0, S0 = S := ⟨_, rfl⟩
  rw [← hS0] at hp hx
  have hF : cfr S0 S := by rw [hS0]; exact cfr.rf
  clear hS0
  have jn15 : ∀ (T : mT) (S : qS), uX7_offerAt_J15 c Q X T → RU g S A C c T → cfr S0 S → pX7_offerAt_J15 post xp S := by
    intro T S h hM hF
    unfold uX7_offerAt_J15 at h
    unfold pX7_offerAt_J15
    exact hx _ _ _ h hM hF
  refine ⟨fun c1 => ?_, fun c1 => ?_⟩
  · have h := h.1 c1
    exact jn15 _ _ h hM hF
  · have h := h.2 c1
    refine uq_S 322 hM (by decide) (fun _ => rfl) h (fun v6 h => ?_)
    refine uq_sz hM h (fun v9 h => ?_)
    refine ⟨fun c12 => ?_, fun c12 => ?_⟩
    · have h := h.1 c12
      refine uq_S 322 hM (by decide) (fun _ => rfl) h (fun v27 h => ?_)
      refine uq_el hM h (fun v31 h => ?_)
      exact hp _ _ _ h hM hF
    · have h := h.2 c12
      exact jn15 _ _ h hM hF

def uX7_part_J44  (c : Nat → Nat) (Q : mT → Prop) (X : String → mT → Prop)  (T : mT) : Prop :=
  Q T
def uX7_part (c : Nat → Nat) (x0 : Nat) (x1 : Int32) (x2 : Int32) (x3 : Int32) (x4 : Int32) (T : mT) (Q : mT → Prop) (X : String → mT → Prop) : Prop :=
  u_at c (some x0) 8 (fun b2 => uX7_ruleAt c b2 x1 T (fun v2 T =>
  uX7_checkKind c x2 T (fun T =>
  uX7_checkRange c x4 (0 : Int32) (9 : Int32) T (fun T =>
  ((x3 = 0 →
  u_g c v2 4 (fun i => some (i)) (fun v37 =>
  u_a c v37 11 4 x2 (fun i j => m_sA T 7 (4 * i + j) x4) (fun T =>
  uX7_part_J44 c Q X T))) ∧ (¬ x3 = 0 →
  u_g c v2 4 (fun i => some (i)) (fun v25 =>
  u_a c v25 12 4 x2 (fun i j => m_sA T 8 (4 * i + j) x4) (fun T =>
  uX7_part_J44 c Q X T))))) X) X) X)
set_option maxHeartbeats 4000000 in
set_option maxRecDepth 100000 in
theorem rX7_part {g : Nat × Nat} {S : qS} {A : Nat → Nat → Nat} {C c : Nat → Nat} {T : mT} {x0 : Nat} {x1 : Int32} {x2 : Int32} {x3 : Int32} {x4 : Int32} {Q : mT → Prop} {X : String → mT → Prop} {post : qS → Prop} {xp : String → qS → Prop} (hM : RU g S A C c T) (h : uX7_part c x0 x1 x2 x3 x4 T Q X) (hp : ∀ (T' : mT) (S' : qS), Q T' → RU g S' A C c T' → cfr S S' → post S') (hx : ∀ (n : String) (T' : mT) (S' : qS), X n T' → RU g S' A C c T' → cfr S S' → xp n S') : pX7_part (A 8 x0) x1 x2 x3 x4 S post xp := by
  unfold uX7_part at h
  unfold pX7_part
  obtain ⟨S0, hS0⟩ : ∃ S0, S0 = S := ⟨_, rfl⟩
  rw [← hS0] at hp hx
  have hF : cfr S0 S := by rw [hS0]; exact cfr.rf
  clear hS0
  refine uq_at hM h (fun b2 hb2 h => ?_)
  refine rX7_ruleAt hM h (fun v2 T S h hM hF1 => ?_) (fun n T S h hM hF1 => hx n T S h hM (hF.tr hF1))
  have hF := hF.tr hF1
  refine rX7_checkKind hM h (fun T S h hM hF1 => ?_) (fun n T S h hM hF1 => hx n T S h hM (hF.tr hF1))
  have hF := hF.tr hF1
  refine rX7_checkRange hM h (fun T S h hM hF1 => ?_) (fun n T S h hM hF1 => hx n T S h hM (hF.tr hF1))
  have hF := hF.tr hF1
  have jn44 : ∀ (T : mT) (S : qS), uX7_part_J44 c Q X T → RU g S A C c T → cfr S0 S → pX7_part_J44 post xp S := by
    intro T S h hM hF
    unfold uX7_part_J44 at h
    unfold pX7_part_J44
    exact hp _ _ h hM hF
  refine ⟨fun c20 => ?_, fun c20 => ?_⟩
  · have h := h.1 c20
    refine uq_S 161 hM (by decide) (fun _ => rfl) h (fun v37 h => ?_)
    refine um_A (k := 11) hM hF (by decide) (fun i j => by simp [a_row, a_st]) h (fun T S h hM hF => ?_)
    exact jn44 _ _ h hM hF
  · have h := h.2 c20
    refine uq_S 162 hM (by decide) (fun _ => rfl) h (fun v25 h => ?_)
    refine um_A (k := 12) hM hF (by decide) (fun i j => by simp [a_row, a_st]) h (fun T S h hM hF => ?_)
    exact jn44 _ _ h hM hF

def uX7_carryOut_L3  (c : Nat → Nat) (Q : mT → Prop) (X : String → mT → Prop) : Nat → Option Nat → Option Nat → Option Nat → Int32 → Int32 → mT → Prop
  | 0, _, _, _, _, _, _ => False
  | n3 + 1, x0, x1, x2, x3, x4, T =>
  (((4 : Int32) ≤ x4 →
  u_g c x0 8 (fun _ => T.1 6) (fun v80 =>
  u_g c x0 8 (fun _ => m_sI T 6 (v80 + (1 : Int32))) (fun T =>
  Q T))) ∧ (¬ (4 : Int32) ≤ x4 →
  u_g c x2 4 (fun i => some (i)) (fun v10 =>
  u_a c v10 11 4 x4 (fun i j => T.2.1 7 (4 * i + j)) (fun v15 =>
  u_g c x2 4 (fun i => some (i)) (fun v21 =>
  u_a c v21 12 4 x4 (fun i j => T.2.1 8 (4 * i + j)) (fun v26 =>
  u_g c x1 3 (fun i => some (i)) (fun v32 =>
  u_a c v32 10 4 x4 (fun i j => T.2.1 2 (4 * i + j)) (fun v38 =>
  u_a c v32 10 4 x4 (fun i j => m_sA T 2 (4 * i + j) (v38 + ((v26 * x3) - (v15 * x3)))) (fun T =>
  u_g c x0 8 (fun _ => some (0)) (fun v47 =>
  u_a c v47 19 4 x4 (fun _ j => T.2.2 14 j) (fun v53 =>
  u_a c v47 19 4 x4 (fun _ j => m_sJ T 14 j (v53 + (v15 * x3).toInt64)) (fun T =>
  u_g c x0 8 (fun _ => some (0)) (fun v60 =>
  u_a c v60 18 4 x4 (fun _ j => T.2.2 13 j) (fun v66 =>
  u_a c v60 18 4 x4 (fun _ j => m_sJ T 13 j (v66 + (v26 * x3).toInt64)) (fun T =>
  (uX7_carryOut_L3 c Q X n3) x0 x1 x2 x3 (x4 + 1) T)))))))))))))))
def uX7_carryOut (c : Nat → Nat) (x0 : Nat) (x1 : Option Nat) (x2 : Option Nat) (x3 : Int32) (T : mT) (Q : mT → Prop) (X : String → mT → Prop) : Prop :=
  ∃ n3, uX7_carryOut_L3 c Q X n3 (some x0) x1 x2 x3 (0 : Int32) T
set_option maxHeartbeats 4000000 in
set_option maxRecDepth 100000 in
theorem rX7_carryOut {g : Nat × Nat} {S : qS} {A : Nat → Nat → Nat} {C c : Nat → Nat} {T : mT} {x0 : Nat} {x1 : Option Nat} {x2 : Option Nat} {x3 : Int32} {Q : mT → Prop} {X : String → mT → Prop} {post : qS → Prop} {xp : String → qS → Prop} (hM : RU g S A C c T) (h : uX7_carryOut c x0 x1 x2 x3 T Q X) (hp : ∀ (T' : mT) (S' : qS), Q T' → RU g S' A C c T' → cfr S S' → post S') (hx : ∀ (n : String) (T' : mT) (S' : qS), X n T' → RU g S' A C c T' → cfr S S' → xp n S') : pX7_carryOut (A 8 x0) (Option.map (A 3) x1) (Option.map (A 4) x2) x3 S post xp := by
  unfold uX7_carryOut at h
  unfold pX7_carryOut
  obtain ⟨S0, hS0⟩ : ∃ S0, S0 = S := ⟨_, rfl⟩
  rw [← hS0] at hp hx
  have hF : cfr S0 S := by rw [hS0]; exact cfr.rf
  clear hS0
  obtain ⟨n3, h⟩ := h
  refine ⟨n3, ?_⟩
  have lp3 : ∀ (n3 : Nat) (x0 : Option Nat) (x1 : Option Nat) (x2 : Option Nat) (x3 : Int32) (x4 : Int32) (T : mT) (S : qS), uX7_carryOut_L3 c Q X n3 x0 x1 x2 x3 x4 T → RU g S A C c T → cfr S0 S → pX7_carryOut_L3 post xp n3 (Option.map (A 8) x0) (Option.map (A 3) x1) (Option.map (A 4) x2) x3 x4 S := by
    intro n3
    induction n3 with
    | zero => intro x0 x1 x2 x3 x4 T S h hM hF; exact h.elim
    | succ n3 ih3 =>
      intro x0 x1 x2 x3 x4 T S h hM hF
      unfold uX7_carryOut_L3 at h
      unfold pX7_carryOut_L3
      refine ⟨fun c6 => ?_, fun c6 => ?_⟩
      · have h := h.1 c6
        refine uq_F 328 hM (by decide) (fun _ => rfl) h (fun v80 h => ?_)
        refine um_F 328 hM hF (by decide) h (fun T S h hM hF => ?_)
        exact hp _ _ h hM hF
      · have h := h.2 c6
        refine uq_S 161 hM (by decide) (fun _ => rfl) h (fun v10 h => ?_)
        refine uq_A (k := 11) hM (by decide) (fun i j => by simp [a_row, a_st]) h (fun v15 h => ?_)
        refine uq_S 162 hM (by decide) (fun _ => rfl) h (fun v21 h => ?_)
        refine uq_A (k := 12) hM (by decide) (fun i j => by simp [a_row, a_st]) h (fun v26 h => ?_)
        refine uq_S 121 hM (by decide) (fun _ => rfl) h (fun v32 h => ?_)
        refine uq_A (k := 10) hM (by decide) (fun i j => by simp [a_row, a_st]) h (fun v38 h => ?_)
        refine um_A (k := 10) hM hF (by decide) (fun i j => by simp [a_row, a_st]) h (fun T S h hM hF => ?_)
        refine uq_S 327 hM (by decide) (fun _ => rfl) h (fun v47 h => ?_)
        refine uq_AJ (k := 19) hM (by decide) (fun _ _ => rfl) h (fun v53 h => ?_)
        refine um_AJ (k := 19) hM hF (by decide) (fun _ _ => rfl) h (fun T S h hM hF => ?_)
        refine uq_S 326 hM (by decide) (fun _ => rfl) h (fun v60 h => ?_)
        refine uq_AJ (k := 18) hM (by decide) (fun _ _ => rfl) h (fun v66 h => ?_)
        refine um_AJ (k := 18) hM hF (by decide) (fun _ _ => rfl) h (fun T S h hM hF => ?_)
        exact ih3 _ _ _ _ _ _ _ h hM hF
  exact lp3 n3 _ _ _ _ _ _ _ h hM hF

def uX7_deed_J98  (c : Nat → Nat) (Q : Int32 → mT → Prop) (X : String → mT → Prop) (x7 : Int32) (T : mT) : Prop :=
  Q x7 T
def uX7_deed_J46  (c : Nat → Nat) (Q : Int32 → mT → Prop) (X : String → mT → Prop) (x0 : Option Nat) (x2 : Int32) (x4 : Int32) (x5 : Option Nat) (x6 : Option Nat) (T : mT) : Prop :=
  u_g c x5 3 (fun i => T.2.1 3 i) (fun v49 =>
  ((x2 = (v49 + (1 : Int32)) →
  u_at c x5 3 (fun b65 => uX2_answerTo c b65 x6 x4 T (fun v65 T =>
  u_g c x5 3 (fun i => m_sA T 3 i x2) (fun T =>
  u_g c x5 3 (fun i => m_sA T 4 i v65) (fun T =>
  ((¬ v65 = 0 →
  uX7_deed_J98 c Q X v65 T) ∧ (v65 = 0 →
  u_at c x0 8 (fun b95 => uX7_carryOut c b95 x5 x6 x4 T (fun T =>
  uX7_deed_J98 c Q X v65 T) X)))))) X)) ∧ (¬ x2 = (v49 + (1 : Int32)) →
  Q (3 : Int32) T)))
def uX7_deed (c : Nat → Nat) (x0 : Nat) (x1 : Int32) (x2 : Int32) (x3 : Int32) (x4 : Int32) (T : mT) (Q : Int32 → mT → Prop) (X : String → mT → Prop) : Prop :=
  u_at c (some x0) 8 (fun b2 => uX7_playerAt c b2 x1 T (fun v2 T =>
  u_at c (some x0) 8 (fun b9 => uX7_ruleAt c b9 x3 T (fun v9 T =>
  uX7_checkRange c x4 (1 : Int32) (1000 : Int32) T (fun T =>
  u_g c v2 3 (fun i => T.2.1 3 i) (fun v25 =>
  ((v25 ≤ 0 →
  uX7_deed_J46 c Q X (some x0) x2 x4 v2 v9 T) ∧ (¬ v25 ≤ 0 →
  u_g c v2 3 (fun i => T.2.1 3 i) (fun v34 =>
  ((¬ x2 = v34 →
  uX7_deed_J46 c Q X (some x0) x2 x4 v2 v9 T) ∧ (x2 = v34 →
  u_g c v2 3 (fun i => T.2.1 4 i) (fun v42 =>
  Q v42 T)))))))) X) X)) X)
set_option maxHeartbeats 4000000 in
set_option maxRecDepth 100000 in
theorem rX7_deed {g : Nat × Nat} {S : qS} {A : Nat → Nat → Nat} {C c : Nat → Nat} {T : mT} {x0 : Nat} {x1 : Int32} {x2 : Int32} {x3 : Int32} {x4 : Int32} {Q : Int32 → mT → Prop} {X : String → mT → Prop} {post : Int32 → qS → Prop} {xp : String → qS → Prop} (hM : RU g S A C c T) (h : uX7_deed c x0 x1 x2 x3 x4 T Q X) (hp : ∀ (v : Int32) (T' : mT) (S' : qS), Q v T' → RU g S' A C c T' → cfr S S' → post v S') (hx : ∀ (n : String) (T' : mT) (S' : qS), X n T' → RU g S' A C c T' → cfr S S' → xp n S') : pX7_deed (A 8 x0) x1 x2 x3 x4 S post xp := by
  unfold uX7_deed at h
  unfold pX7_deed
  obtain ⟨S0, hS0⟩ : ∃ S0, S0 = S := ⟨_, rfl⟩
  rw [← hS0] at hp hx
  have hF : cfr S0 S := by rw [hS0]; exact cfr.rf
  clear hS0
  refine uq_at hM h (fun b2 hb2 h => ?_)
  refine rX7_playerAt hM h (fun v2 T S h hM hF1 => ?_) (fun n T S h hM hF1 => hx n T S h hM (hF.tr hF1))
  have hF := hF.tr hF1
  refine uq_at hM h (fun b9 hb9 h => ?_)
  refine rX7_ruleAt hM h (fun v9 T S h hM hF1 => ?_) (fun n T S h hM hF1 => hx n T S h hM (hF.tr hF1))
  have hF := hF.tr hF1
  refine rX7_checkRange hM h (fun T S h hM hF1 => ?_) (fun n T S h hM hF1 => hx n T S h hM (hF.tr hF1))
  have hF := hF.tr hF1
  refine uq_I 122 hM (by decide) (fun _ => rfl) h (fun v25 h => ?_)
  have jn46 : ∀ (x0 : Option Nat) (x2 : Int32) (x4 : Int32) (x5 : Option Nat) (x6 : Option Nat) (T : mT) (S : qS), uX7_deed_J46 c Q X x0 x2 x4 x5 x6 T → RU g S A C c T → cfr S0 S → pX7_deed_J46 post xp (Option.map (A 8) x0) x2 x4 (Option.map (A 3) x5) (Option.map (A 4) x6) S := by
    intro x0 x2 x4 x5 x6 T S h hM hF
    unfold uX7_deed_J46 at h
    unfold pX7_deed_J46
    refine uq_I 122 hM (by decide) (fun _ => rfl) h (fun v49 h => ?_)
    refine ⟨fun c54 => ?_, fun c54 => ?_⟩
    · have h := h.1 c54
      refine uq_at hM h (fun b65 hb65 h => ?_)
      refine rX2_answerTo hM h (fun v65 T S h hM hF1 => ?_) (fun n T S h hM hF1 => hx n T S h hM (hF.tr hF1))
      have hF := hF.tr hF1
      refine um_I 122 hM hF (by decide) h (fun T S h hM hF => ?_)
      refine um_I 123 hM hF (by decide) h (fun T S h hM hF => ?_)
      have jn98 : ∀ (x7 : Int32) (T : mT) (S : qS), uX7_deed_J98 c Q X x7 T → RU g S A C c T → cfr S0 S → pX7_deed_J98 post xp x7 S := by
        intro x7 T S h hM hF
        unfold uX7_deed_J98 at h
        unfold pX7_deed_J98
        exact hp _ _ _ h hM hF
      refine ⟨fun c85 => ?_, fun c85 => ?_⟩
      · have h := h.1 c85
        exact jn98 _ _ _ h hM hF
      · have h := h.2 c85
        refine uq_at hM h (fun b95 hb95 h => ?_)
        refine rX7_carryOut hM h (fun T S h hM hF1 => ?_) (fun n T S h hM hF1 => hx n T S h hM (hF.tr hF1))
        have hF := hF.tr hF1
        exact jn98 _ _ _ h hM hF
    · have h := h.2 c54
      exact hp _ _ _ h hM hF
  refine ⟨fun c28 => ?_, fun c28 => ?_⟩
  · have h := h.1 c28
    exact jn46 _ _ _ _ _ _ _ h hM hF
  · have h := h.2 c28
    refine uq_I 122 hM (by decide) (fun _ => rfl) h (fun v34 h => ?_)
    refine ⟨fun c37 => ?_, fun c37 => ?_⟩
    · have h := h.1 c37
      exact jn46 _ _ _ _ _ _ _ h hM hF
    · have h := h.2 c37
      refine uq_I 123 hM (by decide) (fun _ => rfl) h (fun v42 h => ?_)
      exact hp _ _ _ h hM hF

def uX7_has (c : Nat → Nat) (x0 : Nat) (x1 : Int32) (x2 : Int32) (T : mT) (Q : Int32 → mT → Prop) (X : String → mT → Prop) : Prop :=
  u_at c (some x0) 8 (fun b2 => uX7_playerAt c b2 x1 T (fun v2 T =>
  uX7_checkKind c x2 T (fun T =>
  u_g c v2 3 (fun i => some (i)) (fun v11 =>
  u_a c v11 10 4 x2 (fun i j => T.2.1 2 (4 * i + j)) (fun v15 =>
  Q v15 T))) X) X)
set_option maxHeartbeats 4000000 in
set_option maxRecDepth 100000 in
theorem rX7_has {g : Nat × Nat} {S : qS} {A : Nat → Nat → Nat} {C c : Nat → Nat} {T : mT} {x0 : Nat} {x1 : Int32} {x2 : Int32} {Q : Int32 → mT → Prop} {X : String → mT → Prop} {post : Int32 → qS → Prop} {xp : String → qS → Prop} (hM : RU g S A C c T) (h : uX7_has c x0 x1 x2 T Q X) (hp : ∀ (v : Int32) (T' : mT) (S' : qS), Q v T' → RU g S' A C c T' → cfr S S' → post v S') (hx : ∀ (n : String) (T' : mT) (S' : qS), X n T' → RU g S' A C c T' → cfr S S' → xp n S') : pX7_has (A 8 x0) x1 x2 S post xp := by
  unfold uX7_has at h
  unfold pX7_has
  obtain ⟨S0, hS0⟩ : ∃ S0, S0 = S := ⟨_, rfl⟩
  rw [← hS0] at hp hx
  have hF : cfr S0 S := by rw [hS0]; exact cfr.rf
  clear hS0
  refine uq_at hM h (fun b2 hb2 h => ?_)
  refine rX7_playerAt hM h (fun v2 T S h hM hF1 => ?_) (fun n T S h hM hF1 => hx n T S h hM (hF.tr hF1))
  have hF := hF.tr hF1
  refine rX7_checkKind hM h (fun T S h hM hF1 => ?_) (fun n T S h hM hF1 => hx n T S h hM (hF.tr hF1))
  have hF := hF.tr hF1
  refine uq_S 121 hM (by decide) (fun _ => rfl) h (fun v11 h => ?_)
  refine uq_A (k := 10) hM (by decide) (fun i j => by simp [a_row, a_st]) h (fun v15 h => ?_)
  exact hp _ _ _ h hM hF

def uX7_sum_J23  (c : Nat → Nat) (Q : Int64 → mT → Prop) (X : String → mT → Prop) (t0 : Int64) (T : mT) : Prop :=
  Q t0 T
def uX7_sum (c : Nat → Nat) (x0 : Nat) (x1 : Int32) (x2 : Int32) (T : mT) (Q : Int64 → mT → Prop) (X : String → mT → Prop) : Prop :=
  uX7_checkKind c x1 T (fun T =>
  ((x2 = 0 →
  u_g c (some x0) 8 (fun _ => some (0)) (fun v18 =>
  u_a c v18 18 4 x1 (fun _ j => T.2.2 13 j) (fun v22 =>
  uX7_sum_J23 c Q X v22 T))) ∧ (¬ x2 = 0 →
  u_g c (some x0) 8 (fun _ => some (0)) (fun v9 =>
  u_a c v9 19 4 x1 (fun _ j => T.2.2 14 j) (fun v13 =>
  uX7_sum_J23 c Q X v13 T))))) X
set_option maxHeartbeats 4000000 in
set_option maxRecDepth 100000 in
theorem rX7_sum {g : Nat × Nat} {S : qS} {A : Nat → Nat → Nat} {C c : Nat → Nat} {T : mT} {x0 : Nat} {x1 : Int32} {x2 : Int32} {Q : Int64 → mT → Prop} {X : String → mT → Prop} {post : Int64 → qS → Prop} {xp : String → qS → Prop} (hM : RU g S A C c T) (h : uX7_sum c x0 x1 x2 T Q X) (hp : ∀ (v : Int64) (T' : mT) (S' : qS), Q v T' → RU g S' A C c T' → cfr S S' → post v S') (hx : ∀ (n : String) (T' : mT) (S' : qS), X n T' → RU g S' A C c T' → cfr S S' → xp n S') : pX7_sum (A 8 x0) x1 x2 S post xp := by
  unfold uX7_sum at h
  unfold pX7_sum
  obtain ⟨S0, hS0⟩ : ∃ S0, S0 = S := ⟨_, rfl⟩
  rw [← hS0] at hp hx
  have hF : cfr S0 S := by rw [hS0]; exact cfr.rf
  clear hS0
  refine rX7_checkKind hM h (fun T S h hM hF1 => ?_) (fun n T S h hM hF1 => hx n T S h hM (hF.tr hF1))
  have hF := hF.tr hF1
  have jn23 : ∀ (t0 : Int64) (T : mT) (S : qS), uX7_sum_J23 c Q X t0 T → RU g S A C c T → cfr S0 S → pX7_sum_J23 post xp t0 S := by
    intro t0 T S h hM hF
    unfold uX7_sum_J23 at h
    unfold pX7_sum_J23
    exact hp _ _ _ h hM hF
  refine ⟨fun c5 => ?_, fun c5 => ?_⟩
  · have h := h.1 c5
    refine uq_S 326 hM (by decide) (fun _ => rfl) h (fun v18 h => ?_)
    refine uq_AJ (k := 18) hM (by decide) (fun _ _ => rfl) h (fun v22 h => ?_)
    exact jn23 _ _ _ h hM hF
  · have h := h.2 c5
    refine uq_S 327 hM (by decide) (fun _ => rfl) h (fun v9 h => ?_)
    refine uq_AJ (k := 19) hM (by decide) (fun _ _ => rfl) h (fun v13 h => ?_)
    exact jn23 _ _ _ h hM hF

def uX7_put (c : Nat → Nat) (x0 : Nat) (x1 : Int32) (x2 : Int32) (T : mT) (Q : Int32 → mT → Prop) (X : String → mT → Prop) : Prop :=
  u_g c (some x0) 8 (fun _ => some (0)) (fun v1 =>
  u_at c v1 7 (fun b5 => uX6_at c b5 x1 T (fun v5 T =>
  u_g c (some x0) 8 (fun _ => some (0)) (fun v10 =>
  u_at c v10 7 (fun b14 => uX6_at c b14 x2 T (fun v14 T =>
  u_g c (some x0) 8 (fun _ => some (0)) (fun v20 =>
  u_at c v20 7 (fun b26 => uX6_mayLieIn c b26 v5 v14 T (fun v26 T =>
  ((¬ v26 = 0 →
  (u_vo c 6 v14 ∧ u_g c v5 6 (fun i => m_sA T 18 i (fr v14)) (fun T =>
  (((1 : Int32) = 0 ∨ (1 : Int32) = 1) ∧ Q (1 : Int32) T)))) ∧ (v26 = 0 →
  (((0 : Int32) = 0 ∨ (0 : Int32) = 1) ∧ Q (0 : Int32) T)))) X))) X))) X))
set_option maxHeartbeats 4000000 in
set_option maxRecDepth 100000 in
theorem rX7_put {g : Nat × Nat} {S : qS} {A : Nat → Nat → Nat} {C c : Nat → Nat} {T : mT} {x0 : Nat} {x1 : Int32} {x2 : Int32} {Q : Int32 → mT → Prop} {X : String → mT → Prop} {post : Int32 → qS → Prop} {xp : String → qS → Prop} (hM : RU g S A C c T) (h : uX7_put c x0 x1 x2 T Q X) (hp : ∀ (v : Int32) (T' : mT) (S' : qS), Q v T' → RU g S' A C c T' → cfr S S' → post v S') (hx : ∀ (n : String) (T' : mT) (S' : qS), X n T' → RU g S' A C c T' → cfr S S' → xp n S') : pX7_put (A 8 x0) x1 x2 S post xp := by
  unfold uX7_put at h
  unfold pX7_put
  obtain ⟨S0, hS0⟩ : ∃ S0, S0 = S := ⟨_, rfl⟩
  rw [← hS0] at hp hx
  have hF : cfr S0 S := by rw [hS0]; exact cfr.rf
  clear hS0
  refine uq_S 323 hM (by decide) (fun _ => rfl) h (fun v1 h => ?_)
  refine uq_at hM h (fun b5 hb5 h => ?_)
  refine rX6_at hM h (fun v5 T S h hM hF1 => ?_) (fun n T S h hM hF1 => hx n T S h hM (hF.tr hF1))
  have hF := hF.tr hF1
  refine uq_S 323 hM (by decide) (fun _ => rfl) h (fun v10 h => ?_)
  refine uq_at hM h (fun b14 hb14 h => ?_)
  refine rX6_at hM h (fun v14 T S h hM hF1 => ?_) (fun n T S h hM hF1 => hx n T S h hM (hF.tr hF1))
  have hF := hF.tr hF1
  refine uq_S 323 hM (by decide) (fun _ => rfl) h (fun v20 h => ?_)
  refine uq_at hM h (fun b26 hb26 h => ?_)
  refine rX6_mayLieIn hM h (fun v26 T S h hM hF1 => ?_) (fun n T S h hM hF1 => hx n T S h hM (hF.tr hF1))
  have hF := hF.tr hF1
  refine ⟨fun c29 => ?_, fun c29 => ?_⟩
  · have h := h.1 c29
    refine um_R 250 hM hF (by decide) h (fun T S h hM hF => ?_)
    exact ⟨h.1, hp _ _ _ h.2 hM hF⟩
  · have h := h.2 c29
    exact ⟨h.1, hp _ _ _ h.2 hM hF⟩

def uX7_take (c : Nat → Nat) (x0 : Nat) (x1 : Int32) (T : mT) (Q : Int32 → mT → Prop) (X : String → mT → Prop) : Prop :=
  u_g c (some x0) 8 (fun _ => some (0)) (fun v1 =>
  u_at c v1 7 (fun b5 => uX6_at c b5 x1 T (fun v5 T =>
  u_g c v5 6 (fun i => rf (T.2.1 18 i)) (fun v10 =>
  ((¬ v10 = none →
  (u_vo c 6 (none : Option Nat) ∧ u_g c v5 6 (fun i => m_sA T 18 i (fr (none : Option Nat))) (fun T =>
  (((1 : Int32) = 0 ∨ (1 : Int32) = 1) ∧ Q (1 : Int32) T)))) ∧ (v10 = none →
  (((0 : Int32) = 0 ∨ (0 : Int32) = 1) ∧ Q (0 : Int32) T))))) X))
set_option maxHeartbeats 4000000 in
set_option maxRecDepth 100000 in
theorem rX7_take {g : Nat × Nat} {S : qS} {A : Nat → Nat → Nat} {C c : Nat → Nat} {T : mT} {x0 : Nat} {x1 : Int32} {Q : Int32 → mT → Prop} {X : String → mT → Prop} {post : Int32 → qS → Prop} {xp : String → qS → Prop} (hM : RU g S A C c T) (h : uX7_take c x0 x1 T Q X) (hp : ∀ (v : Int32) (T' : mT) (S' : qS), Q v T' → RU g S' A C c T' → cfr S S' → post v S') (hx : ∀ (n : String) (T' : mT) (S' : qS), X n T' → RU g S' A C c T' → cfr S S' → xp n S') : pX7_take (A 8 x0) x1 S post xp := by
  unfold uX7_take at h
  unfold pX7_take
  obtain ⟨S0, hS0⟩ : ∃ S0, S0 = S := ⟨_, rfl⟩
  rw [← hS0] at hp hx
  have hF : cfr S0 S := by rw [hS0]; exact cfr.rf
  clear hS0
  refine uq_S 323 hM (by decide) (fun _ => rfl) h (fun v1 h => ?_)
  refine uq_at hM h (fun b5 hb5 h => ?_)
  refine rX6_at hM h (fun v5 T S h hM hF1 => ?_) (fun n T S h hM hF1 => hx n T S h hM (hF.tr hF1))
  have hF := hF.tr hF1
  refine uq_R 250 hM (by decide) (fun _ => rfl) h (fun v10 h => ?_)
  refine ⟨fun c13 => ?_, fun c13 => ?_⟩
  · have h := h.1 (fun z => c13 (ua_no.mpr z))
    refine um_R 250 hM hF (by decide) h (fun T S h hM hF => ?_)
    exact ⟨h.1, hp _ _ _ h.2 hM hF⟩
  · have h := h.2 (ua_no.mp c13)
    exact ⟨h.1, hp _ _ _ h.2 hM hF⟩

def uX7_give_J36  (c : Nat → Nat) (Q : Int32 → mT → Prop) (X : String → mT → Prop)  (T : mT) : Prop :=
  (((0 : Int32) = 0 ∨ (0 : Int32) = 1) ∧ Q (0 : Int32) T)
def uX7_give (c : Nat → Nat) (x0 : Nat) (x1 : Int32) (x2 : Int32) (T : mT) (Q : Int32 → mT → Prop) (X : String → mT → Prop) : Prop :=
  u_g c (some x0) 8 (fun _ => some (0)) (fun v1 =>
  u_at c v1 7 (fun b5 => uX6_at c b5 x1 T (fun v5 T =>
  u_at c (some x0) 8 (fun b11 => uX7_playerAt c b11 x2 T (fun v11 T =>
  u_g c v5 6 (fun i => rf (T.2.1 19 i)) (fun v17 =>
  (u_vo c 3 v17 ∧ u_vo c 3 v11 ∧ ((v17 = v11 →
  uX7_give_J36 c Q X T) ∧ (¬ v17 = v11 →
  u_g c (some x0) 8 (fun _ => some (0)) (fun v26 =>
  u_at c v26 7 (fun b30 => uX6_mayLeave c b30 v5 T (fun v30 T =>
  ((¬ v30 = 0 →
  u_g c (some x0) 8 (fun _ => some (0)) (fun v39 =>
  u_g c (some x0) 8 (fun _ => T.1 1) (fun v46 =>
  u_at c v39 7 (fun b49 => uX6_passOn c b49 v5 v11 v46 T (fun T =>
  (((1 : Int32) = 0 ∨ (1 : Int32) = 1) ∧ Q (1 : Int32) T)) X)))) ∧ (v30 = 0 →
  uX7_give_J36 c Q X T))) X))))))) X)) X))
set_option maxHeartbeats 4000000 in
set_option maxRecDepth 100000 in
theorem rX7_give {g : Nat × Nat} {S : qS} {A : Nat → Nat → Nat} {C c : Nat → Nat} {T : mT} {x0 : Nat} {x1 : Int32} {x2 : Int32} {Q : Int32 → mT → Prop} {X : String → mT → Prop} {post : Int32 → qS → Prop} {xp : String → qS → Prop} (hM : RU g S A C c T) (h : uX7_give c x0 x1 x2 T Q X) (hp : ∀ (v : Int32) (T' : mT) (S' : qS), Q v T' → RU g S' A C c T' → cfr S S' → post v S') (hx : ∀ (n : String) (T' : mT) (S' : qS), X n T' → RU g S' A C c T' → cfr S S' → xp n S') : pX7_give (A 8 x0) x1 x2 S post xp := by
  unfold uX7_give at h
  unfold pX7_give
  obtain ⟨S0, hS0⟩ : ∃ S0, S0 = S := ⟨_, rfl⟩
  rw [← hS0] at hp hx
  have hF : cfr S0 S := by rw [hS0]; exact cfr.rf
  clear hS0
  refine uq_S 323 hM (by decide) (fun _ => rfl) h (fun v1 h => ?_)
  refine uq_at hM h (fun b5 hb5 h => ?_)
  refine rX6_at hM h (fun v5 T S h hM hF1 => ?_) (fun n T S h hM hF1 => hx n T S h hM (hF.tr hF1))
  have hF := hF.tr hF1
  refine uq_at hM h (fun b11 hb11 h => ?_)
  refine rX7_playerAt hM h (fun v11 T S h hM hF1 => ?_) (fun n T S h hM hF1 => hx n T S h hM (hF.tr hF1))
  have hF := hF.tr hF1
  refine uq_R 249 hM (by decide) (fun _ => rfl) h (fun v17 h => ?_)
  have jn36 : ∀ (T : mT) (S : qS), uX7_give_J36 c Q X T → RU g S A C c T → cfr S0 S → pX7_give_J36 post xp S := by
    intro T S h hM hF
    unfold uX7_give_J36 at h
    unfold pX7_give_J36
    exact ⟨h.1, hp _ _ _ h.2 hM hF⟩
  obtain ⟨g1, g2, h⟩ := h
  refine ⟨fun c22 => ?_, fun c22 => ?_⟩
  · have h := h.1 ((ua_eq hM g1 g2).mp c22)
    exact jn36 _ _ h hM hF
  · have h := h.2 (fun z => c22 ((ua_eq hM g1 g2).mpr z))
    refine uq_S 323 hM (by decide) (fun _ => rfl) h (fun v26 h => ?_)
    refine uq_at hM h (fun b30 hb30 h => ?_)
    refine rX6_mayLeave hM h (fun v30 T S h hM hF1 => ?_) (fun n T S h hM hF1 => hx n T S h hM (hF.tr hF1))
    have hF := hF.tr hF1
    refine ⟨fun c33 => ?_, fun c33 => ?_⟩
    · have h := h.1 c33
      refine uq_S 323 hM (by decide) (fun _ => rfl) h (fun v39 h => ?_)
      refine uq_F 329 hM (by decide) (fun _ => rfl) h (fun v46 h => ?_)
      refine uq_at hM h (fun b49 hb49 h => ?_)
      refine rX6_passOn hM h (fun T S h hM hF1 => ?_) (fun n T S h hM hF1 => hx n T S h hM (hF.tr hF1))
      have hF := hF.tr hF1
      exact ⟨h.1, hp _ _ _ h.2 hM hF⟩
    · have h := h.2 c33
      exact jn36 _ _ h hM hF

def uX7_lend_J47  (c : Nat → Nat) (Q : Int32 → mT → Prop) (X : String → mT → Prop)  (T : mT) : Prop :=
  (((0 : Int32) = 0 ∨ (0 : Int32) = 1) ∧ Q (0 : Int32) T)
def uX7_lend (c : Nat → Nat) (x0 : Nat) (x1 : Int32) (x2 : Int32) (x3 : Int32) (T : mT) (Q : Int32 → mT → Prop) (X : String → mT → Prop) : Prop :=
  u_g c (some x0) 8 (fun _ => some (0)) (fun v1 =>
  u_at c v1 7 (fun b5 => uX6_at c b5 x1 T (fun v5 T =>
  u_at c (some x0) 8 (fun b12 => uX7_playerAt c b12 x2 T (fun v12 T =>
  u_g c (some x0) 8 (fun _ => T.1 1) (fun v19 =>
  ((x3 ≤ v19 →
  uX7_lend_J47 c Q X T) ∧ (¬ x3 ≤ v19 →
  u_g c v5 6 (fun i => rf (T.2.1 19 i)) (fun v27 =>
  (u_vo c 3 v27 ∧ u_vo c 3 v12 ∧ ((v27 = v12 →
  uX7_lend_J47 c Q X T) ∧ (¬ v27 = v12 →
  u_g c (some x0) 8 (fun _ => some (0)) (fun v36 =>
  u_at c v36 7 (fun b41 => uX6_mayLeave c b41 v5 T (fun v41 T =>
  ((¬ v41 = 0 →
  u_g c v5 6 (fun i => rf (T.2.1 19 i)) (fun v53 =>
  (u_vo c 3 v53 ∧ u_g c v5 6 (fun i => m_sA T 21 i (fr v53)) (fun T =>
  u_g c v5 6 (fun i => m_sA T 20 i x3) (fun T =>
  u_g c (some x0) 8 (fun _ => some (0)) (fun v66 =>
  u_g c (some x0) 8 (fun _ => T.1 1) (fun v74 =>
  u_at c v66 7 (fun b77 => uX6_passOn c b77 v5 v12 v74 T (fun T =>
  (((1 : Int32) = 0 ∨ (1 : Int32) = 1) ∧ Q (1 : Int32) T)) X)))))))) ∧ (v41 = 0 →
  uX7_lend_J47 c Q X T))) X)))))))))) X)) X))
set_option maxHeartbeats 4000000 in
set_option maxRecDepth 100000 in
theorem rX7_lend {g : Nat × Nat} {S : qS} {A : Nat → Nat → Nat} {C c : Nat → Nat} {T : mT} {x0 : Nat} {x1 : Int32} {x2 : Int32} {x3 : Int32} {Q : Int32 → mT → Prop} {X : String → mT → Prop} {post : Int32 → qS → Prop} {xp : String → qS → Prop} (hM : RU g S A C c T) (h : uX7_lend c x0 x1 x2 x3 T Q X) (hp : ∀ (v : Int32) (T' : mT) (S' : qS), Q v T' → RU g S' A C c T' → cfr S S' → post v S') (hx : ∀ (n : String) (T' : mT) (S' : qS), X n T' → RU g S' A C c T' → cfr S S' → xp n S') : pX7_lend (A 8 x0) x1 x2 x3 S post xp := by
  unfold uX7_lend at h
  unfold pX7_lend
  obtain ⟨S0, hS0⟩ : ∃ S0, S0 = S := ⟨_, rfl⟩
  rw [← hS0] at hp hx
  have hF : cfr S0 S := by rw [hS0]; exact cfr.rf
  clear hS0
  refine uq_S 323 hM (by decide) (fun _ => rfl) h (fun v1 h => ?_)
  refine uq_at hM h (fun b5 hb5 h => ?_)
  refine rX6_at hM h (fun v5 T S h hM hF1 => ?_) (fun n T S h hM hF1 => hx n T S h hM (hF.tr hF1))
  have hF := hF.tr hF1
  refine uq_at hM h (fun b12 hb12 h => ?_)
  refine rX7_playerAt hM h (fun v12 T S h hM hF1 => ?_) (fun n T S h hM hF1 => hx n T S h hM (hF.tr hF1))
  have hF := hF.tr hF1
  refine uq_F 329 hM (by decide) (fun _ => rfl) h (fun v19 h => ?_)
  have jn47 : ∀ (T : mT) (S : qS), uX7_lend_J47 c Q X T → RU g S A C c T → cfr S0 S → pX7_lend_J47 post xp S := by
    intro T S h hM hF
    unfold uX7_lend_J47 at h
    unfold pX7_lend_J47
    exact ⟨h.1, hp _ _ _ h.2 hM hF⟩
  refine ⟨fun c22 => ?_, fun c22 => ?_⟩
  · have h := h.1 c22
    exact jn47 _ _ h hM hF
  · have h := h.2 c22
    refine uq_R 249 hM (by decide) (fun _ => rfl) h (fun v27 h => ?_)
    obtain ⟨g1, g2, h⟩ := h
    refine ⟨fun c32 => ?_, fun c32 => ?_⟩
    · have h := h.1 ((ua_eq hM g1 g2).mp c32)
      exact jn47 _ _ h hM hF
    · have h := h.2 (fun z => c32 ((ua_eq hM g1 g2).mpr z))
      refine uq_S 323 hM (by decide) (fun _ => rfl) h (fun v36 h => ?_)
      refine uq_at hM h (fun b41 hb41 h => ?_)
      refine rX6_mayLeave hM h (fun v41 T S h hM hF1 => ?_) (fun n T S h hM hF1 => hx n T S h hM (hF.tr hF1))
      have hF := hF.tr hF1
      refine ⟨fun c44 => ?_, fun c44 => ?_⟩
      · have h := h.1 c44
        refine uq_R 249 hM (by decide) (fun _ => rfl) h (fun v53 h => ?_)
        refine um_R 248 hM hF (by decide) h (fun T S h hM hF => ?_)
        refine um_I 247 hM hF (by decide) h (fun T S h hM hF => ?_)
        refine uq_S 323 hM (by decide) (fun _ => rfl) h (fun v66 h => ?_)
        refine uq_F 329 hM (by decide) (fun _ => rfl) h (fun v74 h => ?_)
        refine uq_at hM h (fun b77 hb77 h => ?_)
        refine rX6_passOn hM h (fun T S h hM hF1 => ?_) (fun n T S h hM hF1 => hx n T S h hM (hF.tr hF1))
        have hF := hF.tr hF1
        exact ⟨h.1, hp _ _ _ h.2 hM hF⟩
      · have h := h.2 c44
        exact jn47 _ _ h hM hF

def uX7_wear_J57  (c : Nat → Nat) (Q : Int32 → mT → Prop) (X : String → mT → Prop) (x3 : Option Nat) (T : mT) : Prop :=
  u_g c x3 6 (fun i => T.2.1 15 i) (fun v58 =>
  Q v58 T)
def uX7_wear (c : Nat → Nat) (x0 : Nat) (x1 : Int32) (x2 : Int32) (T : mT) (Q : Int32 → mT → Prop) (X : String → mT → Prop) : Prop :=
  u_g c (some x0) 8 (fun _ => some (0)) (fun v1 =>
  u_at c v1 7 (fun b5 => uX6_at c b5 x1 T (fun v5 T =>
  uX7_checkRange c x2 (1 : Int32) (100 : Int32) T (fun T =>
  u_at c v5 6 (fun b17 => uX5_isBroken c b17  T (fun v17 T =>
  ((v17 = 0 →
  u_g c v5 6 (fun i => T.2.1 15 i) (fun v27 =>
  u_g c v5 6 (fun i => m_sA T 15 i (if (100 : Int32) < (v27 + x2) then (100 : Int32) else (v27 + x2))) (fun T =>
  u_g c v5 6 (fun i => T.2.1 15 i) (fun v41 =>
  ((¬ v41 = (100 : Int32) →
  uX7_wear_J57 c Q X v5 T) ∧ (v41 = (100 : Int32) →
  u_g c (some x0) 8 (fun _ => some (0)) (fun v50 =>
  u_at c v50 7 (fun b54 => uX6_breakUp c b54 v5 T (fun T =>
  uX7_wear_J57 c Q X v5 T) X)))))))) ∧ (¬ v17 = 0 →
  Q (-1 : Int32) T))) X)) X) X))
set_option maxHeartbeats 4000000 in
set_option maxRecDepth 100000 in
theorem rX7_wear {g : Nat × Nat} {S : qS} {A : Nat → Nat → Nat} {C c : Nat → Nat} {T : mT} {x0 : Nat} {x1 : Int32} {x2 : Int32} {Q : Int32 → mT → Prop} {X : String → mT → Prop} {post : Int32 → qS → Prop} {xp : String → qS → Prop} (hM : RU g S A C c T) (h : uX7_wear c x0 x1 x2 T Q X) (hp : ∀ (v : Int32) (T' : mT) (S' : qS), Q v T' → RU g S' A C c T' → cfr S S' → post v S') (hx : ∀ (n : String) (T' : mT) (S' : qS), X n T' → RU g S' A C c T' → cfr S S' → xp n S') : pX7_wear (A 8 x0) x1 x2 S post xp := by
  unfold uX7_wear at h
  unfold pX7_wear
  obtain ⟨S0, hS0⟩ : ∃ S0, S0 = S := ⟨_, rfl⟩
  rw [← hS0] at hp hx
  have hF : cfr S0 S := by rw [hS0]; exact cfr.rf
  clear hS0
  refine uq_S 323 hM (by decide) (fun _ => rfl) h (fun v1 h => ?_)
  refine uq_at hM h (fun b5 hb5 h => ?_)
  refine rX6_at hM h (fun v5 T S h hM hF1 => ?_) (fun n T S h hM hF1 => hx n T S h hM (hF.tr hF1))
  have hF := hF.tr hF1
  refine rX7_checkRange hM h (fun T S h hM hF1 => ?_) (fun n T S h hM hF1 => hx n T S h hM (hF.tr hF1))
  have hF := hF.tr hF1
  refine uq_at hM h (fun b17 hb17 h => ?_)
  refine rX5_isBroken hM h (fun v17 T S h hM hF1 => ?_) (fun n T S h hM hF1 => hx n T S h hM (hF.tr hF1))
  have hF := hF.tr hF1
  refine ⟨fun c20 => ?_, fun c20 => ?_⟩
  · have h := h.1 c20
    refine uq_I 246 hM (by decide) (fun _ => rfl) h (fun v27 h => ?_)
    refine um_I 246 hM hF (by decide) h (fun T S h hM hF => ?_)
    refine uq_I 246 hM (by decide) (fun _ => rfl) h (fun v41 h => ?_)
    have jn57 : ∀ (x3 : Option Nat) (T : mT) (S : qS), uX7_wear_J57 c Q X x3 T → RU g S A C c T → cfr S0 S → pX7_wear_J57 post xp (Option.map (A 6) x3) S := by
      intro x3 T S h hM hF
      unfold uX7_wear_J57 at h
      unfold pX7_wear_J57
      refine uq_I 246 hM (by decide) (fun _ => rfl) h (fun v58 h => ?_)
      exact hp _ _ _ h hM hF
    refine ⟨fun c46 => ?_, fun c46 => ?_⟩
    · have h := h.1 c46
      exact jn57 _ _ _ h hM hF
    · have h := h.2 c46
      refine uq_S 323 hM (by decide) (fun _ => rfl) h (fun v50 h => ?_)
      refine uq_at hM h (fun b54 hb54 h => ?_)
      refine rX6_breakUp hM h (fun T S h hM hF1 => ?_) (fun n T S h hM hF1 => hx n T S h hM (hF.tr hF1))
      have hF := hF.tr hF1
      exact jn57 _ _ _ h hM hF
  · have h := h.2 c20
    exact hp _ _ _ h hM hF

def uX7_days (c : Nat → Nat) (x0 : Nat) (x1 : Int32) (T : mT) (Q : Int32 → mT → Prop) (X : String → mT → Prop) : Prop :=
  uX7_checkRange c x1 (0 : Int32) (1000 : Int32) T (fun T =>
  u_g c (some x0) 8 (fun _ => T.1 1) (fun v10 =>
  u_g c (some x0) 8 (fun _ => m_sI T 1 (v10 + x1)) (fun T =>
  u_g c (some x0) 8 (fun _ => some (0)) (fun v19 =>
  u_g c (some x0) 8 (fun _ => T.1 1) (fun v23 =>
  u_at c v19 7 (fun b26 => uX6_bringBack c b26 v23 T (fun T =>
  u_g c (some x0) 8 (fun _ => T.1 1) (fun v30 =>
  Q v30 T)) X)))))) X
set_option maxHeartbeats 4000000 in
set_option maxRecDepth 100000 in
theorem rX7_days {g : Nat × Nat} {S : qS} {A : Nat → Nat → Nat} {C c : Nat → Nat} {T : mT} {x0 : Nat} {x1 : Int32} {Q : Int32 → mT → Prop} {X : String → mT → Prop} {post : Int32 → qS → Prop} {xp : String → qS → Prop} (hM : RU g S A C c T) (h : uX7_days c x0 x1 T Q X) (hp : ∀ (v : Int32) (T' : mT) (S' : qS), Q v T' → RU g S' A C c T' → cfr S S' → post v S') (hx : ∀ (n : String) (T' : mT) (S' : qS), X n T' → RU g S' A C c T' → cfr S S' → xp n S') : pX7_days (A 8 x0) x1 S post xp := by
  unfold uX7_days at h
  unfold pX7_days
  obtain ⟨S0, hS0⟩ : ∃ S0, S0 = S := ⟨_, rfl⟩
  rw [← hS0] at hp hx
  have hF : cfr S0 S := by rw [hS0]; exact cfr.rf
  clear hS0
  refine rX7_checkRange hM h (fun T S h hM hF1 => ?_) (fun n T S h hM hF1 => hx n T S h hM (hF.tr hF1))
  have hF := hF.tr hF1
  refine uq_F 329 hM (by decide) (fun _ => rfl) h (fun v10 h => ?_)
  refine um_F 329 hM hF (by decide) h (fun T S h hM hF => ?_)
  refine uq_S 323 hM (by decide) (fun _ => rfl) h (fun v19 h => ?_)
  refine uq_F 329 hM (by decide) (fun _ => rfl) h (fun v23 h => ?_)
  refine uq_at hM h (fun b26 hb26 h => ?_)
  refine rX6_bringBack hM h (fun T S h hM hF1 => ?_) (fun n T S h hM hF1 => hx n T S h hM (hF.tr hF1))
  have hF := hF.tr hF1
  refine uq_F 329 hM (by decide) (fun _ => rfl) h (fun v30 h => ?_)
  exact hp _ _ _ h hM hF

def uX7_look_J86  (c : Nat → Nat) (Q : Int32 → mT → Prop) (X : String → mT → Prop) (t0 : Int32) (T : mT) : Prop :=
  Q t0 T
def uX7_look_J122  (c : Nat → Nat) (Q : Int32 → mT → Prop) (X : String → mT → Prop) (t0 : Int32) (T : mT) : Prop :=
  Q t0 T
def uX7_look (c : Nat → Nat) (x0 : Nat) (x1 : Int32) (x2 : Int32) (T : mT) (Q : Int32 → mT → Prop) (X : String → mT → Prop) : Prop :=
  u_g c (some x0) 8 (fun _ => some (0)) (fun v1 =>
  u_at c v1 7 (fun b5 => uX6_at c b5 x1 T (fun v5 T =>
  ((x2 = 0 →
  u_g c v5 6 (fun i => rf (T.2.1 19 i)) (fun v61 =>
  uX7_numberOf c v61 T (fun v64 T =>
  Q v64 T) X)) ∧
  (x2 = 1 →
  u_g c v5 6 (fun i => rf (T.2.1 18 i)) (fun v69 =>
  ((¬ v69 = none →
  u_g c v5 6 (fun i => rf (T.2.1 18 i)) (fun v80 =>
  u_g c v80 6 (fun i => nI i) (fun v83 =>
  uX7_look_J86 c Q X v83 T))) ∧ (v69 = none →
  uX7_look_J86 c Q X (-1 : Int32) T)))) ∧
  (x2 = 2 →
  u_g c v5 6 (fun i => T.2.1 15 i) (fun v88 =>
  Q v88 T)) ∧
  (x2 = 3 →
  u_g c (some x0) 8 (fun _ => some (0)) (fun v93 =>
  u_at c v93 7 (fun b97 => uX6_rightWithin c b97 v5 T (fun v97 T =>
  Q v97 T) X))) ∧
  (x2 = 4 →
  u_g c (some x0) 8 (fun _ => some (0)) (fun v102 =>
  u_at c v102 7 (fun b106 => uX6_allWithin c b106 v5 T (fun v106 T =>
  Q v106 T) X))) ∧
  (x2 = 5 →
  u_at c v5 6 (fun b111 => uX5_isLent c b111  T (fun v111 T =>
  ((v111 = 0 →
  uX7_look_J122 c Q X (0 : Int32) T) ∧ (¬ v111 = 0 →
  uX7_look_J122 c Q X (1 : Int32) T))) X)) ∧
  (x2 = 6 →
  u_g c v5 6 (fun i => T.2.1 20 i) (fun v124 =>
  Q v124 T)) ∧
  (x2 = 7 →
  u_g c v5 6 (fun i => rf (T.2.1 21 i)) (fun v129 =>
  uX7_numberOf c v129 T (fun v132 T =>
  Q v132 T) X)) ∧
  (x2 = 8 →
  u_g c v5 6 (fun i => T.2.1 24 i) (fun v137 =>
  Q v137 T)) ∧
  ((x2.toInt < 0 ∨ 8 < x2.toInt) →
  X "java/util/NoSuchElementException" T))) X))
set_option maxHeartbeats 4000000 in
set_option maxRecDepth 100000 in
theorem rX7_look {g : Nat × Nat} {S : qS} {A : Nat → Nat → Nat} {C c : Nat → Nat} {T : mT} {x0 : Nat} {x1 : Int32} {x2 : Int32} {Q : Int32 → mT → Prop} {X : String → mT → Prop} {post : Int32 → qS → Prop} {xp : String → qS → Prop} (hM : RU g S A C c T) (h : uX7_look c x0 x1 x2 T Q X) (hp : ∀ (v : Int32) (T' : mT) (S' : qS), Q v T' → RU g S' A C c T' → cfr S S' → post v S') (hx : ∀ (n : String) (T' : mT) (S' : qS), X n T' → RU g S' A C c T' → cfr S S' → xp n S') : pX7_look (A 8 x0) x1 x2 S post xp := by
  unfold uX7_look at h
  unfold pX7_look
  obtain ⟨S0, hS0⟩ : ∃ S0, S0 = S := ⟨_, rfl⟩
  rw [← hS0] at hp hx
  have hF : cfr S0 S := by rw [hS0]; exact cfr.rf
  clear hS0
  refine uq_S 323 hM (by decide) (fun _ => rfl) h (fun v1 h => ?_)
  refine uq_at hM h (fun b5 hb5 h => ?_)
  refine rX6_at hM h (fun v5 T S h hM hF1 => ?_) (fun n T S h hM hF1 => hx n T S h hM (hF.tr hF1))
  have hF := hF.tr hF1
  refine ⟨fun cz => ?_, fun cz => ?_, fun cz => ?_, fun cz => ?_, fun cz => ?_, fun cz => ?_, fun cz => ?_, fun cz => ?_, fun cz => ?_, fun cz => ?_⟩
  · have h := h.1 cz
    refine uq_R 249 hM (by decide) (fun _ => rfl) h (fun v61 h => ?_)
    refine rX7_numberOf hM h (fun v64 T S h hM hF1 => ?_) (fun n T S h hM hF1 => hx n T S h hM (hF.tr hF1))
    have hF := hF.tr hF1
    exact hp _ _ _ h hM hF
  · have h := h.2.1 cz
    refine uq_R 250 hM (by decide) (fun _ => rfl) h (fun v69 h => ?_)
    have jn86 : ∀ (t0 : Int32) (T : mT) (S : qS), uX7_look_J86 c Q X t0 T → RU g S A C c T → cfr S0 S → pX7_look_J86 post xp t0 S := by
      intro t0 T S h hM hF
      unfold uX7_look_J86 at h
      unfold pX7_look_J86
      exact hp _ _ _ h hM hF
    refine ⟨fun c72 => ?_, fun c72 => ?_⟩
    · have h := h.1 (fun z => c72 (ua_no.mpr z))
      refine uq_R 250 hM (by decide) (fun _ => rfl) h (fun v80 h => ?_)
      refine uq_N 240 hM (by decide) (fun _ => rfl) h (fun v83 h => ?_)
      exact jn86 _ _ _ h hM hF
    · have h := h.2 (ua_no.mp c72)
      exact jn86 _ _ _ h hM hF
  · have h := h.2.2.1 cz
    refine uq_I 246 hM (by decide) (fun _ => rfl) h (fun v88 h => ?_)
    exact hp _ _ _ h hM hF
  · have h := h.2.2.2.1 cz
    refine uq_S 323 hM (by decide) (fun _ => rfl) h (fun v93 h => ?_)
    refine uq_at hM h (fun b97 hb97 h => ?_)
    refine rX6_rightWithin hM h (fun v97 T S h hM hF1 => ?_) (fun n T S h hM hF1 => hx n T S h hM (hF.tr hF1))
    have hF := hF.tr hF1
    exact hp _ _ _ h hM hF
  · have h := h.2.2.2.2.1 cz
    refine uq_S 323 hM (by decide) (fun _ => rfl) h (fun v102 h => ?_)
    refine uq_at hM h (fun b106 hb106 h => ?_)
    refine rX6_allWithin hM h (fun v106 T S h hM hF1 => ?_) (fun n T S h hM hF1 => hx n T S h hM (hF.tr hF1))
    have hF := hF.tr hF1
    exact hp _ _ _ h hM hF
  · have h := h.2.2.2.2.2.1 cz
    refine uq_at hM h (fun b111 hb111 h => ?_)
    refine rX5_isLent hM h (fun v111 T S h hM hF1 => ?_) (fun n T S h hM hF1 => hx n T S h hM (hF.tr hF1))
    have hF := hF.tr hF1
    have jn122 : ∀ (t0 : Int32) (T : mT) (S : qS), uX7_look_J122 c Q X t0 T → RU g S A C c T → cfr S0 S → pX7_look_J122 post xp t0 S := by
      intro t0 T S h hM hF
      unfold uX7_look_J122 at h
      unfold pX7_look_J122
      exact hp _ _ _ h hM hF
    refine ⟨fun c114 => ?_, fun c114 => ?_⟩
    · have h := h.1 c114
      exact jn122 _ _ _ h hM hF
    · have h := h.2 c114
      exact jn122 _ _ _ h hM hF
  · have h := h.2.2.2.2.2.2.1 cz
    refine uq_I 247 hM (by decide) (fun _ => rfl) h (fun v124 h => ?_)
    exact hp _ _ _ h hM hF
  · have h := h.2.2.2.2.2.2.2.1 cz
    refine uq_R 248 hM (by decide) (fun _ => rfl) h (fun v129 h => ?_)
    refine rX7_numberOf hM h (fun v132 T S h hM hF1 => ?_) (fun n T S h hM hF1 => hx n T S h hM (hF.tr hF1))
    have hF := hF.tr hF1
    exact hp _ _ _ h hM hF
  · have h := h.2.2.2.2.2.2.2.2.1 cz
    refine uq_I 245 hM (by decide) (fun _ => rfl) h (fun v137 h => ?_)
    exact hp _ _ _ h hM hF
  · have h := h.2.2.2.2.2.2.2.2.2 cz
    exact hx _ _ _ h hM hF

def uX7_line_J29  (c : Nat → Nat) (Q : Int32 → mT → Prop) (X : String → mT → Prop)  (T : mT) : Prop :=
  Q (-1 : Int32) T
def uX7_line_J52  (c : Nat → Nat) (Q : Int32 → mT → Prop) (X : String → mT → Prop) (t0 : Int32) (T : mT) : Prop :=
  Q t0 T
def uX7_line (c : Nat → Nat) (x0 : Nat) (x1 : Int32) (x2 : Int32) (x3 : Int32) (T : mT) (Q : Int32 → mT → Prop) (X : String → mT → Prop) : Prop :=
  u_g c (some x0) 8 (fun _ => some (0)) (fun v1 =>
  u_at c v1 7 (fun b5 => uX6_at c b5 x1 T (fun v5 T =>
  ((x2 < 0 →
  uX7_line_J29 c Q X T) ∧ (¬ x2 < 0 →
  u_g c v5 6 (fun i => T.2.1 24 i) (fun v17 =>
  ((v17 ≤ x2 →
  uX7_line_J29 c Q X T) ∧ (¬ v17 ≤ x2 →
  ((x2 < (30 : Int32) →
  ((x3 = 0 →
  u_g c v5 6 (fun i => some (i)) (fun v47 =>
  u_a c v47 13 30 x2 (fun i j => T.2.1 22 (30 * i + j)) (fun v51 =>
  uX7_line_J52 c Q X v51 T))) ∧ (¬ x3 = 0 →
  u_g c v5 6 (fun i => some (i)) (fun v37 =>
  u_a c v37 14 30 x2 (fun i j => T.2.1 23 (30 * i + j)) (fun v41 =>
  uX7_line_J52 c Q X v41 T))))) ∧ (¬ x2 < (30 : Int32) →
  uX7_line_J29 c Q X T)))))))) X))
set_option maxHeartbeats 4000000 in
set_option maxRecDepth 100000 in
theorem rX7_line {g : Nat × Nat} {S : qS} {A : Nat → Nat → Nat} {C c : Nat → Nat} {T : mT} {x0 : Nat} {x1 : Int32} {x2 : Int32} {x3 : Int32} {Q : Int32 → mT → Prop} {X : String → mT → Prop} {post : Int32 → qS → Prop} {xp : String → qS → Prop} (hM : RU g S A C c T) (h : uX7_line c x0 x1 x2 x3 T Q X) (hp : ∀ (v : Int32) (T' : mT) (S' : qS), Q v T' → RU g S' A C c T' → cfr S S' → post v S') (hx : ∀ (n : String) (T' : mT) (S' : qS), X n T' → RU g S' A C c T' → cfr S S' → xp n S') : pX7_line (A 8 x0) x1 x2 x3 S post xp := by
  unfold uX7_line at h
  unfold pX7_line
  obtain ⟨S0, hS0⟩ : ∃ S0, S0 = S := ⟨_, rfl⟩
  rw [← hS0] at hp hx
  have hF : cfr S0 S := by rw [hS0]; exact cfr.rf
  clear hS0
  refine uq_S 323 hM (by decide) (fun _ => rfl) h (fun v1 h => ?_)
  refine uq_at hM h (fun b5 hb5 h => ?_)
  refine rX6_at hM h (fun v5 T S h hM hF1 => ?_) (fun n T S h hM hF1 => hx n T S h hM (hF.tr hF1))
  have hF := hF.tr hF1
  have jn29 : ∀ (T : mT) (S : qS), uX7_line_J29 c Q X T → RU g S A C c T → cfr S0 S → pX7_line_J29 post xp S := by
    intro T S h hM hF
    unfold uX7_line_J29 at h
    unfold pX7_line_J29
    exact hp _ _ _ h hM hF
  refine ⟨fun c11 => ?_, fun c11 => ?_⟩
  · have h := h.1 c11
    exact jn29 _ _ h hM hF
  · have h := h.2 c11
    refine uq_I 245 hM (by decide) (fun _ => rfl) h (fun v17 h => ?_)
    refine ⟨fun c20 => ?_, fun c20 => ?_⟩
    · have h := h.1 c20
      exact jn29 _ _ h hM hF
    · have h := h.2 c20
      refine ⟨fun c26 => ?_, fun c26 => ?_⟩
      · have h := h.1 c26
        have jn52 : ∀ (t0 : Int32) (T : mT) (S : qS), uX7_line_J52 c Q X t0 T → RU g S A C c T → cfr S0 S → pX7_line_J52 post xp t0 S := by
          intro t0 T S h hM hF
          unfold uX7_line_J52 at h
          unfold pX7_line_J52
          exact hp _ _ _ h hM hF
        refine ⟨fun c32 => ?_, fun c32 => ?_⟩
        · have h := h.1 c32
          refine uq_S 243 hM (by decide) (fun _ => rfl) h (fun v47 h => ?_)
          refine uq_A (k := 13) hM (by decide) (fun i j => by simp [a_row, a_st]) h (fun v51 h => ?_)
          exact jn52 _ _ _ h hM hF
        · have h := h.2 c32
          refine uq_S 244 hM (by decide) (fun _ => rfl) h (fun v37 h => ?_)
          refine uq_A (k := 14) hM (by decide) (fun i j => by simp [a_row, a_st]) h (fun v41 h => ?_)
          exact jn52 _ _ _ h hM hF
      · have h := h.2 c26
        exact jn29 _ _ h hM hF

def uX7_mayHandOver_J40  (c : Nat → Nat) (Q : Int32 → mT → Prop) (X : String → mT → Prop) (t0 : Int32) (T : mT) : Prop :=
  ((t0 = 0 ∨ t0 = 1) ∧ Q t0 T)
def uX7_mayHandOver_J35  (c : Nat → Nat) (Q : Int32 → mT → Prop) (X : String → mT → Prop)  (T : mT) : Prop :=
  uX7_mayHandOver_J40 c Q X (1 : Int32) T
def uX7_mayHandOver_J39  (c : Nat → Nat) (Q : Int32 → mT → Prop) (X : String → mT → Prop)  (T : mT) : Prop :=
  uX7_mayHandOver_J40 c Q X (0 : Int32) T
def uX7_mayHandOver (c : Nat → Nat) (x0 : Nat) (x1 : Option Nat) (T : mT) (Q : Int32 → mT → Prop) (X : String → mT → Prop) : Prop :=
  u_g c x1 5 (fun i => rf (T.2.1 26 (10 * (i / 2) + (if i % 2 = 0 then 4 else 7)))) (fun v1 =>
  ((v1 = none →
  uX7_mayHandOver_J35 c Q X T) ∧ (¬ v1 = none →
  u_g c x1 5 (fun i => rf (T.2.1 26 (10 * (i / 2) + (if i % 2 = 0 then 4 else 7)))) (fun v8 =>
  u_g c v8 6 (fun i => rf (T.2.1 19 i)) (fun v11 =>
  u_g c x1 5 (fun i => rf (T.2.1 26 (10 * (i / 2) + (if i % 2 = 0 then 0 else 1)))) (fun v15 =>
  (u_vo c 3 v11 ∧ u_vo c 3 v15 ∧ ((¬ v11 = v15 →
  uX7_mayHandOver_J39 c Q X T) ∧ (v11 = v15 →
  u_g c (some x0) 8 (fun _ => some (0)) (fun v22 =>
  u_g c x1 5 (fun i => rf (T.2.1 26 (10 * (i / 2) + (if i % 2 = 0 then 4 else 7)))) (fun v26 =>
  u_at c v22 7 (fun b29 => uX6_mayLeave c b29 v26 T (fun v29 T =>
  ((v29 = 0 →
  uX7_mayHandOver_J39 c Q X T) ∧ (¬ v29 = 0 →
  uX7_mayHandOver_J35 c Q X T))) X))))))))))))
set_option maxHeartbeats 4000000 in
set_option maxRecDepth 100000 in
theorem rX7_mayHandOver {g : Nat × Nat} {S : qS} {A : Nat → Nat → Nat} {C c : Nat → Nat} {T : mT} {x0 : Nat} {x1 : Option Nat} {Q : Int32 → mT → Prop} {X : String → mT → Prop} {post : Int32 → qS → Prop} {xp : String → qS → Prop} (hM : RU g S A C c T) (h : uX7_mayHandOver c x0 x1 T Q X) (hp : ∀ (v : Int32) (T' : mT) (S' : qS), Q v T' → RU g S' A C c T' → cfr S S' → post v S') (hx : ∀ (n : String) (T' : mT) (S' : qS), X n T' → RU g S' A C c T' → cfr S S' → xp n S') : pX7_mayHandOver (A 8 x0) (Option.map (A 5) x1) S post xp := by
  unfold uX7_mayHandOver at h
  unfold pX7_mayHandOver
  obtain ⟨S0, hS0⟩ : ∃ S0, S0 = S := ⟨_, rfl⟩
  rw [← hS0] at hp hx
  have hF : cfr S0 S := by rw [hS0]; exact cfr.rf
  clear hS0
  refine uq_R 203 hM (by decide) (fun _ => rfl) h (fun v1 h => ?_)
  have jn40 : ∀ (t0 : Int32) (T : mT) (S : qS), uX7_mayHandOver_J40 c Q X t0 T → RU g S A C c T → cfr S0 S → pX7_mayHandOver_J40 post xp t0 S := by
    intro t0 T S h hM hF
    unfold uX7_mayHandOver_J40 at h
    unfold pX7_mayHandOver_J40
    exact ⟨h.1, hp _ _ _ h.2 hM hF⟩
  have jn35 : ∀ (T : mT) (S : qS), uX7_mayHandOver_J35 c Q X T → RU g S A C c T → cfr S0 S → pX7_mayHandOver_J35 post xp S := by
    intro T S h hM hF
    unfold uX7_mayHandOver_J35 at h
    unfold pX7_mayHandOver_J35
    exact jn40 _ _ _ h hM hF
  refine ⟨fun c4 => ?_, fun c4 => ?_⟩
  · have h := h.1 (ua_no.mp c4)
    exact jn35 _ _ h hM hF
  · have h := h.2 (fun z => c4 (ua_no.mpr z))
    refine uq_R 203 hM (by decide) (fun _ => rfl) h (fun v8 h => ?_)
    refine uq_R 249 hM (by decide) (fun _ => rfl) h (fun v11 h => ?_)
    refine uq_R 200 hM (by decide) (fun _ => rfl) h (fun v15 h => ?_)
    have jn39 : ∀ (T : mT) (S : qS), uX7_mayHandOver_J39 c Q X T → RU g S A C c T → cfr S0 S → pX7_mayHandOver_J39 post xp S := by
      intro T S h hM hF
      unfold uX7_mayHandOver_J39 at h
      unfold pX7_mayHandOver_J39
      exact jn40 _ _ _ h hM hF
    obtain ⟨g1, g2, h⟩ := h
    refine ⟨fun c18 => ?_, fun c18 => ?_⟩
    · have h := h.1 (fun z => c18 ((ua_eq hM g1 g2).mpr z))
      exact jn39 _ _ h hM hF
    · have h := h.2 ((ua_eq hM g1 g2).mp c18)
      refine uq_S 323 hM (by decide) (fun _ => rfl) h (fun v22 h => ?_)
      refine uq_R 203 hM (by decide) (fun _ => rfl) h (fun v26 h => ?_)
      refine uq_at hM h (fun b29 hb29 h => ?_)
      refine rX6_mayLeave hM h (fun v29 T S h hM hF1 => ?_) (fun n T S h hM hF1 => hx n T S h hM (hF.tr hF1))
      have hF := hF.tr hF1
      refine ⟨fun c32 => ?_, fun c32 => ?_⟩
      · have h := h.1 c32
        exact jn39 _ _ h hM hF
      · have h := h.2 c32
        exact jn35 _ _ h hM hF

def uX7_answerTo_J99  (c : Nat → Nat) (Q : Int32 → mT → Prop) (X : String → mT → Prop) (t0 : Int32) (T : mT) : Prop :=
  Q t0 T
def uX7_answerTo_J93  (c : Nat → Nat) (Q : Int32 → mT → Prop) (X : String → mT → Prop)  (T : mT) : Prop :=
  uX7_answerTo_J99 c Q X (8 : Int32) T
def uX7_answerTo (c : Nat → Nat) (x0 : Nat) (x1 : Option Nat) (T : mT) (Q : Int32 → mT → Prop) (X : String → mT → Prop) : Prop :=
  u_g c x1 2 (fun i => some (2 * i)) (fun v1 =>
  u_g c x1 2 (fun i => some (2 * i + 1)) (fun v6 =>
  u_g c x1 2 (fun i => T.2.1 27 i) (fun v11 =>
  ((¬ v11 = 0 →
  u_at c v1 5 (fun b20 => uX4_hasTooFew c b20  T (fun v20 T =>
  ((v20 = 0 →
  u_at c v6 5 (fun b29 => uX4_hasTooFew c b29  T (fun v29 T =>
  ((v29 = 0 →
  u_at c v1 5 (fun b39 => uX4_wouldHaveTooMany c b39 v6 T (fun v39 T =>
  ((v39 = 0 →
  u_at c v6 5 (fun b49 => uX4_wouldHaveTooMany c b49 v1 T (fun v49 T =>
  ((v49 = 0 →
  u_at c (some x0) 8 (fun b59 => uX7_mayHandOver c b59 v1 T (fun v59 T =>
  ((¬ v59 = 0 →
  u_at c (some x0) 8 (fun b70 => uX7_mayHandOver c b70 v6 T (fun v70 T =>
  ((¬ v70 = 0 →
  u_at c v1 5 (fun b80 => uX4_isWornSince c b80  T (fun v80 T =>
  ((¬ v80 = 0 →
  uX7_answerTo_J93 c Q X T) ∧ (v80 = 0 →
  u_at c v6 5 (fun b87 => uX4_isWornSince c b87  T (fun v87 T =>
  ((v87 = 0 →
  uX7_answerTo_J99 c Q X (0 : Int32) T) ∧ (¬ v87 = 0 →
  uX7_answerTo_J93 c Q X T))) X)))) X)) ∧ (v70 = 0 →
  Q (7 : Int32) T))) X)) ∧ (v59 = 0 →
  Q (6 : Int32) T))) X)) ∧ (¬ v49 = 0 →
  Q (5 : Int32) T))) X)) ∧ (¬ v39 = 0 →
  Q (4 : Int32) T))) X)) ∧ (¬ v29 = 0 →
  Q (3 : Int32) T))) X)) ∧ (¬ v20 = 0 →
  Q (2 : Int32) T))) X)) ∧ (v11 = 0 →
  Q (1 : Int32) T)))))
set_option maxHeartbeats 4000000 in
set_option maxRecDepth 100000 in
theorem rX7_answerTo {g : Nat × Nat} {S : qS} {A : Nat → Nat → Nat} {C c : Nat → Nat} {T : mT} {x0 : Nat} {x1 : Option Nat} {Q : Int32 → mT → Prop} {X : String → mT → Prop} {post : Int32 → qS → Prop} {xp : String → qS → Prop} (hM : RU g S A C c T) (h : uX7_answerTo c x0 x1 T Q X) (hp : ∀ (v : Int32) (T' : mT) (S' : qS), Q v T' → RU g S' A C c T' → cfr S S' → post v S') (hx : ∀ (n : String) (T' : mT) (S' : qS), X n T' → RU g S' A C c T' → cfr S S' → xp n S') : pX7_answerTo (A 8 x0) (Option.map (A 2) x1) S post xp := by
  unfold uX7_answerTo at h
  unfold pX7_answerTo
  obtain ⟨S0, hS0⟩ : ∃ S0, S0 = S := ⟨_, rfl⟩
  rw [← hS0] at hp hx
  have hF : cfr S0 S := by rw [hS0]; exact cfr.rf
  clear hS0
  refine uq_S 80 hM (by decide) (fun _ => rfl) h (fun v1 h => ?_)
  refine uq_S 81 hM (by decide) (fun _ => rfl) h (fun v6 h => ?_)
  refine uq_I 82 hM (by decide) (fun _ => rfl) h (fun v11 h => ?_)
  refine ⟨fun c14 => ?_, fun c14 => ?_⟩
  · have h := h.1 c14
    refine uq_at hM h (fun b20 hb20 h => ?_)
    refine rX4_hasTooFew hM h (fun v20 T S h hM hF1 => ?_) (fun n T S h hM hF1 => hx n T S h hM (hF.tr hF1))
    have hF := hF.tr hF1
    refine ⟨fun c23 => ?_, fun c23 => ?_⟩
    · have h := h.1 c23
      refine uq_at hM h (fun b29 hb29 h => ?_)
      refine rX4_hasTooFew hM h (fun v29 T S h hM hF1 => ?_) (fun n T S h hM hF1 => hx n T S h hM (hF.tr hF1))
      have hF := hF.tr hF1
      refine ⟨fun c32 => ?_, fun c32 => ?_⟩
      · have h := h.1 c32
        refine uq_at hM h (fun b39 hb39 h => ?_)
        refine rX4_wouldHaveTooMany hM h (fun v39 T S h hM hF1 => ?_) (fun n T S h hM hF1 => hx n T S h hM (hF.tr hF1))
        have hF := hF.tr hF1
        refine ⟨fun c42 => ?_, fun c42 => ?_⟩
        · have h := h.1 c42
          refine uq_at hM h (fun b49 hb49 h => ?_)
          refine rX4_wouldHaveTooMany hM h (fun v49 T S h hM hF1 => ?_) (fun n T S h hM hF1 => hx n T S h hM (hF.tr hF1))
          have hF := hF.tr hF1
          refine ⟨fun c52 => ?_, fun c52 => ?_⟩
          · have h := h.1 c52
            refine uq_at hM h (fun b59 hb59 h => ?_)
            refine rX7_mayHandOver hM h (fun v59 T S h hM hF1 => ?_) (fun n T S h hM hF1 => hx n T S h hM (hF.tr hF1))
            have hF := hF.tr hF1
            refine ⟨fun c62 => ?_, fun c62 => ?_⟩
            · have h := h.1 c62
              refine uq_at hM h (fun b70 hb70 h => ?_)
              refine rX7_mayHandOver hM h (fun v70 T S h hM hF1 => ?_) (fun n T S h hM hF1 => hx n T S h hM (hF.tr hF1))
              have hF := hF.tr hF1
              refine ⟨fun c73 => ?_, fun c73 => ?_⟩
              · have h := h.1 c73
                refine uq_at hM h (fun b80 hb80 h => ?_)
                refine rX4_isWornSince hM h (fun v80 T S h hM hF1 => ?_) (fun n T S h hM hF1 => hx n T S h hM (hF.tr hF1))
                have hF := hF.tr hF1
                have jn99 : ∀ (t0 : Int32) (T : mT) (S : qS), uX7_answerTo_J99 c Q X t0 T → RU g S A C c T → cfr S0 S → pX7_answerTo_J99 post xp t0 S := by
                  intro t0 T S h hM hF
                  unfold uX7_answerTo_J99 at h
                  unfold pX7_answerTo_J99
                  exact hp _ _ _ h hM hF
                have jn93 : ∀ (T : mT) (S : qS), uX7_answerTo_J93 c Q X T → RU g S A C c T → cfr S0 S → pX7_answerTo_J93 post xp S := by
                  intro T S h hM hF
                  unfold uX7_answerTo_J93 at h
                  unfold pX7_answerTo_J93
                  exact jn99 _ _ _ h hM hF
                refine ⟨fun c83 => ?_, fun c83 => ?_⟩
                · have h := h.1 c83
                  exact jn93 _ _ h hM hF
                · have h := h.2 c83
                  refine uq_at hM h (fun b87 hb87 h => ?_)
                  refine rX4_isWornSince hM h (fun v87 T S h hM hF1 => ?_) (fun n T S h hM hF1 => hx n T S h hM (hF.tr hF1))
                  have hF := hF.tr hF1
                  refine ⟨fun c90 => ?_, fun c90 => ?_⟩
                  · have h := h.1 c90
                    exact jn99 _ _ _ h hM hF
                  · have h := h.2 c90
                    exact jn93 _ _ h hM hF
              · have h := h.2 c73
                exact hp _ _ _ h hM hF
            · have h := h.2 c62
              exact hp _ _ _ h hM hF
          · have h := h.2 c52
            exact hp _ _ _ h hM hF
        · have h := h.2 c42
          exact hp _ _ _ h hM hF
      · have h := h.2 c32
        exact hp _ _ _ h hM hF
    · have h := h.2 c23
      exact hp _ _ _ h hM hF
  · have h := h.2 c14
    exact hp _ _ _ h hM hF

def uX7_trade_J128  (c : Nat → Nat) (Q : mT → Prop) (X : String → mT → Prop)  (T : mT) : Prop :=
  Q T
def uX7_trade_J102  (c : Nat → Nat) (Q : mT → Prop) (X : String → mT → Prop) (x0 : Option Nat) (x1 : Option Nat) (x2 : Option Nat) (T : mT) : Prop :=
  u_g c x2 5 (fun i => rf (T.2.1 26 (10 * (i / 2) + (if i % 2 = 0 then 4 else 7)))) (fun v103 =>
  ((v103 = none →
  uX7_trade_J128 c Q X T) ∧ (¬ v103 = none →
  u_g c x0 8 (fun _ => some (0)) (fun v110 =>
  u_g c x2 5 (fun i => rf (T.2.1 26 (10 * (i / 2) + (if i % 2 = 0 then 4 else 7)))) (fun v114 =>
  u_g c x1 5 (fun i => rf (T.2.1 26 (10 * (i / 2) + (if i % 2 = 0 then 0 else 1)))) (fun v118 =>
  u_g c x0 8 (fun _ => T.1 1) (fun v122 =>
  u_at c v110 7 (fun b125 => uX6_passOn c b125 v114 v118 v122 T (fun T =>
  uX7_trade_J128 c Q X T) X))))))))
def uX7_trade (c : Nat → Nat) (x0 : Nat) (x1 : Option Nat) (x2 : Option Nat) (T : mT) (Q : mT → Prop) (X : String → mT → Prop) : Prop :=
  u_g c x1 5 (fun i => rf (T.2.1 26 (10 * (i / 2) + (if i % 2 = 0 then 0 else 1)))) (fun v1 =>
  u_g c v1 3 (fun i => some (i)) (fun v4 =>
  u_g c x1 5 (fun i => T.2.1 26 (10 * (i / 2) + (if i % 2 = 0 then 3 else 6))) (fun v8 =>
  u_a c v4 10 4 v8 (fun i j => T.2.1 2 (4 * i + j)) (fun v12 =>
  u_g c x1 5 (fun i => T.2.1 26 (10 * (i / 2) + (if i % 2 = 0 then 2 else 5))) (fun v14 =>
  u_a c v4 10 4 v8 (fun i j => m_sA T 2 (4 * i + j) (v12 - v14)) (fun T =>
  u_g c x2 5 (fun i => rf (T.2.1 26 (10 * (i / 2) + (if i % 2 = 0 then 0 else 1)))) (fun v20 =>
  u_g c v20 3 (fun i => some (i)) (fun v23 =>
  u_g c x2 5 (fun i => T.2.1 26 (10 * (i / 2) + (if i % 2 = 0 then 3 else 6))) (fun v27 =>
  u_a c v23 10 4 v27 (fun i j => T.2.1 2 (4 * i + j)) (fun v31 =>
  u_g c x2 5 (fun i => T.2.1 26 (10 * (i / 2) + (if i % 2 = 0 then 2 else 5))) (fun v33 =>
  u_a c v23 10 4 v27 (fun i j => m_sA T 2 (4 * i + j) (v31 - v33)) (fun T =>
  u_g c x1 5 (fun i => rf (T.2.1 26 (10 * (i / 2) + (if i % 2 = 0 then 0 else 1)))) (fun v39 =>
  u_g c v39 3 (fun i => some (i)) (fun v42 =>
  u_g c x2 5 (fun i => T.2.1 26 (10 * (i / 2) + (if i % 2 = 0 then 3 else 6))) (fun v46 =>
  u_a c v42 10 4 v46 (fun i j => T.2.1 2 (4 * i + j)) (fun v50 =>
  u_g c x2 5 (fun i => T.2.1 26 (10 * (i / 2) + (if i % 2 = 0 then 2 else 5))) (fun v52 =>
  u_a c v42 10 4 v46 (fun i j => m_sA T 2 (4 * i + j) (v50 + v52)) (fun T =>
  u_g c x2 5 (fun i => rf (T.2.1 26 (10 * (i / 2) + (if i % 2 = 0 then 0 else 1)))) (fun v58 =>
  u_g c v58 3 (fun i => some (i)) (fun v61 =>
  u_g c x1 5 (fun i => T.2.1 26 (10 * (i / 2) + (if i % 2 = 0 then 3 else 6))) (fun v65 =>
  u_a c v61 10 4 v65 (fun i j => T.2.1 2 (4 * i + j)) (fun v69 =>
  u_g c x1 5 (fun i => T.2.1 26 (10 * (i / 2) + (if i % 2 = 0 then 2 else 5))) (fun v71 =>
  u_a c v61 10 4 v65 (fun i j => m_sA T 2 (4 * i + j) (v69 + v71)) (fun T =>
  u_g c x1 5 (fun i => rf (T.2.1 26 (10 * (i / 2) + (if i % 2 = 0 then 4 else 7)))) (fun v77 =>
  ((v77 = none →
  uX7_trade_J102 c Q X (some x0) x1 x2 T) ∧ (¬ v77 = none →
  u_g c (some x0) 8 (fun _ => some (0)) (fun v84 =>
  u_g c x1 5 (fun i => rf (T.2.1 26 (10 * (i / 2) + (if i % 2 = 0 then 4 else 7)))) (fun v88 =>
  u_g c x2 5 (fun i => rf (T.2.1 26 (10 * (i / 2) + (if i % 2 = 0 then 0 else 1)))) (fun v92 =>
  u_g c (some x0) 8 (fun _ => T.1 1) (fun v96 =>
  u_at c v84 7 (fun b99 => uX6_passOn c b99 v88 v92 v96 T (fun T =>
  uX7_trade_J102 c Q X (some x0) x1 x2 T) X))))))))))))))))))))))))))))))))
set_option maxHeartbeats 4000000 in
set_option maxRecDepth 100000 in
theorem rX7_trade {g : Nat × Nat} {S : qS} {A : Nat → Nat → Nat} {C c : Nat → Nat} {T : mT} {x0 : Nat} {x1 : Option Nat} {x2 : Option Nat} {Q : mT → Prop} {X : String → mT → Prop} {post : qS → Prop} {xp : String → qS → Prop} (hM : RU g S A C c T) (h : uX7_trade c x0 x1 x2 T Q X) (hp : ∀ (T' : mT) (S' : qS), Q T' → RU g S' A C c T' → cfr S S' → post S') (hx : ∀ (n : String) (T' : mT) (S' : qS), X n T' → RU g S' A C c T' → cfr S S' → xp n S') : pX7_trade (A 8 x0) (Option.map (A 5) x1) (Option.map (A 5) x2) S post xp := by
  unfold uX7_trade at h
  unfold pX7_trade
  obtain ⟨S0, hS0⟩ : ∃ S0, S0 = S := ⟨_, rfl⟩
  rw [← hS0] at hp hx
  have hF : cfr S0 S := by rw [hS0]; exact cfr.rf
  clear hS0
  refine uq_R 200 hM (by decide) (fun _ => rfl) h (fun v1 h => ?_)
  refine uq_S 121 hM (by decide) (fun _ => rfl) h (fun v4 h => ?_)
  refine uq_I 202 hM (by decide) (fun _ => rfl) h (fun v8 h => ?_)
  refine uq_A (k := 10) hM (by decide) (fun i j => by simp [a_row, a_st]) h (fun v12 h => ?_)
  refine uq_I 201 hM (by decide) (fun _ => rfl) h (fun v14 h => ?_)
  refine um_A (k := 10) hM hF (by decide) (fun i j => by simp [a_row, a_st]) h (fun T S h hM hF => ?_)
  refine uq_R 200 hM (by decide) (fun _ => rfl) h (fun v20 h => ?_)
  refine uq_S 121 hM (by decide) (fun _ => rfl) h (fun v23 h => ?_)
  refine uq_I 202 hM (by decide) (fun _ => rfl) h (fun v27 h => ?_)
  refine uq_A (k := 10) hM (by decide) (fun i j => by simp [a_row, a_st]) h (fun v31 h => ?_)
  refine uq_I 201 hM (by decide) (fun _ => rfl) h (fun v33 h => ?_)
  refine um_A (k := 10) hM hF (by decide) (fun i j => by simp [a_row, a_st]) h (fun T S h hM hF => ?_)
  refine uq_R 200 hM (by decide) (fun _ => rfl) h (fun v39 h => ?_)
  refine uq_S 121 hM (by decide) (fun _ => rfl) h (fun v42 h => ?_)
  refine uq_I 202 hM (by decide) (fun _ => rfl) h (fun v46 h => ?_)
  refine uq_A (k := 10) hM (by decide) (fun i j => by simp [a_row, a_st]) h (fun v50 h => ?_)
  refine uq_I 201 hM (by decide) (fun _ => rfl) h (fun v52 h => ?_)
  refine um_A (k := 10) hM hF (by decide) (fun i j => by simp [a_row, a_st]) h (fun T S h hM hF => ?_)
  refine uq_R 200 hM (by decide) (fun _ => rfl) h (fun v58 h => ?_)
  refine uq_S 121 hM (by decide) (fun _ => rfl) h (fun v61 h => ?_)
  refine uq_I 202 hM (by decide) (fun _ => rfl) h (fun v65 h => ?_)
  refine uq_A (k := 10) hM (by decide) (fun i j => by simp [a_row, a_st]) h (fun v69 h => ?_)
  refine uq_I 201 hM (by decide) (fun _ => rfl) h (fun v71 h => ?_)
  refine um_A (k := 10) hM hF (by decide) (fun i j => by simp [a_row, a_st]) h (fun T S h hM hF => ?_)
  refine uq_R 203 hM (by decide) (fun _ => rfl) h (fun v77 h => ?_)
  have jn102 : ∀ (x0 : Option Nat) (x1 : Option Nat) (x2 : Option Nat) (T : mT) (S : qS), uX7_trade_J102 c Q X x0 x1 x2 T → RU g S A C c T → cfr S0 S → pX7_trade_J102 post xp (Option.map (A 8) x0) (Option.map (A 5) x1) (Option.map (A 5) x2) S := by
    intro x0 x1 x2 T S h hM hF
    unfold uX7_trade_J102 at h
    unfold pX7_trade_J102
    refine uq_R 203 hM (by decide) (fun _ => rfl) h (fun v103 h => ?_)
    have jn128 : ∀ (T : mT) (S : qS), uX7_trade_J128 c Q X T → RU g S A C c T → cfr S0 S → pX7_trade_J128 post xp S := by
      intro T S h hM hF
      unfold uX7_trade_J128 at h
      unfold pX7_trade_J128
      exact hp _ _ h hM hF
    refine ⟨fun c106 => ?_, fun c106 => ?_⟩
    · have h := h.1 (ua_no.mp c106)
      exact jn128 _ _ h hM hF
    · have h := h.2 (fun z => c106 (ua_no.mpr z))
      refine uq_S 323 hM (by decide) (fun _ => rfl) h (fun v110 h => ?_)
      refine uq_R 203 hM (by decide) (fun _ => rfl) h (fun v114 h => ?_)
      refine uq_R 200 hM (by decide) (fun _ => rfl) h (fun v118 h => ?_)
      refine uq_F 329 hM (by decide) (fun _ => rfl) h (fun v122 h => ?_)
      refine uq_at hM h (fun b125 hb125 h => ?_)
      refine rX6_passOn hM h (fun T S h hM hF1 => ?_) (fun n T S h hM hF1 => hx n T S h hM (hF.tr hF1))
      have hF := hF.tr hF1
      exact jn128 _ _ h hM hF
  refine ⟨fun c80 => ?_, fun c80 => ?_⟩
  · have h := h.1 (ua_no.mp c80)
    exact jn102 _ _ _ _ _ h hM hF
  · have h := h.2 (fun z => c80 (ua_no.mpr z))
    refine uq_S 323 hM (by decide) (fun _ => rfl) h (fun v84 h => ?_)
    refine uq_R 203 hM (by decide) (fun _ => rfl) h (fun v88 h => ?_)
    refine uq_R 200 hM (by decide) (fun _ => rfl) h (fun v92 h => ?_)
    refine uq_F 329 hM (by decide) (fun _ => rfl) h (fun v96 h => ?_)
    refine uq_at hM h (fun b99 hb99 h => ?_)
    refine rX6_passOn hM h (fun T S h hM hF1 => ?_) (fun n T S h hM hF1 => hx n T S h hM (hF.tr hF1))
    have hF := hF.tr hF1
    exact jn102 _ _ _ _ _ h hM hF

def uX7_agree_J33  (c : Nat → Nat) (Q : Int32 → mT → Prop) (X : String → mT → Prop) (x3 : Int32) (T : mT) : Prop :=
  Q x3 T
def uX7_agree (c : Nat → Nat) (x0 : Nat) (x1 : Int32) (T : mT) (Q : Int32 → mT → Prop) (X : String → mT → Prop) : Prop :=
  u_at c (some x0) 8 (fun b2 => uX7_offerAt c b2 x1 T (fun v2 T =>
  u_at c (some x0) 8 (fun b8 => uX7_answerTo c b8 v2 T (fun v8 T =>
  ((¬ v8 = 0 →
  uX7_agree_J33 c Q X v8 T) ∧ (v8 = 0 →
  u_g c v2 2 (fun i => some (2 * i)) (fun v18 =>
  u_g c v2 2 (fun i => some (2 * i + 1)) (fun v22 =>
  u_at c (some x0) 8 (fun b25 => uX7_trade c b25 v18 v22 T (fun T =>
  (((0 : Int32) = 0 ∨ (0 : Int32) = 1) ∧ u_g c v2 2 (fun i => m_sA T 27 i (0 : Int32)) (fun T =>
  uX7_agree_J33 c Q X v8 T))) X)))))) X)) X)
set_option maxHeartbeats 4000000 in
set_option maxRecDepth 100000 in
theorem rX7_agree {g : Nat × Nat} {S : qS} {A : Nat → Nat → Nat} {C c : Nat → Nat} {T : mT} {x0 : Nat} {x1 : Int32} {Q : Int32 → mT → Prop} {X : String → mT → Prop} {post : Int32 → qS → Prop} {xp : String → qS → Prop} (hM : RU g S A C c T) (h : uX7_agree c x0 x1 T Q X) (hp : ∀ (v : Int32) (T' : mT) (S' : qS), Q v T' → RU g S' A C c T' → cfr S S' → post v S') (hx : ∀ (n : String) (T' : mT) (S' : qS), X n T' → RU g S' A C c T' → cfr S S' → xp n S') : pX7_agree (A 8 x0) x1 S post xp := by
  unfold uX7_agree at h
  unfold pX7_agree
  obtain ⟨S0, hS0⟩ : ∃ S0, S0 = S := ⟨_, rfl⟩
  rw [← hS0] at hp hx
  have hF : cfr S0 S := by rw [hS0]; exact cfr.rf
  clear hS0
  refine uq_at hM h (fun b2 hb2 h => ?_)
  refine rX7_offerAt hM h (fun v2 T S h hM hF1 => ?_) (fun n T S h hM hF1 => hx n T S h hM (hF.tr hF1))
  have hF := hF.tr hF1
  refine uq_at hM h (fun b8 hb8 h => ?_)
  refine rX7_answerTo hM h (fun v8 T S h hM hF1 => ?_) (fun n T S h hM hF1 => hx n T S h hM (hF.tr hF1))
  have hF := hF.tr hF1
  have jn33 : ∀ (x3 : Int32) (T : mT) (S : qS), uX7_agree_J33 c Q X x3 T → RU g S A C c T → cfr S0 S → pX7_agree_J33 post xp x3 S := by
    intro x3 T S h hM hF
    unfold uX7_agree_J33 at h
    unfold pX7_agree_J33
    exact hp _ _ _ h hM hF
  refine ⟨fun c13 => ?_, fun c13 => ?_⟩
  · have h := h.1 c13
    exact jn33 _ _ _ h hM hF
  · have h := h.2 c13
    refine uq_S 80 hM (by decide) (fun _ => rfl) h (fun v18 h => ?_)
    refine uq_S 81 hM (by decide) (fun _ => rfl) h (fun v22 h => ?_)
    refine uq_at hM h (fun b25 hb25 h => ?_)
    refine rX7_trade hM h (fun T S h hM hF1 => ?_) (fun n T S h hM hF1 => hx n T S h hM (hF.tr hF1))
    have hF := hF.tr hF1
    refine um_Z 82 hM hF (by decide) h (fun T S h hM hF => ?_)
    exact jn33 _ _ _ h hM hF

def uX7_withdraw (c : Nat → Nat) (x0 : Nat) (x1 : Int32) (T : mT) (Q : Int32 → mT → Prop) (X : String → mT → Prop) : Prop :=
  u_at c (some x0) 8 (fun b2 => uX7_offerAt c b2 x1 T (fun v2 T =>
  u_g c v2 2 (fun i => T.2.1 27 i) (fun v7 =>
  (((0 : Int32) = 0 ∨ (0 : Int32) = 1) ∧ u_g c v2 2 (fun i => m_sA T 27 i (0 : Int32)) (fun T =>
  ((v7 = 0 ∨ v7 = 1) ∧ Q v7 T))))) X)
set_option maxHeartbeats 4000000 in
set_option maxRecDepth 100000 in
theorem rX7_withdraw {g : Nat × Nat} {S : qS} {A : Nat → Nat → Nat} {C c : Nat → Nat} {T : mT} {x0 : Nat} {x1 : Int32} {Q : Int32 → mT → Prop} {X : String → mT → Prop} {post : Int32 → qS → Prop} {xp : String → qS → Prop} (hM : RU g S A C c T) (h : uX7_withdraw c x0 x1 T Q X) (hp : ∀ (v : Int32) (T' : mT) (S' : qS), Q v T' → RU g S' A C c T' → cfr S S' → post v S') (hx : ∀ (n : String) (T' : mT) (S' : qS), X n T' → RU g S' A C c T' → cfr S S' → xp n S') : pX7_withdraw (A 8 x0) x1 S post xp := by
  unfold uX7_withdraw at h
  unfold pX7_withdraw
  obtain ⟨S0, hS0⟩ : ∃ S0, S0 = S := ⟨_, rfl⟩
  rw [← hS0] at hp hx
  have hF : cfr S0 S := by rw [hS0]; exact cfr.rf
  clear hS0
  refine uq_at hM h (fun b2 hb2 h => ?_)
  refine rX7_offerAt hM h (fun v2 T S h hM hF1 => ?_) (fun n T S h hM hF1 => hx n T S h hM (hF.tr hF1))
  have hF := hF.tr hF1
  refine uq_I 82 hM (by decide) (fun _ => rfl) h (fun v7 h => ?_)
  refine um_Z 82 hM hF (by decide) h (fun T S h hM hF => ?_)
  exact ⟨h.1, hp _ _ _ h.2 hM hF⟩

def uX7_gains_J47 (k9 : Option Nat → Int32 → mT → Prop) (c : Nat → Nat) (Q : Int32 → mT → Prop) (X : String → mT → Prop) (x0 : Option Nat) (x1 : Int32) (T : mT) : Prop :=
  k9 x0 (x1 + 1) T
def uX7_gains_L9  (c : Nat → Nat) (Q : Int32 → mT → Prop) (X : String → mT → Prop) : Nat → Option Nat → Int32 → mT → Prop
  | 0, _, _, _ => False
  | n9 + 1, x0, x1, T =>
  u_g c x0 8 (fun _ => some (1)) (fun v11 =>
  u_sz c v11 (fun v14 =>
  ((v14 ≤ x1 →
  u_g c x0 8 (fun _ => some (0)) (fun v54 =>
  u_at c v54 1 (fun b57 => uX0_findsGain c b57  T (fun v57 T =>
  ((v57 = 0 ∨ v57 = 1) ∧ Q v57 T)) X))) ∧ (¬ v14 ≤ x1 →
  u_g c x0 8 (fun _ => some (1)) (fun v21 =>
  u_el c v21 4 x1 (fun v25 =>
  u_g c v25 4 (fun i => T.2.1 9 i) (fun v33 =>
  ((¬ v33 = 0 →
  uX7_gains_J47 (uX7_gains_L9 c Q X n9) c Q X x0 x1 T) ∧ (v33 = 0 →
  u_g c x0 8 (fun _ => some (0)) (fun v40 =>
  u_at c v40 1 (fun b44 => uX0_enter c b44 v25 T (fun T =>
  uX7_gains_J47 (uX7_gains_L9 c Q X n9) c Q X x0 x1 T) X)))))))))))
def uX7_gains (c : Nat → Nat) (x0 : Nat) (T : mT) (Q : Int32 → mT → Prop) (X : String → mT → Prop) : Prop :=
  u_g c (some x0) 8 (fun _ => some (0)) (fun v1 =>
  u_at c v1 1 (fun b4 => uX0_begin c b4  T (fun T =>
  ∃ n9, uX7_gains_L9 c Q X n9 (some x0) (0 : Int32) T) X))
set_option maxHeartbeats 4000000 in
set_option maxRecDepth 100000 in
theorem rX7_gains {g : Nat × Nat} {S : qS} {A : Nat → Nat → Nat} {C c : Nat → Nat} {T : mT} {x0 : Nat} {Q : Int32 → mT → Prop} {X : String → mT → Prop} {post : Int32 → qS → Prop} {xp : String → qS → Prop} (hM : RU g S A C c T) (h : uX7_gains c x0 T Q X) (hp : ∀ (v : Int32) (T' : mT) (S' : qS), Q v T' → RU g S' A C c T' → cfr S S' → post v S') (hx : ∀ (n : String) (T' : mT) (S' : qS), X n T' → RU g S' A C c T' → cfr S S' → xp n S') : pX7_gains (A 8 x0) S post xp := by
  unfold uX7_gains at h
  unfold pX7_gains
  obtain ⟨S0, hS0⟩ : ∃ S0, S0 = S := ⟨_, rfl⟩
  rw [← hS0] at hp hx
  have hF : cfr S0 S := by rw [hS0]; exact cfr.rf
  clear hS0
  refine uq_S 324 hM (by decide) (fun _ => rfl) h (fun v1 h => ?_)
  refine uq_at hM h (fun b4 hb4 h => ?_)
  refine rX0_begin hM h (fun T S h hM hF1 => ?_) (fun n T S h hM hF1 => hx n T S h hM (hF.tr hF1))
  have hF := hF.tr hF1
  obtain ⟨n9, h⟩ := h
  refine ⟨n9, ?_⟩
  have lp9 : ∀ (n9 : Nat) (x0 : Option Nat) (x1 : Int32) (T : mT) (S : qS), uX7_gains_L9 c Q X n9 x0 x1 T → RU g S A C c T → cfr S0 S → pX7_gains_L9 post xp n9 (Option.map (A 8) x0) x1 S := by
    intro n9
    induction n9 with
    | zero => intro x0 x1 T S h hM hF; exact h.elim
    | succ n9 ih9 =>
      intro x0 x1 T S h hM hF
      unfold uX7_gains_L9 at h
      unfold pX7_gains_L9
      refine uq_S 321 hM (by decide) (fun _ => rfl) h (fun v11 h => ?_)
      refine uq_sz hM h (fun v14 h => ?_)
      refine ⟨fun c17 => ?_, fun c17 => ?_⟩
      · have h := h.1 c17
        refine uq_S 324 hM (by decide) (fun _ => rfl) h (fun v54 h => ?_)
        refine uq_at hM h (fun b57 hb57 h => ?_)
        refine rX0_findsGain hM h (fun v57 T S h hM hF1 => ?_) (fun n T S h hM hF1 => hx n T S h hM (hF.tr hF1))
        have hF := hF.tr hF1
        exact ⟨h.1, hp _ _ _ h.2 hM hF⟩
      · have h := h.2 c17
        refine uq_S 321 hM (by decide) (fun _ => rfl) h (fun v21 h => ?_)
        refine uq_el hM h (fun v25 h => ?_)
        refine uq_I 160 hM (by decide) (fun _ => rfl) h (fun v33 h => ?_)
        have jn47 : ∀ (x0 : Option Nat) (x1 : Int32) (T : mT) (S : qS), uX7_gains_J47 (uX7_gains_L9 c Q X n9) c Q X x0 x1 T → RU g S A C c T → cfr S0 S → pX7_gains_J47 (pX7_gains_L9 post xp n9) post xp (Option.map (A 8) x0) x1 S := by
          intro x0 x1 T S h hM hF
          unfold uX7_gains_J47 at h
          unfold pX7_gains_J47
          exact ih9 _ _ _ _ h hM hF
        refine ⟨fun c36 => ?_, fun c36 => ?_⟩
        · have h := h.1 c36
          exact jn47 _ _ _ _ h hM hF
        · have h := h.2 c36
          refine uq_S 324 hM (by decide) (fun _ => rfl) h (fun v40 h => ?_)
          refine uq_at hM h (fun b44 hb44 h => ?_)
          refine rX0_enter hM h (fun T S h hM hF1 => ?_) (fun n T S h hM hF1 => hx n T S h hM (hF.tr hF1))
          have hF := hF.tr hF1
          exact jn47 _ _ _ _ h hM hF
  exact lp9 n9 _ _ _ _ h hM hF

def uX7_times (c : Nat → Nat) (x0 : Nat) (x1 : Int32) (x2 : Int32) (T : mT) (Q : mT → Prop) (X : String → mT → Prop) : Prop :=
  u_at c (some x0) 8 (fun b2 => uX7_ruleAt c b2 x1 T (fun v2 T =>
  uX7_checkRange c x2 (0 : Int32) (1000 : Int32) T (fun T =>
  u_g c v2 4 (fun i => m_sA T 10 i x2) (fun T =>
  Q T)) X) X)
set_option maxHeartbeats 4000000 in
set_option maxRecDepth 100000 in
theorem rX7_times {g : Nat × Nat} {S : qS} {A : Nat → Nat → Nat} {C c : Nat → Nat} {T : mT} {x0 : Nat} {x1 : Int32} {x2 : Int32} {Q : mT → Prop} {X : String → mT → Prop} {post : qS → Prop} {xp : String → qS → Prop} (hM : RU g S A C c T) (h : uX7_times c x0 x1 x2 T Q X) (hp : ∀ (T' : mT) (S' : qS), Q T' → RU g S' A C c T' → cfr S S' → post S') (hx : ∀ (n : String) (T' : mT) (S' : qS), X n T' → RU g S' A C c T' → cfr S S' → xp n S') : pX7_times (A 8 x0) x1 x2 S post xp := by
  unfold uX7_times at h
  unfold pX7_times
  obtain ⟨S0, hS0⟩ : ∃ S0, S0 = S := ⟨_, rfl⟩
  rw [← hS0] at hp hx
  have hF : cfr S0 S := by rw [hS0]; exact cfr.rf
  clear hS0
  refine uq_at hM h (fun b2 hb2 h => ?_)
  refine rX7_ruleAt hM h (fun v2 T S h hM hF1 => ?_) (fun n T S h hM hF1 => hx n T S h hM (hF.tr hF1))
  have hF := hF.tr hF1
  refine rX7_checkRange hM h (fun T S h hM hF1 => ?_) (fun n T S h hM hF1 => hx n T S h hM (hF.tr hF1))
  have hF := hF.tr hF1
  refine um_I 163 hM hF (by decide) h (fun T S h hM hF => ?_)
  exact hp _ _ h hM hF

def uX7_wonByTimes_J51 (k4 : Option Nat → Int32 → Int32 → Int32 → mT → Prop) (c : Nat → Nat) (Q : Int32 → mT → Prop) (X : String → mT → Prop) (x0 : Option Nat) (x1 : Int32) (x2 : Int32) (x3 : Int32) (T : mT) : Prop :=
  k4 x0 x1 x2 (x3 + 1) T
def uX7_wonByTimes_L4  (c : Nat → Nat) (Q : Int32 → mT → Prop) (X : String → mT → Prop) : Nat → Option Nat → Int32 → Int32 → Int32 → mT → Prop
  | 0, _, _, _, _, _ => False
  | n4 + 1, x0, x1, x2, x3, T =>
  u_g c x0 8 (fun _ => some (1)) (fun v6 =>
  u_sz c v6 (fun v9 =>
  ((v9 ≤ x3 →
  Q x2 T) ∧ (¬ v9 ≤ x3 →
  u_g c x0 8 (fun _ => some (1)) (fun v16 =>
  u_el c v16 4 x3 (fun v20 =>
  u_g c v20 4 (fun i => T.2.1 9 i) (fun v30 =>
  ((¬ v30 = 0 →
  uX7_wonByTimes_J51 (uX7_wonByTimes_L4 c Q X n4) c Q X x0 x1 x2 x3 T) ∧ (v30 = 0 →
  u_g c v20 4 (fun i => T.2.1 10 i) (fun v39 =>
  u_at c v20 4 (fun b45 => uX3_won c b45 x1 T (fun v45 T =>
  uX7_wonByTimes_J51 (uX7_wonByTimes_L4 c Q X n4) c Q X x0 x1 (x2 + (v39 * v45)) x3 T) X)))))))))))
def uX7_wonByTimes (c : Nat → Nat) (x0 : Nat) (x1 : Int32) (T : mT) (Q : Int32 → mT → Prop) (X : String → mT → Prop) : Prop :=
  ∃ n4, uX7_wonByTimes_L4 c Q X n4 (some x0) x1 (0 : Int32) (0 : Int32) T
set_option maxHeartbeats 4000000 in
set_option maxRecDepth 100000 in
theorem rX7_wonByTimes {g : Nat × Nat} {S : qS} {A : Nat → Nat → Nat} {C c : Nat → Nat} {T : mT} {x0 : Nat} {x1 : Int32} {Q : Int32 → mT → Prop} {X : String → mT → Prop} {post : Int32 → qS → Prop} {xp : String → qS → Prop} (hM : RU g S A C c T) (h : uX7_wonByTimes c x0 x1 T Q X) (hp : ∀ (v : Int32) (T' : mT) (S' : qS), Q v T' → RU g S' A C c T' → cfr S S' → post v S') (hx : ∀ (n : String) (T' : mT) (S' : qS), X n T' → RU g S' A C c T' → cfr S S' → xp n S') : pX7_wonByTimes (A 8 x0) x1 S post xp := by
  unfold uX7_wonByTimes at h
  unfold pX7_wonByTimes
  obtain ⟨S0, hS0⟩ : ∃ S0, S0 = S := ⟨_, rfl⟩
  rw [← hS0] at hp hx
  have hF : cfr S0 S := by rw [hS0]; exact cfr.rf
  clear hS0
  obtain ⟨n4, h⟩ := h
  refine ⟨n4, ?_⟩
  have lp4 : ∀ (n4 : Nat) (x0 : Option Nat) (x1 : Int32) (x2 : Int32) (x3 : Int32) (T : mT) (S : qS), uX7_wonByTimes_L4 c Q X n4 x0 x1 x2 x3 T → RU g S A C c T → cfr S0 S → pX7_wonByTimes_L4 post xp n4 (Option.map (A 8) x0) x1 x2 x3 S := by
    intro n4
    induction n4 with
    | zero => intro x0 x1 x2 x3 T S h hM hF; exact h.elim
    | succ n4 ih4 =>
      intro x0 x1 x2 x3 T S h hM hF
      unfold uX7_wonByTimes_L4 at h
      unfold pX7_wonByTimes_L4
      refine uq_S 321 hM (by decide) (fun _ => rfl) h (fun v6 h => ?_)
      refine uq_sz hM h (fun v9 h => ?_)
      refine ⟨fun c12 => ?_, fun c12 => ?_⟩
      · have h := h.1 c12
        exact hp _ _ _ h hM hF
      · have h := h.2 c12
        refine uq_S 321 hM (by decide) (fun _ => rfl) h (fun v16 h => ?_)
        refine uq_el hM h (fun v20 h => ?_)
        refine uq_I 160 hM (by decide) (fun _ => rfl) h (fun v30 h => ?_)
        have jn51 : ∀ (x0 : Option Nat) (x1 : Int32) (x2 : Int32) (x3 : Int32) (T : mT) (S : qS), uX7_wonByTimes_J51 (uX7_wonByTimes_L4 c Q X n4) c Q X x0 x1 x2 x3 T → RU g S A C c T → cfr S0 S → pX7_wonByTimes_J51 (pX7_wonByTimes_L4 post xp n4) post xp (Option.map (A 8) x0) x1 x2 x3 S := by
          intro x0 x1 x2 x3 T S h hM hF
          unfold uX7_wonByTimes_J51 at h
          unfold pX7_wonByTimes_J51
          exact ih4 _ _ _ _ _ _ h hM hF
        refine ⟨fun c33 => ?_, fun c33 => ?_⟩
        · have h := h.1 c33
          exact jn51 _ _ _ _ _ _ h hM hF
        · have h := h.2 c33
          refine uq_I 163 hM (by decide) (fun _ => rfl) h (fun v39 h => ?_)
          refine uq_at hM h (fun b45 hb45 h => ?_)
          refine rX3_won hM h (fun v45 T S h hM hF1 => ?_) (fun n T S h hM hF1 => hx n T S h hM (hF.tr hF1))
          have hF := hF.tr hF1
          exact jn51 _ _ _ _ _ _ h hM hF
  exact lp4 n4 _ _ _ _ _ _ h hM hF

def uX7_earns_J34 (k4 : Option Nat → Int32 → Int32 → mT → Prop) (c : Nat → Nat) (Q : Int32 → mT → Prop) (X : String → mT → Prop) (x0 : Option Nat) (x2 : Int32) (t0 : Int32) (T : mT) : Prop :=
  k4 x0 t0 (x2 + 1) T
def uX7_earns_J29 (k4 : Option Nat → Int32 → Int32 → mT → Prop) (c : Nat → Nat) (Q : Int32 → mT → Prop) (X : String → mT → Prop) (x0 : Option Nat) (x2 : Int32) (T : mT) : Prop :=
  uX7_earns_J34 k4 c Q X x0 x2 (1 : Int32) T
def uX7_earns_L4  (c : Nat → Nat) (Q : Int32 → mT → Prop) (X : String → mT → Prop) : Nat → Option Nat → Int32 → Int32 → mT → Prop
  | 0, _, _, _, _ => False
  | n4 + 1, x0, x1, x2, T =>
  (((4 : Int32) ≤ x2 →
  ((x1 = 0 ∨ x1 = 1) ∧ Q x1 T)) ∧ (¬ (4 : Int32) ≤ x2 →
  u_at c x0 8 (fun b11 => uX7_wonByTimes c b11 x2 T (fun v11 T =>
  ((0 ≤ v11 →
  ((¬ x1 = 0 →
  uX7_earns_J29 (uX7_earns_L4 c Q X n4) c Q X x0 x2 T) ∧ (x1 = 0 →
  ((v11 ≤ 0 →
  uX7_earns_J34 (uX7_earns_L4 c Q X n4) c Q X x0 x2 (0 : Int32) T) ∧ (¬ v11 ≤ 0 →
  uX7_earns_J29 (uX7_earns_L4 c Q X n4) c Q X x0 x2 T))))) ∧ (¬ 0 ≤ v11 →
  (((0 : Int32) = 0 ∨ (0 : Int32) = 1) ∧ Q (0 : Int32) T)))) X)))
def uX7_earns (c : Nat → Nat) (x0 : Nat) (T : mT) (Q : Int32 → mT → Prop) (X : String → mT → Prop) : Prop :=
  ∃ n4, uX7_earns_L4 c Q X n4 (some x0) (0 : Int32) (0 : Int32) T
set_option maxHeartbeats 4000000 in
set_option maxRecDepth 100000 in
theorem rX7_earns {g : Nat × Nat} {S : qS} {A : Nat → Nat → Nat} {C c : Nat → Nat} {T : mT} {x0 : Nat} {Q : Int32 → mT → Prop} {X : String → mT → Prop} {post : Int32 → qS → Prop} {xp : String → qS → Prop} (hM : RU g S A C c T) (h : uX7_earns c x0 T Q X) (hp : ∀ (v : Int32) (T' : mT) (S' : qS), Q v T' → RU g S' A C c T' → cfr S S' → post v S') (hx : ∀ (n : String) (T' : mT) (S' : qS), X n T' → RU g S' A C c T' → cfr S S' → xp n S') : pX7_earns (A 8 x0) S post xp := by
  unfold uX7_earns at h
  unfold pX7_earns
  obtain ⟨S0, hS0⟩ : ∃ S0, S0 = S := ⟨_, rfl⟩
  rw [← hS0] at hp hx
  have hF : cfr S0 S := by rw [hS0]; exact cfr.rf
  clear hS0
  obtain ⟨n4, h⟩ := h
  refine ⟨n4, ?_⟩
  have lp4 : ∀ (n4 : Nat) (x0 : Option Nat) (x1 : Int32) (x2 : Int32) (T : mT) (S : qS), uX7_earns_L4 c Q X n4 x0 x1 x2 T → RU g S A C c T → cfr S0 S → pX7_earns_L4 post xp n4 (Option.map (A 8) x0) x1 x2 S := by
    intro n4
    induction n4 with
    | zero => intro x0 x1 x2 T S h hM hF; exact h.elim
    | succ n4 ih4 =>
      intro x0 x1 x2 T S h hM hF
      unfold uX7_earns_L4 at h
      unfold pX7_earns_L4
      refine ⟨fun c6 => ?_, fun c6 => ?_⟩
      · have h := h.1 c6
        exact ⟨h.1, hp _ _ _ h.2 hM hF⟩
      · have h := h.2 c6
        refine uq_at hM h (fun b11 hb11 h => ?_)
        refine rX7_wonByTimes hM h (fun v11 T S h hM hF1 => ?_) (fun n T S h hM hF1 => hx n T S h hM (hF.tr hF1))
        have hF := hF.tr hF1
        refine ⟨fun c16 => ?_, fun c16 => ?_⟩
        · have h := h.1 c16
          have jn34 : ∀ (x0 : Option Nat) (x2 : Int32) (t0 : Int32) (T : mT) (S : qS), uX7_earns_J34 (uX7_earns_L4 c Q X n4) c Q X x0 x2 t0 T → RU g S A C c T → cfr S0 S → pX7_earns_J34 (pX7_earns_L4 post xp n4) post xp (Option.map (A 8) x0) x2 t0 S := by
            intro x0 x2 t0 T S h hM hF
            unfold uX7_earns_J34 at h
            unfold pX7_earns_J34
            exact ih4 _ _ _ _ _ h hM hF
          have jn29 : ∀ (x0 : Option Nat) (x2 : Int32) (T : mT) (S : qS), uX7_earns_J29 (uX7_earns_L4 c Q X n4) c Q X x0 x2 T → RU g S A C c T → cfr S0 S → pX7_earns_J29 (pX7_earns_L4 post xp n4) post xp (Option.map (A 8) x0) x2 S := by
            intro x0 x2 T S h hM hF
            unfold uX7_earns_J29 at h
            unfold pX7_earns_J29
            exact jn34 _ _ _ _ _ h hM hF
          refine ⟨fun c22 => ?_, fun c22 => ?_⟩
          · have h := h.1 c22
            exact jn29 _ _ _ _ h hM hF
          · have h := h.2 c22
            refine ⟨fun c26 => ?_, fun c26 => ?_⟩
            · have h := h.1 c26
              exact jn34 _ _ _ _ _ h hM hF
            · have h := h.2 c26
              exact jn29 _ _ _ _ h hM hF
        · have h := h.2 c16
          exact ⟨h.1, hp _ _ _ h.2 hM hF⟩
  exact lp4 n4 _ _ _ _ _ h hM hF

def uX7_weigh (c : Nat → Nat) (x0 : Nat) (x1 : Int32) (x2 : Int32) (T : mT) (Q : mT → Prop) (X : String → mT → Prop) : Prop :=
  uX7_checkKind c x1 T (fun T =>
  uX7_checkRange c x2 (0 : Int32) (1000 : Int32) T (fun T =>
  u_g c (some x0) 8 (fun _ => some (0)) (fun v13 =>
  u_a c v13 15 4 x1 (fun _ j => m_sA T 11 (j) x2) (fun T =>
  Q T))) X) X
set_option maxHeartbeats 4000000 in
set_option maxRecDepth 100000 in
theorem rX7_weigh {g : Nat × Nat} {S : qS} {A : Nat → Nat → Nat} {C c : Nat → Nat} {T : mT} {x0 : Nat} {x1 : Int32} {x2 : Int32} {Q : mT → Prop} {X : String → mT → Prop} {post : qS → Prop} {xp : String → qS → Prop} (hM : RU g S A C c T) (h : uX7_weigh c x0 x1 x2 T Q X) (hp : ∀ (T' : mT) (S' : qS), Q T' → RU g S' A C c T' → cfr S S' → post S') (hx : ∀ (n : String) (T' : mT) (S' : qS), X n T' → RU g S' A C c T' → cfr S S' → xp n S') : pX7_weigh (A 8 x0) x1 x2 S post xp := by
  unfold uX7_weigh at h
  unfold pX7_weigh
  obtain ⟨S0, hS0⟩ : ∃ S0, S0 = S := ⟨_, rfl⟩
  rw [← hS0] at hp hx
  have hF : cfr S0 S := by rw [hS0]; exact cfr.rf
  clear hS0
  refine rX7_checkKind hM h (fun T S h hM hF1 => ?_) (fun n T S h hM hF1 => hx n T S h hM (hF.tr hF1))
  have hF := hF.tr hF1
  refine rX7_checkRange hM h (fun T S h hM hF1 => ?_) (fun n T S h hM hF1 => hx n T S h hM (hF.tr hF1))
  have hF := hF.tr hF1
  refine uq_S 325 hM (by decide) (fun _ => rfl) h (fun v13 h => ?_)
  refine um_A (k := 15) hM hF (by decide) (fun i j => by simp [a_row, a_st]) h (fun T S h hM hF => ?_)
  exact hp _ _ h hM hF

def uX7_weightWonBy_L4  (c : Nat → Nat) (Q : Int32 → mT → Prop) (X : String → mT → Prop) : Nat → Option Nat → Option Nat → Int32 → Int32 → mT → Prop
  | 0, _, _, _, _, _ => False
  | n4 + 1, x0, x1, x2, x3, T =>
  (((4 : Int32) ≤ x3 →
  Q x2 T) ∧ (¬ (4 : Int32) ≤ x3 →
  u_g c x0 8 (fun _ => some (0)) (fun v11 =>
  u_a c v11 15 4 x3 (fun _ j => T.2.1 11 (j)) (fun v15 =>
  u_at c x1 4 (fun b18 => uX3_won c b18 x3 T (fun v18 T =>
  (uX7_weightWonBy_L4 c Q X n4) x0 x1 (x2 + (v15 * v18)) (x3 + 1) T) X)))))
def uX7_weightWonBy (c : Nat → Nat) (x0 : Nat) (x1 : Option Nat) (T : mT) (Q : Int32 → mT → Prop) (X : String → mT → Prop) : Prop :=
  ∃ n4, uX7_weightWonBy_L4 c Q X n4 (some x0) x1 (0 : Int32) (0 : Int32) T
set_option maxHeartbeats 4000000 in
set_option maxRecDepth 100000 in
theorem rX7_weightWonBy {g : Nat × Nat} {S : qS} {A : Nat → Nat → Nat} {C c : Nat → Nat} {T : mT} {x0 : Nat} {x1 : Option Nat} {Q : Int32 → mT → Prop} {X : String → mT → Prop} {post : Int32 → qS → Prop} {xp : String → qS → Prop} (hM : RU g S A C c T) (h : uX7_weightWonBy c x0 x1 T Q X) (hp : ∀ (v : Int32) (T' : mT) (S' : qS), Q v T' → RU g S' A C c T' → cfr S S' → post v S') (hx : ∀ (n : String) (T' : mT) (S' : qS), X n T' → RU g S' A C c T' → cfr S S' → xp n S') : pX7_weightWonBy (A 8 x0) (Option.map (A 4) x1) S post xp := by
  unfold uX7_weightWonBy at h
  unfold pX7_weightWonBy
  obtain ⟨S0, hS0⟩ : ∃ S0, S0 = S := ⟨_, rfl⟩
  rw [← hS0] at hp hx
  have hF : cfr S0 S := by rw [hS0]; exact cfr.rf
  clear hS0
  obtain ⟨n4, h⟩ := h
  refine ⟨n4, ?_⟩
  have lp4 : ∀ (n4 : Nat) (x0 : Option Nat) (x1 : Option Nat) (x2 : Int32) (x3 : Int32) (T : mT) (S : qS), uX7_weightWonBy_L4 c Q X n4 x0 x1 x2 x3 T → RU g S A C c T → cfr S0 S → pX7_weightWonBy_L4 post xp n4 (Option.map (A 8) x0) (Option.map (A 4) x1) x2 x3 S := by
    intro n4
    induction n4 with
    | zero => intro x0 x1 x2 x3 T S h hM hF; exact h.elim
    | succ n4 ih4 =>
      intro x0 x1 x2 x3 T S h hM hF
      unfold uX7_weightWonBy_L4 at h
      unfold pX7_weightWonBy_L4
      refine ⟨fun c6 => ?_, fun c6 => ?_⟩
      · have h := h.1 c6
        exact hp _ _ _ h hM hF
      · have h := h.2 c6
        refine uq_S 325 hM (by decide) (fun _ => rfl) h (fun v11 h => ?_)
        refine uq_A (k := 15) hM (by decide) (fun i j => by simp [a_row, a_st]) h (fun v15 h => ?_)
        refine uq_at hM h (fun b18 hb18 h => ?_)
        refine rX3_won hM h (fun v18 T S h hM hF1 => ?_) (fun n T S h hM hF1 => hx n T S h hM (hF.tr hF1))
        have hF := hF.tr hF1
        exact ih4 _ _ _ _ _ _ h hM hF
  exact lp4 n4 _ _ _ _ _ _ h hM hF

def uX7_bars_J66 (k26 : Option Nat → Int32 → mT → Prop) (c : Nat → Nat) (Q : Int32 → mT → Prop) (X : String → mT → Prop) (x0 : Option Nat) (x1 : Int32) (T : mT) : Prop :=
  k26 x0 (x1 + 1) T
def uX7_bars_L26  (c : Nat → Nat) (Q : Int32 → mT → Prop) (X : String → mT → Prop) : Nat → Option Nat → Int32 → mT → Prop
  | 0, _, _, _ => False
  | n26 + 1, x0, x1, T =>
  u_g c x0 8 (fun _ => some (1)) (fun v28 =>
  u_sz c v28 (fun v31 =>
  ((v31 ≤ x1 →
  (((1 : Int32) = 0 ∨ (1 : Int32) = 1) ∧ Q (1 : Int32) T)) ∧ (¬ v31 ≤ x1 →
  u_g c x0 8 (fun _ => some (1)) (fun v38 =>
  u_el c v38 4 x1 (fun v42 =>
  u_g c v42 4 (fun i => T.2.1 9 i) (fun v50 =>
  ((¬ v50 = 0 →
  uX7_bars_J66 (uX7_bars_L26 c Q X n26) c Q X x0 x1 T) ∧ (v50 = 0 →
  u_at c x0 8 (fun b58 => uX7_weightWonBy c b58 v42 T (fun v58 T =>
  ((v58 ≤ 0 →
  uX7_bars_J66 (uX7_bars_L26 c Q X n26) c Q X x0 x1 T) ∧ (¬ v58 ≤ 0 →
  (((0 : Int32) = 0 ∨ (0 : Int32) = 1) ∧ Q (0 : Int32) T)))) X))))))))))
def uX7_bars_J24  (c : Nat → Nat) (Q : Int32 → mT → Prop) (X : String → mT → Prop) (x0 : Option Nat) (T : mT) : Prop :=
  ∃ n26, uX7_bars_L26 c Q X n26 x0 (0 : Int32) T
def uX7_bars_L2 (k24 : Option Nat → mT → Prop) (c : Nat → Nat) (Q : Int32 → mT → Prop) (X : String → mT → Prop) : Nat → Option Nat → Int32 → mT → Prop
  | 0, _, _, _ => False
  | n2 + 1, x0, x1, T =>
  (((4 : Int32) ≤ x1 →
  k24 x0 T) ∧ (¬ (4 : Int32) ≤ x1 →
  u_g c x0 8 (fun _ => some (0)) (fun v8 =>
  u_a c v8 15 4 x1 (fun _ j => T.2.1 11 (j)) (fun v12 =>
  ((¬ v12 = 0 →
  (uX7_bars_L2 k24 c Q X n2) x0 (x1 + 1) T) ∧ (v12 = 0 →
  (((0 : Int32) = 0 ∨ (0 : Int32) = 1) ∧ Q (0 : Int32) T)))))))
def uX7_bars (c : Nat → Nat) (x0 : Nat) (T : mT) (Q : Int32 → mT → Prop) (X : String → mT → Prop) : Prop :=
  ∃ n2, uX7_bars_L2 (uX7_bars_J24 c Q X) c Q X n2 (some x0) (0 : Int32) T
set_option maxHeartbeats 4000000 in
set_option maxRecDepth 100000 in
theorem rX7_bars {g : Nat × Nat} {S : qS} {A : Nat → Nat → Nat} {C c : Nat → Nat} {T : mT} {x0 : Nat} {Q : Int32 → mT → Prop} {X : String → mT → Prop} {post : Int32 → qS → Prop} {xp : String → qS → Prop} (hM : RU g S A C c T) (h : uX7_bars c x0 T Q X) (hp : ∀ (v : Int32) (T' : mT) (S' : qS), Q v T' → RU g S' A C c T' → cfr S S' → post v S') (hx : ∀ (n : String) (T' : mT) (S' : qS), X n T' → RU g S' A C c T' → cfr S S' → xp n S') : pX7_bars (A 8 x0) S post xp := by
  unfold uX7_bars at h
  unfold pX7_bars
  obtain ⟨S0, hS0⟩ : ∃ S0, S0 = S := ⟨_, rfl⟩
  rw [← hS0] at hp hx
  have hF : cfr S0 S := by rw [hS0]; exact cfr.rf
  clear hS0
  have jn24 : ∀ (x0 : Option Nat) (T : mT) (S : qS), uX7_bars_J24 c Q X x0 T → RU g S A C c T → cfr S0 S → pX7_bars_J24 post xp (Option.map (A 8) x0) S := by
    intro x0 T S h hM hF
    unfold uX7_bars_J24 at h
    unfold pX7_bars_J24
    obtain ⟨n26, h⟩ := h
    refine ⟨n26, ?_⟩
    have lp26 : ∀ (n26 : Nat) (x0 : Option Nat) (x1 : Int32) (T : mT) (S : qS), uX7_bars_L26 c Q X n26 x0 x1 T → RU g S A C c T → cfr S0 S → pX7_bars_L26 post xp n26 (Option.map (A 8) x0) x1 S := by
      intro n26
      induction n26 with
      | zero => intro x0 x1 T S h hM hF; exact h.elim
      | succ n26 ih26 =>
        intro x0 x1 T S h hM hF
        unfold uX7_bars_L26 at h
        unfold pX7_bars_L26
        refine uq_S 321 hM (by decide) (fun _ => rfl) h (fun v28 h => ?_)
        refine uq_sz hM h (fun v31 h => ?_)
        refine ⟨fun c34 => ?_, fun c34 => ?_⟩
        · have h := h.1 c34
          exact ⟨h.1, hp _ _ _ h.2 hM hF⟩
        · have h := h.2 c34
          refine uq_S 321 hM (by decide) (fun _ => rfl) h (fun v38 h => ?_)
          refine uq_el hM h (fun v42 h => ?_)
          refine uq_I 160 hM (by decide) (fun _ => rfl) h (fun v50 h => ?_)
          have jn66 : ∀ (x0 : Option Nat) (x1 : Int32) (T : mT) (S : qS), uX7_bars_J66 (uX7_bars_L26 c Q X n26) c Q X x0 x1 T → RU g S A C c T → cfr S0 S → pX7_bars_J66 (pX7_bars_L26 post xp n26) post xp (Option.map (A 8) x0) x1 S := by
            intro x0 x1 T S h hM hF
            unfold uX7_bars_J66 at h
            unfold pX7_bars_J66
            exact ih26 _ _ _ _ h hM hF
          refine ⟨fun c53 => ?_, fun c53 => ?_⟩
          · have h := h.1 c53
            exact jn66 _ _ _ _ h hM hF
          · have h := h.2 c53
            refine uq_at hM h (fun b58 hb58 h => ?_)
            refine rX7_weightWonBy hM h (fun v58 T S h hM hF1 => ?_) (fun n T S h hM hF1 => hx n T S h hM (hF.tr hF1))
            have hF := hF.tr hF1
            refine ⟨fun c61 => ?_, fun c61 => ?_⟩
            · have h := h.1 c61
              exact jn66 _ _ _ _ h hM hF
            · have h := h.2 c61
              exact ⟨h.1, hp _ _ _ h.2 hM hF⟩
    exact lp26 n26 _ _ _ _ h hM hF
  obtain ⟨n2, h⟩ := h
  refine ⟨n2, ?_⟩
  have lp2 : ∀ (n2 : Nat) (x0 : Option Nat) (x1 : Int32) (T : mT) (S : qS), uX7_bars_L2 (uX7_bars_J24 c Q X) c Q X n2 x0 x1 T → RU g S A C c T → cfr S0 S → pX7_bars_L2 (pX7_bars_J24 post xp) post xp n2 (Option.map (A 8) x0) x1 S := by
    intro n2
    induction n2 with
    | zero => intro x0 x1 T S h hM hF; exact h.elim
    | succ n2 ih2 =>
      intro x0 x1 T S h hM hF
      unfold uX7_bars_L2 at h
      unfold pX7_bars_L2
      refine ⟨fun c4 => ?_, fun c4 => ?_⟩
      · have h := h.1 c4
        exact jn24 _ _ _ h hM hF
      · have h := h.2 c4
        refine uq_S 325 hM (by decide) (fun _ => rfl) h (fun v8 h => ?_)
        refine uq_A (k := 15) hM (by decide) (fun i j => by simp [a_row, a_st]) h (fun v12 h => ?_)
        refine ⟨fun c13 => ?_, fun c13 => ?_⟩
        · have h := h.1 c13
          exact ih2 _ _ _ _ h hM hF
        · have h := h.2 c13
          exact ⟨h.1, hp _ _ _ h.2 hM hF⟩
  exact lp2 n2 _ _ _ _ h hM hF

def uX7_countOpen_J35 (k4 : Option Nat → Int32 → Int32 → mT → Prop) (c : Nat → Nat) (Q : Int32 → mT → Prop) (X : String → mT → Prop) (x0 : Option Nat) (x1 : Int32) (x2 : Int32) (T : mT) : Prop :=
  k4 x0 x1 (x2 + 1) T
def uX7_countOpen_L4  (c : Nat → Nat) (Q : Int32 → mT → Prop) (X : String → mT → Prop) : Nat → Option Nat → Int32 → Int32 → mT → Prop
  | 0, _, _, _, _ => False
  | n4 + 1, x0, x1, x2, T =>
  u_g c x0 8 (fun _ => some (2)) (fun v6 =>
  u_sz c v6 (fun v9 =>
  ((v9 ≤ x2 →
  Q x1 T) ∧ (¬ v9 ≤ x2 →
  u_g c x0 8 (fun _ => some (2)) (fun v16 =>
  u_el c v16 2 x2 (fun v20 =>
  u_g c v20 2 (fun i => T.2.1 27 i) (fun v26 =>
  ((v26 = 0 →
  uX7_countOpen_J35 (uX7_countOpen_L4 c Q X n4) c Q X x0 x1 x2 T) ∧ (¬ v26 = 0 →
  uX7_countOpen_J35 (uX7_countOpen_L4 c Q X n4) c Q X x0 (x1 + 1) x2 T)))))))))
def uX7_countOpen (c : Nat → Nat) (x0 : Nat) (T : mT) (Q : Int32 → mT → Prop) (X : String → mT → Prop) : Prop :=
  ∃ n4, uX7_countOpen_L4 c Q X n4 (some x0) (0 : Int32) (0 : Int32) T
set_option maxHeartbeats 4000000 in
set_option maxRecDepth 100000 in
theorem rX7_countOpen {g : Nat × Nat} {S : qS} {A : Nat → Nat → Nat} {C c : Nat → Nat} {T : mT} {x0 : Nat} {Q : Int32 → mT → Prop} {X : String → mT → Prop} {post : Int32 → qS → Prop} {xp : String → qS → Prop} (hM : RU g S A C c T) (h : uX7_countOpen c x0 T Q X) (hp : ∀ (v : Int32) (T' : mT) (S' : qS), Q v T' → RU g S' A C c T' → cfr S S' → post v S') (hx : ∀ (n : String) (T' : mT) (S' : qS), X n T' → RU g S' A C c T' → cfr S S' → xp n S') : pX7_countOpen (A 8 x0) S post xp := by
  unfold uX7_countOpen at h
  unfold pX7_countOpen
  obtain ⟨S0, hS0⟩ : ∃ S0, S0 = S := ⟨_, rfl⟩
  rw [← hS0] at hp hx
  have hF : cfr S0 S := by rw [hS0]; exact cfr.rf
  clear hS0
  obtain ⟨n4, h⟩ := h
  refine ⟨n4, ?_⟩
  have lp4 : ∀ (n4 : Nat) (x0 : Option Nat) (x1 : Int32) (x2 : Int32) (T : mT) (S : qS), uX7_countOpen_L4 c Q X n4 x0 x1 x2 T → RU g S A C c T → cfr S0 S → pX7_countOpen_L4 post xp n4 (Option.map (A 8) x0) x1 x2 S := by
    intro n4
    induction n4 with
    | zero => intro x0 x1 x2 T S h hM hF; exact h.elim
    | succ n4 ih4 =>
      intro x0 x1 x2 T S h hM hF
      unfold uX7_countOpen_L4 at h
      unfold pX7_countOpen_L4
      refine uq_S 322 hM (by decide) (fun _ => rfl) h (fun v6 h => ?_)
      refine uq_sz hM h (fun v9 h => ?_)
      refine ⟨fun c12 => ?_, fun c12 => ?_⟩
      · have h := h.1 c12
        exact hp _ _ _ h hM hF
      · have h := h.2 c12
        refine uq_S 322 hM (by decide) (fun _ => rfl) h (fun v16 h => ?_)
        refine uq_el hM h (fun v20 h => ?_)
        refine uq_I 82 hM (by decide) (fun _ => rfl) h (fun v26 h => ?_)
        have jn35 : ∀ (x0 : Option Nat) (x1 : Int32) (x2 : Int32) (T : mT) (S : qS), uX7_countOpen_J35 (uX7_countOpen_L4 c Q X n4) c Q X x0 x1 x2 T → RU g S A C c T → cfr S0 S → pX7_countOpen_J35 (pX7_countOpen_L4 post xp n4) post xp (Option.map (A 8) x0) x1 x2 S := by
          intro x0 x1 x2 T S h hM hF
          unfold uX7_countOpen_J35 at h
          unfold pX7_countOpen_J35
          exact ih4 _ _ _ _ _ h hM hF
        refine ⟨fun c29 => ?_, fun c29 => ?_⟩
        · have h := h.1 c29
          exact jn35 _ _ _ _ _ h hM hF
        · have h := h.2 c29
          exact jn35 _ _ _ _ _ h hM hF
  exact lp4 n4 _ _ _ _ _ h hM hF

def uX7_count (c : Nat → Nat) (x0 : Nat) (x1 : Int32) (T : mT) (Q : Int32 → mT → Prop) (X : String → mT → Prop) : Prop :=
  ((x1 = 0 →
  u_g c (some x0) 8 (fun _ => T.1 1) (fun v53 =>
  Q v53 T)) ∧
  (x1 = 1 →
  u_g c (some x0) 8 (fun _ => some (0)) (fun v58 =>
  u_sz c v58 (fun v61 =>
  Q v61 T))) ∧
  (x1 = 2 →
  u_g c (some x0) 8 (fun _ => some (1)) (fun v66 =>
  u_sz c v66 (fun v69 =>
  Q v69 T))) ∧
  (x1 = 3 →
  u_g c (some x0) 8 (fun _ => some (0)) (fun v74 =>
  u_at c v74 7 (fun b77 => uX6_size c b77  T (fun v77 T =>
  Q v77 T) X))) ∧
  (x1 = 4 →
  u_g c (some x0) 8 (fun _ => some (0)) (fun v82 =>
  u_at c v82 7 (fun b85 => uX6_countBroken c b85  T (fun v85 T =>
  Q v85 T) X))) ∧
  (x1 = 5 →
  u_g c (some x0) 8 (fun _ => some (0)) (fun v90 =>
  u_at c v90 7 (fun b93 => uX6_countLent c b93  T (fun v93 T =>
  Q v93 T) X))) ∧
  (x1 = 6 →
  u_g c (some x0) 8 (fun _ => some (2)) (fun v98 =>
  u_sz c v98 (fun v101 =>
  Q v101 T))) ∧
  (x1 = 7 →
  u_at c (some x0) 8 (fun b106 => uX7_countOpen c b106  T (fun v106 T =>
  Q v106 T) X)) ∧
  (x1 = 8 →
  u_g c (some x0) 8 (fun _ => T.1 6) (fun v111 =>
  Q v111 T)) ∧
  ((x1.toInt < 0 ∨ 8 < x1.toInt) →
  Q (-1 : Int32) T))
set_option maxHeartbeats 4000000 in
set_option maxRecDepth 100000 in
theorem rX7_count {g : Nat × Nat} {S : qS} {A : Nat → Nat → Nat} {C c : Nat → Nat} {T : mT} {x0 : Nat} {x1 : Int32} {Q : Int32 → mT → Prop} {X : String → mT → Prop} {post : Int32 → qS → Prop} {xp : String → qS → Prop} (hM : RU g S A C c T) (h : uX7_count c x0 x1 T Q X) (hp : ∀ (v : Int32) (T' : mT) (S' : qS), Q v T' → RU g S' A C c T' → cfr S S' → post v S') (hx : ∀ (n : String) (T' : mT) (S' : qS), X n T' → RU g S' A C c T' → cfr S S' → xp n S') : pX7_count (A 8 x0) x1 S post xp := by
  unfold uX7_count at h
  unfold pX7_count
  obtain ⟨S0, hS0⟩ : ∃ S0, S0 = S := ⟨_, rfl⟩
  rw [← hS0] at hp hx
  have hF : cfr S0 S := by rw [hS0]; exact cfr.rf
  clear hS0
  refine ⟨fun cz => ?_, fun cz => ?_, fun cz => ?_, fun cz => ?_, fun cz => ?_, fun cz => ?_, fun cz => ?_, fun cz => ?_, fun cz => ?_, fun cz => ?_⟩
  · have h := h.1 cz
    refine uq_F 329 hM (by decide) (fun _ => rfl) h (fun v53 h => ?_)
    exact hp _ _ _ h hM hF
  · have h := h.2.1 cz
    refine uq_S 320 hM (by decide) (fun _ => rfl) h (fun v58 h => ?_)
    refine uq_sz hM h (fun v61 h => ?_)
    exact hp _ _ _ h hM hF
  · have h := h.2.2.1 cz
    refine uq_S 321 hM (by decide) (fun _ => rfl) h (fun v66 h => ?_)
    refine uq_sz hM h (fun v69 h => ?_)
    exact hp _ _ _ h hM hF
  · have h := h.2.2.2.1 cz
    refine uq_S 323 hM (by decide) (fun _ => rfl) h (fun v74 h => ?_)
    refine uq_at hM h (fun b77 hb77 h => ?_)
    refine rX6_size hM h (fun v77 T S h hM hF1 => ?_) (fun n T S h hM hF1 => hx n T S h hM (hF.tr hF1))
    have hF := hF.tr hF1
    exact hp _ _ _ h hM hF
  · have h := h.2.2.2.2.1 cz
    refine uq_S 323 hM (by decide) (fun _ => rfl) h (fun v82 h => ?_)
    refine uq_at hM h (fun b85 hb85 h => ?_)
    refine rX6_countBroken hM h (fun v85 T S h hM hF1 => ?_) (fun n T S h hM hF1 => hx n T S h hM (hF.tr hF1))
    have hF := hF.tr hF1
    exact hp _ _ _ h hM hF
  · have h := h.2.2.2.2.2.1 cz
    refine uq_S 323 hM (by decide) (fun _ => rfl) h (fun v90 h => ?_)
    refine uq_at hM h (fun b93 hb93 h => ?_)
    refine rX6_countLent hM h (fun v93 T S h hM hF1 => ?_) (fun n T S h hM hF1 => hx n T S h hM (hF.tr hF1))
    have hF := hF.tr hF1
    exact hp _ _ _ h hM hF
  · have h := h.2.2.2.2.2.2.1 cz
    refine uq_S 322 hM (by decide) (fun _ => rfl) h (fun v98 h => ?_)
    refine uq_sz hM h (fun v101 h => ?_)
    exact hp _ _ _ h hM hF
  · have h := h.2.2.2.2.2.2.2.1 cz
    refine uq_at hM h (fun b106 hb106 h => ?_)
    refine rX7_countOpen hM h (fun v106 T S h hM hF1 => ?_) (fun n T S h hM hF1 => hx n T S h hM (hF.tr hF1))
    have hF := hF.tr hF1
    exact hp _ _ _ h hM hF
  · have h := h.2.2.2.2.2.2.2.2.1 cz
    refine uq_F 328 hM (by decide) (fun _ => rfl) h (fun v111 h => ?_)
    exact hp _ _ _ h hM hF
  · have h := h.2.2.2.2.2.2.2.2.2 cz
    exact hp _ _ _ h hM hF
