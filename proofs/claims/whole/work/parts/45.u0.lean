def uX3_won (c : Nat → Nat) (x0 : Nat) (x1 : Int32) (T : mT) (Q : Int32 → mT → Prop) (X : String → mT → Prop) : Prop :=
  u_g c (some x0) 4 (fun i => some (i)) (fun v1 =>
  u_a c v1 12 4 x1 (fun i j => T.2.1 8 (4 * i + j)) (fun v5 =>
  u_g c (some x0) 4 (fun i => some (i)) (fun v7 =>
  u_a c v7 11 4 x1 (fun i j => T.2.1 7 (4 * i + j)) (fun v11 =>
  Q (v5 - v11) T))))
set_option maxHeartbeats 4000000 in
set_option maxRecDepth 100000 in
theorem rX3_won {g : Nat × Nat} {S : qS} {A : Nat → Nat → Nat} {C c : Nat → Nat} {T : mT} {x0 : Nat} {x1 : Int32} {Q : Int32 → mT → Prop} {X : String → mT → Prop} {post : Int32 → qS → Prop} {xp : String → qS → Prop} (hM : RU g S A C c T) (h : uX3_won c x0 x1 T Q X) (hp : ∀ (v : Int32) (T' : mT) (S' : qS), Q v T' → RU g S' A C c T' → cfr S S' → post v S') (hx : ∀ (n : String) (T' : mT) (S' : qS), X n T' → RU g S' A C c T' → cfr S S' → xp n S') : pX3_won (A 4 x0) x1 S post xp := by
  unfold uX3_won at h
  unfold pX3_won
  obtain ⟨S0, hS0⟩ : ∃ S0, S0 = S := ⟨_, rfl⟩
  rw [← hS0] at hp hx
  have hF : cfr S0 S := by rw [hS0]; exact cfr.rf
  clear hS0
  refine uq_S 162 hM (by decide) (fun _ => rfl) h (fun v1 h => ?_)
  refine uq_A (k := 12) hM (by decide) (fun i j => by simp [a_row, a_st]) h (fun v5 h => ?_)
  refine uq_S 161 hM (by decide) (fun _ => rfl) h (fun v7 h => ?_)
  refine uq_A (k := 11) hM (by decide) (fun i j => by simp [a_row, a_st]) h (fun v11 h => ?_)
  exact hp _ _ _ h hM hF

def uX2_answerTo_L34  (c : Nat → Nat) (Q : Int32 → mT → Prop) (X : String → mT → Prop) : Nat → Option Nat → Option Nat → Int32 → Int32 → mT → Prop
  | 0, _, _, _, _, _ => False
  | n34 + 1, x0, x1, x2, x3, T =>
  (((4 : Int32) ≤ x3 →
  Q (0 : Int32) T) ∧ (¬ (4 : Int32) ≤ x3 →
  u_g c x0 3 (fun i => some (i)) (fun v40 =>
  u_a c v40 10 4 x3 (fun i j => T.2.1 2 (4 * i + j)) (fun v44 =>
  u_at c x1 4 (fun b47 => uX3_won c b47 x3 T (fun v47 T =>
  (((v44 + (v47 * x2)) ≤ (1000000000 : Int32) →
  (uX2_answerTo_L34 c Q X n34) x0 x1 x2 (x3 + 1) T) ∧ (¬ (v44 + (v47 * x2)) ≤ (1000000000 : Int32) →
  Q (2 : Int32) T))) X)))))
def uX2_answerTo_J32  (c : Nat → Nat) (Q : Int32 → mT → Prop) (X : String → mT → Prop) (x0 : Option Nat) (x1 : Option Nat) (x2 : Int32) (T : mT) : Prop :=
  ∃ n34, uX2_answerTo_L34 c Q X n34 x0 x1 x2 (0 : Int32) T
def uX2_answerTo_L2 (k32 : Option Nat → Option Nat → Int32 → mT → Prop) (c : Nat → Nat) (Q : Int32 → mT → Prop) (X : String → mT → Prop) : Nat → Option Nat → Option Nat → Int32 → Int32 → mT → Prop
  | 0, _, _, _, _, _ => False
  | n2 + 1, x0, x1, x2, x3, T =>
  (((4 : Int32) ≤ x3 →
  k32 x0 x1 x2 T) ∧ (¬ (4 : Int32) ≤ x3 →
  u_g c x0 3 (fun i => some (i)) (fun v8 =>
  u_a c v8 10 4 x3 (fun i j => T.2.1 2 (4 * i + j)) (fun v12 =>
  u_g c x1 4 (fun i => some (i)) (fun v14 =>
  u_a c v14 11 4 x3 (fun i j => T.2.1 7 (4 * i + j)) (fun v18 =>
  (((v18 * x2) ≤ v12 →
  (uX2_answerTo_L2 k32 c Q X n2) x0 x1 x2 (x3 + 1) T) ∧ (¬ (v18 * x2) ≤ v12 →
  Q (1 : Int32) T))))))))
def uX2_answerTo (c : Nat → Nat) (x0 : Nat) (x1 : Option Nat) (x2 : Int32) (T : mT) (Q : Int32 → mT → Prop) (X : String → mT → Prop) : Prop :=
  ∃ n2, uX2_answerTo_L2 (uX2_answerTo_J32 c Q X) c Q X n2 (some x0) x1 x2 (0 : Int32) T
set_option maxHeartbeats 4000000 in
set_option maxRecDepth 100000 in
theorem rX2_answerTo {g : Nat × Nat} {S : qS} {A : Nat → Nat → Nat} {C c : Nat → Nat} {T : mT} {x0 : Nat} {x1 : Option Nat} {x2 : Int32} {Q : Int32 → mT → Prop} {X : String → mT → Prop} {post : Int32 → qS → Prop} {xp : String → qS → Prop} (hM : RU g S A C c T) (h : uX2_answerTo c x0 x1 x2 T Q X) (hp : ∀ (v : Int32) (T' : mT) (S' : qS), Q v T' → RU g S' A C c T' → cfr S S' → post v S') (hx : ∀ (n : String) (T' : mT) (S' : qS), X n T' → RU g S' A C c T' → cfr S S' → xp n S') : pX2_answerTo (A 3 x0) (Option.map (A 4) x1) x2 S post xp := by
  unfold uX2_answerTo at h
  unfold pX2_answerTo
  obtain ⟨S0, hS0⟩ : ∃ S0, S0 = S := ⟨_, rfl⟩
  rw [← hS0] at hp hx
  have hF : cfr S0 S := by rw [hS0]; exact cfr.rf
  clear hS0
  have jn32 : ∀ (x0 : Option Nat) (x1 : Option Nat) (x2 : Int32) (T : mT) (S : qS), uX2_answerTo_J32 c Q X x0 x1 x2 T → RU g S A C c T → cfr S0 S → pX2_answerTo_J32 post xp (Option.map (A 3) x0) (Option.map (A 4) x1) x2 S := by
    intro x0 x1 x2 T S h hM hF
    unfold uX2_answerTo_J32 at h
    unfold pX2_answerTo_J32
    obtain ⟨n34, h⟩ := h
    refine ⟨n34, ?_⟩
    have lp34 : ∀ (n34 : Nat) (x0 : Option Nat) (x1 : Option Nat) (x2 : Int32) (x3 : Int32) (T : mT) (S : qS), uX2_answerTo_L34 c Q X n34 x0 x1 x2 x3 T → RU g S A C c T → cfr S0 S → pX2_answerTo_L34 post xp n34 (Option.map (A 3) x0) (Option.map (A 4) x1) x2 x3 S := by
      intro n34
      induction n34 with
      | zero => intro x0 x1 x2 x3 T S h hM hF; exact h.elim
      | succ n34 ih34 =>
        intro x0 x1 x2 x3 T S h hM hF
        unfold uX2_answerTo_L34 at h
        unfold pX2_answerTo_L34
        refine ⟨fun c36 => ?_, fun c36 => ?_⟩
        · have h := h.1 c36
          exact hp _ _ _ h hM hF
        · have h := h.2 c36
          refine uq_S 121 hM (by decide) (fun _ => rfl) h (fun v40 h => ?_)
          refine uq_A (k := 10) hM (by decide) (fun i j => by simp [a_row, a_st]) h (fun v44 h => ?_)
          refine uq_at hM h (fun b47 hb47 h => ?_)
          refine rX3_won hM h (fun v47 T S h hM hF1 => ?_) (fun n T S h hM hF1 => hx n T S h hM (hF.tr hF1))
          have hF := hF.tr hF1
          refine ⟨fun c55 => ?_, fun c55 => ?_⟩
          · have h := h.1 c55
            exact ih34 _ _ _ _ _ _ h hM hF
          · have h := h.2 c55
            exact hp _ _ _ h hM hF
    exact lp34 n34 _ _ _ _ _ _ h hM hF
  obtain ⟨n2, h⟩ := h
  refine ⟨n2, ?_⟩
  have lp2 : ∀ (n2 : Nat) (x0 : Option Nat) (x1 : Option Nat) (x2 : Int32) (x3 : Int32) (T : mT) (S : qS), uX2_answerTo_L2 (uX2_answerTo_J32 c Q X) c Q X n2 x0 x1 x2 x3 T → RU g S A C c T → cfr S0 S → pX2_answerTo_L2 (pX2_answerTo_J32 post xp) post xp n2 (Option.map (A 3) x0) (Option.map (A 4) x1) x2 x3 S := by
    intro n2
    induction n2 with
    | zero => intro x0 x1 x2 x3 T S h hM hF; exact h.elim
    | succ n2 ih2 =>
      intro x0 x1 x2 x3 T S h hM hF
      unfold uX2_answerTo_L2 at h
      unfold pX2_answerTo_L2
      refine ⟨fun c4 => ?_, fun c4 => ?_⟩
      · have h := h.1 c4
        exact jn32 _ _ _ _ _ h hM hF
      · have h := h.2 c4
        refine uq_S 121 hM (by decide) (fun _ => rfl) h (fun v8 h => ?_)
        refine uq_A (k := 10) hM (by decide) (fun i j => by simp [a_row, a_st]) h (fun v12 h => ?_)
        refine uq_S 161 hM (by decide) (fun _ => rfl) h (fun v14 h => ?_)
        refine uq_A (k := 11) hM (by decide) (fun i j => by simp [a_row, a_st]) h (fun v18 h => ?_)
        refine ⟨fun c21 => ?_, fun c21 => ?_⟩
        · have h := h.1 c21
          exact ih2 _ _ _ _ _ _ h hM hF
        · have h := h.2 c21
          exact hp _ _ _ h hM hF
  exact lp2 n2 _ _ _ _ _ _ h hM hF

def uX4_hasTooFew_J24  (c : Nat → Nat) (Q : Int32 → mT → Prop) (X : String → mT → Prop) (t0 : Int32) (T : mT) : Prop :=
  ((t0 = 0 ∨ t0 = 1) ∧ Q t0 T)
def uX4_hasTooFew (c : Nat → Nat) (x0 : Nat) (T : mT) (Q : Int32 → mT → Prop) (X : String → mT → Prop) : Prop :=
  u_g c (some x0) 5 (fun i => rf (T.2.1 26 (10 * (i / 2) + (if i % 2 = 0 then 0 else 1)))) (fun v1 =>
  u_g c v1 3 (fun i => some (i)) (fun v4 =>
  u_g c (some x0) 5 (fun i => T.2.1 26 (10 * (i / 2) + (if i % 2 = 0 then 3 else 6))) (fun v8 =>
  u_a c v4 10 4 v8 (fun i j => T.2.1 2 (4 * i + j)) (fun v11 =>
  u_g c (some x0) 5 (fun i => T.2.1 26 (10 * (i / 2) + (if i % 2 = 0 then 2 else 5))) (fun v13 =>
  ((v13 ≤ v11 →
  uX4_hasTooFew_J24 c Q X (0 : Int32) T) ∧ (¬ v13 ≤ v11 →
  uX4_hasTooFew_J24 c Q X (1 : Int32) T)))))))
set_option maxHeartbeats 4000000 in
set_option maxRecDepth 100000 in
theorem rX4_hasTooFew {g : Nat × Nat} {S : qS} {A : Nat → Nat → Nat} {C c : Nat → Nat} {T : mT} {x0 : Nat} {Q : Int32 → mT → Prop} {X : String → mT → Prop} {post : Int32 → qS → Prop} {xp : String → qS → Prop} (hM : RU g S A C c T) (h : uX4_hasTooFew c x0 T Q X) (hp : ∀ (v : Int32) (T' : mT) (S' : qS), Q v T' → RU g S' A C c T' → cfr S S' → post v S') (hx : ∀ (n : String) (T' : mT) (S' : qS), X n T' → RU g S' A C c T' → cfr S S' → xp n S') : pX4_hasTooFew (A 5 x0) S post xp := by
  unfold uX4_hasTooFew at h
  unfold pX4_hasTooFew
  obtain ⟨S0, hS0⟩ : ∃ S0, S0 = S := ⟨_, rfl⟩
  rw [← hS0] at hp hx
  have hF : cfr S0 S := by rw [hS0]; exact cfr.rf
  clear hS0
  refine uq_R 200 hM (by decide) (fun _ => rfl) h (fun v1 h => ?_)
  refine uq_S 121 hM (by decide) (fun _ => rfl) h (fun v4 h => ?_)
  refine uq_I 202 hM (by decide) (fun _ => rfl) h (fun v8 h => ?_)
  refine uq_A (k := 10) hM (by decide) (fun i j => by simp [a_row, a_st]) h (fun v11 h => ?_)
  refine uq_I 201 hM (by decide) (fun _ => rfl) h (fun v13 h => ?_)
  have jn24 : ∀ (t0 : Int32) (T : mT) (S : qS), uX4_hasTooFew_J24 c Q X t0 T → RU g S A C c T → cfr S0 S → pX4_hasTooFew_J24 post xp t0 S := by
    intro t0 T S h hM hF
    unfold uX4_hasTooFew_J24 at h
    unfold pX4_hasTooFew_J24
    exact ⟨h.1, hp _ _ _ h.2 hM hF⟩
  refine ⟨fun c16 => ?_, fun c16 => ?_⟩
  · have h := h.1 c16
    exact jn24 _ _ _ h hM hF
  · have h := h.2 c16
    exact jn24 _ _ _ h hM hF

def uX4_wouldHaveTooMany_J49  (c : Nat → Nat) (Q : Int32 → mT → Prop) (X : String → mT → Prop) (t0 : Int32) (T : mT) : Prop :=
  ((t0 = 0 ∨ t0 = 1) ∧ Q t0 T)
def uX4_wouldHaveTooMany_J31  (c : Nat → Nat) (Q : Int32 → mT → Prop) (X : String → mT → Prop) (x1 : Option Nat) (t0 : Int32) (t1 : Int32) (T : mT) : Prop :=
  u_g c x1 5 (fun i => T.2.1 26 (10 * (i / 2) + (if i % 2 = 0 then 2 else 5))) (fun v35 =>
  ((((t0 - t1) + v35) ≤ (1000000000 : Int32) →
  uX4_wouldHaveTooMany_J49 c Q X (0 : Int32) T) ∧ (¬ ((t0 - t1) + v35) ≤ (1000000000 : Int32) →
  uX4_wouldHaveTooMany_J49 c Q X (1 : Int32) T)))
def uX4_wouldHaveTooMany (c : Nat → Nat) (x0 : Nat) (x1 : Option Nat) (T : mT) (Q : Int32 → mT → Prop) (X : String → mT → Prop) : Prop :=
  u_g c (some x0) 5 (fun i => rf (T.2.1 26 (10 * (i / 2) + (if i % 2 = 0 then 0 else 1)))) (fun v1 =>
  u_g c v1 3 (fun i => some (i)) (fun v4 =>
  u_g c x1 5 (fun i => T.2.1 26 (10 * (i / 2) + (if i % 2 = 0 then 3 else 6))) (fun v8 =>
  u_a c v4 10 4 v8 (fun i j => T.2.1 2 (4 * i + j)) (fun v11 =>
  u_g c (some x0) 5 (fun i => T.2.1 26 (10 * (i / 2) + (if i % 2 = 0 then 3 else 6))) (fun v13 =>
  u_g c x1 5 (fun i => T.2.1 26 (10 * (i / 2) + (if i % 2 = 0 then 3 else 6))) (fun v17 =>
  ((¬ v13 = v17 →
  uX4_wouldHaveTooMany_J31 c Q X x1 v11 (0 : Int32) T) ∧ (v13 = v17 →
  u_g c (some x0) 5 (fun i => T.2.1 26 (10 * (i / 2) + (if i % 2 = 0 then 2 else 5))) (fun v24 =>
  uX4_wouldHaveTooMany_J31 c Q X x1 v11 v24 T)))))))))
set_option maxHeartbeats 4000000 in
set_option maxRecDepth 100000 in
theorem rX4_wouldHaveTooMany {g : Nat × Nat} {S : qS} {A : Nat → Nat → Nat} {C c : Nat → Nat} {T : mT} {x0 : Nat} {x1 : Option Nat} {Q : Int32 → mT → Prop} {X : String → mT → Prop} {post : Int32 → qS → Prop} {xp : String → qS → Prop} (hM : RU g S A C c T) (h : uX4_wouldHaveTooMany c x0 x1 T Q X) (hp : ∀ (v : Int32) (T' : mT) (S' : qS), Q v T' → RU g S' A C c T' → cfr S S' → post v S') (hx : ∀ (n : String) (T' : mT) (S' : qS), X n T' → RU g S' A C c T' → cfr S S' → xp n S') : pX4_wouldHaveTooMany (A 5 x0) (Option.map (A 5) x1) S post xp := by
  unfold uX4_wouldHaveTooMany at h
  unfold pX4_wouldHaveTooMany
  obtain ⟨S0, hS0⟩ : ∃ S0, S0 = S := ⟨_, rfl⟩
  rw [← hS0] at hp hx
  have hF : cfr S0 S := by rw [hS0]; exact cfr.rf
  clear hS0
  refine uq_R 200 hM (by decide) (fun _ => rfl) h (fun v1 h => ?_)
  refine uq_S 121 hM (by decide) (fun _ => rfl) h (fun v4 h => ?_)
  refine uq_I 202 hM (by decide) (fun _ => rfl) h (fun v8 h => ?_)
  refine uq_A (k := 10) hM (by decide) (fun i j => by simp [a_row, a_st]) h (fun v11 h => ?_)
  refine uq_I 202 hM (by decide) (fun _ => rfl) h (fun v13 h => ?_)
  refine uq_I 202 hM (by decide) (fun _ => rfl) h (fun v17 h => ?_)
  have jn31 : ∀ (x1 : Option Nat) (t0 : Int32) (t1 : Int32) (T : mT) (S : qS), uX4_wouldHaveTooMany_J31 c Q X x1 t0 t1 T → RU g S A C c T → cfr S0 S → pX4_wouldHaveTooMany_J31 post xp (Option.map (A 5) x1) t0 t1 S := by
    intro x1 t0 t1 T S h hM hF
    unfold uX4_wouldHaveTooMany_J31 at h
    unfold pX4_wouldHaveTooMany_J31
    refine uq_I 201 hM (by decide) (fun _ => rfl) h (fun v35 h => ?_)
    have jn49 : ∀ (t0 : Int32) (T : mT) (S : qS), uX4_wouldHaveTooMany_J49 c Q X t0 T → RU g S A C c T → cfr S0 S → pX4_wouldHaveTooMany_J49 post xp t0 S := by
      intro t0 T S h hM hF
      unfold uX4_wouldHaveTooMany_J49 at h
      unfold pX4_wouldHaveTooMany_J49
      exact ⟨h.1, hp _ _ _ h.2 hM hF⟩
    refine ⟨fun c41 => ?_, fun c41 => ?_⟩
    · have h := h.1 c41
      exact jn49 _ _ _ h hM hF
    · have h := h.2 c41
      exact jn49 _ _ _ h hM hF
  refine ⟨fun c20 => ?_, fun c20 => ?_⟩
  · have h := h.1 c20
    exact jn31 _ _ _ _ _ h hM hF
  · have h := h.2 c20
    refine uq_I 201 hM (by decide) (fun _ => rfl) h (fun v24 h => ?_)
    exact jn31 _ _ _ _ _ h hM hF

def uX4_isWornSince_J26  (c : Nat → Nat) (Q : Int32 → mT → Prop) (X : String → mT → Prop) (t0 : Int32) (T : mT) : Prop :=
  ((t0 = 0 ∨ t0 = 1) ∧ Q t0 T)
def uX4_isWornSince_J25  (c : Nat → Nat) (Q : Int32 → mT → Prop) (X : String → mT → Prop)  (T : mT) : Prop :=
  uX4_isWornSince_J26 c Q X (0 : Int32) T
def uX4_isWornSince (c : Nat → Nat) (x0 : Nat) (T : mT) (Q : Int32 → mT → Prop) (X : String → mT → Prop) : Prop :=
  u_g c (some x0) 5 (fun i => rf (T.2.1 26 (10 * (i / 2) + (if i % 2 = 0 then 4 else 7)))) (fun v1 =>
  ((v1 = none →
  uX4_isWornSince_J25 c Q X T) ∧ (¬ v1 = none →
  u_g c (some x0) 5 (fun i => rf (T.2.1 26 (10 * (i / 2) + (if i % 2 = 0 then 4 else 7)))) (fun v8 =>
  u_g c v8 6 (fun i => T.2.1 15 i) (fun v11 =>
  u_g c (some x0) 5 (fun i => T.2.1 26 (10 * (i / 2) + (if i % 2 = 0 then 8 else 9))) (fun v15 =>
  ((v11 = v15 →
  uX4_isWornSince_J25 c Q X T) ∧ (¬ v11 = v15 →
  uX4_isWornSince_J26 c Q X (1 : Int32) T))))))))
set_option maxHeartbeats 4000000 in
set_option maxRecDepth 100000 in
theorem rX4_isWornSince {g : Nat × Nat} {S : qS} {A : Nat → Nat → Nat} {C c : Nat → Nat} {T : mT} {x0 : Nat} {Q : Int32 → mT → Prop} {X : String → mT → Prop} {post : Int32 → qS → Prop} {xp : String → qS → Prop} (hM : RU g S A C c T) (h : uX4_isWornSince c x0 T Q X) (hp : ∀ (v : Int32) (T' : mT) (S' : qS), Q v T' → RU g S' A C c T' → cfr S S' → post v S') (hx : ∀ (n : String) (T' : mT) (S' : qS), X n T' → RU g S' A C c T' → cfr S S' → xp n S') : pX4_isWornSince (A 5 x0) S post xp := by
  unfold uX4_isWornSince at h
  unfold pX4_isWornSince
  obtain ⟨S0, hS0⟩ : ∃ S0, S0 = S := ⟨_, rfl⟩
  rw [← hS0] at hp hx
  have hF : cfr S0 S := by rw [hS0]; exact cfr.rf
  clear hS0
  refine uq_R 203 hM (by decide) (fun _ => rfl) h (fun v1 h => ?_)
  have jn26 : ∀ (t0 : Int32) (T : mT) (S : qS), uX4_isWornSince_J26 c Q X t0 T → RU g S A C c T → cfr S0 S → pX4_isWornSince_J26 post xp t0 S := by
    intro t0 T S h hM hF
    unfold uX4_isWornSince_J26 at h
    unfold pX4_isWornSince_J26
    exact ⟨h.1, hp _ _ _ h.2 hM hF⟩
  have jn25 : ∀ (T : mT) (S : qS), uX4_isWornSince_J25 c Q X T → RU g S A C c T → cfr S0 S → pX4_isWornSince_J25 post xp S := by
    intro T S h hM hF
    unfold uX4_isWornSince_J25 at h
    unfold pX4_isWornSince_J25
    exact jn26 _ _ _ h hM hF
  refine ⟨fun c4 => ?_, fun c4 => ?_⟩
  · have h := h.1 (ua_no.mp c4)
    exact jn25 _ _ h hM hF
  · have h := h.2 (fun z => c4 (ua_no.mpr z))
    refine uq_R 203 hM (by decide) (fun _ => rfl) h (fun v8 h => ?_)
    refine uq_I 246 hM (by decide) (fun _ => rfl) h (fun v11 h => ?_)
    refine uq_I 204 hM (by decide) (fun _ => rfl) h (fun v15 h => ?_)
    refine ⟨fun c18 => ?_, fun c18 => ?_⟩
    · have h := h.1 c18
      exact jn25 _ _ h hM hF
    · have h := h.2 c18
      exact jn26 _ _ _ h hM hF

def uX5_isBroken_J12  (c : Nat → Nat) (Q : Int32 → mT → Prop) (X : String → mT → Prop) (t0 : Int32) (T : mT) : Prop :=
  ((t0 = 0 ∨ t0 = 1) ∧ Q t0 T)
def uX5_isBroken (c : Nat → Nat) (x0 : Nat) (T : mT) (Q : Int32 → mT → Prop) (X : String → mT → Prop) : Prop :=
  u_g c (some x0) 6 (fun i => rf (T.2.1 19 i)) (fun v1 =>
  ((¬ v1 = none →
  uX5_isBroken_J12 c Q X (0 : Int32) T) ∧ (v1 = none →
  uX5_isBroken_J12 c Q X (1 : Int32) T)))
set_option maxHeartbeats 4000000 in
set_option maxRecDepth 100000 in
theorem rX5_isBroken {g : Nat × Nat} {S : qS} {A : Nat → Nat → Nat} {C c : Nat → Nat} {T : mT} {x0 : Nat} {Q : Int32 → mT → Prop} {X : String → mT → Prop} {post : Int32 → qS → Prop} {xp : String → qS → Prop} (hM : RU g S A C c T) (h : uX5_isBroken c x0 T Q X) (hp : ∀ (v : Int32) (T' : mT) (S' : qS), Q v T' → RU g S' A C c T' → cfr S S' → post v S') (hx : ∀ (n : String) (T' : mT) (S' : qS), X n T' → RU g S' A C c T' → cfr S S' → xp n S') : pX5_isBroken (A 6 x0) S post xp := by
  unfold uX5_isBroken at h
  unfold pX5_isBroken
  obtain ⟨S0, hS0⟩ : ∃ S0, S0 = S := ⟨_, rfl⟩
  rw [← hS0] at hp hx
  have hF : cfr S0 S := by rw [hS0]; exact cfr.rf
  clear hS0
  refine uq_R 249 hM (by decide) (fun _ => rfl) h (fun v1 h => ?_)
  have jn12 : ∀ (t0 : Int32) (T : mT) (S : qS), uX5_isBroken_J12 c Q X t0 T → RU g S A C c T → cfr S0 S → pX5_isBroken_J12 post xp t0 S := by
    intro t0 T S h hM hF
    unfold uX5_isBroken_J12 at h
    unfold pX5_isBroken_J12
    exact ⟨h.1, hp _ _ _ h.2 hM hF⟩
  refine ⟨fun c4 => ?_, fun c4 => ?_⟩
  · have h := h.1 (fun z => c4 (ua_no.mpr z))
    exact jn12 _ _ _ h hM hF
  · have h := h.2 (ua_no.mp c4)
    exact jn12 _ _ _ h hM hF

def uX5_isLent_J12  (c : Nat → Nat) (Q : Int32 → mT → Prop) (X : String → mT → Prop) (t0 : Int32) (T : mT) : Prop :=
  ((t0 = 0 ∨ t0 = 1) ∧ Q t0 T)
def uX5_isLent (c : Nat → Nat) (x0 : Nat) (T : mT) (Q : Int32 → mT → Prop) (X : String → mT → Prop) : Prop :=
  u_g c (some x0) 6 (fun i => rf (T.2.1 21 i)) (fun v1 =>
  ((v1 = none →
  uX5_isLent_J12 c Q X (0 : Int32) T) ∧ (¬ v1 = none →
  uX5_isLent_J12 c Q X (1 : Int32) T)))
set_option maxHeartbeats 4000000 in
set_option maxRecDepth 100000 in
theorem rX5_isLent {g : Nat × Nat} {S : qS} {A : Nat → Nat → Nat} {C c : Nat → Nat} {T : mT} {x0 : Nat} {Q : Int32 → mT → Prop} {X : String → mT → Prop} {post : Int32 → qS → Prop} {xp : String → qS → Prop} (hM : RU g S A C c T) (h : uX5_isLent c x0 T Q X) (hp : ∀ (v : Int32) (T' : mT) (S' : qS), Q v T' → RU g S' A C c T' → cfr S S' → post v S') (hx : ∀ (n : String) (T' : mT) (S' : qS), X n T' → RU g S' A C c T' → cfr S S' → xp n S') : pX5_isLent (A 6 x0) S post xp := by
  unfold uX5_isLent at h
  unfold pX5_isLent
  obtain ⟨S0, hS0⟩ : ∃ S0, S0 = S := ⟨_, rfl⟩
  rw [← hS0] at hp hx
  have hF : cfr S0 S := by rw [hS0]; exact cfr.rf
  clear hS0
  refine uq_R 248 hM (by decide) (fun _ => rfl) h (fun v1 h => ?_)
  have jn12 : ∀ (t0 : Int32) (T : mT) (S : qS), uX5_isLent_J12 c Q X t0 T → RU g S A C c T → cfr S0 S → pX5_isLent_J12 post xp t0 S := by
    intro t0 T S h hM hF
    unfold uX5_isLent_J12 at h
    unfold pX5_isLent_J12
    exact ⟨h.1, hp _ _ _ h.2 hM hF⟩
  refine ⟨fun c4 => ?_, fun c4 => ?_⟩
  · have h := h.1 (ua_no.mp c4)
    exact jn12 _ _ _ h hM hF
  · have h := h.2 (fun z => c4 (ua_no.mpr z))
    exact jn12 _ _ _ h hM hF

def uX5_passTo_J37  (c : Nat → Nat) (Q : mT → Prop) (X : String → mT → Prop) (x0 : Option Nat) (T : mT) : Prop :=
  u_g c x0 6 (fun i => T.2.1 24 i) (fun v39 =>
  u_g c x0 6 (fun i => m_sA T 24 i (v39 + (1 : Int32))) (fun T =>
  Q T))
def uX5_passTo (c : Nat → Nat) (x0 : Nat) (x1 : Option Nat) (x2 : Int32) (T : mT) (Q : mT → Prop) (X : String → mT → Prop) : Prop :=
  (u_vo c 3 x1 ∧ u_g c (some x0) 6 (fun i => m_sA T 19 i (fr x1)) (fun T =>
  u_g c (some x0) 6 (fun i => T.2.1 24 i) (fun v6 =>
  (((30 : Int32) ≤ v6 →
  uX5_passTo_J37 c Q X (some x0) T) ∧ (¬ (30 : Int32) ≤ v6 →
  u_g c (some x0) 6 (fun i => some (i)) (fun v15 =>
  u_g c (some x0) 6 (fun i => T.2.1 24 i) (fun v19 =>
  u_g c x1 3 (fun i => nI i) (fun v23 =>
  u_a c v15 13 30 v19 (fun i j => m_sA T 22 (30 * i + j) v23) (fun T =>
  u_g c (some x0) 6 (fun i => some (i)) (fun v28 =>
  u_g c (some x0) 6 (fun i => T.2.1 24 i) (fun v32 =>
  u_a c v28 14 30 v32 (fun i j => m_sA T 23 (30 * i + j) x2) (fun T =>
  uX5_passTo_J37 c Q X (some x0) T))))))))))))
set_option maxHeartbeats 4000000 in
set_option maxRecDepth 100000 in
theorem rX5_passTo {g : Nat × Nat} {S : qS} {A : Nat → Nat → Nat} {C c : Nat → Nat} {T : mT} {x0 : Nat} {x1 : Option Nat} {x2 : Int32} {Q : mT → Prop} {X : String → mT → Prop} {post : qS → Prop} {xp : String → qS → Prop} (hM : RU g S A C c T) (h : uX5_passTo c x0 x1 x2 T Q X) (hp : ∀ (T' : mT) (S' : qS), Q T' → RU g S' A C c T' → cfr S S' → post S') (hx : ∀ (n : String) (T' : mT) (S' : qS), X n T' → RU g S' A C c T' → cfr S S' → xp n S') : pX5_passTo (A 6 x0) (Option.map (A 3) x1) x2 S post xp := by
  unfold uX5_passTo at h
  unfold pX5_passTo
  obtain ⟨S0, hS0⟩ : ∃ S0, S0 = S := ⟨_, rfl⟩
  rw [← hS0] at hp hx
  have hF : cfr S0 S := by rw [hS0]; exact cfr.rf
  clear hS0
  refine um_R 249 hM hF (by decide) h (fun T S h hM hF => ?_)
  refine uq_I 245 hM (by decide) (fun _ => rfl) h (fun v6 h => ?_)
  have jn37 : ∀ (x0 : Option Nat) (T : mT) (S : qS), uX5_passTo_J37 c Q X x0 T → RU g S A C c T → cfr S0 S → pX5_passTo_J37 post xp (Option.map (A 6) x0) S := by
    intro x0 T S h hM hF
    unfold uX5_passTo_J37 at h
    unfold pX5_passTo_J37
    refine uq_I 245 hM (by decide) (fun _ => rfl) h (fun v39 h => ?_)
    refine um_I 245 hM hF (by decide) h (fun T S h hM hF => ?_)
    exact hp _ _ h hM hF
  refine ⟨fun c11 => ?_, fun c11 => ?_⟩
  · have h := h.1 c11
    exact jn37 _ _ _ h hM hF
  · have h := h.2 c11
    refine uq_S 243 hM (by decide) (fun _ => rfl) h (fun v15 h => ?_)
    refine uq_I 245 hM (by decide) (fun _ => rfl) h (fun v19 h => ?_)
    refine uq_N 120 hM (by decide) (fun _ => rfl) h (fun v23 h => ?_)
    refine um_A (k := 13) hM hF (by decide) (fun i j => by simp [a_row, a_st]) h (fun T S h hM hF => ?_)
    refine uq_S 244 hM (by decide) (fun _ => rfl) h (fun v28 h => ?_)
    refine uq_I 245 hM (by decide) (fun _ => rfl) h (fun v32 h => ?_)
    refine um_A (k := 14) hM hF (by decide) (fun i j => by simp [a_row, a_st]) h (fun T S h hM hF => ?_)
    exact jn37 _ _ _ h hM hF

def uX5_endLoan (c : Nat → Nat) (x0 : Nat) (T : mT) (Q : mT → Prop) (X : String → mT → Prop) : Prop :=
  (u_vo c 3 (none : Option Nat) ∧ u_g c (some x0) 6 (fun i => m_sA T 21 i (fr (none : Option Nat))) (fun T =>
  u_g c (some x0) 6 (fun i => m_sA T 20 i (-1 : Int32)) (fun T =>
  Q T)))
set_option maxHeartbeats 4000000 in
set_option maxRecDepth 100000 in
theorem rX5_endLoan {g : Nat × Nat} {S : qS} {A : Nat → Nat → Nat} {C c : Nat → Nat} {T : mT} {x0 : Nat} {Q : mT → Prop} {X : String → mT → Prop} {post : qS → Prop} {xp : String → qS → Prop} (hM : RU g S A C c T) (h : uX5_endLoan c x0 T Q X) (hp : ∀ (T' : mT) (S' : qS), Q T' → RU g S' A C c T' → cfr S S' → post S') (hx : ∀ (n : String) (T' : mT) (S' : qS), X n T' → RU g S' A C c T' → cfr S S' → xp n S') : pX5_endLoan (A 6 x0) S post xp := by
  unfold uX5_endLoan at h
  unfold pX5_endLoan
  obtain ⟨S0, hS0⟩ : ∃ S0, S0 = S := ⟨_, rfl⟩
  rw [← hS0] at hp hx
  have hF : cfr S0 S := by rw [hS0]; exact cfr.rf
  clear hS0
  refine um_R 248 hM hF (by decide) h (fun T S h hM hF => ?_)
  refine um_I 247 hM hF (by decide) h (fun T S h hM hF => ?_)
  exact hp _ _ h hM hF

def uX5_liesWithin_L5  (c : Nat → Nat) (Q : Int32 → mT → Prop) (X : String → mT → Prop) : Nat → Option Nat → Option Nat → mT → Prop
  | 0, _, _, _ => False
  | n5 + 1, x1, x2, T =>
  ((x2 = none →
  (((0 : Int32) = 0 ∨ (0 : Int32) = 1) ∧ Q (0 : Int32) T)) ∧ (¬ x2 = none →
  (u_vo c 6 x2 ∧ u_vo c 6 x1 ∧ ((¬ x2 = x1 →
  u_g c x2 6 (fun i => rf (T.2.1 18 i)) (fun v17 =>
  (uX5_liesWithin_L5 c Q X n5) x1 v17 T)) ∧ (x2 = x1 →
  (((1 : Int32) = 0 ∨ (1 : Int32) = 1) ∧ Q (1 : Int32) T))))))
def uX5_liesWithin (c : Nat → Nat) (x0 : Nat) (x1 : Option Nat) (T : mT) (Q : Int32 → mT → Prop) (X : String → mT → Prop) : Prop :=
  u_g c (some x0) 6 (fun i => rf (T.2.1 18 i)) (fun v1 =>
  ∃ n5, uX5_liesWithin_L5 c Q X n5 x1 v1 T)
set_option maxHeartbeats 4000000 in
set_option maxRecDepth 100000 in
theorem rX5_liesWithin {g : Nat × Nat} {S : qS} {A : Nat → Nat → Nat} {C c : Nat → Nat} {T : mT} {x0 : Nat} {x1 : Option Nat} {Q : Int32 → mT → Prop} {X : String → mT → Prop} {post : Int32 → qS → Prop} {xp : String → qS → Prop} (hM : RU g S A C c T) (h : uX5_liesWithin c x0 x1 T Q X) (hp : ∀ (v : Int32) (T' : mT) (S' : qS), Q v T' → RU g S' A C c T' → cfr S S' → post v S') (hx : ∀ (n : String) (T' : mT) (S' : qS), X n T' → RU g S' A C c T' → cfr S S' → xp n S') : pX5_liesWithin (A 6 x0) (Option.map (A 6) x1) S post xp := by
  unfold uX5_liesWithin at h
  unfold pX5_liesWithin
  obtain ⟨S0, hS0⟩ : ∃ S0, S0 = S := ⟨_, rfl⟩
  rw [← hS0] at hp hx
  have hF : cfr S0 S := by rw [hS0]; exact cfr.rf
  clear hS0
  refine uq_R 250 hM (by decide) (fun _ => rfl) h (fun v1 h => ?_)
  obtain ⟨n5, h⟩ := h
  refine ⟨n5, ?_⟩
  have lp5 : ∀ (n5 : Nat) (x1 : Option Nat) (x2 : Option Nat) (T : mT) (S : qS), uX5_liesWithin_L5 c Q X n5 x1 x2 T → RU g S A C c T → cfr S0 S → pX5_liesWithin_L5 post xp n5 (Option.map (A 6) x1) (Option.map (A 6) x2) S := by
    intro n5
    induction n5 with
    | zero => intro x1 x2 T S h hM hF; exact h.elim
    | succ n5 ih5 =>
      intro x1 x2 T S h hM hF
      unfold uX5_liesWithin_L5 at h
      unfold pX5_liesWithin_L5
      refine ⟨fun c6 => ?_, fun c6 => ?_⟩
      · have h := h.1 (ua_no.mp c6)
        exact ⟨h.1, hp _ _ _ h.2 hM hF⟩
      · have h := h.2 (fun z => c6 (ua_no.mpr z))
        obtain ⟨g1, g2, h⟩ := h
        refine ⟨fun c11 => ?_, fun c11 => ?_⟩
        · have h := h.1 (fun z => c11 ((ua_eq hM g1 g2).mpr z))
          refine uq_R 250 hM (by decide) (fun _ => rfl) h (fun v17 h => ?_)
          exact ih5 _ _ _ _ h hM hF
        · have h := h.2 ((ua_eq hM g1 g2).mp c11)
          exact ⟨h.1, hp _ _ _ h.2 hM hF⟩
  exact lp5 n5 _ _ _ _ h hM hF

def uX0_begin_L12  (c : Nat → Nat) (Q : mT → Prop) (X : String → mT → Prop) : Nat → Option Nat → Int32 → mT → Prop
  | 0, _, _, _ => False
  | n12 + 1, x0, x1, T =>
  (((4 : Int32) ≤ x1 →
  Q T) ∧ (¬ (4 : Int32) ≤ x1 →
  u_g c x0 1 (fun _ => some (0)) (fun v18 =>
  u_a c v18 16 4 x1 (fun _ j => m_sA T 46 (j) ((10 : Int32) + x1)) (fun T =>
  (uX0_begin_L12 c Q X n12) x0 (x1 + 1) T))))
def uX0_begin (c : Nat → Nat) (x0 : Nat) (T : mT) (Q : mT → Prop) (X : String → mT → Prop) : Prop :=
  u_g c (some x0) 1 (fun _ => m_sI T 43 (0 : Int32)) (fun T =>
  u_g c (some x0) 1 (fun _ => m_sJ T 44 0 (1 : Int64)) (fun T =>
  ∃ n12, uX0_begin_L12 c Q X n12 (some x0) (0 : Int32) T))
set_option maxHeartbeats 4000000 in
set_option maxRecDepth 100000 in
theorem rX0_begin {g : Nat × Nat} {S : qS} {A : Nat → Nat → Nat} {C c : Nat → Nat} {T : mT} {x0 : Nat} {Q : mT → Prop} {X : String → mT → Prop} {post : qS → Prop} {xp : String → qS → Prop} (hM : RU g S A C c T) (h : uX0_begin c x0 T Q X) (hp : ∀ (T' : mT) (S' : qS), Q T' → RU g S' A C c T' → cfr S S' → post S') (hx : ∀ (n : String) (T' : mT) (S' : qS), X n T' → RU g S' A C c T' → cfr S S' → xp n S') : pX0_begin (A 1 x0) S post xp := by
  unfold uX0_begin at h
  unfold pX0_begin
  obtain ⟨S0, hS0⟩ : ∃ S0, S0 = S := ⟨_, rfl⟩
  rw [← hS0] at hp hx
  have hF : cfr S0 S := by rw [hS0]; exact cfr.rf
  clear hS0
  refine um_F 43 hM hF (by decide) h (fun T S h hM hF => ?_)
  refine um_J hM hF h (fun T S h hM hF => ?_)
  obtain ⟨n12, h⟩ := h
  refine ⟨n12, ?_⟩
  have lp12 : ∀ (n12 : Nat) (x0 : Option Nat) (x1 : Int32) (T : mT) (S : qS), uX0_begin_L12 c Q X n12 x0 x1 T → RU g S A C c T → cfr S0 S → pX0_begin_L12 post xp n12 (Option.map (A 1) x0) x1 S := by
    intro n12
    induction n12 with
    | zero => intro x0 x1 T S h hM hF; exact h.elim
    | succ n12 ih12 =>
      intro x0 x1 T S h hM hF
      unfold uX0_begin_L12 at h
      unfold pX0_begin_L12
      refine ⟨fun c14 => ?_, fun c14 => ?_⟩
      · have h := h.1 c14
        exact hp _ _ h hM hF
      · have h := h.2 c14
        refine uq_S 41 hM (by decide) (fun _ => rfl) h (fun v18 h => ?_)
        refine um_A (k := 16) hM hF (by decide) (fun i j => by simp [a_row, a_st]) h (fun T S h hM hF => ?_)
        exact ih12 _ _ _ _ h hM hF
  exact lp12 n12 _ _ _ _ h hM hF

def uX0_enter_J56  (c : Nat → Nat) (Q : mT → Prop) (X : String → mT → Prop) (x0 : Option Nat) (x2 : Int64) (T : mT) : Prop :=
  u_g c x0 1 (fun _ => some (0)) (fun v57 =>
  u_a c v57 21 5 (4 : Int32) (fun _ j => some j) (fun v61 =>
  u_g c x0 1 (fun _ => T.1 43) (fun v63 =>
  u_a c v61 20 10 v63 (fun i j => m_sJ T (50 + i) j x2) (fun T =>
  u_g c x0 1 (fun _ => some (0)) (fun v69 =>
  u_g c x0 1 (fun _ => T.1 43) (fun v73 =>
  u_g c x0 1 (fun _ => T.1 43) (fun v77 =>
  u_a c v69 17 10 v73 (fun _ j => m_sA T 47 (j) v77) (fun T =>
  u_g c x0 1 (fun _ => T.1 43) (fun v83 =>
  u_g c x0 1 (fun _ => m_sI T 43 (v83 + (1 : Int32))) (fun T =>
  Q T))))))))))
def uX0_enter_L15 (k56 : Option Nat → Int64 → mT → Prop) (c : Nat → Nat) (Q : mT → Prop) (X : String → mT → Prop) : Nat → Option Nat → Option Nat → Int64 → Int32 → mT → Prop
  | 0, _, _, _, _, _ => False
  | n15 + 1, x0, x1, x2, x4, T =>
  (((4 : Int32) ≤ x4 →
  k56 x0 x2 T) ∧ (¬ (4 : Int32) ≤ x4 →
  u_at c x1 4 (fun b24 => uX3_won c b24 x4 T (fun v24 T =>
  u_g c x0 1 (fun _ => some (0)) (fun v30 =>
  u_a c v30 21 5 x4 (fun _ j => some j) (fun v35 =>
  u_g c x0 1 (fun _ => T.1 43) (fun v37 =>
  u_a c v35 20 10 v37 (fun i j => m_sJ T (50 + i) j v24.toInt64) (fun T =>
  (uX0_enter_L15 k56 c Q X n15) x0 x1 (x2 + v24.toInt64) (x4 + 1) T))))) X)))
def uX0_enter (c : Nat → Nat) (x0 : Nat) (x1 : Option Nat) (T : mT) (Q : mT → Prop) (X : String → mT → Prop) : Prop :=
  u_g c (some x0) 1 (fun _ => T.1 43) (fun v1 =>
  ((v1 < (10 : Int32) →
  ∃ n15, uX0_enter_L15 (uX0_enter_J56 c Q X) c Q X n15 (some x0) x1 (0 : Int64) (0 : Int32) T) ∧ (¬ v1 < (10 : Int32) →
  Q T)))
set_option maxHeartbeats 4000000 in
set_option maxRecDepth 100000 in
theorem rX0_enter {g : Nat × Nat} {S : qS} {A : Nat → Nat → Nat} {C c : Nat → Nat} {T : mT} {x0 : Nat} {x1 : Option Nat} {Q : mT → Prop} {X : String → mT → Prop} {post : qS → Prop} {xp : String → qS → Prop} (hM : RU g S A C c T) (h : uX0_enter c x0 x1 T Q X) (hp : ∀ (T' : mT) (S' : qS), Q T' → RU g S' A C c T' → cfr S S' → post S') (hx : ∀ (n : String) (T' : mT) (S' : qS), X n T' → RU g S' A C c T' → cfr S S' → xp n S') : pX0_enter (A 1 x0) (Option.map (A 4) x1) S post xp := by
  unfold uX0_enter at h
  unfold pX0_enter
  obtain ⟨S0, hS0⟩ : ∃ S0, S0 = S := ⟨_, rfl⟩
  rw [← hS0] at hp hx
  have hF : cfr S0 S := by rw [hS0]; exact cfr.rf
  clear hS0
  refine uq_F 43 hM (by decide) (fun _ => rfl) h (fun v1 h => ?_)
  refine ⟨fun c6 => ?_, fun c6 => ?_⟩
  · have h := h.1 c6
    have jn56 : ∀ (x0 : Option Nat) (x2 : Int64) (T : mT) (S : qS), uX0_enter_J56 c Q X x0 x2 T → RU g S A C c T → cfr S0 S → pX0_enter_J56 post xp (Option.map (A 1) x0) x2 S := by
      intro x0 x2 T S h hM hF
      unfold uX0_enter_J56 at h
      unfold pX0_enter_J56
      refine uq_S 40 hM (by decide) (fun _ => rfl) h (fun v57 h => ?_)
      refine uq_AO hM h (fun v61 h => ?_)
      refine uq_F 43 hM (by decide) (fun _ => rfl) h (fun v63 h => ?_)
      refine um_AJ (k := 20) hM hF (by decide) (fun _ _ => rfl) h (fun T S h hM hF => ?_)
      refine uq_S 42 hM (by decide) (fun _ => rfl) h (fun v69 h => ?_)
      refine uq_F 43 hM (by decide) (fun _ => rfl) h (fun v73 h => ?_)
      refine uq_F 43 hM (by decide) (fun _ => rfl) h (fun v77 h => ?_)
      refine um_A (k := 17) hM hF (by decide) (fun i j => by simp [a_row, a_st]) h (fun T S h hM hF => ?_)
      refine uq_F 43 hM (by decide) (fun _ => rfl) h (fun v83 h => ?_)
      refine um_F 43 hM hF (by decide) h (fun T S h hM hF => ?_)
      exact hp _ _ h hM hF
    obtain ⟨n15, h⟩ := h
    refine ⟨n15, ?_⟩
    have lp15 : ∀ (n15 : Nat) (x0 : Option Nat) (x1 : Option Nat) (x2 : Int64) (x4 : Int32) (T : mT) (S : qS), uX0_enter_L15 (uX0_enter_J56 c Q X) c Q X n15 x0 x1 x2 x4 T → RU g S A C c T → cfr S0 S → pX0_enter_L15 (pX0_enter_J56 post xp) post xp n15 (Option.map (A 1) x0) (Option.map (A 4) x1) x2 x4 S := by
      intro n15
      induction n15 with
      | zero => intro x0 x1 x2 x4 T S h hM hF; exact h.elim
      | succ n15 ih15 =>
        intro x0 x1 x2 x4 T S h hM hF
        unfold uX0_enter_L15 at h
        unfold pX0_enter_L15
        refine ⟨fun c18 => ?_, fun c18 => ?_⟩
        · have h := h.1 c18
          exact jn56 _ _ _ _ h hM hF
        · have h := h.2 c18
          refine uq_at hM h (fun b24 hb24 h => ?_)
          refine rX3_won hM h (fun v24 T S h hM hF1 => ?_) (fun n T S h hM hF1 => hx n T S h hM (hF.tr hF1))
          have hF := hF.tr hF1
          refine uq_S 40 hM (by decide) (fun _ => rfl) h (fun v30 h => ?_)
          refine uq_AO hM h (fun v35 h => ?_)
          refine uq_F 43 hM (by decide) (fun _ => rfl) h (fun v37 h => ?_)
          refine um_AJ (k := 20) hM hF (by decide) (fun _ _ => rfl) h (fun T S h hM hF => ?_)
          exact ih15 _ _ _ _ _ _ h hM hF
    exact lp15 n15 _ _ _ _ _ _ h hM hF
  · have h := h.2 c6
    exact hp _ _ h hM hF

def uX0_risingColumn_J47 (k4 : Option Nat → Int32 → Int32 → mT → Prop) (c : Nat → Nat) (Q : Int32 → mT → Prop) (X : String → mT → Prop) (x0 : Option Nat) (x1 : Int32) (x2 : Int32) (T : mT) : Prop :=
  k4 x0 x1 (x2 + 1) T
def uX0_risingColumn_J45 (k4 : Option Nat → Int32 → Int32 → mT → Prop) (c : Nat → Nat) (Q : Int32 → mT → Prop) (X : String → mT → Prop) (x0 : Option Nat) (x2 : Int32) (T : mT) : Prop :=
  uX0_risingColumn_J47 k4 c Q X x0 x2 x2 T
def uX0_risingColumn_L4  (c : Nat → Nat) (Q : Int32 → mT → Prop) (X : String → mT → Prop) : Nat → Option Nat → Int32 → Int32 → mT → Prop
  | 0, _, _, _, _ => False
  | n4 + 1, x0, x1, x2, T =>
  u_g c x0 1 (fun _ => T.1 43) (fun v6 =>
  ((v6 ≤ x2 →
  Q x1 T) ∧ (¬ v6 ≤ x2 →
  u_g c x0 1 (fun _ => some (0)) (fun v13 =>
  u_a c v13 21 5 (4 : Int32) (fun _ j => some j) (fun v17 =>
  u_a c v17 20 10 x2 (fun i j => T.2.2 (50 + i) j) (fun v19 =>
  (((lg_cmp v19 (0 : Int64)) ≤ 0 →
  uX0_risingColumn_J47 (uX0_risingColumn_L4 c Q X n4) c Q X x0 x1 x2 T) ∧ (¬ (lg_cmp v19 (0 : Int64)) ≤ 0 →
  ((x1 = (-1 : Int32) →
  uX0_risingColumn_J45 (uX0_risingColumn_L4 c Q X n4) c Q X x0 x2 T) ∧ (¬ x1 = (-1 : Int32) →
  u_g c x0 1 (fun _ => some (0)) (fun v31 =>
  u_a c v31 17 10 x2 (fun _ j => T.2.1 47 (j)) (fun v35 =>
  u_g c x0 1 (fun _ => some (0)) (fun v37 =>
  u_a c v37 17 10 x1 (fun _ j => T.2.1 47 (j)) (fun v41 =>
  ((v41 ≤ v35 →
  uX0_risingColumn_J47 (uX0_risingColumn_L4 c Q X n4) c Q X x0 x1 x2 T) ∧ (¬ v41 ≤ v35 →
  uX0_risingColumn_J45 (uX0_risingColumn_L4 c Q X n4) c Q X x0 x2 T))))))))))))))))
def uX0_risingColumn (c : Nat → Nat) (x0 : Nat) (T : mT) (Q : Int32 → mT → Prop) (X : String → mT → Prop) : Prop :=
  ∃ n4, uX0_risingColumn_L4 c Q X n4 (some x0) (-1 : Int32) (0 : Int32) T
set_option maxHeartbeats 4000000 in
set_option maxRecDepth 100000 in
theorem rX0_risingColumn {g : Nat × Nat} {S : qS} {A : Nat → Nat → Nat} {C c : Nat → Nat} {T : mT} {x0 : Nat} {Q : Int32 → mT → Prop} {X : String → mT → Prop} {post : Int32 → qS → Prop} {xp : String → qS → Prop} (hM : RU g S A C c T) (h : uX0_risingColumn c x0 T Q X) (hp : ∀ (v : Int32) (T' : mT) (S' : qS), Q v T' → RU g S' A C c T' → cfr S S' → post v S') (hx : ∀ (n : String) (T' : mT) (S' : qS), X n T' → RU g S' A C c T' → cfr S S' → xp n S') : pX0_risingColumn (A 1 x0) S post xp := by
  unfold uX0_risingColumn at h
  unfold pX0_risingColumn
  obtain ⟨S0, hS0⟩ : ∃ S0, S0 = S := ⟨_, rfl⟩
  rw [← hS0] at hp hx
  have hF : cfr S0 S := by rw [hS0]; exact cfr.rf
  clear hS0
  obtain ⟨n4, h⟩ := h
  refine ⟨n4, ?_⟩
  have lp4 : ∀ (n4 : Nat) (x0 : Option Nat) (x1 : Int32) (x2 : Int32) (T : mT) (S : qS), uX0_risingColumn_L4 c Q X n4 x0 x1 x2 T → RU g S A C c T → cfr S0 S → pX0_risingColumn_L4 post xp n4 (Option.map (A 1) x0) x1 x2 S := by
    intro n4
    induction n4 with
    | zero => intro x0 x1 x2 T S h hM hF; exact h.elim
    | succ n4 ih4 =>
      intro x0 x1 x2 T S h hM hF
      unfold uX0_risingColumn_L4 at h
      unfold pX0_risingColumn_L4
      refine uq_F 43 hM (by decide) (fun _ => rfl) h (fun v6 h => ?_)
      refine ⟨fun c9 => ?_, fun c9 => ?_⟩
      · have h := h.1 c9
        exact hp _ _ _ h hM hF
      · have h := h.2 c9
        refine uq_S 40 hM (by decide) (fun _ => rfl) h (fun v13 h => ?_)
        refine uq_AO hM h (fun v17 h => ?_)
        refine uq_AJ (k := 20) hM (by decide) (fun _ _ => rfl) h (fun v19 h => ?_)
        have jn47 : ∀ (x0 : Option Nat) (x1 : Int32) (x2 : Int32) (T : mT) (S : qS), uX0_risingColumn_J47 (uX0_risingColumn_L4 c Q X n4) c Q X x0 x1 x2 T → RU g S A C c T → cfr S0 S → pX0_risingColumn_J47 (pX0_risingColumn_L4 post xp n4) post xp (Option.map (A 1) x0) x1 x2 S := by
          intro x0 x1 x2 T S h hM hF
          unfold uX0_risingColumn_J47 at h
          unfold pX0_risingColumn_J47
          exact ih4 _ _ _ _ _ h hM hF
        refine ⟨fun c22 => ?_, fun c22 => ?_⟩
        · have h := h.1 c22
          exact jn47 _ _ _ _ _ h hM hF
        · have h := h.2 c22
          have jn45 : ∀ (x0 : Option Nat) (x2 : Int32) (T : mT) (S : qS), uX0_risingColumn_J45 (uX0_risingColumn_L4 c Q X n4) c Q X x0 x2 T → RU g S A C c T → cfr S0 S → pX0_risingColumn_J45 (pX0_risingColumn_L4 post xp n4) post xp (Option.map (A 1) x0) x2 S := by
            intro x0 x2 T S h hM hF
            unfold uX0_risingColumn_J45 at h
            unfold pX0_risingColumn_J45
            exact jn47 _ _ _ _ _ h hM hF
          refine ⟨fun c27 => ?_, fun c27 => ?_⟩
          · have h := h.1 c27
            exact jn45 _ _ _ _ h hM hF
          · have h := h.2 c27
            refine uq_S 42 hM (by decide) (fun _ => rfl) h (fun v31 h => ?_)
            refine uq_A (k := 17) hM (by decide) (fun i j => by simp [a_row, a_st]) h (fun v35 h => ?_)
            refine uq_S 42 hM (by decide) (fun _ => rfl) h (fun v37 h => ?_)
            refine uq_A (k := 17) hM (by decide) (fun i j => by simp [a_row, a_st]) h (fun v41 h => ?_)
            refine ⟨fun c42 => ?_, fun c42 => ?_⟩
            · have h := h.1 c42
              exact jn47 _ _ _ _ _ h hM hF
            · have h := h.2 c42
              exact jn45 _ _ _ _ h hM hF
  exact lp4 n4 _ _ _ _ _ h hM hF

def uX0_hinderingRow_J44 (k4 : Option Nat → Int32 → Int32 → Int32 → mT → Prop) (c : Nat → Nat) (Q : Int32 → mT → Prop) (X : String → mT → Prop) (x0 : Option Nat) (x1 : Int32) (x2 : Int32) (x3 : Int32) (T : mT) : Prop :=
  k4 x0 x1 x2 (x3 + 1) T
def uX0_hinderingRow_J42 (k4 : Option Nat → Int32 → Int32 → Int32 → mT → Prop) (c : Nat → Nat) (Q : Int32 → mT → Prop) (X : String → mT → Prop) (x0 : Option Nat) (x1 : Int32) (x3 : Int32) (T : mT) : Prop :=
  uX0_hinderingRow_J44 k4 c Q X x0 x1 x3 x3 T
def uX0_hinderingRow_L4  (c : Nat → Nat) (Q : Int32 → mT → Prop) (X : String → mT → Prop) : Nat → Option Nat → Int32 → Int32 → Int32 → mT → Prop
  | 0, _, _, _, _, _ => False
  | n4 + 1, x0, x1, x2, x3, T =>
  (((4 : Int32) ≤ x3 →
  Q x2 T) ∧ (¬ (4 : Int32) ≤ x3 →
  u_g c x0 1 (fun _ => some (0)) (fun v10 =>
  u_a c v10 21 5 x3 (fun _ j => some j) (fun v14 =>
  u_a c v14 20 10 x1 (fun i j => T.2.2 (50 + i) j) (fun v16 =>
  ((0 ≤ (lg_cmp v16 (0 : Int64)) →
  uX0_hinderingRow_J44 (uX0_hinderingRow_L4 c Q X n4) c Q X x0 x1 x2 x3 T) ∧ (¬ 0 ≤ (lg_cmp v16 (0 : Int64)) →
  ((x2 = (-1 : Int32) →
  uX0_hinderingRow_J42 (uX0_hinderingRow_L4 c Q X n4) c Q X x0 x1 x3 T) ∧ (¬ x2 = (-1 : Int32) →
  u_g c x0 1 (fun _ => some (0)) (fun v28 =>
  u_a c v28 16 4 x3 (fun _ j => T.2.1 46 (j)) (fun v32 =>
  u_g c x0 1 (fun _ => some (0)) (fun v34 =>
  u_a c v34 16 4 x2 (fun _ j => T.2.1 46 (j)) (fun v38 =>
  ((v38 ≤ v32 →
  uX0_hinderingRow_J44 (uX0_hinderingRow_L4 c Q X n4) c Q X x0 x1 x2 x3 T) ∧ (¬ v38 ≤ v32 →
  uX0_hinderingRow_J42 (uX0_hinderingRow_L4 c Q X n4) c Q X x0 x1 x3 T)))))))))))))))
def uX0_hinderingRow (c : Nat → Nat) (x0 : Nat) (x1 : Int32) (T : mT) (Q : Int32 → mT → Prop) (X : String → mT → Prop) : Prop :=
  ∃ n4, uX0_hinderingRow_L4 c Q X n4 (some x0) x1 (-1 : Int32) (0 : Int32) T
set_option maxHeartbeats 4000000 in
set_option maxRecDepth 100000 in
theorem rX0_hinderingRow {g : Nat × Nat} {S : qS} {A : Nat → Nat → Nat} {C c : Nat → Nat} {T : mT} {x0 : Nat} {x1 : Int32} {Q : Int32 → mT → Prop} {X : String → mT → Prop} {post : Int32 → qS → Prop} {xp : String → qS → Prop} (hM : RU g S A C c T) (h : uX0_hinderingRow c x0 x1 T Q X) (hp : ∀ (v : Int32) (T' : mT) (S' : qS), Q v T' → RU g S' A C c T' → cfr S S' → post v S') (hx : ∀ (n : String) (T' : mT) (S' : qS), X n T' → RU g S' A C c T' → cfr S S' → xp n S') : pX0_hinderingRow (A 1 x0) x1 S post xp := by
  unfold uX0_hinderingRow at h
  unfold pX0_hinderingRow
  obtain ⟨S0, hS0⟩ : ∃ S0, S0 = S := ⟨_, rfl⟩
  rw [← hS0] at hp hx
  have hF : cfr S0 S := by rw [hS0]; exact cfr.rf
  clear hS0
  obtain ⟨n4, h⟩ := h
  refine ⟨n4, ?_⟩
  have lp4 : ∀ (n4 : Nat) (x0 : Option Nat) (x1 : Int32) (x2 : Int32) (x3 : Int32) (T : mT) (S : qS), uX0_hinderingRow_L4 c Q X n4 x0 x1 x2 x3 T → RU g S A C c T → cfr S0 S → pX0_hinderingRow_L4 post xp n4 (Option.map (A 1) x0) x1 x2 x3 S := by
    intro n4
    induction n4 with
    | zero => intro x0 x1 x2 x3 T S h hM hF; exact h.elim
    | succ n4 ih4 =>
      intro x0 x1 x2 x3 T S h hM hF
      unfold uX0_hinderingRow_L4 at h
      unfold pX0_hinderingRow_L4
      refine ⟨fun c6 => ?_, fun c6 => ?_⟩
      · have h := h.1 c6
        exact hp _ _ _ h hM hF
      · have h := h.2 c6
        refine uq_S 40 hM (by decide) (fun _ => rfl) h (fun v10 h => ?_)
        refine uq_AO hM h (fun v14 h => ?_)
        refine uq_AJ (k := 20) hM (by decide) (fun _ _ => rfl) h (fun v16 h => ?_)
        have jn44 : ∀ (x0 : Option Nat) (x1 : Int32) (x2 : Int32) (x3 : Int32) (T : mT) (S : qS), uX0_hinderingRow_J44 (uX0_hinderingRow_L4 c Q X n4) c Q X x0 x1 x2 x3 T → RU g S A C c T → cfr S0 S → pX0_hinderingRow_J44 (pX0_hinderingRow_L4 post xp n4) post xp (Option.map (A 1) x0) x1 x2 x3 S := by
          intro x0 x1 x2 x3 T S h hM hF
          unfold uX0_hinderingRow_J44 at h
          unfold pX0_hinderingRow_J44
          exact ih4 _ _ _ _ _ _ h hM hF
        refine ⟨fun c19 => ?_, fun c19 => ?_⟩
        · have h := h.1 c19
          exact jn44 _ _ _ _ _ _ h hM hF
        · have h := h.2 c19
          have jn42 : ∀ (x0 : Option Nat) (x1 : Int32) (x3 : Int32) (T : mT) (S : qS), uX0_hinderingRow_J42 (uX0_hinderingRow_L4 c Q X n4) c Q X x0 x1 x3 T → RU g S A C c T → cfr S0 S → pX0_hinderingRow_J42 (pX0_hinderingRow_L4 post xp n4) post xp (Option.map (A 1) x0) x1 x3 S := by
            intro x0 x1 x3 T S h hM hF
            unfold uX0_hinderingRow_J42 at h
            unfold pX0_hinderingRow_J42
            exact jn44 _ _ _ _ _ _ h hM hF
          refine ⟨fun c24 => ?_, fun c24 => ?_⟩
          · have h := h.1 c24
            exact jn42 _ _ _ _ _ h hM hF
          · have h := h.2 c24
            refine uq_S 41 hM (by decide) (fun _ => rfl) h (fun v28 h => ?_)
            refine uq_A (k := 16) hM (by decide) (fun i j => by simp [a_row, a_st]) h (fun v32 h => ?_)
            refine uq_S 41 hM (by decide) (fun _ => rfl) h (fun v34 h => ?_)
            refine uq_A (k := 16) hM (by decide) (fun i j => by simp [a_row, a_st]) h (fun v38 h => ?_)
            refine ⟨fun c39 => ?_, fun c39 => ?_⟩
            · have h := h.1 c39
              exact jn44 _ _ _ _ _ _ h hM hF
            · have h := h.2 c39
              exact jn42 _ _ _ _ _ h hM hF
  exact lp4 n4 _ _ _ _ _ _ h hM hF

def uX0_replaceIn_J83  (c : Nat → Nat) (Q : mT → Prop) (X : String → mT → Prop) (x0 : Option Nat) (x1 : Int32) (x3 : Int32) (x6 : Int64) (T : mT) : Prop :=
  u_g c x0 1 (fun _ => some (0)) (fun v84 =>
  u_a c v84 21 5 x1 (fun _ j => some j) (fun v88 =>
  u_a c v88 20 10 x3 (fun i j => m_sJ T (50 + i) j (-x6)) (fun T =>
  Q T)))
def uX0_replaceIn_J77 (k23 : Option Nat → Int32 → Int32 → Int32 → Int64 → Int64 → Int32 → mT → Prop) (c : Nat → Nat) (Q : mT → Prop) (X : String → mT → Prop) (x0 : Option Nat) (x1 : Int32) (x2 : Int32) (x3 : Int32) (x4 : Int64) (x6 : Int64) (x8 : Int32) (T : mT) : Prop :=
  k23 x0 x1 x2 x3 x4 x6 (x8 + 1) T
def uX0_replaceIn_L23 (k83 : Option Nat → Int32 → Int32 → Int64 → mT → Prop) (c : Nat → Nat) (Q : mT → Prop) (X : String → mT → Prop) : Nat → Option Nat → Int32 → Int32 → Int32 → Int64 → Int64 → Int32 → mT → Prop
  | 0, _, _, _, _, _, _, _, _ => False
  | n23 + 1, x0, x1, x2, x3, x4, x6, x8, T =>
  u_g c x0 1 (fun _ => T.1 43) (fun v26 =>
  ((v26 ≤ x8 →
  k83 x0 x1 x3 x6 T) ∧ (¬ v26 ≤ x8 →
  ((x8 = x3 →
  uX0_replaceIn_J77 (uX0_replaceIn_L23 k83 c Q X n23) c Q X x0 x1 x2 x3 x4 x6 x8 T) ∧ (¬ x8 = x3 →
  u_g c x0 1 (fun _ => some (0)) (fun v39 =>
  u_a c v39 21 5 x1 (fun _ j => some j) (fun v43 =>
  u_g c x0 1 (fun _ => some (0)) (fun v49 =>
  u_a c v49 21 5 x2 (fun _ j => some j) (fun v53 =>
  u_a c v53 20 10 x8 (fun i j => T.2.2 (50 + i) j) (fun v56 =>
  u_g c x0 1 (fun _ => some (0)) (fun v61 =>
  u_a c v61 21 5 x1 (fun _ j => some j) (fun v65 =>
  u_a c v65 20 10 x8 (fun i j => T.2.2 (50 + i) j) (fun v68 =>
  u_g c x0 1 (fun _ => T.2.2 44 0) (fun v72 =>
  (¬ v72 = 0 ∧
  u_a c v43 20 10 x8 (fun i j => m_sJ T (50 + i) j (((x6 * v56) + (x4 * v68)) / v72)) (fun T =>
  uX0_replaceIn_J77 (uX0_replaceIn_L23 k83 c Q X n23) c Q X x0 x1 x2 x3 x4 x6 x8 T))))))))))))))))
def uX0_replaceIn (c : Nat → Nat) (x0 : Nat) (x1 : Int32) (x2 : Int32) (x3 : Int32) (x4 : Int64) (T : mT) (Q : mT → Prop) (X : String → mT → Prop) : Prop :=
  u_g c (some x0) 1 (fun _ => T.2.2 44 0) (fun v1 =>
  ((¬ (lg_cmp v1 (0 : Int64)) = 0 →
  u_g c (some x0) 1 (fun _ => some (0)) (fun v11 =>
  u_a c v11 21 5 x1 (fun _ j => some j) (fun v15 =>
  u_a c v15 20 10 x3 (fun i j => T.2.2 (50 + i) j) (fun v17 =>
  ∃ n23, uX0_replaceIn_L23 (uX0_replaceIn_J83 c Q X) c Q X n23 (some x0) x1 x2 x3 x4 v17 (0 : Int32) T)))) ∧ ((lg_cmp v1 (0 : Int64)) = 0 →
  Q T)))
set_option maxHeartbeats 4000000 in
set_option maxRecDepth 100000 in
theorem rX0_replaceIn {g : Nat × Nat} {S : qS} {A : Nat → Nat → Nat} {C c : Nat → Nat} {T : mT} {x0 : Nat} {x1 : Int32} {x2 : Int32} {x3 : Int32} {x4 : Int64} {Q : mT → Prop} {X : String → mT → Prop} {post : qS → Prop} {xp : String → qS → Prop} (hM : RU g S A C c T) (h : uX0_replaceIn c x0 x1 x2 x3 x4 T Q X) (hp : ∀ (T' : mT) (S' : qS), Q T' → RU g S' A C c T' → cfr S S' → post S') (hx : ∀ (n : String) (T' : mT) (S' : qS), X n T' → RU g S' A C c T' → cfr S S' → xp n S') : pX0_replaceIn (A 1 x0) x1 x2 x3 x4 S post xp := by
  unfold uX0_replaceIn at h
  unfold pX0_replaceIn
  obtain ⟨S0, hS0⟩ : ∃ S0, S0 = S := ⟨_, rfl⟩
  rw [← hS0] at hp hx
  have hF : cfr S0 S := by rw [hS0]; exact cfr.rf
  clear hS0
  refine uq_J hM (fun _ => rfl) h (fun v1 h => ?_)
  refine ⟨fun c6 => ?_, fun c6 => ?_⟩
  · have h := h.1 c6
    refine uq_S 40 hM (by decide) (fun _ => rfl) h (fun v11 h => ?_)
    refine uq_AO hM h (fun v15 h => ?_)
    refine uq_AJ (k := 20) hM (by decide) (fun _ _ => rfl) h (fun v17 h => ?_)
    have jn83 : ∀ (x0 : Option Nat) (x1 : Int32) (x3 : Int32) (x6 : Int64) (T : mT) (S : qS), uX0_replaceIn_J83 c Q X x0 x1 x3 x6 T → RU g S A C c T → cfr S0 S → pX0_replaceIn_J83 post xp (Option.map (A 1) x0) x1 x3 x6 S := by
      intro x0 x1 x3 x6 T S h hM hF
      unfold uX0_replaceIn_J83 at h
      unfold pX0_replaceIn_J83
      refine uq_S 40 hM (by decide) (fun _ => rfl) h (fun v84 h => ?_)
      refine uq_AO hM h (fun v88 h => ?_)
      refine um_AJ (k := 20) hM hF (by decide) (fun _ _ => rfl) h (fun T S h hM hF => ?_)
      exact hp _ _ h hM hF
    obtain ⟨n23, h⟩ := h
    refine ⟨n23, ?_⟩
    have lp23 : ∀ (n23 : Nat) (x0 : Option Nat) (x1 : Int32) (x2 : Int32) (x3 : Int32) (x4 : Int64) (x6 : Int64) (x8 : Int32) (T : mT) (S : qS), uX0_replaceIn_L23 (uX0_replaceIn_J83 c Q X) c Q X n23 x0 x1 x2 x3 x4 x6 x8 T → RU g S A C c T → cfr S0 S → pX0_replaceIn_L23 (pX0_replaceIn_J83 post xp) post xp n23 (Option.map (A 1) x0) x1 x2 x3 x4 x6 x8 S := by
      intro n23
      induction n23 with
      | zero => intro x0 x1 x2 x3 x4 x6 x8 T S h hM hF; exact h.elim
      | succ n23 ih23 =>
        intro x0 x1 x2 x3 x4 x6 x8 T S h hM hF
        unfold uX0_replaceIn_L23 at h
        unfold pX0_replaceIn_L23
        refine uq_F 43 hM (by decide) (fun _ => rfl) h (fun v26 h => ?_)
        refine ⟨fun c29 => ?_, fun c29 => ?_⟩
        · have h := h.1 c29
          exact jn83 _ _ _ _ _ _ h hM hF
        · have h := h.2 c29
          have jn77 : ∀ (x0 : Option Nat) (x1 : Int32) (x2 : Int32) (x3 : Int32) (x4 : Int64) (x6 : Int64) (x8 : Int32) (T : mT) (S : qS), uX0_replaceIn_J77 (uX0_replaceIn_L23 (uX0_replaceIn_J83 c Q X) c Q X n23) c Q X x0 x1 x2 x3 x4 x6 x8 T → RU g S A C c T → cfr S0 S → pX0_replaceIn_J77 (pX0_replaceIn_L23 (pX0_replaceIn_J83 post xp) post xp n23) post xp (Option.map (A 1) x0) x1 x2 x3 x4 x6 x8 S := by
            intro x0 x1 x2 x3 x4 x6 x8 T S h hM hF
            unfold uX0_replaceIn_J77 at h
            unfold pX0_replaceIn_J77
            exact ih23 _ _ _ _ _ _ _ _ _ h hM hF
          refine ⟨fun c35 => ?_, fun c35 => ?_⟩
          · have h := h.1 c35
            exact jn77 _ _ _ _ _ _ _ _ _ h hM hF
          · have h := h.2 c35
            refine uq_S 40 hM (by decide) (fun _ => rfl) h (fun v39 h => ?_)
            refine uq_AO hM h (fun v43 h => ?_)
            refine uq_S 40 hM (by decide) (fun _ => rfl) h (fun v49 h => ?_)
            refine uq_AO hM h (fun v53 h => ?_)
            refine uq_AJ (k := 20) hM (by decide) (fun _ _ => rfl) h (fun v56 h => ?_)
            refine uq_S 40 hM (by decide) (fun _ => rfl) h (fun v61 h => ?_)
            refine uq_AO hM h (fun v65 h => ?_)
            refine uq_AJ (k := 20) hM (by decide) (fun _ _ => rfl) h (fun v68 h => ?_)
            refine uq_J hM (fun _ => rfl) h (fun v72 h => ?_)
            refine ⟨h.1, ?_⟩
            have h := h.2
            refine um_AJ (k := 20) hM hF (by decide) (fun _ _ => rfl) h (fun T S h hM hF => ?_)
            exact jn77 _ _ _ _ _ _ _ _ _ h hM hF
    exact lp23 n23 _ _ _ _ _ _ _ _ _ h hM hF
  · have h := h.2 c6
    exact hp _ _ h hM hF

def uX0_exchange_J40  (c : Nat → Nat) (Q : mT → Prop) (X : String → mT → Prop) (x0 : Option Nat) (x1 : Int32) (x2 : Int32) (x3 : Int64) (T : mT) : Prop :=
  u_g c x0 1 (fun _ => some (0)) (fun v41 =>
  u_a c v41 21 5 x1 (fun _ j => some j) (fun v45 =>
  u_g c x0 1 (fun _ => T.2.2 44 0) (fun v48 =>
  u_a c v45 20 10 x2 (fun i j => m_sJ T (50 + i) j (-v48)) (fun T =>
  u_g c x0 1 (fun _ => m_sJ T 44 0 x3) (fun T =>
  u_g c x0 1 (fun _ => some (0)) (fun v59 =>
  u_a c v59 16 4 x1 (fun _ j => T.2.1 46 (j)) (fun v63 =>
  u_g c x0 1 (fun _ => some (0)) (fun v67 =>
  u_g c x0 1 (fun _ => some (0)) (fun v72 =>
  u_a c v72 17 10 x2 (fun _ j => T.2.1 47 (j)) (fun v76 =>
  u_a c v67 16 4 x1 (fun _ j => m_sA T 46 (j) v76) (fun T =>
  u_g c x0 1 (fun _ => some (0)) (fun v79 =>
  u_a c v79 17 10 x2 (fun _ j => m_sA T 47 (j) v63) (fun T =>
  Q T)))))))))))))
def uX0_exchange_J34 (k13 : Option Nat → Int32 → Int32 → Int64 → Int32 → mT → Prop) (c : Nat → Nat) (Q : mT → Prop) (X : String → mT → Prop) (x0 : Option Nat) (x1 : Int32) (x2 : Int32) (x3 : Int64) (x5 : Int32) (T : mT) : Prop :=
  k13 x0 x1 x2 x3 (x5 + 1) T
def uX0_exchange_L13 (k40 : Option Nat → Int32 → Int32 → Int64 → mT → Prop) (c : Nat → Nat) (Q : mT → Prop) (X : String → mT → Prop) : Nat → Option Nat → Int32 → Int32 → Int64 → Int32 → mT → Prop
  | 0, _, _, _, _, _, _ => False
  | n13 + 1, x0, x1, x2, x3, x5, T =>
  (((4 : Int32) < x5 →
  k40 x0 x1 x2 x3 T) ∧ (¬ (4 : Int32) < x5 →
  ((x5 = x1 →
  uX0_exchange_J34 (uX0_exchange_L13 k40 c Q X n13) c Q X x0 x1 x2 x3 x5 T) ∧ (¬ x5 = x1 →
  u_at c x0 1 (fun b31 => uX0_replaceIn c b31 x5 x1 x2 x3 T (fun T =>
  uX0_exchange_J34 (uX0_exchange_L13 k40 c Q X n13) c Q X x0 x1 x2 x3 x5 T) X)))))
def uX0_exchange (c : Nat → Nat) (x0 : Nat) (x1 : Int32) (x2 : Int32) (T : mT) (Q : mT → Prop) (X : String → mT → Prop) : Prop :=
  u_g c (some x0) 1 (fun _ => some (0)) (fun v1 =>
  u_a c v1 21 5 x1 (fun _ j => some j) (fun v5 =>
  u_a c v5 20 10 x2 (fun i j => T.2.2 (50 + i) j) (fun v7 =>
  ∃ n13, uX0_exchange_L13 (uX0_exchange_J40 c Q X) c Q X n13 (some x0) x1 x2 (-v7) (0 : Int32) T)))
set_option maxHeartbeats 4000000 in
set_option maxRecDepth 100000 in
theorem rX0_exchange {g : Nat × Nat} {S : qS} {A : Nat → Nat → Nat} {C c : Nat → Nat} {T : mT} {x0 : Nat} {x1 : Int32} {x2 : Int32} {Q : mT → Prop} {X : String → mT → Prop} {post : qS → Prop} {xp : String → qS → Prop} (hM : RU g S A C c T) (h : uX0_exchange c x0 x1 x2 T Q X) (hp : ∀ (T' : mT) (S' : qS), Q T' → RU g S' A C c T' → cfr S S' → post S') (hx : ∀ (n : String) (T' : mT) (S' : qS), X n T' → RU g S' A C c T' → cfr S S' → xp n S') : pX0_exchange (A 1 x0) x1 x2 S post xp := by
  unfold uX0_exchange at h
  unfold pX0_exchange
  obtain ⟨S0, hS0⟩ : ∃ S0, S0 = S := ⟨_, rfl⟩
  rw [← hS0] at hp hx
  have hF : cfr S0 S := by rw [hS0]; exact cfr.rf
  clear hS0
  refine uq_S 40 hM (by decide) (fun _ => rfl) h (fun v1 h => ?_)
  refine uq_AO hM h (fun v5 h => ?_)
  refine uq_AJ (k := 20) hM (by decide) (fun _ _ => rfl) h (fun v7 h => ?_)
  have jn40 : ∀ (x0 : Option Nat) (x1 : Int32) (x2 : Int32) (x3 : Int64) (T : mT) (S : qS), uX0_exchange_J40 c Q X x0 x1 x2 x3 T → RU g S A C c T → cfr S0 S → pX0_exchange_J40 post xp (Option.map (A 1) x0) x1 x2 x3 S := by
    intro x0 x1 x2 x3 T S h hM hF
    unfold uX0_exchange_J40 at h
    unfold pX0_exchange_J40
    refine uq_S 40 hM (by decide) (fun _ => rfl) h (fun v41 h => ?_)
    refine uq_AO hM h (fun v45 h => ?_)
    refine uq_J hM (fun _ => rfl) h (fun v48 h => ?_)
    refine um_AJ (k := 20) hM hF (by decide) (fun _ _ => rfl) h (fun T S h hM hF => ?_)
    refine um_J hM hF h (fun T S h hM hF => ?_)
    refine uq_S 41 hM (by decide) (fun _ => rfl) h (fun v59 h => ?_)
    refine uq_A (k := 16) hM (by decide) (fun i j => by simp [a_row, a_st]) h (fun v63 h => ?_)
    refine uq_S 41 hM (by decide) (fun _ => rfl) h (fun v67 h => ?_)
    refine uq_S 42 hM (by decide) (fun _ => rfl) h (fun v72 h => ?_)
    refine uq_A (k := 17) hM (by decide) (fun i j => by simp [a_row, a_st]) h (fun v76 h => ?_)
    refine um_A (k := 16) hM hF (by decide) (fun i j => by simp [a_row, a_st]) h (fun T S h hM hF => ?_)
    refine uq_S 42 hM (by decide) (fun _ => rfl) h (fun v79 h => ?_)
    refine um_A (k := 17) hM hF (by decide) (fun i j => by simp [a_row, a_st]) h (fun T S h hM hF => ?_)
    exact hp _ _ h hM hF
  obtain ⟨n13, h⟩ := h
  refine ⟨n13, ?_⟩
  have lp13 : ∀ (n13 : Nat) (x0 : Option Nat) (x1 : Int32) (x2 : Int32) (x3 : Int64) (x5 : Int32) (T : mT) (S : qS), uX0_exchange_L13 (uX0_exchange_J40 c Q X) c Q X n13 x0 x1 x2 x3 x5 T → RU g S A C c T → cfr S0 S → pX0_exchange_L13 (pX0_exchange_J40 post xp) post xp n13 (Option.map (A 1) x0) x1 x2 x3 x5 S := by
    intro n13
    induction n13 with
    | zero => intro x0 x1 x2 x3 x5 T S h hM hF; exact h.elim
    | succ n13 ih13 =>
      intro x0 x1 x2 x3 x5 T S h hM hF
      unfold uX0_exchange_L13 at h
      unfold pX0_exchange_L13
      refine ⟨fun c16 => ?_, fun c16 => ?_⟩
      · have h := h.1 c16
        exact jn40 _ _ _ _ _ _ h hM hF
      · have h := h.2 c16
        have jn34 : ∀ (x0 : Option Nat) (x1 : Int32) (x2 : Int32) (x3 : Int64) (x5 : Int32) (T : mT) (S : qS), uX0_exchange_J34 (uX0_exchange_L13 (uX0_exchange_J40 c Q X) c Q X n13) c Q X x0 x1 x2 x3 x5 T → RU g S A C c T → cfr S0 S → pX0_exchange_J34 (pX0_exchange_L13 (pX0_exchange_J40 post xp) post xp n13) post xp (Option.map (A 1) x0) x1 x2 x3 x5 S := by
          intro x0 x1 x2 x3 x5 T S h hM hF
          unfold uX0_exchange_J34 at h
          unfold pX0_exchange_J34
          exact ih13 _ _ _ _ _ _ _ h hM hF
        refine ⟨fun c22 => ?_, fun c22 => ?_⟩
        · have h := h.1 c22
          exact jn34 _ _ _ _ _ _ _ h hM hF
        · have h := h.2 c22
          refine uq_at hM h (fun b31 hb31 h => ?_)
          refine rX0_replaceIn hM h (fun T S h hM hF1 => ?_) (fun n T S h hM hF1 => hx n T S h hM (hF.tr hF1))
          have hF := hF.tr hF1
          exact jn34 _ _ _ _ _ _ _ h hM hF
  exact lp13 n13 _ _ _ _ _ _ _ h hM hF

def uX0_findsGain_L2  (c : Nat → Nat) (Q : Int32 → mT → Prop) (X : String → mT → Prop) : Nat → Option Nat → Int32 → mT → Prop
  | 0, _, _, _ => False
  | n2 + 1, x0, x1, T =>
  (((1001 : Int32) ≤ x1 →
  (((0 : Int32) = 0 ∨ (0 : Int32) = 1) ∧ Q (0 : Int32) T)) ∧ (¬ (1001 : Int32) ≤ x1 →
  u_at c x0 1 (fun b10 => uX0_risingColumn c b10  T (fun v10 T =>
  ((¬ v10 = (-1 : Int32) →
  u_at c x0 1 (fun b23 => uX0_hinderingRow c b23 v10 T (fun v23 T =>
  ((¬ v23 = (-1 : Int32) →
  u_at c x0 1 (fun b37 => uX0_exchange c b37 v23 v10 T (fun T =>
  (uX0_findsGain_L2 c Q X n2) x0 (x1 + 1) T) X)) ∧ (v23 = (-1 : Int32) →
  (((1 : Int32) = 0 ∨ (1 : Int32) = 1) ∧ Q (1 : Int32) T)))) X)) ∧ (v10 = (-1 : Int32) →
  (((0 : Int32) = 0 ∨ (0 : Int32) = 1) ∧ Q (0 : Int32) T)))) X)))
def uX0_findsGain (c : Nat → Nat) (x0 : Nat) (T : mT) (Q : Int32 → mT → Prop) (X : String → mT → Prop) : Prop :=
  ∃ n2, uX0_findsGain_L2 c Q X n2 (some x0) (0 : Int32) T
set_option maxHeartbeats 4000000 in
set_option maxRecDepth 100000 in
theorem rX0_findsGain {g : Nat × Nat} {S : qS} {A : Nat → Nat → Nat} {C c : Nat → Nat} {T : mT} {x0 : Nat} {Q : Int32 → mT → Prop} {X : String → mT → Prop} {post : Int32 → qS → Prop} {xp : String → qS → Prop} (hM : RU g S A C c T) (h : uX0_findsGain c x0 T Q X) (hp : ∀ (v : Int32) (T' : mT) (S' : qS), Q v T' → RU g S' A C c T' → cfr S S' → post v S') (hx : ∀ (n : String) (T' : mT) (S' : qS), X n T' → RU g S' A C c T' → cfr S S' → xp n S') : pX0_findsGain (A 1 x0) S post xp := by
  unfold uX0_findsGain at h
  unfold pX0_findsGain
  obtain ⟨S0, hS0⟩ : ∃ S0, S0 = S := ⟨_, rfl⟩
  rw [← hS0] at hp hx
  have hF : cfr S0 S := by rw [hS0]; exact cfr.rf
  clear hS0
  obtain ⟨n2, h⟩ := h
  refine ⟨n2, ?_⟩
  have lp2 : ∀ (n2 : Nat) (x0 : Option Nat) (x1 : Int32) (T : mT) (S : qS), uX0_findsGain_L2 c Q X n2 x0 x1 T → RU g S A C c T → cfr S0 S → pX0_findsGain_L2 post xp n2 (Option.map (A 1) x0) x1 S := by
    intro n2
    induction n2 with
    | zero => intro x0 x1 T S h hM hF; exact h.elim
    | succ n2 ih2 =>
      intro x0 x1 T S h hM hF
      unfold uX0_findsGain_L2 at h
      unfold pX0_findsGain_L2
      refine ⟨fun c6 => ?_, fun c6 => ?_⟩
      · have h := h.1 c6
        exact ⟨h.1, hp _ _ _ h.2 hM hF⟩
      · have h := h.2 c6
        refine uq_at hM h (fun b10 hb10 h => ?_)
        refine rX0_risingColumn hM h (fun v10 T S h hM hF1 => ?_) (fun n T S h hM hF1 => hx n T S h hM (hF.tr hF1))
        have hF := hF.tr hF1
        refine ⟨fun c16 => ?_, fun c16 => ?_⟩
        · have h := h.1 c16
          refine uq_at hM h (fun b23 hb23 h => ?_)
          refine rX0_hinderingRow hM h (fun v23 T S h hM hF1 => ?_) (fun n T S h hM hF1 => hx n T S h hM (hF.tr hF1))
          have hF := hF.tr hF1
          refine ⟨fun c29 => ?_, fun c29 => ?_⟩
          · have h := h.1 c29
            refine uq_at hM h (fun b37 hb37 h => ?_)
            refine rX0_exchange hM h (fun T S h hM hF1 => ?_) (fun n T S h hM hF1 => hx n T S h hM (hF.tr hF1))
            have hF := hF.tr hF1
            exact ih2 _ _ _ _ h hM hF
          · have h := h.2 c29
            exact ⟨h.1, hp _ _ _ h.2 hM hF⟩
        · have h := h.2 c16
          exact ⟨h.1, hp _ _ _ h.2 hM hF⟩
  exact lp2 n2 _ _ _ _ h hM hF

def uX6_size (c : Nat → Nat) (x0 : Nat) (T : mT) (Q : Int32 → mT → Prop) (X : String → mT → Prop) : Prop :=
  u_g c (some x0) 7 (fun _ => some (3)) (fun v1 =>
  u_sz c v1 (fun v4 =>
  Q v4 T))
set_option maxHeartbeats 4000000 in
set_option maxRecDepth 100000 in
theorem rX6_size {g : Nat × Nat} {S : qS} {A : Nat → Nat → Nat} {C c : Nat → Nat} {T : mT} {x0 : Nat} {Q : Int32 → mT → Prop} {X : String → mT → Prop} {post : Int32 → qS → Prop} {xp : String → qS → Prop} (hM : RU g S A C c T) (h : uX6_size c x0 T Q X) (hp : ∀ (v : Int32) (T' : mT) (S' : qS), Q v T' → RU g S' A C c T' → cfr S S' → post v S') (hx : ∀ (n : String) (T' : mT) (S' : qS), X n T' → RU g S' A C c T' → cfr S S' → xp n S') : pX6_size (A 7 x0) S post xp := by
  unfold uX6_size at h
  unfold pX6_size
  obtain ⟨S0, hS0⟩ : ∃ S0, S0 = S := ⟨_, rfl⟩
  rw [← hS0] at hp hx
  have hF : cfr S0 S := by rw [hS0]; exact cfr.rf
  clear hS0
  refine uq_S 280 hM (by decide) (fun _ => rfl) h (fun v1 h => ?_)
  refine uq_sz hM h (fun v4 h => ?_)
  exact hp _ _ _ h hM hF

def uX6_at_J15  (c : Nat → Nat) (Q : Option Nat → mT → Prop) (X : String → mT → Prop)  (T : mT) : Prop :=
  X "java/lang/IndexOutOfBoundsException" T
def uX6_at (c : Nat → Nat) (x0 : Nat) (x1 : Int32) (T : mT) (Q : Option Nat → mT → Prop) (X : String → mT → Prop) : Prop :=
  ((x1 < 0 →
  uX6_at_J15 c Q X T) ∧ (¬ x1 < 0 →
  u_g c (some x0) 7 (fun _ => some (3)) (fun v6 =>
  u_sz c v6 (fun v9 =>
  ((x1 < v9 →
  u_g c (some x0) 7 (fun _ => some (3)) (fun v26 =>
  u_el c v26 6 x1 (fun v30 =>
  Q v30 T))) ∧ (¬ x1 < v9 →
  uX6_at_J15 c Q X T))))))
set_option maxHeartbeats 4000000 in
set_option maxRecDepth 100000 in
theorem rX6_at {g : Nat × Nat} {S : qS} {A : Nat → Nat → Nat} {C c : Nat → Nat} {T : mT} {x0 : Nat} {x1 : Int32} {Q : Option Nat → mT → Prop} {X : String → mT → Prop} {post : Option Nat → qS → Prop} {xp : String → qS → Prop} (hM : RU g S A C c T) (h : uX6_at c x0 x1 T Q X) (hp : ∀ (v : Option Nat) (T' : mT) (S' : qS), Q v T' → RU g S' A C c T' → cfr S S' → post (Option.map (A 6) v) S') (hx : ∀ (n : String) (T' : mT) (S' : qS), X n T' → RU g S' A C c T' → cfr S S' → xp n S') : pX6_at (A 7 x0) x1 S post xp := by
  unfold uX6_at at h
  unfold pX6_at
  obtain ⟨S0, hS0⟩ : ∃ S0, S0 = S := ⟨_, rfl⟩
  rw [← hS0] at hp hx
  have hF : cfr S0 S := by rw [hS0]; exact cfr.rf
  clear hS0
  have jn15 : ∀ (T : mT) (S : qS), uX6_at_J15 c Q X T → RU g S A C c T → cfr S0 S → pX6_at_J15 post xp S := by
    intro T S h hM hF
    unfold uX6_at_J15 at h
    unfold pX6_at_J15
    exact hx _ _ _ h hM hF
  refine ⟨fun c1 => ?_, fun c1 => ?_⟩
  · have h := h.1 c1
    exact jn15 _ _ h hM hF
  · have h := h.2 c1
    refine uq_S 280 hM (by decide) (fun _ => rfl) h (fun v6 h => ?_)
    refine uq_sz hM h (fun v9 h => ?_)
    refine ⟨fun c12 => ?_, fun c12 => ?_⟩
    · have h := h.1 c12
      refine uq_S 280 hM (by decide) (fun _ => rfl) h (fun v26 h => ?_)
      refine uq_el hM h (fun v30 h => ?_)
      exact hp _ _ _ h hM hF
    · have h := h.2 c12
      exact jn15 _ _ h hM hF

def uX6_rightWithin_J36 (k4 : Option Nat → Option Nat → Int32 → Int32 → mT → Prop) (c : Nat → Nat) (Q : Int32 → mT → Prop) (X : String → mT → Prop) (x0 : Option Nat) (x1 : Option Nat) (x2 : Int32) (x3 : Int32) (T : mT) : Prop :=
  k4 x0 x1 x2 (x3 + 1) T
def uX6_rightWithin_L4  (c : Nat → Nat) (Q : Int32 → mT → Prop) (X : String → mT → Prop) : Nat → Option Nat → Option Nat → Int32 → Int32 → mT → Prop
  | 0, _, _, _, _, _ => False
  | n4 + 1, x0, x1, x2, x3, T =>
  u_g c x0 7 (fun _ => some (3)) (fun v6 =>
  u_sz c v6 (fun v9 =>
  ((v9 ≤ x3 →
  Q x2 T) ∧ (¬ v9 ≤ x3 →
  u_g c x0 7 (fun _ => some (3)) (fun v16 =>
  u_el c v16 6 x3 (fun v20 =>
  u_g c v20 6 (fun i => rf (T.2.1 18 i)) (fun v26 =>
  (u_vo c 6 v26 ∧ u_vo c 6 x1 ∧ ((¬ v26 = x1 →
  uX6_rightWithin_J36 (uX6_rightWithin_L4 c Q X n4) c Q X x0 x1 x2 x3 T) ∧ (v26 = x1 →
  uX6_rightWithin_J36 (uX6_rightWithin_L4 c Q X n4) c Q X x0 x1 (x2 + 1) x3 T))))))))))
def uX6_rightWithin (c : Nat → Nat) (x0 : Nat) (x1 : Option Nat) (T : mT) (Q : Int32 → mT → Prop) (X : String → mT → Prop) : Prop :=
  ∃ n4, uX6_rightWithin_L4 c Q X n4 (some x0) x1 (0 : Int32) (0 : Int32) T
set_option maxHeartbeats 4000000 in
set_option maxRecDepth 100000 in
theorem rX6_rightWithin {g : Nat × Nat} {S : qS} {A : Nat → Nat → Nat} {C c : Nat → Nat} {T : mT} {x0 : Nat} {x1 : Option Nat} {Q : Int32 → mT → Prop} {X : String → mT → Prop} {post : Int32 → qS → Prop} {xp : String → qS → Prop} (hM : RU g S A C c T) (h : uX6_rightWithin c x0 x1 T Q X) (hp : ∀ (v : Int32) (T' : mT) (S' : qS), Q v T' → RU g S' A C c T' → cfr S S' → post v S') (hx : ∀ (n : String) (T' : mT) (S' : qS), X n T' → RU g S' A C c T' → cfr S S' → xp n S') : pX6_rightWithin (A 7 x0) (Option.map (A 6) x1) S post xp := by
  unfold uX6_rightWithin at h
  unfold pX6_rightWithin
  obtain ⟨S0, hS0⟩ : ∃ S0, S0 = S := ⟨_, rfl⟩
  rw [← hS0] at hp hx
  have hF : cfr S0 S := by rw [hS0]; exact cfr.rf
  clear hS0
  obtain ⟨n4, h⟩ := h
  refine ⟨n4, ?_⟩
  have lp4 : ∀ (n4 : Nat) (x0 : Option Nat) (x1 : Option Nat) (x2 : Int32) (x3 : Int32) (T : mT) (S : qS), uX6_rightWithin_L4 c Q X n4 x0 x1 x2 x3 T → RU g S A C c T → cfr S0 S → pX6_rightWithin_L4 post xp n4 (Option.map (A 7) x0) (Option.map (A 6) x1) x2 x3 S := by
    intro n4
    induction n4 with
    | zero => intro x0 x1 x2 x3 T S h hM hF; exact h.elim
    | succ n4 ih4 =>
      intro x0 x1 x2 x3 T S h hM hF
      unfold uX6_rightWithin_L4 at h
      unfold pX6_rightWithin_L4
      refine uq_S 280 hM (by decide) (fun _ => rfl) h (fun v6 h => ?_)
      refine uq_sz hM h (fun v9 h => ?_)
      refine ⟨fun c12 => ?_, fun c12 => ?_⟩
      · have h := h.1 c12
        exact hp _ _ _ h hM hF
      · have h := h.2 c12
        refine uq_S 280 hM (by decide) (fun _ => rfl) h (fun v16 h => ?_)
        refine uq_el hM h (fun v20 h => ?_)
        refine uq_R 250 hM (by decide) (fun _ => rfl) h (fun v26 h => ?_)
        have jn36 : ∀ (x0 : Option Nat) (x1 : Option Nat) (x2 : Int32) (x3 : Int32) (T : mT) (S : qS), uX6_rightWithin_J36 (uX6_rightWithin_L4 c Q X n4) c Q X x0 x1 x2 x3 T → RU g S A C c T → cfr S0 S → pX6_rightWithin_J36 (pX6_rightWithin_L4 post xp n4) post xp (Option.map (A 7) x0) (Option.map (A 6) x1) x2 x3 S := by
          intro x0 x1 x2 x3 T S h hM hF
          unfold uX6_rightWithin_J36 at h
          unfold pX6_rightWithin_J36
          exact ih4 _ _ _ _ _ _ h hM hF
        obtain ⟨g1, g2, h⟩ := h
        refine ⟨fun c30 => ?_, fun c30 => ?_⟩
        · have h := h.1 (fun z => c30 ((ua_eq hM g1 g2).mpr z))
          exact jn36 _ _ _ _ _ _ h hM hF
        · have h := h.2 ((ua_eq hM g1 g2).mp c30)
          exact jn36 _ _ _ _ _ _ h hM hF
  exact lp4 n4 _ _ _ _ _ _ h hM hF

def uX6_mayLieIn_J55  (c : Nat → Nat) (Q : Int32 → mT → Prop) (X : String → mT → Prop) (t0 : Int32) (T : mT) : Prop :=
  ((t0 = 0 ∨ t0 = 1) ∧ Q t0 T)
def uX6_mayLieIn_J54  (c : Nat → Nat) (Q : Int32 → mT → Prop) (X : String → mT → Prop)  (T : mT) : Prop :=
  uX6_mayLieIn_J55 c Q X (0 : Int32) T
def uX6_mayLieIn (c : Nat → Nat) (x0 : Nat) (x1 : Option Nat) (x2 : Option Nat) (T : mT) (Q : Int32 → mT → Prop) (X : String → mT → Prop) : Prop :=
  u_at c x1 6 (fun b1 => uX5_isBroken c b1  T (fun v1 T =>
  ((¬ v1 = 0 →
  uX6_mayLieIn_J54 c Q X T) ∧ (v1 = 0 →
  u_g c x1 6 (fun i => rf (T.2.1 19 i)) (fun v8 =>
  u_g c x2 6 (fun i => rf (T.2.1 19 i)) (fun v12 =>
  (u_vo c 3 v8 ∧ u_vo c 3 v12 ∧ ((¬ v8 = v12 →
  uX6_mayLieIn_J54 c Q X T) ∧ (v8 = v12 →
  u_g c x1 6 (fun i => rf (T.2.1 18 i)) (fun v19 =>
  ((¬ v19 = none →
  uX6_mayLieIn_J54 c Q X T) ∧ (v19 = none →
  (u_vo c 6 x1 ∧ u_vo c 6 x2 ∧ ((x1 = x2 →
  uX6_mayLieIn_J54 c Q X T) ∧ (¬ x1 = x2 →
  u_at c x2 6 (fun b32 => uX5_liesWithin c b32 x1 T (fun v32 T =>
  ((¬ v32 = 0 →
  uX6_mayLieIn_J54 c Q X T) ∧ (v32 = 0 →
  u_at c (some x0) 7 (fun b40 => uX6_rightWithin c b40 x2 T (fun v40 T =>
  u_g c x2 6 (fun i => T.2.1 17 i) (fun v44 =>
  ((v44 ≤ v40 →
  uX6_mayLieIn_J54 c Q X T) ∧ (¬ v44 ≤ v40 →
  uX6_mayLieIn_J55 c Q X (1 : Int32) T)))) X)))) X))))))))))))))) X)
set_option maxHeartbeats 4000000 in
set_option maxRecDepth 100000 in
theorem rX6_mayLieIn {g : Nat × Nat} {S : qS} {A : Nat → Nat → Nat} {C c : Nat → Nat} {T : mT} {x0 : Nat} {x1 : Option Nat} {x2 : Option Nat} {Q : Int32 → mT → Prop} {X : String → mT → Prop} {post : Int32 → qS → Prop} {xp : String → qS → Prop} (hM : RU g S A C c T) (h : uX6_mayLieIn c x0 x1 x2 T Q X) (hp : ∀ (v : Int32) (T' : mT) (S' : qS), Q v T' → RU g S' A C c T' → cfr S S' → post v S') (hx : ∀ (n : String) (T' : mT) (S' : qS), X n T' → RU g S' A C c T' → cfr S S' → xp n S') : pX6_mayLieIn (A 7 x0) (Option.map (A 6) x1) (Option.map (A 6) x2) S post xp := by
  unfold uX6_mayLieIn at h
  unfold pX6_mayLieIn
  obtain ⟨S0, hS0⟩ : ∃ S0, S0 = S := ⟨_, rfl⟩
  rw [← hS0] at hp hx
  have hF : cfr S0 S := by rw [hS0]; exact cfr.rf
  clear hS0
  refine uq_at hM h (fun b1 hb1 h => ?_)
  refine rX5_isBroken hM h (fun v1 T S h hM hF1 => ?_) (fun n T S h hM hF1 => hx n T S h hM (hF.tr hF1))
  have hF := hF.tr hF1
  have jn55 : ∀ (t0 : Int32) (T : mT) (S : qS), uX6_mayLieIn_J55 c Q X t0 T → RU g S A C c T → cfr S0 S → pX6_mayLieIn_J55 post xp t0 S := by
    intro t0 T S h hM hF
    unfold uX6_mayLieIn_J55 at h
    unfold pX6_mayLieIn_J55
    exact ⟨h.1, hp _ _ _ h.2 hM hF⟩
  have jn54 : ∀ (T : mT) (S : qS), uX6_mayLieIn_J54 c Q X T → RU g S A C c T → cfr S0 S → pX6_mayLieIn_J54 post xp S := by
    intro T S h hM hF
    unfold uX6_mayLieIn_J54 at h
    unfold pX6_mayLieIn_J54
    exact jn55 _ _ _ h hM hF
  refine ⟨fun c4 => ?_, fun c4 => ?_⟩
  · have h := h.1 c4
    exact jn54 _ _ h hM hF
  · have h := h.2 c4
    refine uq_R 249 hM (by decide) (fun _ => rfl) h (fun v8 h => ?_)
    refine uq_R 249 hM (by decide) (fun _ => rfl) h (fun v12 h => ?_)
    obtain ⟨g1, g2, h⟩ := h
    refine ⟨fun c15 => ?_, fun c15 => ?_⟩
    · have h := h.1 (fun z => c15 ((ua_eq hM g1 g2).mpr z))
      exact jn54 _ _ h hM hF
    · have h := h.2 ((ua_eq hM g1 g2).mp c15)
      refine uq_R 250 hM (by decide) (fun _ => rfl) h (fun v19 h => ?_)
      refine ⟨fun c22 => ?_, fun c22 => ?_⟩
      · have h := h.1 (fun z => c22 (ua_no.mpr z))
        exact jn54 _ _ h hM hF
      · have h := h.2 (ua_no.mp c22)
        obtain ⟨g1, g2, h⟩ := h
        refine ⟨fun c27 => ?_, fun c27 => ?_⟩
        · have h := h.1 ((ua_eq hM g1 g2).mp c27)
          exact jn54 _ _ h hM hF
        · have h := h.2 (fun z => c27 ((ua_eq hM g1 g2).mpr z))
          refine uq_at hM h (fun b32 hb32 h => ?_)
          refine rX5_liesWithin hM h (fun v32 T S h hM hF1 => ?_) (fun n T S h hM hF1 => hx n T S h hM (hF.tr hF1))
          have hF := hF.tr hF1
          refine ⟨fun c35 => ?_, fun c35 => ?_⟩
          · have h := h.1 c35
            exact jn54 _ _ h hM hF
          · have h := h.2 c35
            refine uq_at hM h (fun b40 hb40 h => ?_)
            refine rX6_rightWithin hM h (fun v40 T S h hM hF1 => ?_) (fun n T S h hM hF1 => hx n T S h hM (hF.tr hF1))
            have hF := hF.tr hF1
            refine uq_I 242 hM (by decide) (fun _ => rfl) h (fun v44 h => ?_)
            refine ⟨fun c47 => ?_, fun c47 => ?_⟩
            · have h := h.1 c47
              exact jn54 _ _ h hM hF
            · have h := h.2 c47
              exact jn55 _ _ _ h hM hF

def uX6_goesWith_J18  (c : Nat → Nat) (Q : Int32 → mT → Prop) (X : String → mT → Prop) (t0 : Int32) (T : mT) : Prop :=
  ((t0 = 0 ∨ t0 = 1) ∧ Q t0 T)
def uX6_goesWith_J13  (c : Nat → Nat) (Q : Int32 → mT → Prop) (X : String → mT → Prop)  (T : mT) : Prop :=
  uX6_goesWith_J18 c Q X (1 : Int32) T
def uX6_goesWith (c : Nat → Nat) (x0 : Option Nat) (x1 : Option Nat) (T : mT) (Q : Int32 → mT → Prop) (X : String → mT → Prop) : Prop :=
  (u_vo c 6 x0 ∧ u_vo c 6 x1 ∧ ((x0 = x1 →
  uX6_goesWith_J13 c Q X T) ∧ (¬ x0 = x1 →
  u_at c x0 6 (fun b7 => uX5_liesWithin c b7 x1 T (fun v7 T =>
  ((v7 = 0 →
  uX6_goesWith_J18 c Q X (0 : Int32) T) ∧ (¬ v7 = 0 →
  uX6_goesWith_J13 c Q X T))) X))))
set_option maxHeartbeats 4000000 in
set_option maxRecDepth 100000 in
theorem rX6_goesWith {g : Nat × Nat} {S : qS} {A : Nat → Nat → Nat} {C c : Nat → Nat} {T : mT} {x0 : Option Nat} {x1 : Option Nat} {Q : Int32 → mT → Prop} {X : String → mT → Prop} {post : Int32 → qS → Prop} {xp : String → qS → Prop} (hM : RU g S A C c T) (h : uX6_goesWith c x0 x1 T Q X) (hp : ∀ (v : Int32) (T' : mT) (S' : qS), Q v T' → RU g S' A C c T' → cfr S S' → post v S') (hx : ∀ (n : String) (T' : mT) (S' : qS), X n T' → RU g S' A C c T' → cfr S S' → xp n S') : pX6_goesWith (Option.map (A 6) x0) (Option.map (A 6) x1) S post xp := by
  unfold uX6_goesWith at h
  unfold pX6_goesWith
  obtain ⟨S0, hS0⟩ : ∃ S0, S0 = S := ⟨_, rfl⟩
  rw [← hS0] at hp hx
  have hF : cfr S0 S := by rw [hS0]; exact cfr.rf
  clear hS0
  have jn18 : ∀ (t0 : Int32) (T : mT) (S : qS), uX6_goesWith_J18 c Q X t0 T → RU g S A C c T → cfr S0 S → pX6_goesWith_J18 post xp t0 S := by
    intro t0 T S h hM hF
    unfold uX6_goesWith_J18 at h
    unfold pX6_goesWith_J18
    exact ⟨h.1, hp _ _ _ h.2 hM hF⟩
  have jn13 : ∀ (T : mT) (S : qS), uX6_goesWith_J13 c Q X T → RU g S A C c T → cfr S0 S → pX6_goesWith_J13 post xp S := by
    intro T S h hM hF
    unfold uX6_goesWith_J13 at h
    unfold pX6_goesWith_J13
    exact jn18 _ _ _ h hM hF
  obtain ⟨g1, g2, h⟩ := h
  refine ⟨fun c2 => ?_, fun c2 => ?_⟩
  · have h := h.1 ((ua_eq hM g1 g2).mp c2)
    exact jn13 _ _ h hM hF
  · have h := h.2 (fun z => c2 ((ua_eq hM g1 g2).mpr z))
    refine uq_at hM h (fun b7 hb7 h => ?_)
    refine rX5_liesWithin hM h (fun v7 T S h hM hF1 => ?_) (fun n T S h hM hF1 => hx n T S h hM (hF.tr hF1))
    have hF := hF.tr hF1
    refine ⟨fun c10 => ?_, fun c10 => ?_⟩
    · have h := h.1 c10
      exact jn18 _ _ _ h hM hF
    · have h := h.2 c10
      exact jn13 _ _ h hM hF

def uX6_mayLeave_J14  (c : Nat → Nat) (Q : Int32 → mT → Prop) (X : String → mT → Prop)  (T : mT) : Prop :=
  (((0 : Int32) = 0 ∨ (0 : Int32) = 1) ∧ Q (0 : Int32) T)
def uX6_mayLeave_J65 (k18 : Option Nat → Option Nat → Int32 → mT → Prop) (c : Nat → Nat) (Q : Int32 → mT → Prop) (X : String → mT → Prop) (x0 : Option Nat) (x1 : Option Nat) (x2 : Int32) (T : mT) : Prop :=
  k18 x0 x1 (x2 + 1) T
def uX6_mayLeave_J55 (k18 : Option Nat → Option Nat → Int32 → mT → Prop) (c : Nat → Nat) (Q : Int32 → mT → Prop) (X : String → mT → Prop) (x0 : Option Nat) (x1 : Option Nat) (x2 : Int32) (x3 : Option Nat) (T : mT) : Prop :=
  uX6_goesWith c x3 x1 T (fun v57 T =>
  ((v57 = 0 →
  uX6_mayLeave_J65 k18 c Q X x0 x1 x2 T) ∧ (¬ v57 = 0 →
  (((0 : Int32) = 0 ∨ (0 : Int32) = 1) ∧ Q (0 : Int32) T)))) X
def uX6_mayLeave_L18  (c : Nat → Nat) (Q : Int32 → mT → Prop) (X : String → mT → Prop) : Nat → Option Nat → Option Nat → Int32 → mT → Prop
  | 0, _, _, _, _ => False
  | n18 + 1, x0, x1, x2, T =>
  u_g c x0 7 (fun _ => some (3)) (fun v20 =>
  u_sz c v20 (fun v23 =>
  ((v23 ≤ x2 →
  (((1 : Int32) = 0 ∨ (1 : Int32) = 1) ∧ Q (1 : Int32) T)) ∧ (¬ v23 ≤ x2 →
  u_g c x0 7 (fun _ => some (3)) (fun v30 =>
  u_el c v30 6 x2 (fun v34 =>
  u_g c v34 6 (fun i => T.2.1 16 i) (fun v42 =>
  ((¬ v42 = 0 →
  uX6_mayLeave_J55 (uX6_mayLeave_L18 c Q X n18) c Q X x0 x1 x2 v34 T) ∧ (v42 = 0 →
  u_at c v34 6 (fun b49 => uX5_isLent c b49  T (fun v49 T =>
  ((v49 = 0 →
  uX6_mayLeave_J65 (uX6_mayLeave_L18 c Q X n18) c Q X x0 x1 x2 T) ∧ (¬ v49 = 0 →
  uX6_mayLeave_J55 (uX6_mayLeave_L18 c Q X n18) c Q X x0 x1 x2 v34 T))) X))))))))))
def uX6_mayLeave (c : Nat → Nat) (x0 : Nat) (x1 : Option Nat) (T : mT) (Q : Int32 → mT → Prop) (X : String → mT → Prop) : Prop :=
  u_at c x1 6 (fun b1 => uX5_isBroken c b1  T (fun v1 T =>
  ((¬ v1 = 0 →
  uX6_mayLeave_J14 c Q X T) ∧ (v1 = 0 →
  u_g c x1 6 (fun i => rf (T.2.1 18 i)) (fun v8 =>
  ((v8 = none →
  ∃ n18, uX6_mayLeave_L18 c Q X n18 (some x0) x1 (0 : Int32) T) ∧ (¬ v8 = none →
  uX6_mayLeave_J14 c Q X T)))))) X)
set_option maxHeartbeats 4000000 in
set_option maxRecDepth 100000 in
theorem rX6_mayLeave {g : Nat × Nat} {S : qS} {A : Nat → Nat → Nat} {C c : Nat → Nat} {T : mT} {x0 : Nat} {x1 : Option Nat} {Q : Int32 → mT → Prop} {X : String → mT → Prop} {post : Int32 → qS → Prop} {xp : String → qS → Prop} (hM : RU g S A C c T) (h : uX6_mayLeave c x0 x1 T Q X) (hp : ∀ (v : Int32) (T' : mT) (S' : qS), Q v T' → RU g S' A C c T' → cfr S S' → post v S') (hx : ∀ (n : String) (T' : mT) (S' : qS), X n T' → RU g S' A C c T' → cfr S S' → xp n S') : pX6_mayLeave (A 7 x0) (Option.map (A 6) x1) S post xp := by
  unfold uX6_mayLeave at h
  unfold pX6_mayLeave
  obtain ⟨S0, hS0⟩ : ∃ S0, S0 = S := ⟨_, rfl⟩
  rw [← hS0] at hp hx
  have hF : cfr S0 S := by rw [hS0]; exact cfr.rf
  clear hS0
  refine uq_at hM h (fun b1 hb1 h => ?_)
  refine rX5_isBroken hM h (fun v1 T S h hM hF1 => ?_) (fun n T S h hM hF1 => hx n T S h hM (hF.tr hF1))
  have hF := hF.tr hF1
  have jn14 : ∀ (T : mT) (S : qS), uX6_mayLeave_J14 c Q X T → RU g S A C c T → cfr S0 S → pX6_mayLeave_J14 post xp S := by
    intro T S h hM hF
    unfold uX6_mayLeave_J14 at h
    unfold pX6_mayLeave_J14
    exact ⟨h.1, hp _ _ _ h.2 hM hF⟩
  refine ⟨fun c4 => ?_, fun c4 => ?_⟩
  · have h := h.1 c4
    exact jn14 _ _ h hM hF
  · have h := h.2 c4
    refine uq_R 250 hM (by decide) (fun _ => rfl) h (fun v8 h => ?_)
    refine ⟨fun c11 => ?_, fun c11 => ?_⟩
    · have h := h.1 (ua_no.mp c11)
      obtain ⟨n18, h⟩ := h
      refine ⟨n18, ?_⟩
      have lp18 : ∀ (n18 : Nat) (x0 : Option Nat) (x1 : Option Nat) (x2 : Int32) (T : mT) (S : qS), uX6_mayLeave_L18 c Q X n18 x0 x1 x2 T → RU g S A C c T → cfr S0 S → pX6_mayLeave_L18 post xp n18 (Option.map (A 7) x0) (Option.map (A 6) x1) x2 S := by
        intro n18
        induction n18 with
        | zero => intro x0 x1 x2 T S h hM hF; exact h.elim
        | succ n18 ih18 =>
          intro x0 x1 x2 T S h hM hF
          unfold uX6_mayLeave_L18 at h
          unfold pX6_mayLeave_L18
          refine uq_S 280 hM (by decide) (fun _ => rfl) h (fun v20 h => ?_)
          refine uq_sz hM h (fun v23 h => ?_)
          refine ⟨fun c26 => ?_, fun c26 => ?_⟩
          · have h := h.1 c26
            exact ⟨h.1, hp _ _ _ h.2 hM hF⟩
          · have h := h.2 c26
            refine uq_S 280 hM (by decide) (fun _ => rfl) h (fun v30 h => ?_)
            refine uq_el hM h (fun v34 h => ?_)
            refine uq_I 241 hM (by decide) (fun _ => rfl) h (fun v42 h => ?_)
            have jn65 : ∀ (x0 : Option Nat) (x1 : Option Nat) (x2 : Int32) (T : mT) (S : qS), uX6_mayLeave_J65 (uX6_mayLeave_L18 c Q X n18) c Q X x0 x1 x2 T → RU g S A C c T → cfr S0 S → pX6_mayLeave_J65 (pX6_mayLeave_L18 post xp n18) post xp (Option.map (A 7) x0) (Option.map (A 6) x1) x2 S := by
              intro x0 x1 x2 T S h hM hF
              unfold uX6_mayLeave_J65 at h
              unfold pX6_mayLeave_J65
              exact ih18 _ _ _ _ _ h hM hF
            have jn55 : ∀ (x0 : Option Nat) (x1 : Option Nat) (x2 : Int32) (x3 : Option Nat) (T : mT) (S : qS), uX6_mayLeave_J55 (uX6_mayLeave_L18 c Q X n18) c Q X x0 x1 x2 x3 T → RU g S A C c T → cfr S0 S → pX6_mayLeave_J55 (pX6_mayLeave_L18 post xp n18) post xp (Option.map (A 7) x0) (Option.map (A 6) x1) x2 (Option.map (A 6) x3) S := by
              intro x0 x1 x2 x3 T S h hM hF
              unfold uX6_mayLeave_J55 at h
              unfold pX6_mayLeave_J55
              refine rX6_goesWith hM h (fun v57 T S h hM hF1 => ?_) (fun n T S h hM hF1 => hx n T S h hM (hF.tr hF1))
              have hF := hF.tr hF1
              refine ⟨fun c60 => ?_, fun c60 => ?_⟩
              · have h := h.1 c60
                exact jn65 _ _ _ _ _ h hM hF
              · have h := h.2 c60
                exact ⟨h.1, hp _ _ _ h.2 hM hF⟩
            refine ⟨fun c45 => ?_, fun c45 => ?_⟩
            · have h := h.1 c45
              exact jn55 _ _ _ _ _ _ h hM hF
            · have h := h.2 c45
              refine uq_at hM h (fun b49 hb49 h => ?_)
              refine rX5_isLent hM h (fun v49 T S h hM hF1 => ?_) (fun n T S h hM hF1 => hx n T S h hM (hF.tr hF1))
              have hF := hF.tr hF1
              refine ⟨fun c52 => ?_, fun c52 => ?_⟩
              · have h := h.1 c52
                exact jn65 _ _ _ _ _ h hM hF
              · have h := h.2 c52
                exact jn55 _ _ _ _ _ _ h hM hF
      exact lp18 n18 _ _ _ _ _ h hM hF
    · have h := h.2 (fun z => c11 (ua_no.mpr z))
      exact jn14 _ _ h hM hF

def uX6_passOn_J45 (k3 : Option Nat → Option Nat → Option Nat → Int32 → Int32 → mT → Prop) (c : Nat → Nat) (Q : mT → Prop) (X : String → mT → Prop) (x0 : Option Nat) (x1 : Option Nat) (x2 : Option Nat) (x3 : Int32) (x4 : Int32) (T : mT) : Prop :=
  k3 x0 x1 x2 x3 (x4 + 1) T
def uX6_passOn_L3  (c : Nat → Nat) (Q : mT → Prop) (X : String → mT → Prop) : Nat → Option Nat → Option Nat → Option Nat → Int32 → Int32 → mT → Prop
  | 0, _, _, _, _, _, _ => False
  | n3 + 1, x0, x1, x2, x3, x4, T =>
  u_g c x0 7 (fun _ => some (3)) (fun v6 =>
  u_sz c v6 (fun v9 =>
  ((v9 ≤ x4 →
  Q T) ∧ (¬ v9 ≤ x4 →
  u_g c x0 7 (fun _ => some (3)) (fun v16 =>
  u_el c v16 6 x4 (fun v21 =>
  uX6_goesWith c v21 x1 T (fun v32 T =>
  ((v32 = 0 →
  uX6_passOn_J45 (uX6_passOn_L3 c Q X n3) c Q X x0 x1 x2 x3 x4 T) ∧ (¬ v32 = 0 →
  u_at c v21 6 (fun b42 => uX5_passTo c b42 x2 x3 T (fun T =>
  uX6_passOn_J45 (uX6_passOn_L3 c Q X n3) c Q X x0 x1 x2 x3 x4 T) X)))) X))))))
def uX6_passOn (c : Nat → Nat) (x0 : Nat) (x1 : Option Nat) (x2 : Option Nat) (x3 : Int32) (T : mT) (Q : mT → Prop) (X : String → mT → Prop) : Prop :=
  ∃ n3, uX6_passOn_L3 c Q X n3 (some x0) x1 x2 x3 (0 : Int32) T
set_option maxHeartbeats 4000000 in
set_option maxRecDepth 100000 in
theorem rX6_passOn {g : Nat × Nat} {S : qS} {A : Nat → Nat → Nat} {C c : Nat → Nat} {T : mT} {x0 : Nat} {x1 : Option Nat} {x2 : Option Nat} {x3 : Int32} {Q : mT → Prop} {X : String → mT → Prop} {post : qS → Prop} {xp : String → qS → Prop} (hM : RU g S A C c T) (h : uX6_passOn c x0 x1 x2 x3 T Q X) (hp : ∀ (T' : mT) (S' : qS), Q T' → RU g S' A C c T' → cfr S S' → post S') (hx : ∀ (n : String) (T' : mT) (S' : qS), X n T' → RU g S' A C c T' → cfr S S' → xp n S') : pX6_passOn (A 7 x0) (Option.map (A 6) x1) (Option.map (A 3) x2) x3 S post xp := by
  unfold uX6_passOn at h
  unfold pX6_passOn
  obtain ⟨S0, hS0⟩ : ∃ S0, S0 = S := ⟨_, rfl⟩
  rw [← hS0] at hp hx
  have hF : cfr S0 S := by rw [hS0]; exact cfr.rf
  clear hS0
  obtain ⟨n3, h⟩ := h
  refine ⟨n3, ?_⟩
  have lp3 : ∀ (n3 : Nat) (x0 : Option Nat) (x1 : Option Nat) (x2 : Option Nat) (x3 : Int32) (x4 : Int32) (T : mT) (S : qS), uX6_passOn_L3 c Q X n3 x0 x1 x2 x3 x4 T → RU g S A C c T → cfr S0 S → pX6_passOn_L3 post xp n3 (Option.map (A 7) x0) (Option.map (A 6) x1) (Option.map (A 3) x2) x3 x4 S := by
    intro n3
    induction n3 with
    | zero => intro x0 x1 x2 x3 x4 T S h hM hF; exact h.elim
    | succ n3 ih3 =>
      intro x0 x1 x2 x3 x4 T S h hM hF
      unfold uX6_passOn_L3 at h
      unfold pX6_passOn_L3
      refine uq_S 280 hM (by decide) (fun _ => rfl) h (fun v6 h => ?_)
      refine uq_sz hM h (fun v9 h => ?_)
      refine ⟨fun c12 => ?_, fun c12 => ?_⟩
      · have h := h.1 c12
        exact hp _ _ h hM hF
      · have h := h.2 c12
        refine uq_S 280 hM (by decide) (fun _ => rfl) h (fun v16 h => ?_)
        refine uq_el hM h (fun v21 h => ?_)
        refine rX6_goesWith hM h (fun v32 T S h hM hF1 => ?_) (fun n T S h hM hF1 => hx n T S h hM (hF.tr hF1))
        have hF := hF.tr hF1
        have jn45 : ∀ (x0 : Option Nat) (x1 : Option Nat) (x2 : Option Nat) (x3 : Int32) (x4 : Int32) (T : mT) (S : qS), uX6_passOn_J45 (uX6_passOn_L3 c Q X n3) c Q X x0 x1 x2 x3 x4 T → RU g S A C c T → cfr S0 S → pX6_passOn_J45 (pX6_passOn_L3 post xp n3) post xp (Option.map (A 7) x0) (Option.map (A 6) x1) (Option.map (A 3) x2) x3 x4 S := by
          intro x0 x1 x2 x3 x4 T S h hM hF
          unfold uX6_passOn_J45 at h
          unfold pX6_passOn_J45
          exact ih3 _ _ _ _ _ _ _ h hM hF
        refine ⟨fun c35 => ?_, fun c35 => ?_⟩
        · have h := h.1 c35
          exact jn45 _ _ _ _ _ _ _ h hM hF
        · have h := h.2 c35
          refine uq_at hM h (fun b42 hb42 h => ?_)
          refine rX5_passTo hM h (fun T S h hM hF1 => ?_) (fun n T S h hM hF1 => hx n T S h hM (hF.tr hF1))
          have hF := hF.tr hF1
          exact jn45 _ _ _ _ _ _ _ h hM hF
  exact lp3 n3 _ _ _ _ _ _ _ h hM hF

def uX6_breakUp_J52 (k16 : Option Nat → Option Nat → Int32 → mT → Prop) (c : Nat → Nat) (Q : mT → Prop) (X : String → mT → Prop) (x0 : Option Nat) (x1 : Option Nat) (x2 : Int32) (T : mT) : Prop :=
  k16 x0 x1 (x2 + 1) T
def uX6_breakUp_L16  (c : Nat → Nat) (Q : mT → Prop) (X : String → mT → Prop) : Nat → Option Nat → Option Nat → Int32 → mT → Prop
  | 0, _, _, _, _ => False
  | n16 + 1, x0, x1, x2, T =>
  u_g c x0 7 (fun _ => some (3)) (fun v18 =>
  u_sz c v18 (fun v21 =>
  ((v21 ≤ x2 →
  Q T) ∧ (¬ v21 ≤ x2 →
  u_g c x0 7 (fun _ => some (3)) (fun v28 =>
  u_el c v28 6 x2 (fun v32 =>
  u_g c v32 6 (fun i => rf (T.2.1 18 i)) (fun v40 =>
  (u_vo c 6 v40 ∧ u_vo c 6 x1 ∧ ((¬ v40 = x1 →
  uX6_breakUp_J52 (uX6_breakUp_L16 c Q X n16) c Q X x0 x1 x2 T) ∧ (v40 = x1 →
  (u_vo c 6 (none : Option Nat) ∧ u_g c v32 6 (fun i => m_sA T 18 i (fr (none : Option Nat))) (fun T =>
  uX6_breakUp_J52 (uX6_breakUp_L16 c Q X n16) c Q X x0 x1 x2 T))))))))))))
def uX6_breakUp (c : Nat → Nat) (x0 : Nat) (x1 : Option Nat) (T : mT) (Q : mT → Prop) (X : String → mT → Prop) : Prop :=
  (u_vo c 6 (none : Option Nat) ∧ u_g c x1 6 (fun i => m_sA T 18 i (fr (none : Option Nat))) (fun T =>
  (u_vo c 3 (none : Option Nat) ∧ u_g c x1 6 (fun i => m_sA T 19 i (fr (none : Option Nat))) (fun T =>
  u_at c x1 6 (fun b11 => uX5_endLoan c b11  T (fun T =>
  ∃ n16, uX6_breakUp_L16 c Q X n16 (some x0) x1 (0 : Int32) T) X)))))
set_option maxHeartbeats 4000000 in
set_option maxRecDepth 100000 in
theorem rX6_breakUp {g : Nat × Nat} {S : qS} {A : Nat → Nat → Nat} {C c : Nat → Nat} {T : mT} {x0 : Nat} {x1 : Option Nat} {Q : mT → Prop} {X : String → mT → Prop} {post : qS → Prop} {xp : String → qS → Prop} (hM : RU g S A C c T) (h : uX6_breakUp c x0 x1 T Q X) (hp : ∀ (T' : mT) (S' : qS), Q T' → RU g S' A C c T' → cfr S S' → post S') (hx : ∀ (n : String) (T' : mT) (S' : qS), X n T' → RU g S' A C c T' → cfr S S' → xp n S') : pX6_breakUp (A 7 x0) (Option.map (A 6) x1) S post xp := by
  unfold uX6_breakUp at h
  unfold pX6_breakUp
  obtain ⟨S0, hS0⟩ : ∃ S0, S0 = S := ⟨_, rfl⟩
  rw [← hS0] at hp hx
  have hF : cfr S0 S := by rw [hS0]; exact cfr.rf
  clear hS0
  refine um_R 250 hM hF (by decide) h (fun T S h hM hF => ?_)
  refine um_R 249 hM hF (by decide) h (fun T S h hM hF => ?_)
  refine uq_at hM h (fun b11 hb11 h => ?_)
  refine rX5_endLoan hM h (fun T S h hM hF1 => ?_) (fun n T S h hM hF1 => hx n T S h hM (hF.tr hF1))
  have hF := hF.tr hF1
  obtain ⟨n16, h⟩ := h
  refine ⟨n16, ?_⟩
  have lp16 : ∀ (n16 : Nat) (x0 : Option Nat) (x1 : Option Nat) (x2 : Int32) (T : mT) (S : qS), uX6_breakUp_L16 c Q X n16 x0 x1 x2 T → RU g S A C c T → cfr S0 S → pX6_breakUp_L16 post xp n16 (Option.map (A 7) x0) (Option.map (A 6) x1) x2 S := by
    intro n16
    induction n16 with
    | zero => intro x0 x1 x2 T S h hM hF; exact h.elim
    | succ n16 ih16 =>
      intro x0 x1 x2 T S h hM hF
      unfold uX6_breakUp_L16 at h
      unfold pX6_breakUp_L16
      refine uq_S 280 hM (by decide) (fun _ => rfl) h (fun v18 h => ?_)
      refine uq_sz hM h (fun v21 h => ?_)
      refine ⟨fun c24 => ?_, fun c24 => ?_⟩
      · have h := h.1 c24
        exact hp _ _ h hM hF
      · have h := h.2 c24
        refine uq_S 280 hM (by decide) (fun _ => rfl) h (fun v28 h => ?_)
        refine uq_el hM h (fun v32 h => ?_)
        refine uq_R 250 hM (by decide) (fun _ => rfl) h (fun v40 h => ?_)
        have jn52 : ∀ (x0 : Option Nat) (x1 : Option Nat) (x2 : Int32) (T : mT) (S : qS), uX6_breakUp_J52 (uX6_breakUp_L16 c Q X n16) c Q X x0 x1 x2 T → RU g S A C c T → cfr S0 S → pX6_breakUp_J52 (pX6_breakUp_L16 post xp n16) post xp (Option.map (A 7) x0) (Option.map (A 6) x1) x2 S := by
          intro x0 x1 x2 T S h hM hF
          unfold uX6_breakUp_J52 at h
          unfold pX6_breakUp_J52
          exact ih16 _ _ _ _ _ h hM hF
        obtain ⟨g1, g2, h⟩ := h
        refine ⟨fun c44 => ?_, fun c44 => ?_⟩
        · have h := h.1 (fun z => c44 ((ua_eq hM g1 g2).mpr z))
          exact jn52 _ _ _ _ _ h hM hF
        · have h := h.2 ((ua_eq hM g1 g2).mp c44)
          refine um_R 250 hM hF (by decide) h (fun T S h hM hF => ?_)
          exact jn52 _ _ _ _ _ h hM hF
  exact lp16 n16 _ _ _ _ _ h hM hF

def uX6_nextDue_J64 (k4 : Option Nat → Int32 → Option Nat → Int32 → mT → Prop) (c : Nat → Nat) (Q : Option Nat → mT → Prop) (X : String → mT → Prop) (x0 : Option Nat) (x1 : Int32) (x2 : Option Nat) (x3 : Int32) (T : mT) : Prop :=
  k4 x0 x1 x2 (x3 + 1) T
def uX6_nextDue_J61 (k4 : Option Nat → Int32 → Option Nat → Int32 → mT → Prop) (c : Nat → Nat) (Q : Option Nat → mT → Prop) (X : String → mT → Prop) (x0 : Option Nat) (x1 : Int32) (x3 : Int32) (x4 : Option Nat) (T : mT) : Prop :=
  uX6_nextDue_J64 k4 c Q X x0 x1 x4 x3 T
def uX6_nextDue_L4  (c : Nat → Nat) (Q : Option Nat → mT → Prop) (X : String → mT → Prop) : Nat → Option Nat → Int32 → Option Nat → Int32 → mT → Prop
  | 0, _, _, _, _, _ => False
  | n4 + 1, x0, x1, x2, x3, T =>
  u_g c x0 7 (fun _ => some (3)) (fun v6 =>
  u_sz c v6 (fun v9 =>
  ((v9 ≤ x3 →
  Q x2 T) ∧ (¬ v9 ≤ x3 →
  u_g c x0 7 (fun _ => some (3)) (fun v16 =>
  u_el c v16 6 x3 (fun v20 =>
  u_at c v20 6 (fun b30 => uX5_isLent c b30  T (fun v30 T =>
  ((v30 = 0 →
  uX6_nextDue_J64 (uX6_nextDue_L4 c Q X n4) c Q X x0 x1 x2 x3 T) ∧ (¬ v30 = 0 →
  u_g c v20 6 (fun i => T.2.1 20 i) (fun v38 =>
  ((x1 < v38 →
  uX6_nextDue_J64 (uX6_nextDue_L4 c Q X n4) c Q X x0 x1 x2 x3 T) ∧ (¬ x1 < v38 →
  ((x2 = none →
  uX6_nextDue_J61 (uX6_nextDue_L4 c Q X n4) c Q X x0 x1 x3 v20 T) ∧ (¬ x2 = none →
  u_g c v20 6 (fun i => T.2.1 20 i) (fun v51 =>
  u_g c x2 6 (fun i => T.2.1 20 i) (fun v55 =>
  ((v55 ≤ v51 →
  uX6_nextDue_J64 (uX6_nextDue_L4 c Q X n4) c Q X x0 x1 x2 x3 T) ∧ (¬ v55 ≤ v51 →
  uX6_nextDue_J61 (uX6_nextDue_L4 c Q X n4) c Q X x0 x1 x3 v20 T)))))))))))) X)))))))
def uX6_nextDue (c : Nat → Nat) (x0 : Nat) (x1 : Int32) (T : mT) (Q : Option Nat → mT → Prop) (X : String → mT → Prop) : Prop :=
  ∃ n4, uX6_nextDue_L4 c Q X n4 (some x0) x1 (none : Option Nat) (0 : Int32) T
set_option maxHeartbeats 4000000 in
set_option maxRecDepth 100000 in
theorem rX6_nextDue {g : Nat × Nat} {S : qS} {A : Nat → Nat → Nat} {C c : Nat → Nat} {T : mT} {x0 : Nat} {x1 : Int32} {Q : Option Nat → mT → Prop} {X : String → mT → Prop} {post : Option Nat → qS → Prop} {xp : String → qS → Prop} (hM : RU g S A C c T) (h : uX6_nextDue c x0 x1 T Q X) (hp : ∀ (v : Option Nat) (T' : mT) (S' : qS), Q v T' → RU g S' A C c T' → cfr S S' → post (Option.map (A 6) v) S') (hx : ∀ (n : String) (T' : mT) (S' : qS), X n T' → RU g S' A C c T' → cfr S S' → xp n S') : pX6_nextDue (A 7 x0) x1 S post xp := by
  unfold uX6_nextDue at h
  unfold pX6_nextDue
  obtain ⟨S0, hS0⟩ : ∃ S0, S0 = S := ⟨_, rfl⟩
  rw [← hS0] at hp hx
  have hF : cfr S0 S := by rw [hS0]; exact cfr.rf
  clear hS0
  obtain ⟨n4, h⟩ := h
  refine ⟨n4, ?_⟩
  have lp4 : ∀ (n4 : Nat) (x0 : Option Nat) (x1 : Int32) (x2 : Option Nat) (x3 : Int32) (T : mT) (S : qS), uX6_nextDue_L4 c Q X n4 x0 x1 x2 x3 T → RU g S A C c T → cfr S0 S → pX6_nextDue_L4 post xp n4 (Option.map (A 7) x0) x1 (Option.map (A 6) x2) x3 S := by
    intro n4
    induction n4 with
    | zero => intro x0 x1 x2 x3 T S h hM hF; exact h.elim
    | succ n4 ih4 =>
      intro x0 x1 x2 x3 T S h hM hF
      unfold uX6_nextDue_L4 at h
      unfold pX6_nextDue_L4
      refine uq_S 280 hM (by decide) (fun _ => rfl) h (fun v6 h => ?_)
      refine uq_sz hM h (fun v9 h => ?_)
      refine ⟨fun c12 => ?_, fun c12 => ?_⟩
      · have h := h.1 c12
        exact hp _ _ _ h hM hF
      · have h := h.2 c12
        refine uq_S 280 hM (by decide) (fun _ => rfl) h (fun v16 h => ?_)
        refine uq_el hM h (fun v20 h => ?_)
        refine uq_at hM h (fun b30 hb30 h => ?_)
        refine rX5_isLent hM h (fun v30 T S h hM hF1 => ?_) (fun n T S h hM hF1 => hx n T S h hM (hF.tr hF1))
        have hF := hF.tr hF1
        have jn64 : ∀ (x0 : Option Nat) (x1 : Int32) (x2 : Option Nat) (x3 : Int32) (T : mT) (S : qS), uX6_nextDue_J64 (uX6_nextDue_L4 c Q X n4) c Q X x0 x1 x2 x3 T → RU g S A C c T → cfr S0 S → pX6_nextDue_J64 (pX6_nextDue_L4 post xp n4) post xp (Option.map (A 7) x0) x1 (Option.map (A 6) x2) x3 S := by
          intro x0 x1 x2 x3 T S h hM hF
          unfold uX6_nextDue_J64 at h
          unfold pX6_nextDue_J64
          exact ih4 _ _ _ _ _ _ h hM hF
        refine ⟨fun c33 => ?_, fun c33 => ?_⟩
        · have h := h.1 c33
          exact jn64 _ _ _ _ _ _ h hM hF
        · have h := h.2 c33
          refine uq_I 247 hM (by decide) (fun _ => rfl) h (fun v38 h => ?_)
          refine ⟨fun c42 => ?_, fun c42 => ?_⟩
          · have h := h.1 c42
            exact jn64 _ _ _ _ _ _ h hM hF
          · have h := h.2 c42
            have jn61 : ∀ (x0 : Option Nat) (x1 : Int32) (x3 : Int32) (x4 : Option Nat) (T : mT) (S : qS), uX6_nextDue_J61 (uX6_nextDue_L4 c Q X n4) c Q X x0 x1 x3 x4 T → RU g S A C c T → cfr S0 S → pX6_nextDue_J61 (pX6_nextDue_L4 post xp n4) post xp (Option.map (A 7) x0) x1 x3 (Option.map (A 6) x4) S := by
              intro x0 x1 x3 x4 T S h hM hF
              unfold uX6_nextDue_J61 at h
              unfold pX6_nextDue_J61
              exact jn64 _ _ _ _ _ _ h hM hF
            refine ⟨fun c46 => ?_, fun c46 => ?_⟩
            · have h := h.1 (ua_no.mp c46)
              exact jn61 _ _ _ _ _ _ h hM hF
            · have h := h.2 (fun z => c46 (ua_no.mpr z))
              refine uq_I 247 hM (by decide) (fun _ => rfl) h (fun v51 h => ?_)
              refine uq_I 247 hM (by decide) (fun _ => rfl) h (fun v55 h => ?_)
              refine ⟨fun c58 => ?_, fun c58 => ?_⟩
              · have h := h.1 c58
                exact jn64 _ _ _ _ _ _ h hM hF
              · have h := h.2 c58
                exact jn61 _ _ _ _ _ _ h hM hF
  exact lp4 n4 _ _ _ _ _ _ h hM hF

def uX6_bringBack_L2  (c : Nat → Nat) (Q : mT → Prop) (X : String → mT → Prop) : Nat → Option Nat → Int32 → Int32 → mT → Prop
  | 0, _, _, _, _ => False
  | n2 + 1, x0, x1, x2, T =>
  u_g c x0 7 (fun _ => some (3)) (fun v4 =>
  u_sz c v4 (fun v7 =>
  ((v7 ≤ x2 →
  Q T) ∧ (¬ v7 ≤ x2 →
  u_at c x0 7 (fun b15 => uX6_nextDue c b15 x1 T (fun v15 T =>
  ((¬ v15 = none →
  u_g c v15 6 (fun i => rf (T.2.1 21 i)) (fun v25 =>
  u_g c v15 6 (fun i => T.2.1 20 i) (fun v31 =>
  (u_vo c 6 (none : Option Nat) ∧ u_g c v15 6 (fun i => m_sA T 18 i (fr (none : Option Nat))) (fun T =>
  u_at c v15 6 (fun b42 => uX5_endLoan c b42  T (fun T =>
  u_at c x0 7 (fun b51 => uX6_passOn c b51 v15 v25 v31 T (fun T =>
  (uX6_bringBack_L2 c Q X n2) x0 x1 (x2 + 1) T) X)) X)))))) ∧ (v15 = none →
  Q T))) X)))))
def uX6_bringBack (c : Nat → Nat) (x0 : Nat) (x1 : Int32) (T : mT) (Q : mT → Prop) (X : String → mT → Prop) : Prop :=
  ∃ n2, uX6_bringBack_L2 c Q X n2 (some x0) x1 (0 : Int32) T
set_option maxHeartbeats 4000000 in
set_option maxRecDepth 100000 in
theorem rX6_bringBack {g : Nat × Nat} {S : qS} {A : Nat → Nat → Nat} {C c : Nat → Nat} {T : mT} {x0 : Nat} {x1 : Int32} {Q : mT → Prop} {X : String → mT → Prop} {post : qS → Prop} {xp : String → qS → Prop} (hM : RU g S A C c T) (h : uX6_bringBack c x0 x1 T Q X) (hp : ∀ (T' : mT) (S' : qS), Q T' → RU g S' A C c T' → cfr S S' → post S') (hx : ∀ (n : String) (T' : mT) (S' : qS), X n T' → RU g S' A C c T' → cfr S S' → xp n S') : pX6_bringBack (A 7 x0) x1 S post xp := by
  unfold uX6_bringBack at h
  unfold pX6_bringBack
  obtain ⟨S0, hS0⟩ : ∃ S0, S0 = S := ⟨_, rfl⟩
  rw [← hS0] at hp hx
  have hF : cfr S0 S := by rw [hS0]; exact cfr.rf
  clear hS0
  obtain ⟨n2, h⟩ := h
  refine ⟨n2, ?_⟩
  have lp2 : ∀ (n2 : Nat) (x0 : Option Nat) (x1 : Int32) (x2 : Int32) (T : mT) (S : qS), uX6_bringBack_L2 c Q X n2 x0 x1 x2 T → RU g S A C c T → cfr S0 S → pX6_bringBack_L2 post xp n2 (Option.map (A 7) x0) x1 x2 S := by
    intro n2
    induction n2 with
    | zero => intro x0 x1 x2 T S h hM hF; exact h.elim
    | succ n2 ih2 =>
      intro x0 x1 x2 T S h hM hF
      unfold uX6_bringBack_L2 at h
      unfold pX6_bringBack_L2
      refine uq_S 280 hM (by decide) (fun _ => rfl) h (fun v4 h => ?_)
      refine uq_sz hM h (fun v7 h => ?_)
      refine ⟨fun c10 => ?_, fun c10 => ?_⟩
      · have h := h.1 c10
        exact hp _ _ h hM hF
      · have h := h.2 c10
        refine uq_at hM h (fun b15 hb15 h => ?_)
        refine rX6_nextDue hM h (fun v15 T S h hM hF1 => ?_) (fun n T S h hM hF1 => hx n T S h hM (hF.tr hF1))
        have hF := hF.tr hF1
        refine ⟨fun c20 => ?_, fun c20 => ?_⟩
        · have h := h.1 (fun z => c20 (ua_no.mpr z))
          refine uq_R 248 hM (by decide) (fun _ => rfl) h (fun v25 h => ?_)
          refine uq_I 247 hM (by decide) (fun _ => rfl) h (fun v31 h => ?_)
          refine um_R 250 hM hF (by decide) h (fun T S h hM hF => ?_)
          refine uq_at hM h (fun b42 hb42 h => ?_)
          refine rX5_endLoan hM h (fun T S h hM hF1 => ?_) (fun n T S h hM hF1 => hx n T S h hM (hF.tr hF1))
          have hF := hF.tr hF1
          refine uq_at hM h (fun b51 hb51 h => ?_)
          refine rX6_passOn hM h (fun T S h hM hF1 => ?_) (fun n T S h hM hF1 => hx n T S h hM (hF.tr hF1))
          have hF := hF.tr hF1
          exact ih2 _ _ _ _ _ h hM hF
        · have h := h.2 (ua_no.mp c20)
          exact hp _ _ h hM hF
  exact lp2 n2 _ _ _ _ _ h hM hF

def uX6_allWithin_J36 (k4 : Option Nat → Option Nat → Int32 → Int32 → mT → Prop) (c : Nat → Nat) (Q : Int32 → mT → Prop) (X : String → mT → Prop) (x0 : Option Nat) (x1 : Option Nat) (x2 : Int32) (x3 : Int32) (T : mT) : Prop :=
  k4 x0 x1 x2 (x3 + 1) T
def uX6_allWithin_L4  (c : Nat → Nat) (Q : Int32 → mT → Prop) (X : String → mT → Prop) : Nat → Option Nat → Option Nat → Int32 → Int32 → mT → Prop
  | 0, _, _, _, _, _ => False
  | n4 + 1, x0, x1, x2, x3, T =>
  u_g c x0 7 (fun _ => some (3)) (fun v6 =>
  u_sz c v6 (fun v9 =>
  ((v9 ≤ x3 →
  Q x2 T) ∧ (¬ v9 ≤ x3 →
  u_g c x0 7 (fun _ => some (3)) (fun v16 =>
  u_el c v16 6 x3 (fun v20 =>
  u_at c v20 6 (fun b27 => uX5_liesWithin c b27 x1 T (fun v27 T =>
  ((v27 = 0 →
  uX6_allWithin_J36 (uX6_allWithin_L4 c Q X n4) c Q X x0 x1 x2 x3 T) ∧ (¬ v27 = 0 →
  uX6_allWithin_J36 (uX6_allWithin_L4 c Q X n4) c Q X x0 x1 (x2 + 1) x3 T))) X)))))))
def uX6_allWithin (c : Nat → Nat) (x0 : Nat) (x1 : Option Nat) (T : mT) (Q : Int32 → mT → Prop) (X : String → mT → Prop) : Prop :=
  ∃ n4, uX6_allWithin_L4 c Q X n4 (some x0) x1 (0 : Int32) (0 : Int32) T
set_option maxHeartbeats 4000000 in
set_option maxRecDepth 100000 in
theorem rX6_allWithin {g : Nat × Nat} {S : qS} {A : Nat → Nat → Nat} {C c : Nat → Nat} {T : mT} {x0 : Nat} {x1 : Option Nat} {Q : Int32 → mT → Prop} {X : String → mT → Prop} {post : Int32 → qS → Prop} {xp : String → qS → Prop} (hM : RU g S A C c T) (h : uX6_allWithin c x0 x1 T Q X) (hp : ∀ (v : Int32) (T' : mT) (S' : qS), Q v T' → RU g S' A C c T' → cfr S S' → post v S') (hx : ∀ (n : String) (T' : mT) (S' : qS), X n T' → RU g S' A C c T' → cfr S S' → xp n S') : pX6_allWithin (A 7 x0) (Option.map (A 6) x1) S post xp := by
  unfold uX6_allWithin at h
  unfold pX6_allWithin
  obtain ⟨S0, hS0⟩ : ∃ S0, S0 = S := ⟨_, rfl⟩
  rw [← hS0] at hp hx
  have hF : cfr S0 S := by rw [hS0]; exact cfr.rf
  clear hS0
  obtain ⟨n4, h⟩ := h
  refine ⟨n4, ?_⟩
  have lp4 : ∀ (n4 : Nat) (x0 : Option Nat) (x1 : Option Nat) (x2 : Int32) (x3 : Int32) (T : mT) (S : qS), uX6_allWithin_L4 c Q X n4 x0 x1 x2 x3 T → RU g S A C c T → cfr S0 S → pX6_allWithin_L4 post xp n4 (Option.map (A 7) x0) (Option.map (A 6) x1) x2 x3 S := by
    intro n4
    induction n4 with
    | zero => intro x0 x1 x2 x3 T S h hM hF; exact h.elim
    | succ n4 ih4 =>
      intro x0 x1 x2 x3 T S h hM hF
      unfold uX6_allWithin_L4 at h
      unfold pX6_allWithin_L4
      refine uq_S 280 hM (by decide) (fun _ => rfl) h (fun v6 h => ?_)
      refine uq_sz hM h (fun v9 h => ?_)
      refine ⟨fun c12 => ?_, fun c12 => ?_⟩
      · have h := h.1 c12
        exact hp _ _ _ h hM hF
      · have h := h.2 c12
        refine uq_S 280 hM (by decide) (fun _ => rfl) h (fun v16 h => ?_)
        refine uq_el hM h (fun v20 h => ?_)
        refine uq_at hM h (fun b27 hb27 h => ?_)
        refine rX5_liesWithin hM h (fun v27 T S h hM hF1 => ?_) (fun n T S h hM hF1 => hx n T S h hM (hF.tr hF1))
        have hF := hF.tr hF1
        have jn36 : ∀ (x0 : Option Nat) (x1 : Option Nat) (x2 : Int32) (x3 : Int32) (T : mT) (S : qS), uX6_allWithin_J36 (uX6_allWithin_L4 c Q X n4) c Q X x0 x1 x2 x3 T → RU g S A C c T → cfr S0 S → pX6_allWithin_J36 (pX6_allWithin_L4 post xp n4) post xp (Option.map (A 7) x0) (Option.map (A 6) x1) x2 x3 S := by
          intro x0 x1 x2 x3 T S h hM hF
          unfold uX6_allWithin_J36 at h
          unfold pX6_allWithin_J36
          exact ih4 _ _ _ _ _ _ h hM hF
        refine ⟨fun c30 => ?_, fun c30 => ?_⟩
        · have h := h.1 c30
          exact jn36 _ _ _ _ _ _ h hM hF
        · have h := h.2 c30
          exact jn36 _ _ _ _ _ _ h hM hF
  exact lp4 n4 _ _ _ _ _ _ h hM hF

def uX6_countBroken_J35 (k4 : Option Nat → Int32 → Int32 → mT → Prop) (c : Nat → Nat) (Q : Int32 → mT → Prop) (X : String → mT → Prop) (x0 : Option Nat) (x1 : Int32) (x2 : Int32) (T : mT) : Prop :=
  k4 x0 x1 (x2 + 1) T
def uX6_countBroken_L4  (c : Nat → Nat) (Q : Int32 → mT → Prop) (X : String → mT → Prop) : Nat → Option Nat → Int32 → Int32 → mT → Prop
  | 0, _, _, _, _ => False
  | n4 + 1, x0, x1, x2, T =>
  u_g c x0 7 (fun _ => some (3)) (fun v6 =>
  u_sz c v6 (fun v9 =>
  ((v9 ≤ x2 →
  Q x1 T) ∧ (¬ v9 ≤ x2 →
  u_g c x0 7 (fun _ => some (3)) (fun v16 =>
  u_el c v16 6 x2 (fun v20 =>
  u_at c v20 6 (fun b26 => uX5_isBroken c b26  T (fun v26 T =>
  ((v26 = 0 →
  uX6_countBroken_J35 (uX6_countBroken_L4 c Q X n4) c Q X x0 x1 x2 T) ∧ (¬ v26 = 0 →
  uX6_countBroken_J35 (uX6_countBroken_L4 c Q X n4) c Q X x0 (x1 + 1) x2 T))) X)))))))
def uX6_countBroken (c : Nat → Nat) (x0 : Nat) (T : mT) (Q : Int32 → mT → Prop) (X : String → mT → Prop) : Prop :=
  ∃ n4, uX6_countBroken_L4 c Q X n4 (some x0) (0 : Int32) (0 : Int32) T
set_option maxHeartbeats 4000000 in
set_option maxRecDepth 100000 in
theorem rX6_countBroken {g : Nat × Nat} {S : qS} {A : Nat → Nat → Nat} {C c : Nat → Nat} {T : mT} {x0 : Nat} {Q : Int32 → mT → Prop} {X : String → mT → Prop} {post : Int32 → qS → Prop} {xp : String → qS → Prop} (hM : RU g S A C c T) (h : uX6_countBroken c x0 T Q X) (hp : ∀ (v : Int32) (T' : mT) (S' : qS), Q v T' → RU g S' A C c T' → cfr S S' → post v S') (hx : ∀ (n : String) (T' : mT) (S' : qS), X n T' → RU g S' A C c T' → cfr S S' → xp n S') : pX6_countBroken (A 7 x0) S post xp := by
  unfold uX6_countBroken at h
  unfold pX6_countBroken
  obtain ⟨S0, hS0⟩ : ∃ S0, S0 = S := ⟨_, rfl⟩
  rw [← hS0] at hp hx
  have hF : cfr S0 S := by rw [hS0]; exact cfr.rf
  clear hS0
  obtain ⟨n4, h⟩ := h
  refine ⟨n4, ?_⟩
  have lp4 : ∀ (n4 : Nat) (x0 : Option Nat) (x1 : Int32) (x2 : Int32) (T : mT) (S : qS), uX6_countBroken_L4 c Q X n4 x0 x1 x2 T → RU g S A C c T → cfr S0 S → pX6_countBroken_L4 post xp n4 (Option.map (A 7) x0) x1 x2 S := by
    intro n4
    induction n4 with
    | zero => intro x0 x1 x2 T S h hM hF; exact h.elim
    | succ n4 ih4 =>
      intro x0 x1 x2 T S h hM hF
      unfold uX6_countBroken_L4 at h
      unfold pX6_countBroken_L4
      refine uq_S 280 hM (by decide) (fun _ => rfl) h (fun v6 h => ?_)
      refine uq_sz hM h (fun v9 h => ?_)
      refine ⟨fun c12 => ?_, fun c12 => ?_⟩
      · have h := h.1 c12
        exact hp _ _ _ h hM hF
      · have h := h.2 c12
        refine uq_S 280 hM (by decide) (fun _ => rfl) h (fun v16 h => ?_)
        refine uq_el hM h (fun v20 h => ?_)
        refine uq_at hM h (fun b26 hb26 h => ?_)
        refine rX5_isBroken hM h (fun v26 T S h hM hF1 => ?_) (fun n T S h hM hF1 => hx n T S h hM (hF.tr hF1))
        have hF := hF.tr hF1
        have jn35 : ∀ (x0 : Option Nat) (x1 : Int32) (x2 : Int32) (T : mT) (S : qS), uX6_countBroken_J35 (uX6_countBroken_L4 c Q X n4) c Q X x0 x1 x2 T → RU g S A C c T → cfr S0 S → pX6_countBroken_J35 (pX6_countBroken_L4 post xp n4) post xp (Option.map (A 7) x0) x1 x2 S := by
          intro x0 x1 x2 T S h hM hF
          unfold uX6_countBroken_J35 at h
          unfold pX6_countBroken_J35
          exact ih4 _ _ _ _ _ h hM hF
        refine ⟨fun c29 => ?_, fun c29 => ?_⟩
        · have h := h.1 c29
          exact jn35 _ _ _ _ _ h hM hF
        · have h := h.2 c29
          exact jn35 _ _ _ _ _ h hM hF
  exact lp4 n4 _ _ _ _ _ h hM hF

def uX6_countLent_J35 (k4 : Option Nat → Int32 → Int32 → mT → Prop) (c : Nat → Nat) (Q : Int32 → mT → Prop) (X : String → mT → Prop) (x0 : Option Nat) (x1 : Int32) (x2 : Int32) (T : mT) : Prop :=
  k4 x0 x1 (x2 + 1) T
def uX6_countLent_L4  (c : Nat → Nat) (Q : Int32 → mT → Prop) (X : String → mT → Prop) : Nat → Option Nat → Int32 → Int32 → mT → Prop
  | 0, _, _, _, _ => False
  | n4 + 1, x0, x1, x2, T =>
  u_g c x0 7 (fun _ => some (3)) (fun v6 =>
  u_sz c v6 (fun v9 =>
  ((v9 ≤ x2 →
  Q x1 T) ∧ (¬ v9 ≤ x2 →
  u_g c x0 7 (fun _ => some (3)) (fun v16 =>
  u_el c v16 6 x2 (fun v20 =>
  u_at c v20 6 (fun b26 => uX5_isLent c b26  T (fun v26 T =>
  ((v26 = 0 →
  uX6_countLent_J35 (uX6_countLent_L4 c Q X n4) c Q X x0 x1 x2 T) ∧ (¬ v26 = 0 →
  uX6_countLent_J35 (uX6_countLent_L4 c Q X n4) c Q X x0 (x1 + 1) x2 T))) X)))))))
def uX6_countLent (c : Nat → Nat) (x0 : Nat) (T : mT) (Q : Int32 → mT → Prop) (X : String → mT → Prop) : Prop :=
  ∃ n4, uX6_countLent_L4 c Q X n4 (some x0) (0 : Int32) (0 : Int32) T
set_option maxHeartbeats 4000000 in
set_option maxRecDepth 100000 in
theorem rX6_countLent {g : Nat × Nat} {S : qS} {A : Nat → Nat → Nat} {C c : Nat → Nat} {T : mT} {x0 : Nat} {Q : Int32 → mT → Prop} {X : String → mT → Prop} {post : Int32 → qS → Prop} {xp : String → qS → Prop} (hM : RU g S A C c T) (h : uX6_countLent c x0 T Q X) (hp : ∀ (v : Int32) (T' : mT) (S' : qS), Q v T' → RU g S' A C c T' → cfr S S' → post v S') (hx : ∀ (n : String) (T' : mT) (S' : qS), X n T' → RU g S' A C c T' → cfr S S' → xp n S') : pX6_countLent (A 7 x0) S post xp := by
  unfold uX6_countLent at h
  unfold pX6_countLent
  obtain ⟨S0, hS0⟩ : ∃ S0, S0 = S := ⟨_, rfl⟩
  rw [← hS0] at hp hx
  have hF : cfr S0 S := by rw [hS0]; exact cfr.rf
  clear hS0
  obtain ⟨n4, h⟩ := h
  refine ⟨n4, ?_⟩
  have lp4 : ∀ (n4 : Nat) (x0 : Option Nat) (x1 : Int32) (x2 : Int32) (T : mT) (S : qS), uX6_countLent_L4 c Q X n4 x0 x1 x2 T → RU g S A C c T → cfr S0 S → pX6_countLent_L4 post xp n4 (Option.map (A 7) x0) x1 x2 S := by
    intro n4
    induction n4 with
    | zero => intro x0 x1 x2 T S h hM hF; exact h.elim
    | succ n4 ih4 =>
      intro x0 x1 x2 T S h hM hF
      unfold uX6_countLent_L4 at h
      unfold pX6_countLent_L4
      refine uq_S 280 hM (by decide) (fun _ => rfl) h (fun v6 h => ?_)
      refine uq_sz hM h (fun v9 h => ?_)
      refine ⟨fun c12 => ?_, fun c12 => ?_⟩
      · have h := h.1 c12
        exact hp _ _ _ h hM hF
      · have h := h.2 c12
        refine uq_S 280 hM (by decide) (fun _ => rfl) h (fun v16 h => ?_)
        refine uq_el hM h (fun v20 h => ?_)
        refine uq_at hM h (fun b26 hb26 h => ?_)
        refine rX5_isLent hM h (fun v26 T S h hM hF1 => ?_) (fun n T S h hM hF1 => hx n T S h hM (hF.tr hF1))
        have hF := hF.tr hF1
        have jn35 : ∀ (x0 : Option Nat) (x1 : Int32) (x2 : Int32) (T : mT) (S : qS), uX6_countLent_J35 (uX6_countLent_L4 c Q X n4) c Q X x0 x1 x2 T → RU g S A C c T → cfr S0 S → pX6_countLent_J35 (pX6_countLent_L4 post xp n4) post xp (Option.map (A 7) x0) x1 x2 S := by
          intro x0 x1 x2 T S h hM hF
          unfold uX6_countLent_J35 at h
          unfold pX6_countLent_J35
          exact ih4 _ _ _ _ _ h hM hF
        refine ⟨fun c29 => ?_, fun c29 => ?_⟩
        · have h := h.1 c29
          exact jn35 _ _ _ _ _ h hM hF
        · have h := h.2 c29
          exact jn35 _ _ _ _ _ h hM hF
  exact lp4 n4 _ _ _ _ _ h hM hF
