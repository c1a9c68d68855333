def tX8_leaves (x1 : Int32) (x2 : Int32) (T : mT) (Q : Int32 → mT → Prop) : Prop :=
  t_ldI T 8 (((4 : Int32) * x1) + x2) (fun v9 =>
  t_ldI T 7 (((4 : Int32) * x1) + x2) (fun v19 =>
  Q (v9 - v19) T))
set_option maxHeartbeats 4000000 in
set_option maxRecDepth 100000 in
theorem rX8_leaves {S : qS} {mo : Nat} {ad : Nat → Nat} {T : mT} {x1 : Int32} {x2 : Int32} {Q : Int32 → mT → Prop} {post : Int32 → qS → Prop} {xp : String → qS → Prop} (hM : RM S mo ad T) (h : tX8_leaves x1 x2 T Q) (hp : ∀ (v : Int32) (T' : mT) (S' : qS), Q v T' → RM S' mo ad T' → mfr S S' → post v S') : pX8_leaves mo x1 x2 S post xp := by
  unfold tX8_leaves at h
  unfold pX8_leaves
  obtain ⟨S0, hS0⟩ : ∃ S0, S0 = S := ⟨_, rfl⟩
  rw [← hS0] at hp
  have hF : mfr S0 S := by rw [hS0]; exact mfr.rf
  clear hS0
  refine mg_R hM (k := 8) (by decide) ?_
  refine ml_I hM (by decide) h (fun v9 h => ?_)
  refine mg_R hM (k := 7) (by decide) ?_
  refine ml_I hM (by decide) h (fun v19 h => ?_)
  exact hp _ _ _ h hM hF

def tX8_bounds_J75 (k2 : Int32 → mT → Prop) (Q : mT → Prop) (x1 : Int32) (T : mT) : Prop :=
  k2 (x1 + 1) T
def tX8_bounds_J68 (k14 : Int32 → Int32 → mT → Prop) (Q : mT → Prop) (x1 : Int32) (x2 : Int32) (t1 : Int32) (t2 : Int32) (T : mT) : Prop :=
  t_stI T 31 t1 t2 (fun T =>
  k14 x1 (x2 + 1) T)
def tX8_bounds_L14 (k75 : Int32 → mT → Prop) (Q : mT → Prop) : Nat → Int32 → Int32 → mT → Prop
  | 0, _, _, _ => False
  | n14 + 1, x1, x2, T =>
  t_getI T 30 (fun v16 =>
  ((v16 ≤ x2 →
  k75 x1 T) ∧ (¬ v16 ≤ x2 →
  t_getI T 30 (fun v33 =>
  ((v33 ≤ x1 →
  t_ldI T 29 x2 (fun v58 =>
  t_getI T 30 (fun v61 =>
  tX8_leaves v58 (x1 - v61) T (fun v65 T =>
  tX8_bounds_J68 (tX8_bounds_L14 k75 Q n14) Q x1 x2 (((4 : Int32) * x1) + x2) v65 T)))) ∧ (¬ v33 ≤ x1 →
  ((¬ x1 = x2 →
  tX8_bounds_J68 (tX8_bounds_L14 k75 Q n14) Q x1 x2 (((4 : Int32) * x1) + x2) (0 : Int32) T) ∧ (x1 = x2 →
  tX8_bounds_J68 (tX8_bounds_L14 k75 Q n14) Q x1 x2 (((4 : Int32) * x1) + x2) (1 : Int32) T))))))))
def tX8_bounds_L2  (Q : mT → Prop) : Nat → Int32 → mT → Prop
  | 0, _, _ => False
  | n2 + 1, x1, T =>
  t_getI T 30 (fun v4 =>
  (((v4 + (4 : Int32)) ≤ x1 →
  Q T) ∧ (¬ (v4 + (4 : Int32)) ≤ x1 →
  ∃ n14, tX8_bounds_L14 (tX8_bounds_J75 (tX8_bounds_L2 Q n2) Q) Q n14 x1 (0 : Int32) T)))
def tX8_bounds  (T : mT) (Q : mT → Prop) : Prop :=
  ∃ n2, tX8_bounds_L2 Q n2 (0 : Int32) T
set_option maxHeartbeats 4000000 in
set_option maxRecDepth 100000 in
theorem rX8_bounds {S : qS} {mo : Nat} {ad : Nat → Nat} {T : mT}  {Q : mT → Prop} {post : qS → Prop} {xp : String → qS → Prop} (hM : RM S mo ad T) (h : tX8_bounds  T Q) (hp : ∀ (T' : mT) (S' : qS), Q T' → RM S' mo ad T' → mfr S S' → post S') : pX8_bounds mo  S post xp := by
  unfold tX8_bounds at h
  unfold pX8_bounds
  obtain ⟨S0, hS0⟩ : ∃ S0, S0 = S := ⟨_, rfl⟩
  rw [← hS0] at hp
  have hF : mfr S0 S := by rw [hS0]; exact mfr.rf
  clear hS0
  obtain ⟨n2, h⟩ := h
  refine ⟨n2, ?_⟩
  have lp2 : ∀ (n2 : Nat) (x1 : Int32) (T : mT) (S : qS), tX8_bounds_L2 Q n2 x1 T → RM S mo ad T → mfr S0 S → pX8_bounds_L2 post xp n2 (some mo) x1 S := by
    intro n2
    induction n2 with
    | zero => intro x1 T S h hM hF; exact h.elim
    | succ n2 ih2 =>
      intro x1 T S h hM hF
      unfold tX8_bounds_L2 at h
      unfold pX8_bounds_L2
      refine mg_I hM (by decide) h (fun v4 h => ?_)
      refine ⟨fun c9 => ?_, fun c9 => ?_⟩
      · have h := h.1 c9
        exact hp _ _ h hM hF
      · have h := h.2 c9
        have jn75 : ∀ (x1 : Int32) (T : mT) (S : qS), tX8_bounds_J75 (tX8_bounds_L2 Q n2) Q x1 T → RM S mo ad T → mfr S0 S → pX8_bounds_J75 (pX8_bounds_L2 post xp n2) post xp (some mo) x1 S := by
          intro x1 T S h hM hF
          unfold tX8_bounds_J75 at h
          unfold pX8_bounds_J75
          exact ih2 _ _ _ h hM hF
        obtain ⟨n14, h⟩ := h
        refine ⟨n14, ?_⟩
        have lp14 : ∀ (n14 : Nat) (x1 : Int32) (x2 : Int32) (T : mT) (S : qS), tX8_bounds_L14 (tX8_bounds_J75 (tX8_bounds_L2 Q n2) Q) Q n14 x1 x2 T → RM S mo ad T → mfr S0 S → pX8_bounds_L14 (pX8_bounds_J75 (pX8_bounds_L2 post xp n2) post xp) post xp n14 (some mo) x1 x2 S := by
          intro n14
          induction n14 with
          | zero => intro x1 x2 T S h hM hF; exact h.elim
          | succ n14 ih14 =>
            intro x1 x2 T S h hM hF
            unfold tX8_bounds_L14 at h
            unfold pX8_bounds_L14
            refine mg_I hM (by decide) h (fun v16 h => ?_)
            refine ⟨fun c19 => ?_, fun c19 => ?_⟩
            · have h := h.1 c19
              exact jn75 _ _ _ h hM hF
            · have h := h.2 c19
              refine mg_R hM (k := 31) (by decide) ?_
              refine mg_I hM (by decide) h (fun v33 h => ?_)
              have jn68 : ∀ (x1 : Int32) (x2 : Int32) (t1 : Int32) (t2 : Int32) (T : mT) (S : qS), tX8_bounds_J68 (tX8_bounds_L14 (tX8_bounds_J75 (tX8_bounds_L2 Q n2) Q) Q n14) Q x1 x2 t1 t2 T → RM S mo ad T → mfr S0 S → pX8_bounds_J68 (pX8_bounds_L14 (pX8_bounds_J75 (pX8_bounds_L2 post xp n2) post xp) post xp n14) post xp (some mo) x1 x2 (some (ad 31)) t1 t2 S := by
                intro x1 x2 t1 t2 T S h hM hF
                unfold tX8_bounds_J68 at h
                unfold pX8_bounds_J68
                refine ms_I hM hF (by decide) h (fun T S h hM hF => ?_)
                exact ih14 _ _ _ _ h hM hF
              refine ⟨fun c36 => ?_, fun c36 => ?_⟩
              · have h := h.1 c36
                refine mg_R hM (k := 29) (by decide) ?_
                refine ml_I hM (by decide) h (fun v58 h => ?_)
                refine mg_I hM (by decide) h (fun v61 h => ?_)
                refine mg_at hM ?_
                refine rX8_leaves hM h (fun v65 T S h hM hF1 => ?_)
                have hF := hF.tr hF1
                exact jn68 _ _ _ _ _ _ h hM hF
              · have h := h.2 c36
                refine ⟨fun c41 => ?_, fun c41 => ?_⟩
                · have h := h.1 c41
                  exact jn68 _ _ _ _ _ _ h hM hF
                · have h := h.2 c41
                  exact jn68 _ _ _ _ _ _ h hM hF
        exact lp14 n14 _ _ _ _ h hM hF
  exact lp2 n2 _ _ _ h hM hF

def tX8_two (x1 : Int32) (x2 : Int32) (x3 : Int32) (x4 : Int32) (T : mT) (Q : Int64 → mT → Prop) : Prop :=
  t_ldI T 31 (((4 : Int32) * x1) + x3) (fun v9 =>
  t_ldI T 31 (((4 : Int32) * x2) + x4) (fun v21 =>
  t_ldI T 31 (((4 : Int32) * x1) + x4) (fun v34 =>
  t_ldI T 31 (((4 : Int32) * x2) + x3) (fun v45 =>
  Q ((v9.toInt64 * v21.toInt64) - (v34.toInt64 * v45.toInt64)) T))))
set_option maxHeartbeats 4000000 in
set_option maxRecDepth 100000 in
theorem rX8_two {S : qS} {mo : Nat} {ad : Nat → Nat} {T : mT} {x1 : Int32} {x2 : Int32} {x3 : Int32} {x4 : Int32} {Q : Int64 → mT → Prop} {post : Int64 → qS → Prop} {xp : String → qS → Prop} (hM : RM S mo ad T) (h : tX8_two x1 x2 x3 x4 T Q) (hp : ∀ (v : Int64) (T' : mT) (S' : qS), Q v T' → RM S' mo ad T' → mfr S S' → post v S') : pX8_two mo x1 x2 x3 x4 S post xp := by
  unfold tX8_two at h
  unfold pX8_two
  obtain ⟨S0, hS0⟩ : ∃ S0, S0 = S := ⟨_, rfl⟩
  rw [← hS0] at hp
  have hF : mfr S0 S := by rw [hS0]; exact mfr.rf
  clear hS0
  refine mg_R hM (k := 31) (by decide) ?_
  refine ml_I hM (by decide) h (fun v9 h => ?_)
  refine mg_R hM (k := 31) (by decide) ?_
  refine ml_I hM (by decide) h (fun v21 h => ?_)
  refine mg_R hM (k := 31) (by decide) ?_
  refine ml_I hM (by decide) h (fun v34 h => ?_)
  refine mg_R hM (k := 31) (by decide) ?_
  refine ml_I hM (by decide) h (fun v45 h => ?_)
  exact hp _ _ _ h hM hF

def tX8_three (x1 : Int32) (x2 : Int32) (x3 : Int32) (x4 : Int32) (x5 : Int32) (x6 : Int32) (T : mT) (Q : Int64 → mT → Prop) : Prop :=
  t_ldI T 31 (((4 : Int32) * x1) + x4) (fun v10 =>
  tX8_two x2 x3 x5 x6 T (fun v19 T =>
  t_ldI T 31 (((4 : Int32) * x1) + x5) (fun v33 =>
  tX8_two x2 x3 x4 x6 T (fun v42 T =>
  t_ldI T 31 (((4 : Int32) * x1) + x6) (fun v57 =>
  tX8_two x2 x3 x4 x5 T (fun v66 T =>
  Q (((v10.toInt64 * v19) - (v33.toInt64 * v42)) + (v57.toInt64 * v66)) T))))))
set_option maxHeartbeats 4000000 in
set_option maxRecDepth 100000 in
theorem rX8_three {S : qS} {mo : Nat} {ad : Nat → Nat} {T : mT} {x1 : Int32} {x2 : Int32} {x3 : Int32} {x4 : Int32} {x5 : Int32} {x6 : Int32} {Q : Int64 → mT → Prop} {post : Int64 → qS → Prop} {xp : String → qS → Prop} (hM : RM S mo ad T) (h : tX8_three x1 x2 x3 x4 x5 x6 T Q) (hp : ∀ (v : Int64) (T' : mT) (S' : qS), Q v T' → RM S' mo ad T' → mfr S S' → post v S') : pX8_three mo x1 x2 x3 x4 x5 x6 S post xp := by
  unfold tX8_three at h
  unfold pX8_three
  obtain ⟨S0, hS0⟩ : ∃ S0, S0 = S := ⟨_, rfl⟩
  rw [← hS0] at hp
  have hF : mfr S0 S := by rw [hS0]; exact mfr.rf
  clear hS0
  refine mg_R hM (k := 31) (by decide) ?_
  refine ml_I hM (by decide) h (fun v10 h => ?_)
  refine mg_at hM ?_
  refine rX8_two hM h (fun v19 T S h hM hF1 => ?_)
  have hF := hF.tr hF1
  refine mg_R hM (k := 31) (by decide) ?_
  refine ml_I hM (by decide) h (fun v33 h => ?_)
  refine mg_at hM ?_
  refine rX8_two hM h (fun v42 T S h hM hF1 => ?_)
  have hF := hF.tr hF1
  refine mg_R hM (k := 31) (by decide) ?_
  refine ml_I hM (by decide) h (fun v57 h => ?_)
  refine mg_at hM ?_
  refine rX8_two hM h (fun v66 T S h hM hF1 => ?_)
  have hF := hF.tr hF1
  exact hp _ _ _ h hM hF

def tX8_isGain__J162  (Q : Int32 → mT → Prop) (t0 : Int32) (T : mT) : Prop :=
  ((t0 = 0 ∨ t0 = 1) ∧ Q t0 T)
def tX8_isGain__J161  (Q : Int32 → mT → Prop)  (T : mT) : Prop :=
  tX8_isGain__J162 Q (0 : Int32) T
def tX8_isGain__J148  (Q : Int32 → mT → Prop) (x3 : Int32) (x4 : Int32) (T : mT) : Prop :=
  ((x3 = 0 →
  tX8_isGain__J161 Q T) ∧ (¬ x3 = 0 →
  ((x4 = 0 →
  tX8_isGain__J161 Q T) ∧ (¬ x4 = 0 →
  tX8_isGain__J162 Q (1 : Int32) T))))
def tX8_isGain__J140 (k50 : Int64 → Int32 → Int32 → Int32 → mT → Prop) (Q : Int32 → mT → Prop) (x1 : Int64) (x3 : Int32) (x5 : Int32) (t0 : Int32) (T : mT) : Prop :=
  k50 x1 x3 t0 (x5 + 1) T
def tX8_isGain__J135 (k50 : Int64 → Int32 → Int32 → Int32 → mT → Prop) (Q : Int32 → mT → Prop) (x1 : Int64) (x3 : Int32) (x5 : Int32) (T : mT) : Prop :=
  tX8_isGain__J140 k50 Q x1 x3 x5 (1 : Int32) T
def tX8_isGain__J122 (k50 : Int64 → Int32 → Int32 → Int32 → mT → Prop) (Q : Int32 → mT → Prop) (x1 : Int64) (x4 : Int32) (x5 : Int32) (x6 : Int64) (t0 : Int32) (T : mT) : Prop :=
  ((¬ x4 = 0 →
  tX8_isGain__J135 k50 Q x1 t0 x5 T) ∧ (x4 = 0 →
  (((lg_cmp x6 (0 : Int64)) ≤ 0 →
  tX8_isGain__J140 k50 Q x1 t0 x5 (0 : Int32) T) ∧ (¬ (lg_cmp x6 (0 : Int64)) ≤ 0 →
  tX8_isGain__J135 k50 Q x1 t0 x5 T))))
def tX8_isGain__J121 (k50 : Int64 → Int32 → Int32 → Int32 → mT → Prop) (Q : Int32 → mT → Prop) (x1 : Int64) (x4 : Int32) (x5 : Int32) (x6 : Int64) (T : mT) : Prop :=
  tX8_isGain__J122 k50 Q x1 x4 x5 x6 (0 : Int32) T
def tX8_isGain__J106 (k50 : Int64 → Int32 → Int32 → Int32 → mT → Prop) (Q : Int32 → mT → Prop) (x1 : Int64) (x3 : Int32) (x4 : Int32) (x5 : Int32) (x6 : Int64) (T : mT) : Prop :=
  ((x3 = 0 →
  tX8_isGain__J121 k50 Q x1 x4 x5 x6 T) ∧ (¬ x3 = 0 →
  (((lg_cmp x6 (0 : Int64)) < 0 →
  tX8_isGain__J121 k50 Q x1 x4 x5 x6 T) ∧ (¬ (lg_cmp x6 (0 : Int64)) < 0 →
  tX8_isGain__J122 k50 Q x1 x4 x5 x6 (1 : Int32) T))))
def tX8_isGain__L62 (k106 : Int64 → Int32 → Int32 → Int32 → Int64 → mT → Prop) (Q : Int32 → mT → Prop) : Nat → Int64 → Int32 → Int32 → Int32 → Int64 → Int32 → mT → Prop
  | 0, _, _, _, _, _, _, _ => False
  | n62 + 1, x1, x3, x4, x5, x6, x8, T =>
  t_getI T 30 (fun v65 =>
  ((v65 ≤ x8 →
  k106 x1 x3 x4 x5 x6 T) ∧ (¬ v65 ≤ x8 →
  t_ldJ T 32 x8 (fun v80 =>
  t_ldI T 29 x8 (fun v89 =>
  tX8_leaves v89 x5 T (fun v92 T =>
  (tX8_isGain__L62 k106 Q n62) x1 x3 x4 x5 (x6 + ((x1 * v80) * v92.toInt64)) (x8 + 1) T))))))
def tX8_isGain__L50 (k148 : Int32 → Int32 → mT → Prop) (Q : Int32 → mT → Prop) : Nat → Int64 → Int32 → Int32 → Int32 → mT → Prop
  | 0, _, _, _, _, _ => False
  | n50 + 1, x1, x3, x4, x5, T =>
  (((4 : Int32) ≤ x5 →
  k148 x3 x4 T) ∧ (¬ (4 : Int32) ≤ x5 →
  ∃ n62, tX8_isGain__L62 (tX8_isGain__J106 (tX8_isGain__L50 k148 Q n50) Q) Q n62 x1 x3 x4 x5 (0 : Int64) (0 : Int32) T))
def tX8_isGain__J47  (Q : Int32 → mT → Prop) (x1 : Int64) (x3 : Int32) (x4 : Int32) (T : mT) : Prop :=
  ∃ n50, tX8_isGain__L50 (tX8_isGain__J148 Q) Q n50 x1 x3 x4 (0 : Int32) T
def tX8_isGain__J40 (k8 : Int64 → Int32 → Int32 → Int32 → mT → Prop) (Q : Int32 → mT → Prop) (x1 : Int64) (x4 : Int32) (x5 : Int32) (t0 : Int32) (T : mT) : Prop :=
  k8 x1 t0 x4 (x5 + 1) T
def tX8_isGain__J39 (k8 : Int64 → Int32 → Int32 → Int32 → mT → Prop) (Q : Int32 → mT → Prop) (x1 : Int64) (x4 : Int32) (x5 : Int32) (T : mT) : Prop :=
  tX8_isGain__J40 k8 Q x1 x4 x5 (0 : Int32) T
def tX8_isGain__L8 (k47 : Int64 → Int32 → Int32 → mT → Prop) (Q : Int32 → mT → Prop) : Nat → Int64 → Int32 → Int32 → Int32 → mT → Prop
  | 0, _, _, _, _, _ => False
  | n8 + 1, x1, x3, x4, x5, T =>
  t_getI T 30 (fun v11 =>
  ((v11 ≤ x5 →
  k47 x1 x3 x4 T) ∧ (¬ v11 ≤ x5 →
  ((x3 = 0 →
  tX8_isGain__J39 (tX8_isGain__L8 k47 Q n8) Q x1 x4 x5 T) ∧ (¬ x3 = 0 →
  t_ldJ T 32 x5 (fun v28 =>
  (((lg_cmp (x1 * v28) (0 : Int64)) < 0 →
  tX8_isGain__J39 (tX8_isGain__L8 k47 Q n8) Q x1 x4 x5 T) ∧ (¬ (lg_cmp (x1 * v28) (0 : Int64)) < 0 →
  tX8_isGain__J40 (tX8_isGain__L8 k47 Q n8) Q x1 x4 x5 (1 : Int32) T))))))))
def tX8_isGain_ (x1 : Int64) (T : mT) (Q : Int32 → mT → Prop) : Prop :=
  ∃ n8, tX8_isGain__L8 (tX8_isGain__J47 Q) Q n8 x1 (1 : Int32) (0 : Int32) (0 : Int32) T
set_option maxHeartbeats 4000000 in
set_option maxRecDepth 100000 in
theorem rX8_isGain_ {S : qS} {mo : Nat} {ad : Nat → Nat} {T : mT} {x1 : Int64} {Q : Int32 → mT → Prop} {post : Int32 → qS → Prop} {xp : String → qS → Prop} (hM : RM S mo ad T) (h : tX8_isGain_ x1 T Q) (hp : ∀ (v : Int32) (T' : mT) (S' : qS), Q v T' → RM S' mo ad T' → mfr S S' → post v S') : pX8_isGain_ mo x1 S post xp := by
  unfold tX8_isGain_ at h
  unfold pX8_isGain_
  obtain ⟨S0, hS0⟩ : ∃ S0, S0 = S := ⟨_, rfl⟩
  rw [← hS0] at hp
  have hF : mfr S0 S := by rw [hS0]; exact mfr.rf
  clear hS0
  have jn47 : ∀ (x1 : Int64) (x3 : Int32) (x4 : Int32) (T : mT) (S : qS), tX8_isGain__J47 Q x1 x3 x4 T → RM S mo ad T → mfr S0 S → pX8_isGain__J47 post xp (some mo) x1 x3 x4 S := by
    intro x1 x3 x4 T S h hM hF
    unfold tX8_isGain__J47 at h
    unfold pX8_isGain__J47
    have jn148 : ∀ (x3 : Int32) (x4 : Int32) (T : mT) (S : qS), tX8_isGain__J148 Q x3 x4 T → RM S mo ad T → mfr S0 S → pX8_isGain__J148 post xp x3 x4 S := by
      intro x3 x4 T S h hM hF
      unfold tX8_isGain__J148 at h
      unfold pX8_isGain__J148
      have jn162 : ∀ (t0 : Int32) (T : mT) (S : qS), tX8_isGain__J162 Q t0 T → RM S mo ad T → mfr S0 S → pX8_isGain__J162 post xp t0 S := by
        intro t0 T S h hM hF
        unfold tX8_isGain__J162 at h
        unfold pX8_isGain__J162
        exact ⟨h.1, hp _ _ _ h.2 hM hF⟩
      have jn161 : ∀ (T : mT) (S : qS), tX8_isGain__J161 Q T → RM S mo ad T → mfr S0 S → pX8_isGain__J161 post xp S := by
        intro T S h hM hF
        unfold tX8_isGain__J161 at h
        unfold pX8_isGain__J161
        exact jn162 _ _ _ h hM hF
      refine ⟨fun c149 => ?_, fun c149 => ?_⟩
      · have h := h.1 c149
        exact jn161 _ _ h hM hF
      · have h := h.2 c149
        refine ⟨fun c154 => ?_, fun c154 => ?_⟩
        · have h := h.1 c154
          exact jn161 _ _ h hM hF
        · have h := h.2 c154
          exact jn162 _ _ _ h hM hF
    obtain ⟨n50, h⟩ := h
    refine ⟨n50, ?_⟩
    have lp50 : ∀ (n50 : Nat) (x1 : Int64) (x3 : Int32) (x4 : Int32) (x5 : Int32) (T : mT) (S : qS), tX8_isGain__L50 (tX8_isGain__J148 Q) Q n50 x1 x3 x4 x5 T → RM S mo ad T → mfr S0 S → pX8_isGain__L50 (pX8_isGain__J148 post xp) post xp n50 (some mo) x1 x3 x4 x5 S := by
      intro n50
      induction n50 with
      | zero => intro x1 x3 x4 x5 T S h hM hF; exact h.elim
      | succ n50 ih50 =>
        intro x1 x3 x4 x5 T S h hM hF
        unfold tX8_isGain__L50 at h
        unfold pX8_isGain__L50
        refine ⟨fun c53 => ?_, fun c53 => ?_⟩
        · have h := h.1 c53
          exact jn148 _ _ _ _ h hM hF
        · have h := h.2 c53
          have jn106 : ∀ (x1 : Int64) (x3 : Int32) (x4 : Int32) (x5 : Int32) (x6 : Int64) (T : mT) (S : qS), tX8_isGain__J106 (tX8_isGain__L50 (tX8_isGain__J148 Q) Q n50) Q x1 x3 x4 x5 x6 T → RM S mo ad T → mfr S0 S → pX8_isGain__J106 (pX8_isGain__L50 (pX8_isGain__J148 post xp) post xp n50) post xp (some mo) x1 x3 x4 x5 x6 S := by
            intro x1 x3 x4 x5 x6 T S h hM hF
            unfold tX8_isGain__J106 at h
            unfold pX8_isGain__J106
            have jn122 : ∀ (x1 : Int64) (x4 : Int32) (x5 : Int32) (x6 : Int64) (t0 : Int32) (T : mT) (S : qS), tX8_isGain__J122 (tX8_isGain__L50 (tX8_isGain__J148 Q) Q n50) Q x1 x4 x5 x6 t0 T → RM S mo ad T → mfr S0 S → pX8_isGain__J122 (pX8_isGain__L50 (pX8_isGain__J148 post xp) post xp n50) post xp (some mo) x1 x4 x5 x6 t0 S := by
              intro x1 x4 x5 x6 t0 T S h hM hF
              unfold tX8_isGain__J122 at h
              unfold pX8_isGain__J122
              have jn140 : ∀ (x1 : Int64) (x3 : Int32) (x5 : Int32) (t0 : Int32) (T : mT) (S : qS), tX8_isGain__J140 (tX8_isGain__L50 (tX8_isGain__J148 Q) Q n50) Q x1 x3 x5 t0 T → RM S mo ad T → mfr S0 S → pX8_isGain__J140 (pX8_isGain__L50 (pX8_isGain__J148 post xp) post xp n50) post xp (some mo) x1 x3 x5 t0 S := by
                intro x1 x3 x5 t0 T S h hM hF
                unfold tX8_isGain__J140 at h
                unfold pX8_isGain__J140
                exact ih50 _ _ _ _ _ _ h hM hF
              have jn135 : ∀ (x1 : Int64) (x3 : Int32) (x5 : Int32) (T : mT) (S : qS), tX8_isGain__J135 (tX8_isGain__L50 (tX8_isGain__J148 Q) Q n50) Q x1 x3 x5 T → RM S mo ad T → mfr S0 S → pX8_isGain__J135 (pX8_isGain__L50 (pX8_isGain__J148 post xp) post xp n50) post xp (some mo) x1 x3 x5 S := by
                intro x1 x3 x5 T S h hM hF
                unfold tX8_isGain__J135 at h
                unfold pX8_isGain__J135
                exact jn140 _ _ _ _ _ _ h hM hF
              refine ⟨fun c125 => ?_, fun c125 => ?_⟩
              · have h := h.1 c125
                exact jn135 _ _ _ _ _ h hM hF
              · have h := h.2 c125
                refine ⟨fun c132 => ?_, fun c132 => ?_⟩
                · have h := h.1 c132
                  exact jn140 _ _ _ _ _ _ h hM hF
                · have h := h.2 c132
                  exact jn135 _ _ _ _ _ h hM hF
            have jn121 : ∀ (x1 : Int64) (x4 : Int32) (x5 : Int32) (x6 : Int64) (T : mT) (S : qS), tX8_isGain__J121 (tX8_isGain__L50 (tX8_isGain__J148 Q) Q n50) Q x1 x4 x5 x6 T → RM S mo ad T → mfr S0 S → pX8_isGain__J121 (pX8_isGain__L50 (pX8_isGain__J148 post xp) post xp n50) post xp (some mo) x1 x4 x5 x6 S := by
              intro x1 x4 x5 x6 T S h hM hF
              unfold tX8_isGain__J121 at h
              unfold pX8_isGain__J121
              exact jn122 _ _ _ _ _ _ _ h hM hF
            refine ⟨fun c107 => ?_, fun c107 => ?_⟩
            · have h := h.1 c107
              exact jn121 _ _ _ _ _ _ h hM hF
            · have h := h.2 c107
              refine ⟨fun c114 => ?_, fun c114 => ?_⟩
              · have h := h.1 c114
                exact jn121 _ _ _ _ _ _ h hM hF
              · have h := h.2 c114
                exact jn122 _ _ _ _ _ _ _ h hM hF
          obtain ⟨n62, h⟩ := h
          refine ⟨n62, ?_⟩
          have lp62 : ∀ (n62 : Nat) (x1 : Int64) (x3 : Int32) (x4 : Int32) (x5 : Int32) (x6 : Int64) (x8 : Int32) (T : mT) (S : qS), tX8_isGain__L62 (tX8_isGain__J106 (tX8_isGain__L50 (tX8_isGain__J148 Q) Q n50) Q) Q n62 x1 x3 x4 x5 x6 x8 T → RM S mo ad T → mfr S0 S → pX8_isGain__L62 (pX8_isGain__J106 (pX8_isGain__L50 (pX8_isGain__J148 post xp) post xp n50) post xp) post xp n62 (some mo) x1 x3 x4 x5 x6 x8 S := by
            intro n62
            induction n62 with
            | zero => intro x1 x3 x4 x5 x6 x8 T S h hM hF; exact h.elim
            | succ n62 ih62 =>
              intro x1 x3 x4 x5 x6 x8 T S h hM hF
              unfold tX8_isGain__L62 at h
              unfold pX8_isGain__L62
              refine mg_I hM (by decide) h (fun v65 h => ?_)
              refine ⟨fun c68 => ?_, fun c68 => ?_⟩
              · have h := h.1 c68
                exact jn106 _ _ _ _ _ _ _ h hM hF
              · have h := h.2 c68
                refine mg_R hM (k := 32) (by decide) ?_
                refine ml_J hM (by decide) h (fun v80 h => ?_)
                refine mg_R hM (k := 29) (by decide) ?_
                refine ml_I hM (by decide) h (fun v89 h => ?_)
                refine mg_at hM ?_
                refine rX8_leaves hM h (fun v92 T S h hM hF1 => ?_)
                have hF := hF.tr hF1
                exact ih62 _ _ _ _ _ _ _ _ h hM hF
          exact lp62 n62 _ _ _ _ _ _ _ _ h hM hF
    exact lp50 n50 _ _ _ _ _ _ h hM hF
  obtain ⟨n8, h⟩ := h
  refine ⟨n8, ?_⟩
  have lp8 : ∀ (n8 : Nat) (x1 : Int64) (x3 : Int32) (x4 : Int32) (x5 : Int32) (T : mT) (S : qS), tX8_isGain__L8 (tX8_isGain__J47 Q) Q n8 x1 x3 x4 x5 T → RM S mo ad T → mfr S0 S → pX8_isGain__L8 (pX8_isGain__J47 post xp) post xp n8 (some mo) x1 x3 x4 x5 S := by
    intro n8
    induction n8 with
    | zero => intro x1 x3 x4 x5 T S h hM hF; exact h.elim
    | succ n8 ih8 =>
      intro x1 x3 x4 x5 T S h hM hF
      unfold tX8_isGain__L8 at h
      unfold pX8_isGain__L8
      refine mg_I hM (by decide) h (fun v11 h => ?_)
      refine ⟨fun c14 => ?_, fun c14 => ?_⟩
      · have h := h.1 c14
        exact jn47 _ _ _ _ _ h hM hF
      · have h := h.2 c14
        have jn40 : ∀ (x1 : Int64) (x4 : Int32) (x5 : Int32) (t0 : Int32) (T : mT) (S : qS), tX8_isGain__J40 (tX8_isGain__L8 (tX8_isGain__J47 Q) Q n8) Q x1 x4 x5 t0 T → RM S mo ad T → mfr S0 S → pX8_isGain__J40 (pX8_isGain__L8 (pX8_isGain__J47 post xp) post xp n8) post xp (some mo) x1 x4 x5 t0 S := by
          intro x1 x4 x5 t0 T S h hM hF
          unfold tX8_isGain__J40 at h
          unfold pX8_isGain__J40
          exact ih8 _ _ _ _ _ _ h hM hF
        have jn39 : ∀ (x1 : Int64) (x4 : Int32) (x5 : Int32) (T : mT) (S : qS), tX8_isGain__J39 (tX8_isGain__L8 (tX8_isGain__J47 Q) Q n8) Q x1 x4 x5 T → RM S mo ad T → mfr S0 S → pX8_isGain__J39 (pX8_isGain__L8 (pX8_isGain__J47 post xp) post xp n8) post xp (some mo) x1 x4 x5 S := by
          intro x1 x4 x5 T S h hM hF
          unfold tX8_isGain__J39 at h
          unfold pX8_isGain__J39
          exact jn40 _ _ _ _ _ _ h hM hF
        refine ⟨fun c18 => ?_, fun c18 => ?_⟩
        · have h := h.1 c18
          exact jn39 _ _ _ _ _ h hM hF
        · have h := h.2 c18
          refine mg_R hM (k := 32) (by decide) ?_
          refine ml_J hM (by decide) h (fun v28 h => ?_)
          refine ⟨fun c32 => ?_, fun c32 => ?_⟩
          · have h := h.1 c32
            exact jn39 _ _ _ _ _ h hM hF
          · have h := h.2 c32
            exact jn40 _ _ _ _ _ _ h hM hF
  exact lp8 n8 _ _ _ _ _ _ h hM hF

def tX8_isGain_J23  (Q : Int32 → mT → Prop) (t0 : Int32) (T : mT) : Prop :=
  ((t0 = 0 ∨ t0 = 1) ∧ Q t0 T)
def tX8_isGain_J18  (Q : Int32 → mT → Prop)  (T : mT) : Prop :=
  tX8_isGain_J23 Q (1 : Int32) T
def tX8_isGain  (T : mT) (Q : Int32 → mT → Prop) : Prop :=
  tX8_isGain_ (1 : Int64) T (fun v2 T =>
  ((¬ v2 = 0 →
  tX8_isGain_J18 Q T) ∧ (v2 = 0 →
  tX8_isGain_ (-1 : Int64) T (fun v12 T =>
  ((v12 = 0 →
  tX8_isGain_J23 Q (0 : Int32) T) ∧ (¬ v12 = 0 →
  tX8_isGain_J18 Q T))))))
set_option maxHeartbeats 4000000 in
set_option maxRecDepth 100000 in
theorem rX8_isGain {S : qS} {mo : Nat} {ad : Nat → Nat} {T : mT}  {Q : Int32 → mT → Prop} {post : Int32 → qS → Prop} {xp : String → qS → Prop} (hM : RM S mo ad T) (h : tX8_isGain  T Q) (hp : ∀ (v : Int32) (T' : mT) (S' : qS), Q v T' → RM S' mo ad T' → mfr S S' → post v S') : pX8_isGain mo  S post xp := by
  unfold tX8_isGain at h
  unfold pX8_isGain
  obtain ⟨S0, hS0⟩ : ∃ S0, S0 = S := ⟨_, rfl⟩
  rw [← hS0] at hp
  have hF : mfr S0 S := by rw [hS0]; exact mfr.rf
  clear hS0
  refine mg_at hM ?_
  refine rX8_isGain_ hM h (fun v2 T S h hM hF1 => ?_)
  have hF := hF.tr hF1
  have jn23 : ∀ (t0 : Int32) (T : mT) (S : qS), tX8_isGain_J23 Q t0 T → RM S mo ad T → mfr S0 S → pX8_isGain_J23 post xp t0 S := by
    intro t0 T S h hM hF
    unfold tX8_isGain_J23 at h
    unfold pX8_isGain_J23
    exact ⟨h.1, hp _ _ _ h.2 hM hF⟩
  have jn18 : ∀ (T : mT) (S : qS), tX8_isGain_J18 Q T → RM S mo ad T → mfr S0 S → pX8_isGain_J18 post xp S := by
    intro T S h hM hF
    unfold tX8_isGain_J18 at h
    unfold pX8_isGain_J18
    exact jn23 _ _ _ h hM hF
  refine ⟨fun c5 => ?_, fun c5 => ?_⟩
  · have h := h.1 c5
    exact jn18 _ _ h hM hF
  · have h := h.2 c5
    refine mg_at hM ?_
    refine rX8_isGain_ hM h (fun v12 T S h hM hF1 => ?_)
    have hF := hF.tr hF1
    refine ⟨fun c15 => ?_, fun c15 => ?_⟩
    · have h := h.1 c15
      exact jn23 _ _ _ h hM hF
    · have h := h.2 c15
      exact jn18 _ _ h hM hF

def tX8_gainsWithSome_J259 (k33 : Int32 → Int32 → mT → Prop) (Q : Int32 → mT → Prop) (x1 : Int32) (x2 : Int32) (T : mT) : Prop :=
  k33 x1 (x2 + 1) T
def tX8_gainsWithSome_J253 (k92 : Int32 → Int32 → Int32 → mT → Prop) (Q : Int32 → mT → Prop) (x1 : Int32) (x2 : Int32) (x3 : Int32) (T : mT) : Prop :=
  k92 x1 x2 (x3 + 1) T
def tX8_gainsWithSome_L162 (k253 : Int32 → Int32 → Int32 → mT → Prop) (Q : Int32 → mT → Prop) : Nat → Int32 → Int32 → Int32 → Int32 → mT → Prop
  | 0, _, _, _, _, _ => False
  | n162 + 1, x1, x2, x3, x4, T =>
  ((x1 ≤ x4 →
  k253 x1 x2 x3 T) ∧ (¬ x1 ≤ x4 →
  tX8_three x2 x3 x4 (1 : Int32) (2 : Int32) (3 : Int32) T (fun v181 T =>
  t_stJ T 32 (0 : Int32) v181 (fun T =>
  tX8_three x2 x3 x4 (0 : Int32) (2 : Int32) (3 : Int32) T (fun v198 T =>
  t_stJ T 32 (1 : Int32) (-v198) (fun T =>
  tX8_three x2 x3 x4 (0 : Int32) (1 : Int32) (3 : Int32) T (fun v216 T =>
  t_stJ T 32 (2 : Int32) v216 (fun T =>
  tX8_three x2 x3 x4 (0 : Int32) (1 : Int32) (2 : Int32) T (fun v233 T =>
  t_stJ T 32 (3 : Int32) (-v233) (fun T =>
  tX8_isGain  T (fun v239 T =>
  ((v239 = 0 →
  (tX8_gainsWithSome_L162 k253 Q n162) x1 x2 x3 (x4 + 1) T) ∧ (¬ v239 = 0 →
  (((1 : Int32) = 0 ∨ (1 : Int32) = 1) ∧ Q (1 : Int32) T))))))))))))))
def tX8_gainsWithSome_L92 (k259 : Int32 → Int32 → mT → Prop) (Q : Int32 → mT → Prop) : Nat → Int32 → Int32 → Int32 → mT → Prop
  | 0, _, _, _, _ => False
  | n92 + 1, x1, x2, x3, T =>
  ((x1 ≤ x3 →
  k259 x1 x2 T) ∧ (¬ x1 ≤ x3 →
  t_getI T 30 (fun v98 =>
  ((¬ v98 = (3 : Int32) →
  ∃ n162, tX8_gainsWithSome_L162 (tX8_gainsWithSome_J253 (tX8_gainsWithSome_L92 k259 Q n92) Q) Q n162 x1 x2 x3 (x3 + (1 : Int32)) T) ∧ (v98 = (3 : Int32) →
  tX8_two x2 x3 (1 : Int32) (2 : Int32) T (fun v115 T =>
  t_stJ T 32 (0 : Int32) v115 (fun T =>
  tX8_two x2 x3 (0 : Int32) (2 : Int32) T (fun v129 T =>
  t_stJ T 32 (1 : Int32) (-v129) (fun T =>
  tX8_two x2 x3 (0 : Int32) (1 : Int32) T (fun v144 T =>
  t_stJ T 32 (2 : Int32) v144 (fun T =>
  tX8_isGain  T (fun v149 T =>
  ((v149 = 0 →
  tX8_gainsWithSome_J253 (tX8_gainsWithSome_L92 k259 Q n92) Q x1 x2 x3 T) ∧ (¬ v149 = 0 →
  (((1 : Int32) = 0 ∨ (1 : Int32) = 1) ∧ Q (1 : Int32) T)))))))))))))))
def tX8_gainsWithSome_L33  (Q : Int32 → mT → Prop) : Nat → Int32 → Int32 → mT → Prop
  | 0, _, _, _ => False
  | n33 + 1, x1, x2, T =>
  ((x1 ≤ x2 →
  (((0 : Int32) = 0 ∨ (0 : Int32) = 1) ∧ Q (0 : Int32) T)) ∧ (¬ x1 ≤ x2 →
  t_getI T 30 (fun v39 =>
  ((¬ v39 = (2 : Int32) →
  ∃ n92, tX8_gainsWithSome_L92 (tX8_gainsWithSome_J259 (tX8_gainsWithSome_L33 Q n33) Q) Q n92 x1 x2 (x2 + (1 : Int32)) T) ∧ (v39 = (2 : Int32) →
  t_ldI T 31 (((4 : Int32) * x2) + (1 : Int32)) (fun v60 =>
  t_stJ T 32 (0 : Int32) v60.toInt64 (fun T =>
  t_ldI T 31 ((4 : Int32) * x2) (fun v75 =>
  t_stJ T 32 (1 : Int32) ((-v75).toInt64) (fun T =>
  tX8_isGain  T (fun v80 T =>
  ((v80 = 0 →
  tX8_gainsWithSome_J259 (tX8_gainsWithSome_L33 Q n33) Q x1 x2 T) ∧ (¬ v80 = 0 →
  (((1 : Int32) = 0 ∨ (1 : Int32) = 1) ∧ Q (1 : Int32) T)))))))))))))
def tX8_gainsWithSome  (T : mT) (Q : Int32 → mT → Prop) : Prop :=
  tX8_bounds  T (fun T =>
  t_getI T 30 (fun v5 =>
  t_getI T 30 (fun v12 =>
  ((¬ v12 = (1 : Int32) →
  ∃ n33, tX8_gainsWithSome_L33 Q n33 (v5 + (4 : Int32)) (0 : Int32) T) ∧ (v12 = (1 : Int32) →
  t_stJ T 32 (0 : Int32) (1 : Int64) (fun T =>
  tX8_isGain  T (fun v27 T =>
  ((v27 = 0 ∨ v27 = 1) ∧ Q v27 T))))))))
set_option maxHeartbeats 4000000 in
set_option maxRecDepth 100000 in
theorem rX8_gainsWithSome {S : qS} {mo : Nat} {ad : Nat → Nat} {T : mT}  {Q : Int32 → mT → Prop} {post : Int32 → qS → Prop} {xp : String → qS → Prop} (hM : RM S mo ad T) (h : tX8_gainsWithSome  T Q) (hp : ∀ (v : Int32) (T' : mT) (S' : qS), Q v T' → RM S' mo ad T' → mfr S S' → post v S') : pX8_gainsWithSome mo  S post xp := by
  unfold tX8_gainsWithSome at h
  unfold pX8_gainsWithSome
  obtain ⟨S0, hS0⟩ : ∃ S0, S0 = S := ⟨_, rfl⟩
  rw [← hS0] at hp
  have hF : mfr S0 S := by rw [hS0]; exact mfr.rf
  clear hS0
  refine mg_at hM ?_
  refine rX8_bounds hM h (fun T S h hM hF1 => ?_)
  have hF := hF.tr hF1
  refine mg_I hM (by decide) h (fun v5 h => ?_)
  refine mg_I hM (by decide) h (fun v12 h => ?_)
  refine ⟨fun c16 => ?_, fun c16 => ?_⟩
  · have h := h.1 c16
    obtain ⟨n33, h⟩ := h
    refine ⟨n33, ?_⟩
    have lp33 : ∀ (n33 : Nat) (x1 : Int32) (x2 : Int32) (T : mT) (S : qS), tX8_gainsWithSome_L33 Q n33 x1 x2 T → RM S mo ad T → mfr S0 S → pX8_gainsWithSome_L33 post xp n33 (some mo) x1 x2 S := by
      intro n33
      induction n33 with
      | zero => intro x1 x2 T S h hM hF; exact h.elim
      | succ n33 ih33 =>
        intro x1 x2 T S h hM hF
        unfold tX8_gainsWithSome_L33 at h
        unfold pX8_gainsWithSome_L33
        refine ⟨fun c35 => ?_, fun c35 => ?_⟩
        · have h := h.1 c35
          exact ⟨h.1, hp _ _ _ h.2 hM hF⟩
        · have h := h.2 c35
          refine mg_I hM (by decide) h (fun v39 h => ?_)
          have jn259 : ∀ (x1 : Int32) (x2 : Int32) (T : mT) (S : qS), tX8_gainsWithSome_J259 (tX8_gainsWithSome_L33 Q n33) Q x1 x2 T → RM S mo ad T → mfr S0 S → pX8_gainsWithSome_J259 (pX8_gainsWithSome_L33 post xp n33) post xp (some mo) x1 x2 S := by
            intro x1 x2 T S h hM hF
            unfold tX8_gainsWithSome_J259 at h
            unfold pX8_gainsWithSome_J259
            exact ih33 _ _ _ _ h hM hF
          refine ⟨fun c43 => ?_, fun c43 => ?_⟩
          · have h := h.1 c43
            obtain ⟨n92, h⟩ := h
            refine ⟨n92, ?_⟩
            have lp92 : ∀ (n92 : Nat) (x1 : Int32) (x2 : Int32) (x3 : Int32) (T : mT) (S : qS), tX8_gainsWithSome_L92 (tX8_gainsWithSome_J259 (tX8_gainsWithSome_L33 Q n33) Q) Q n92 x1 x2 x3 T → RM S mo ad T → mfr S0 S → pX8_gainsWithSome_L92 (pX8_gainsWithSome_J259 (pX8_gainsWithSome_L33 post xp n33) post xp) post xp n92 (some mo) x1 x2 x3 S := by
              intro n92
              induction n92 with
              | zero => intro x1 x2 x3 T S h hM hF; exact h.elim
              | succ n92 ih92 =>
                intro x1 x2 x3 T S h hM hF
                unfold tX8_gainsWithSome_L92 at h
                unfold pX8_gainsWithSome_L92
                refine ⟨fun c94 => ?_, fun c94 => ?_⟩
                · have h := h.1 c94
                  exact jn259 _ _ _ _ h hM hF
                · have h := h.2 c94
                  refine mg_I hM (by decide) h (fun v98 h => ?_)
                  have jn253 : ∀ (x1 : Int32) (x2 : Int32) (x3 : Int32) (T : mT) (S : qS), tX8_gainsWithSome_J253 (tX8_gainsWithSome_L92 (tX8_gainsWithSome_J259 (tX8_gainsWithSome_L33 Q n33) Q) Q n92) Q x1 x2 x3 T → RM S mo ad T → mfr S0 S → pX8_gainsWithSome_J253 (pX8_gainsWithSome_L92 (pX8_gainsWithSome_J259 (pX8_gainsWithSome_L33 post xp n33) post xp) post xp n92) post xp (some mo) x1 x2 x3 S := by
                    intro x1 x2 x3 T S h hM hF
                    unfold tX8_gainsWithSome_J253 at h
                    unfold pX8_gainsWithSome_J253
                    exact ih92 _ _ _ _ _ h hM hF
                  refine ⟨fun c102 => ?_, fun c102 => ?_⟩
                  · have h := h.1 c102
                    obtain ⟨n162, h⟩ := h
                    refine ⟨n162, ?_⟩
                    have lp162 : ∀ (n162 : Nat) (x1 : Int32) (x2 : Int32) (x3 : Int32) (x4 : Int32) (T : mT) (S : qS), tX8_gainsWithSome_L162 (tX8_gainsWithSome_J253 (tX8_gainsWithSome_L92 (tX8_gainsWithSome_J259 (tX8_gainsWithSome_L33 Q n33) Q) Q n92) Q) Q n162 x1 x2 x3 x4 T → RM S mo ad T → mfr S0 S → pX8_gainsWithSome_L162 (pX8_gainsWithSome_J253 (pX8_gainsWithSome_L92 (pX8_gainsWithSome_J259 (pX8_gainsWithSome_L33 post xp n33) post xp) post xp n92) post xp) post xp n162 (some mo) x1 x2 x3 x4 S := by
                      intro n162
                      induction n162 with
                      | zero => intro x1 x2 x3 x4 T S h hM hF; exact h.elim
                      | succ n162 ih162 =>
                        intro x1 x2 x3 x4 T S h hM hF
                        unfold tX8_gainsWithSome_L162 at h
                        unfold pX8_gainsWithSome_L162
                        refine ⟨fun c165 => ?_, fun c165 => ?_⟩
                        · have h := h.1 c165
                          exact jn253 _ _ _ _ _ h hM hF
                        · have h := h.2 c165
                          refine mg_R hM (k := 32) (by decide) ?_
                          refine mg_at hM ?_
                          refine rX8_three hM h (fun v181 T S h hM hF1 => ?_)
                          have hF := hF.tr hF1
                          refine ms_J hM hF (by decide) h (fun T S h hM hF => ?_)
                          refine mg_R hM (k := 32) (by decide) ?_
                          refine mg_at hM ?_
                          refine rX8_three hM h (fun v198 T S h hM hF1 => ?_)
                          have hF := hF.tr hF1
                          refine ms_J hM hF (by decide) h (fun T S h hM hF => ?_)
                          refine mg_R hM (k := 32) (by decide) ?_
                          refine mg_at hM ?_
                          refine rX8_three hM h (fun v216 T S h hM hF1 => ?_)
                          have hF := hF.tr hF1
                          refine ms_J hM hF (by decide) h (fun T S h hM hF => ?_)
                          refine mg_R hM (k := 32) (by decide) ?_
                          refine mg_at hM ?_
                          refine rX8_three hM h (fun v233 T S h hM hF1 => ?_)
                          have hF := hF.tr hF1
                          refine ms_J hM hF (by decide) h (fun T S h hM hF => ?_)
                          refine mg_at hM ?_
                          refine rX8_isGain hM h (fun v239 T S h hM hF1 => ?_)
                          have hF := hF.tr hF1
                          refine ⟨fun c242 => ?_, fun c242 => ?_⟩
                          · have h := h.1 c242
                            exact ih162 _ _ _ _ _ _ h hM hF
                          · have h := h.2 c242
                            exact ⟨h.1, hp _ _ _ h.2 hM hF⟩
                    exact lp162 n162 _ _ _ _ _ _ h hM hF
                  · have h := h.2 c102
                    refine mg_R hM (k := 32) (by decide) ?_
                    refine mg_at hM ?_
                    refine rX8_two hM h (fun v115 T S h hM hF1 => ?_)
                    have hF := hF.tr hF1
                    refine ms_J hM hF (by decide) h (fun T S h hM hF => ?_)
                    refine mg_R hM (k := 32) (by decide) ?_
                    refine mg_at hM ?_
                    refine rX8_two hM h (fun v129 T S h hM hF1 => ?_)
                    have hF := hF.tr hF1
                    refine ms_J hM hF (by decide) h (fun T S h hM hF => ?_)
                    refine mg_R hM (k := 32) (by decide) ?_
                    refine mg_at hM ?_
                    refine rX8_two hM h (fun v144 T S h hM hF1 => ?_)
                    have hF := hF.tr hF1
                    refine ms_J hM hF (by decide) h (fun T S h hM hF => ?_)
                    refine mg_at hM ?_
                    refine rX8_isGain hM h (fun v149 T S h hM hF1 => ?_)
                    have hF := hF.tr hF1
                    refine ⟨fun c152 => ?_, fun c152 => ?_⟩
                    · have h := h.1 c152
                      exact jn253 _ _ _ _ _ h hM hF
                    · have h := h.2 c152
                      exact ⟨h.1, hp _ _ _ h.2 hM hF⟩
            exact lp92 n92 _ _ _ _ _ h hM hF
          · have h := h.2 c43
            refine mg_R hM (k := 32) (by decide) ?_
            refine mg_R hM (k := 31) (by decide) ?_
            refine ml_I hM (by decide) h (fun v60 h => ?_)
            refine ms_J hM hF (by decide) h (fun T S h hM hF => ?_)
            refine mg_R hM (k := 32) (by decide) ?_
            refine mg_R hM (k := 31) (by decide) ?_
            refine ml_I hM (by decide) h (fun v75 h => ?_)
            refine ms_J hM hF (by decide) h (fun T S h hM hF => ?_)
            refine mg_at hM ?_
            refine rX8_isGain hM h (fun v80 T S h hM hF1 => ?_)
            have hF := hF.tr hF1
            refine ⟨fun c83 => ?_, fun c83 => ?_⟩
            · have h := h.1 c83
              exact jn259 _ _ _ _ h hM hF
            · have h := h.2 c83
              exact ⟨h.1, hp _ _ _ h.2 hM hF⟩
    exact lp33 n33 _ _ _ _ h hM hF
  · have h := h.2 c16
    refine mg_R hM (k := 32) (by decide) ?_
    refine ms_J hM hF (by decide) h (fun T S h hM hF => ?_)
    refine mg_at hM ?_
    refine rX8_isGain hM h (fun v27 T S h hM hF1 => ?_)
    have hF := hF.tr hF1
    exact ⟨h.1, hp _ _ _ h.2 hM hF⟩

def tX8_times_J43  (Q : mT → Prop)  (T : mT) : Prop :=
  Q T
def tX8_times_J36  (Q : mT → Prop) (x1 : Int32) (x2 : Int32) (t1 : Int32) (T : mT) : Prop :=
  tX8_throwsIf t1 (2 : Int32) T (fun v37 T =>
  ((v37 = 0 →
  t_stI T 10 x1 x2 (fun T =>
  Q T)) ∧ (¬ v37 = 0 →
  tX8_times_J43 Q T)))
def tX8_times (x1 : Int32) (x2 : Int32) (T : mT) (Q : mT → Prop) : Prop :=
  t_putI T 0 (0 : Int32) (fun T =>
  tX8_noRule x1 T (fun v8 T =>
  tX8_throwsIf v8 (1 : Int32) T (fun v12 T =>
  ((¬ v12 = 0 →
  tX8_times_J43 Q T) ∧ (v12 = 0 →
  tX8_in x2.toInt64 (0 : Int64) (1000 : Int64) T (fun v25 T =>
  ((¬ v25 = 0 →
  tX8_times_J36 Q x1 x2 (0 : Int32) T) ∧ (v25 = 0 →
  tX8_times_J36 Q x1 x2 (1 : Int32) T))))))))
set_option maxHeartbeats 4000000 in
set_option maxRecDepth 100000 in
theorem rX8_times {S : qS} {mo : Nat} {ad : Nat → Nat} {T : mT} {x1 : Int32} {x2 : Int32} {Q : mT → Prop} {post : qS → Prop} {xp : String → qS → Prop} (hM : RM S mo ad T) (h : tX8_times x1 x2 T Q) (hp : ∀ (T' : mT) (S' : qS), Q T' → RM S' mo ad T' → mfr S S' → post S') : pX8_times mo x1 x2 S post xp := by
  unfold tX8_times at h
  unfold pX8_times
  obtain ⟨S0, hS0⟩ : ∃ S0, S0 = S := ⟨_, rfl⟩
  rw [← hS0] at hp
  have hF : mfr S0 S := by rw [hS0]; exact mfr.rf
  clear hS0
  refine mp_I hM hF (by decide) h (fun T S h hM hF => ?_)
  refine mg_at hM ?_
  refine rX8_noRule hM h (fun v8 T S h hM hF1 => ?_)
  have hF := hF.tr hF1
  refine mg_at hM ?_
  refine rX8_throwsIf hM h (fun v12 T S h hM hF1 => ?_)
  have hF := hF.tr hF1
  have jn43 : ∀ (T : mT) (S : qS), tX8_times_J43 Q T → RM S mo ad T → mfr S0 S → pX8_times_J43 post xp S := by
    intro T S h hM hF
    unfold tX8_times_J43 at h
    unfold pX8_times_J43
    exact hp _ _ h hM hF
  refine ⟨fun c15 => ?_, fun c15 => ?_⟩
  · have h := h.1 c15
    exact jn43 _ _ h hM hF
  · have h := h.2 c15
    refine rX8_in hM h (fun v25 T S h hM hF1 => ?_)
    have hF := hF.tr hF1
    have jn36 : ∀ (x1 : Int32) (x2 : Int32) (t1 : Int32) (T : mT) (S : qS), tX8_times_J36 Q x1 x2 t1 T → RM S mo ad T → mfr S0 S → pX8_times_J36 post xp (some mo) x1 x2 (some mo) t1 S := by
      intro x1 x2 t1 T S h hM hF
      unfold tX8_times_J36 at h
      unfold pX8_times_J36
      refine mg_at hM ?_
      refine rX8_throwsIf hM h (fun v37 T S h hM hF1 => ?_)
      have hF := hF.tr hF1
      refine ⟨fun c40 => ?_, fun c40 => ?_⟩
      · have h := h.1 c40
        refine mg_R hM (k := 10) (by decide) ?_
        refine ms_I hM hF (by decide) h (fun T S h hM hF => ?_)
        exact hp _ _ h hM hF
      · have h := h.2 c40
        exact jn43 _ _ h hM hF
    refine ⟨fun c28 => ?_, fun c28 => ?_⟩
    · have h := h.1 c28
      exact jn36 _ _ _ _ _ h hM hF
    · have h := h.2 c28
      exact jn36 _ _ _ _ _ h hM hF

def tX8_earns_J120  (Q : Int32 → mT → Prop) (t0 : Int32) (T : mT) : Prop :=
  ((t0 = 0 ∨ t0 = 1) ∧ Q t0 T)
def tX8_earns_J119  (Q : Int32 → mT → Prop)  (T : mT) : Prop :=
  tX8_earns_J120 Q (0 : Int32) T
def tX8_earns_J107  (Q : Int32 → mT → Prop) (x1 : Int32) (x2 : Int32) (T : mT) : Prop :=
  ((x1 = 0 →
  tX8_earns_J119 Q T) ∧ (¬ x1 = 0 →
  ((x2 = 0 →
  tX8_earns_J119 Q T) ∧ (¬ x2 = 0 →
  tX8_earns_J120 Q (1 : Int32) T))))
def tX8_earns_J100 (k11 : Int32 → Int32 → Int32 → mT → Prop) (Q : Int32 → mT → Prop) (x1 : Int32) (x3 : Int32) (t0 : Int32) (T : mT) : Prop :=
  k11 x1 t0 (x3 + 1) T
def tX8_earns_J95 (k11 : Int32 → Int32 → Int32 → mT → Prop) (Q : Int32 → mT → Prop) (x1 : Int32) (x3 : Int32) (T : mT) : Prop :=
  tX8_earns_J100 k11 Q x1 x3 (1 : Int32) T
def tX8_earns_J85 (k11 : Int32 → Int32 → Int32 → mT → Prop) (Q : Int32 → mT → Prop) (x2 : Int32) (x3 : Int32) (x4 : Int32) (t0 : Int32) (T : mT) : Prop :=
  ((¬ x2 = 0 →
  tX8_earns_J95 k11 Q t0 x3 T) ∧ (x2 = 0 →
  ((x4 ≤ 0 →
  tX8_earns_J100 k11 Q t0 x3 (0 : Int32) T) ∧ (¬ x4 ≤ 0 →
  tX8_earns_J95 k11 Q t0 x3 T))))
def tX8_earns_J84 (k11 : Int32 → Int32 → Int32 → mT → Prop) (Q : Int32 → mT → Prop) (x2 : Int32) (x3 : Int32) (x4 : Int32) (T : mT) : Prop :=
  tX8_earns_J85 k11 Q x2 x3 x4 (0 : Int32) T
def tX8_earns_J71 (k11 : Int32 → Int32 → Int32 → mT → Prop) (Q : Int32 → mT → Prop) (x1 : Int32) (x2 : Int32) (x3 : Int32) (x4 : Int32) (T : mT) : Prop :=
  ((x1 = 0 →
  tX8_earns_J84 k11 Q x2 x3 x4 T) ∧ (¬ x1 = 0 →
  ((x4 < 0 →
  tX8_earns_J84 k11 Q x2 x3 x4 T) ∧ (¬ x4 < 0 →
  tX8_earns_J85 k11 Q x2 x3 x4 (1 : Int32) T))))
def tX8_earns_J62 (k22 : Int32 → Int32 → Int32 → Int32 → Int32 → mT → Prop) (Q : Int32 → mT → Prop) (x1 : Int32) (x2 : Int32) (x3 : Int32) (x5 : Int32) (t0 : Int32) (t1 : Int32) (T : mT) : Prop :=
  k22 x1 x2 x3 (t0 + t1) (x5 + 1) T
def tX8_earns_L22 (k71 : Int32 → Int32 → Int32 → Int32 → mT → Prop) (Q : Int32 → mT → Prop) : Nat → Int32 → Int32 → Int32 → Int32 → Int32 → mT → Prop
  | 0, _, _, _, _, _, _ => False
  | n22 + 1, x1, x2, x3, x4, x5, T =>
  t_getI T 12 (fun v25 =>
  ((v25 ≤ x5 →
  k71 x1 x2 x3 x4 T) ∧ (¬ v25 ≤ x5 →
  t_ldI T 9 x5 (fun v39 =>
  ((v39 = 0 →
  t_ldI T 10 x5 (fun v53 =>
  tX8_leaves x5 x3 T (fun v58 T =>
  tX8_earns_J62 (tX8_earns_L22 k71 Q n22) Q x1 x2 x3 x5 x4 (v53 * v58) T))) ∧ (¬ v39 = 0 →
  tX8_earns_J62 (tX8_earns_L22 k71 Q n22) Q x1 x2 x3 x5 x4 (0 : Int32) T))))))
def tX8_earns_L11 (k107 : Int32 → Int32 → mT → Prop) (Q : Int32 → mT → Prop) : Nat → Int32 → Int32 → Int32 → mT → Prop
  | 0, _, _, _, _ => False
  | n11 + 1, x1, x2, x3, T =>
  (((4 : Int32) ≤ x3 →
  k107 x1 x2 T) ∧ (¬ (4 : Int32) ≤ x3 →
  ∃ n22, tX8_earns_L22 (tX8_earns_J71 (tX8_earns_L11 k107 Q n11) Q) Q n22 x1 x2 x3 (0 : Int32) (0 : Int32) T))
def tX8_earns  (T : mT) (Q : Int32 → mT → Prop) : Prop :=
  t_putI T 0 (0 : Int32) (fun T =>
  ∃ n11, tX8_earns_L11 (tX8_earns_J107 Q) Q n11 (1 : Int32) (0 : Int32) (0 : Int32) T)
set_option maxHeartbeats 4000000 in
set_option maxRecDepth 100000 in
theorem rX8_earns {S : qS} {mo : Nat} {ad : Nat → Nat} {T : mT}  {Q : Int32 → mT → Prop} {post : Int32 → qS → Prop} {xp : String → qS → Prop} (hM : RM S mo ad T) (h : tX8_earns  T Q) (hp : ∀ (v : Int32) (T' : mT) (S' : qS), Q v T' → RM S' mo ad T' → mfr S S' → post v S') : pX8_earns mo  S post xp := by
  unfold tX8_earns at h
  unfold pX8_earns
  obtain ⟨S0, hS0⟩ : ∃ S0, S0 = S := ⟨_, rfl⟩
  rw [← hS0] at hp
  have hF : mfr S0 S := by rw [hS0]; exact mfr.rf
  clear hS0
  refine mp_I hM hF (by decide) h (fun T S h hM hF => ?_)
  have jn107 : ∀ (x1 : Int32) (x2 : Int32) (T : mT) (S : qS), tX8_earns_J107 Q x1 x2 T → RM S mo ad T → mfr S0 S → pX8_earns_J107 post xp x1 x2 S := by
    intro x1 x2 T S h hM hF
    unfold tX8_earns_J107 at h
    unfold pX8_earns_J107
    have jn120 : ∀ (t0 : Int32) (T : mT) (S : qS), tX8_earns_J120 Q t0 T → RM S mo ad T → mfr S0 S → pX8_earns_J120 post xp t0 S := by
      intro t0 T S h hM hF
      unfold tX8_earns_J120 at h
      unfold pX8_earns_J120
      exact ⟨h.1, hp _ _ _ h.2 hM hF⟩
    have jn119 : ∀ (T : mT) (S : qS), tX8_earns_J119 Q T → RM S mo ad T → mfr S0 S → pX8_earns_J119 post xp S := by
      intro T S h hM hF
      unfold tX8_earns_J119 at h
      unfold pX8_earns_J119
      exact jn120 _ _ _ h hM hF
    refine ⟨fun c108 => ?_, fun c108 => ?_⟩
    · have h := h.1 c108
      exact jn119 _ _ h hM hF
    · have h := h.2 c108
      refine ⟨fun c112 => ?_, fun c112 => ?_⟩
      · have h := h.1 c112
        exact jn119 _ _ h hM hF
      · have h := h.2 c112
        exact jn120 _ _ _ h hM hF
  obtain ⟨n11, h⟩ := h
  refine ⟨n11, ?_⟩
  have lp11 : ∀ (n11 : Nat) (x1 : Int32) (x2 : Int32) (x3 : Int32) (T : mT) (S : qS), tX8_earns_L11 (tX8_earns_J107 Q) Q n11 x1 x2 x3 T → RM S mo ad T → mfr S0 S → pX8_earns_L11 (pX8_earns_J107 post xp) post xp n11 (some mo) x1 x2 x3 S := by
    intro n11
    induction n11 with
    | zero => intro x1 x2 x3 T S h hM hF; exact h.elim
    | succ n11 ih11 =>
      intro x1 x2 x3 T S h hM hF
      unfold tX8_earns_L11 at h
      unfold pX8_earns_L11
      refine ⟨fun c13 => ?_, fun c13 => ?_⟩
      · have h := h.1 c13
        exact jn107 _ _ _ _ h hM hF
      · have h := h.2 c13
        have jn71 : ∀ (x1 : Int32) (x2 : Int32) (x3 : Int32) (x4 : Int32) (T : mT) (S : qS), tX8_earns_J71 (tX8_earns_L11 (tX8_earns_J107 Q) Q n11) Q x1 x2 x3 x4 T → RM S mo ad T → mfr S0 S → pX8_earns_J71 (pX8_earns_L11 (pX8_earns_J107 post xp) post xp n11) post xp (some mo) x1 x2 x3 x4 S := by
          intro x1 x2 x3 x4 T S h hM hF
          unfold tX8_earns_J71 at h
          unfold pX8_earns_J71
          have jn85 : ∀ (x2 : Int32) (x3 : Int32) (x4 : Int32) (t0 : Int32) (T : mT) (S : qS), tX8_earns_J85 (tX8_earns_L11 (tX8_earns_J107 Q) Q n11) Q x2 x3 x4 t0 T → RM S mo ad T → mfr S0 S → pX8_earns_J85 (pX8_earns_L11 (pX8_earns_J107 post xp) post xp n11) post xp (some mo) x2 x3 x4 t0 S := by
            intro x2 x3 x4 t0 T S h hM hF
            unfold tX8_earns_J85 at h
            unfold pX8_earns_J85
            have jn100 : ∀ (x1 : Int32) (x3 : Int32) (t0 : Int32) (T : mT) (S : qS), tX8_earns_J100 (tX8_earns_L11 (tX8_earns_J107 Q) Q n11) Q x1 x3 t0 T → RM S mo ad T → mfr S0 S → pX8_earns_J100 (pX8_earns_L11 (pX8_earns_J107 post xp) post xp n11) post xp (some mo) x1 x3 t0 S := by
              intro x1 x3 t0 T S h hM hF
              unfold tX8_earns_J100 at h
              unfold pX8_earns_J100
              exact ih11 _ _ _ _ _ h hM hF
            have jn95 : ∀ (x1 : Int32) (x3 : Int32) (T : mT) (S : qS), tX8_earns_J95 (tX8_earns_L11 (tX8_earns_J107 Q) Q n11) Q x1 x3 T → RM S mo ad T → mfr S0 S → pX8_earns_J95 (pX8_earns_L11 (pX8_earns_J107 post xp) post xp n11) post xp (some mo) x1 x3 S := by
              intro x1 x3 T S h hM hF
              unfold tX8_earns_J95 at h
              unfold pX8_earns_J95
              exact jn100 _ _ _ _ _ h hM hF
            refine ⟨fun c87 => ?_, fun c87 => ?_⟩
            · have h := h.1 c87
              exact jn95 _ _ _ _ h hM hF
            · have h := h.2 c87
              refine ⟨fun c92 => ?_, fun c92 => ?_⟩
              · have h := h.1 c92
                exact jn100 _ _ _ _ _ h hM hF
              · have h := h.2 c92
                exact jn95 _ _ _ _ h hM hF
          have jn84 : ∀ (x2 : Int32) (x3 : Int32) (x4 : Int32) (T : mT) (S : qS), tX8_earns_J84 (tX8_earns_L11 (tX8_earns_J107 Q) Q n11) Q x2 x3 x4 T → RM S mo ad T → mfr S0 S → pX8_earns_J84 (pX8_earns_L11 (pX8_earns_J107 post xp) post xp n11) post xp (some mo) x2 x3 x4 S := by
            intro x2 x3 x4 T S h hM hF
            unfold tX8_earns_J84 at h
            unfold pX8_earns_J84
            exact jn85 _ _ _ _ _ _ h hM hF
          refine ⟨fun c72 => ?_, fun c72 => ?_⟩
          · have h := h.1 c72
            exact jn84 _ _ _ _ _ h hM hF
          · have h := h.2 c72
            refine ⟨fun c77 => ?_, fun c77 => ?_⟩
            · have h := h.1 c77
              exact jn84 _ _ _ _ _ h hM hF
            · have h := h.2 c77
              exact jn85 _ _ _ _ _ _ h hM hF
        obtain ⟨n22, h⟩ := h
        refine ⟨n22, ?_⟩
        have lp22 : ∀ (n22 : Nat) (x1 : Int32) (x2 : Int32) (x3 : Int32) (x4 : Int32) (x5 : Int32) (T : mT) (S : qS), tX8_earns_L22 (tX8_earns_J71 (tX8_earns_L11 (tX8_earns_J107 Q) Q n11) Q) Q n22 x1 x2 x3 x4 x5 T → RM S mo ad T → mfr S0 S → pX8_earns_L22 (pX8_earns_J71 (pX8_earns_L11 (pX8_earns_J107 post xp) post xp n11) post xp) post xp n22 (some mo) x1 x2 x3 x4 x5 S := by
          intro n22
          induction n22 with
          | zero => intro x1 x2 x3 x4 x5 T S h hM hF; exact h.elim
          | succ n22 ih22 =>
            intro x1 x2 x3 x4 x5 T S h hM hF
            unfold tX8_earns_L22 at h
            unfold pX8_earns_L22
            refine mg_I hM (by decide) h (fun v25 h => ?_)
            refine ⟨fun c28 => ?_, fun c28 => ?_⟩
            · have h := h.1 c28
              exact jn71 _ _ _ _ _ _ h hM hF
            · have h := h.2 c28
              refine mg_R hM (k := 9) (by decide) ?_
              refine ml_I hM (by decide) h (fun v39 h => ?_)
              have jn62 : ∀ (x1 : Int32) (x2 : Int32) (x3 : Int32) (x5 : Int32) (t0 : Int32) (t1 : Int32) (T : mT) (S : qS), tX8_earns_J62 (tX8_earns_L22 (tX8_earns_J71 (tX8_earns_L11 (tX8_earns_J107 Q) Q n11) Q) Q n22) Q x1 x2 x3 x5 t0 t1 T → RM S mo ad T → mfr S0 S → pX8_earns_J62 (pX8_earns_L22 (pX8_earns_J71 (pX8_earns_L11 (pX8_earns_J107 post xp) post xp n11) post xp) post xp n22) post xp (some mo) x1 x2 x3 x5 t0 t1 S := by
                intro x1 x2 x3 x5 t0 t1 T S h hM hF
                unfold tX8_earns_J62 at h
                unfold pX8_earns_J62
                exact ih22 _ _ _ _ _ _ _ h hM hF
              refine ⟨fun c40 => ?_, fun c40 => ?_⟩
              · have h := h.1 c40
                refine mg_R hM (k := 10) (by decide) ?_
                refine ml_I hM (by decide) h (fun v53 h => ?_)
                refine mg_at hM ?_
                refine rX8_leaves hM h (fun v58 T S h hM hF1 => ?_)
                have hF := hF.tr hF1
                exact jn62 _ _ _ _ _ _ _ _ h hM hF
              · have h := h.2 c40
                exact jn62 _ _ _ _ _ _ _ _ h hM hF
        exact lp22 n22 _ _ _ _ _ _ _ h hM hF
  exact lp11 n11 _ _ _ _ _ h hM hF

def tX8_weigh_J42  (Q : mT → Prop)  (T : mT) : Prop :=
  Q T
def tX8_weigh_J35  (Q : mT → Prop) (x1 : Int32) (x2 : Int32) (t1 : Int32) (T : mT) : Prop :=
  tX8_throwsIf t1 (2 : Int32) T (fun v36 T =>
  ((v36 = 0 →
  t_stI T 11 x1 x2 (fun T =>
  Q T)) ∧ (¬ v36 = 0 →
  tX8_weigh_J42 Q T)))
def tX8_weigh (x1 : Int32) (x2 : Int32) (T : mT) (Q : mT → Prop) : Prop :=
  t_putI T 0 (0 : Int32) (fun T =>
  tX8_noKind x1 T (fun v7 T =>
  tX8_throwsIf v7 (1 : Int32) T (fun v11 T =>
  ((¬ v11 = 0 →
  tX8_weigh_J42 Q T) ∧ (v11 = 0 →
  tX8_in x2.toInt64 (0 : Int64) (1000 : Int64) T (fun v24 T =>
  ((¬ v24 = 0 →
  tX8_weigh_J35 Q x1 x2 (0 : Int32) T) ∧ (v24 = 0 →
  tX8_weigh_J35 Q x1 x2 (1 : Int32) T))))))))
set_option maxHeartbeats 4000000 in
set_option maxRecDepth 100000 in
theorem rX8_weigh {S : qS} {mo : Nat} {ad : Nat → Nat} {T : mT} {x1 : Int32} {x2 : Int32} {Q : mT → Prop} {post : qS → Prop} {xp : String → qS → Prop} (hM : RM S mo ad T) (h : tX8_weigh x1 x2 T Q) (hp : ∀ (T' : mT) (S' : qS), Q T' → RM S' mo ad T' → mfr S S' → post S') : pX8_weigh mo x1 x2 S post xp := by
  unfold tX8_weigh at h
  unfold pX8_weigh
  obtain ⟨S0, hS0⟩ : ∃ S0, S0 = S := ⟨_, rfl⟩
  rw [← hS0] at hp
  have hF : mfr S0 S := by rw [hS0]; exact mfr.rf
  clear hS0
  refine mp_I hM hF (by decide) h (fun T S h hM hF => ?_)
  refine rX8_noKind hM h (fun v7 T S h hM hF1 => ?_)
  have hF := hF.tr hF1
  refine mg_at hM ?_
  refine rX8_throwsIf hM h (fun v11 T S h hM hF1 => ?_)
  have hF := hF.tr hF1
  have jn42 : ∀ (T : mT) (S : qS), tX8_weigh_J42 Q T → RM S mo ad T → mfr S0 S → pX8_weigh_J42 post xp S := by
    intro T S h hM hF
    unfold tX8_weigh_J42 at h
    unfold pX8_weigh_J42
    exact hp _ _ h hM hF
  refine ⟨fun c14 => ?_, fun c14 => ?_⟩
  · have h := h.1 c14
    exact jn42 _ _ h hM hF
  · have h := h.2 c14
    refine rX8_in hM h (fun v24 T S h hM hF1 => ?_)
    have hF := hF.tr hF1
    have jn35 : ∀ (x1 : Int32) (x2 : Int32) (t1 : Int32) (T : mT) (S : qS), tX8_weigh_J35 Q x1 x2 t1 T → RM S mo ad T → mfr S0 S → pX8_weigh_J35 post xp (some mo) x1 x2 (some mo) t1 S := by
      intro x1 x2 t1 T S h hM hF
      unfold tX8_weigh_J35 at h
      unfold pX8_weigh_J35
      refine mg_at hM ?_
      refine rX8_throwsIf hM h (fun v36 T S h hM hF1 => ?_)
      have hF := hF.tr hF1
      refine ⟨fun c39 => ?_, fun c39 => ?_⟩
      · have h := h.1 c39
        refine mg_R hM (k := 11) (by decide) ?_
        refine ms_I hM hF (by decide) h (fun T S h hM hF => ?_)
        exact hp _ _ h hM hF
      · have h := h.2 c39
        exact jn42 _ _ h hM hF
    refine ⟨fun c27 => ?_, fun c27 => ?_⟩
    · have h := h.1 c27
      exact jn35 _ _ _ _ _ h hM hF
    · have h := h.2 c27
      exact jn35 _ _ _ _ _ h hM hF

def tX8_bars_J106 (k41 : Int32 → Int32 → mT → Prop) (Q : Int32 → mT → Prop) (x2 : Int32) (t0 : Int32) (T : mT) : Prop :=
  k41 t0 (x2 + 1) T
def tX8_bars_J105 (k41 : Int32 → Int32 → mT → Prop) (Q : Int32 → mT → Prop) (x2 : Int32) (T : mT) : Prop :=
  tX8_bars_J106 k41 Q x2 (0 : Int32) T
def tX8_bars_J101 (k41 : Int32 → Int32 → mT → Prop) (Q : Int32 → mT → Prop) (x2 : Int32) (T : mT) : Prop :=
  tX8_bars_J106 k41 Q x2 (1 : Int32) T
def tX8_bars_J84 (k41 : Int32 → Int32 → mT → Prop) (Q : Int32 → mT → Prop) (x1 : Int32) (x2 : Int32) (x3 : Int32) (T : mT) : Prop :=
  ((x1 = 0 →
  tX8_bars_J105 k41 Q x2 T) ∧ (¬ x1 = 0 →
  t_ldI T 9 x2 (fun v93 =>
  ((¬ v93 = 0 →
  tX8_bars_J101 k41 Q x2 T) ∧ (v93 = 0 →
  ((0 < x3 →
  tX8_bars_J105 k41 Q x2 T) ∧ (¬ 0 < x3 →
  tX8_bars_J101 k41 Q x2 T)))))))
def tX8_bars_L54 (k84 : Int32 → Int32 → Int32 → mT → Prop) (Q : Int32 → mT → Prop) : Nat → Int32 → Int32 → Int32 → Int32 → mT → Prop
  | 0, _, _, _, _, _ => False
  | n54 + 1, x1, x2, x3, x4, T =>
  (((4 : Int32) ≤ x4 →
  k84 x1 x2 x3 T) ∧ (¬ (4 : Int32) ≤ x4 →
  t_ldI T 11 x4 (fun v67 =>
  tX8_leaves x2 x4 T (fun v72 T =>
  (tX8_bars_L54 k84 Q n54) x1 x2 (x3 + (v67 * v72)) (x4 + 1) T))))
def tX8_bars_L41  (Q : Int32 → mT → Prop) : Nat → Int32 → Int32 → mT → Prop
  | 0, _, _, _ => False
  | n41 + 1, x1, x2, T =>
  t_getI T 12 (fun v43 =>
  ((v43 ≤ x2 →
  ((x1 = 0 ∨ x1 = 1) ∧ Q x1 T)) ∧ (¬ v43 ≤ x2 →
  ∃ n54, tX8_bars_L54 (tX8_bars_J84 (tX8_bars_L41 Q n41) Q) Q n54 x1 x2 (0 : Int32) (0 : Int32) T)))
def tX8_bars_J39  (Q : Int32 → mT → Prop) (x1 : Int32) (T : mT) : Prop :=
  ∃ n41, tX8_bars_L41 Q n41 x1 (0 : Int32) T
def tX8_bars_J32 (k9 : Int32 → Int32 → mT → Prop) (Q : Int32 → mT → Prop) (x2 : Int32) (t0 : Int32) (T : mT) : Prop :=
  k9 t0 (x2 + 1) T
def tX8_bars_J31 (k9 : Int32 → Int32 → mT → Prop) (Q : Int32 → mT → Prop) (x2 : Int32) (T : mT) : Prop :=
  tX8_bars_J32 k9 Q x2 (0 : Int32) T
def tX8_bars_L9 (k39 : Int32 → mT → Prop) (Q : Int32 → mT → Prop) : Nat → Int32 → Int32 → mT → Prop
  | 0, _, _, _ => False
  | n9 + 1, x1, x2, T =>
  (((4 : Int32) ≤ x2 →
  k39 x1 T) ∧ (¬ (4 : Int32) ≤ x2 →
  ((x1 = 0 →
  tX8_bars_J31 (tX8_bars_L9 k39 Q n9) Q x2 T) ∧ (¬ x1 = 0 →
  t_ldI T 11 x2 (fun v23 =>
  ((v23 ≤ 0 →
  tX8_bars_J31 (tX8_bars_L9 k39 Q n9) Q x2 T) ∧ (¬ v23 ≤ 0 →
  tX8_bars_J32 (tX8_bars_L9 k39 Q n9) Q x2 (1 : Int32) T)))))))
def tX8_bars  (T : mT) (Q : Int32 → mT → Prop) : Prop :=
  t_putI T 0 (0 : Int32) (fun T =>
  ∃ n9, tX8_bars_L9 (tX8_bars_J39 Q) Q n9 (1 : Int32) (0 : Int32) T)
set_option maxHeartbeats 4000000 in
set_option maxRecDepth 100000 in
theorem rX8_bars {S : qS} {mo : Nat} {ad : Nat → Nat} {T : mT}  {Q : Int32 → mT → Prop} {post : Int32 → qS → Prop} {xp : String → qS → Prop} (hM : RM S mo ad T) (h : tX8_bars  T Q) (hp : ∀ (v : Int32) (T' : mT) (S' : qS), Q v T' → RM S' mo ad T' → mfr S S' → post v S') : pX8_bars mo  S post xp := by
  unfold tX8_bars at h
  unfold pX8_bars
  obtain ⟨S0, hS0⟩ : ∃ S0, S0 = S := ⟨_, rfl⟩
  rw [← hS0] at hp
  have hF : mfr S0 S := by rw [hS0]; exact mfr.rf
  clear hS0
  refine mp_I hM hF (by decide) h (fun T S h hM hF => ?_)
  have jn39 : ∀ (x1 : Int32) (T : mT) (S : qS), tX8_bars_J39 Q x1 T → RM S mo ad T → mfr S0 S → pX8_bars_J39 post xp (some mo) x1 S := by
    intro x1 T S h hM hF
    unfold tX8_bars_J39 at h
    unfold pX8_bars_J39
    obtain ⟨n41, h⟩ := h
    refine ⟨n41, ?_⟩
    have lp41 : ∀ (n41 : Nat) (x1 : Int32) (x2 : Int32) (T : mT) (S : qS), tX8_bars_L41 Q n41 x1 x2 T → RM S mo ad T → mfr S0 S → pX8_bars_L41 post xp n41 (some mo) x1 x2 S := by
      intro n41
      induction n41 with
      | zero => intro x1 x2 T S h hM hF; exact h.elim
      | succ n41 ih41 =>
        intro x1 x2 T S h hM hF
        unfold tX8_bars_L41 at h
        unfold pX8_bars_L41
        refine mg_I hM (by decide) h (fun v43 h => ?_)
        refine ⟨fun c46 => ?_, fun c46 => ?_⟩
        · have h := h.1 c46
          exact ⟨h.1, hp _ _ _ h.2 hM hF⟩
        · have h := h.2 c46
          have jn84 : ∀ (x1 : Int32) (x2 : Int32) (x3 : Int32) (T : mT) (S : qS), tX8_bars_J84 (tX8_bars_L41 Q n41) Q x1 x2 x3 T → RM S mo ad T → mfr S0 S → pX8_bars_J84 (pX8_bars_L41 post xp n41) post xp (some mo) x1 x2 x3 S := by
            intro x1 x2 x3 T S h hM hF
            unfold tX8_bars_J84 at h
            unfold pX8_bars_J84
            have jn106 : ∀ (x2 : Int32) (t0 : Int32) (T : mT) (S : qS), tX8_bars_J106 (tX8_bars_L41 Q n41) Q x2 t0 T → RM S mo ad T → mfr S0 S → pX8_bars_J106 (pX8_bars_L41 post xp n41) post xp (some mo) x2 t0 S := by
              intro x2 t0 T S h hM hF
              unfold tX8_bars_J106 at h
              unfold pX8_bars_J106
              exact ih41 _ _ _ _ h hM hF
            have jn105 : ∀ (x2 : Int32) (T : mT) (S : qS), tX8_bars_J105 (tX8_bars_L41 Q n41) Q x2 T → RM S mo ad T → mfr S0 S → pX8_bars_J105 (pX8_bars_L41 post xp n41) post xp (some mo) x2 S := by
              intro x2 T S h hM hF
              unfold tX8_bars_J105 at h
              unfold pX8_bars_J105
              exact jn106 _ _ _ _ h hM hF
            refine ⟨fun c85 => ?_, fun c85 => ?_⟩
            · have h := h.1 c85
              exact jn105 _ _ _ h hM hF
            · have h := h.2 c85
              refine mg_R hM (k := 9) (by decide) ?_
              refine ml_I hM (by decide) h (fun v93 h => ?_)
              have jn101 : ∀ (x2 : Int32) (T : mT) (S : qS), tX8_bars_J101 (tX8_bars_L41 Q n41) Q x2 T → RM S mo ad T → mfr S0 S → pX8_bars_J101 (pX8_bars_L41 post xp n41) post xp (some mo) x2 S := by
                intro x2 T S h hM hF
                unfold tX8_bars_J101 at h
                unfold pX8_bars_J101
                exact jn106 _ _ _ _ h hM hF
              refine ⟨fun c94 => ?_, fun c94 => ?_⟩
              · have h := h.1 c94
                exact jn101 _ _ _ h hM hF
              · have h := h.2 c94
                refine ⟨fun c98 => ?_, fun c98 => ?_⟩
                · have h := h.1 c98
                  exact jn105 _ _ _ h hM hF
                · have h := h.2 c98
                  exact jn101 _ _ _ h hM hF
          obtain ⟨n54, h⟩ := h
          refine ⟨n54, ?_⟩
          have lp54 : ∀ (n54 : Nat) (x1 : Int32) (x2 : Int32) (x3 : Int32) (x4 : Int32) (T : mT) (S : qS), tX8_bars_L54 (tX8_bars_J84 (tX8_bars_L41 Q n41) Q) Q n54 x1 x2 x3 x4 T → RM S mo ad T → mfr S0 S → pX8_bars_L54 (pX8_bars_J84 (pX8_bars_L41 post xp n41) post xp) post xp n54 (some mo) x1 x2 x3 x4 S := by
            intro n54
            induction n54 with
            | zero => intro x1 x2 x3 x4 T S h hM hF; exact h.elim
            | succ n54 ih54 =>
              intro x1 x2 x3 x4 T S h hM hF
              unfold tX8_bars_L54 at h
              unfold pX8_bars_L54
              refine ⟨fun c57 => ?_, fun c57 => ?_⟩
              · have h := h.1 c57
                exact jn84 _ _ _ _ _ h hM hF
              · have h := h.2 c57
                refine mg_R hM (k := 11) (by decide) ?_
                refine ml_I hM (by decide) h (fun v67 h => ?_)
                refine mg_at hM ?_
                refine rX8_leaves hM h (fun v72 T S h hM hF1 => ?_)
                have hF := hF.tr hF1
                exact ih54 _ _ _ _ _ _ h hM hF
          exact lp54 n54 _ _ _ _ _ _ h hM hF
    exact lp41 n41 _ _ _ _ h hM hF
  obtain ⟨n9, h⟩ := h
  refine ⟨n9, ?_⟩
  have lp9 : ∀ (n9 : Nat) (x1 : Int32) (x2 : Int32) (T : mT) (S : qS), tX8_bars_L9 (tX8_bars_J39 Q) Q n9 x1 x2 T → RM S mo ad T → mfr S0 S → pX8_bars_L9 (pX8_bars_J39 post xp) post xp n9 (some mo) x1 x2 S := by
    intro n9
    induction n9 with
    | zero => intro x1 x2 T S h hM hF; exact h.elim
    | succ n9 ih9 =>
      intro x1 x2 T S h hM hF
      unfold tX8_bars_L9 at h
      unfold pX8_bars_L9
      refine ⟨fun c11 => ?_, fun c11 => ?_⟩
      · have h := h.1 c11
        exact jn39 _ _ _ h hM hF
      · have h := h.2 c11
        have jn32 : ∀ (x2 : Int32) (t0 : Int32) (T : mT) (S : qS), tX8_bars_J32 (tX8_bars_L9 (tX8_bars_J39 Q) Q n9) Q x2 t0 T → RM S mo ad T → mfr S0 S → pX8_bars_J32 (pX8_bars_L9 (pX8_bars_J39 post xp) post xp n9) post xp (some mo) x2 t0 S := by
          intro x2 t0 T S h hM hF
          unfold tX8_bars_J32 at h
          unfold pX8_bars_J32
          exact ih9 _ _ _ _ h hM hF
        have jn31 : ∀ (x2 : Int32) (T : mT) (S : qS), tX8_bars_J31 (tX8_bars_L9 (tX8_bars_J39 Q) Q n9) Q x2 T → RM S mo ad T → mfr S0 S → pX8_bars_J31 (pX8_bars_L9 (pX8_bars_J39 post xp) post xp n9) post xp (some mo) x2 S := by
          intro x2 T S h hM hF
          unfold tX8_bars_J31 at h
          unfold pX8_bars_J31
          exact jn32 _ _ _ _ h hM hF
        refine ⟨fun c15 => ?_, fun c15 => ?_⟩
        · have h := h.1 c15
          exact jn31 _ _ _ h hM hF
        · have h := h.2 c15
          refine mg_R hM (k := 11) (by decide) ?_
          refine ml_I hM (by decide) h (fun v23 h => ?_)
          refine ⟨fun c24 => ?_, fun c24 => ?_⟩
          · have h := h.1 c24
            exact jn31 _ _ _ h hM hF
          · have h := h.2 c24
            exact jn32 _ _ _ _ h hM hF
  exact lp9 n9 _ _ _ _ h hM hF

def tX8_count_J104 (k82 : Int32 → Int32 → mT → Prop) (Q : Int32 → mT → Prop) (x3 : Int32) (t0 : Int32) (t1 : Int32) (T : mT) : Prop :=
  k82 (t0 + t1) (x3 + 1) T
def tX8_count_L82  (Q : Int32 → mT → Prop) : Nat → Int32 → Int32 → mT → Prop
  | 0, _, _, _ => False
  | n82 + 1, x2, x3, T =>
  t_getI T 25 (fun v84 =>
  ((v84 ≤ x3 →
  Q x2 T) ∧ (¬ v84 ≤ x3 →
  tX8_isBroken x3 T (fun v93 T =>
  ((v93 = 0 →
  tX8_count_J104 (tX8_count_L82 Q n82) Q x3 x2 (0 : Int32) T) ∧ (¬ v93 = 0 →
  tX8_count_J104 (tX8_count_L82 Q n82) Q x3 x2 (1 : Int32) T))))))
def tX8_count_J138 (k116 : Int32 → Int32 → mT → Prop) (Q : Int32 → mT → Prop) (x3 : Int32) (t0 : Int32) (t1 : Int32) (T : mT) : Prop :=
  k116 (t0 + t1) (x3 + 1) T
def tX8_count_L116  (Q : Int32 → mT → Prop) : Nat → Int32 → Int32 → mT → Prop
  | 0, _, _, _ => False
  | n116 + 1, x2, x3, T =>
  t_getI T 25 (fun v118 =>
  ((v118 ≤ x3 →
  Q x2 T) ∧ (¬ v118 ≤ x3 →
  tX8_isLent x3 T (fun v127 T =>
  ((v127 = 0 →
  tX8_count_J138 (tX8_count_L116 Q n116) Q x3 x2 (0 : Int32) T) ∧ (¬ v127 = 0 →
  tX8_count_J138 (tX8_count_L116 Q n116) Q x3 x2 (1 : Int32) T))))))
def tX8_count_J178 (k155 : Int32 → Int32 → mT → Prop) (Q : Int32 → mT → Prop) (x3 : Int32) (t0 : Int32) (t1 : Int32) (T : mT) : Prop :=
  k155 (t0 + t1) (x3 + 1) T
def tX8_count_L155  (Q : Int32 → mT → Prop) : Nat → Int32 → Int32 → mT → Prop
  | 0, _, _, _ => False
  | n155 + 1, x2, x3, T =>
  t_getI T 28 (fun v157 =>
  ((v157 ≤ x3 →
  Q x2 T) ∧ (¬ v157 ≤ x3 →
  t_ldI T 27 x3 (fun v169 =>
  ((v169 = 0 →
  tX8_count_J178 (tX8_count_L155 Q n155) Q x3 x2 (0 : Int32) T) ∧ (¬ v169 = 0 →
  tX8_count_J178 (tX8_count_L155 Q n155) Q x3 x2 (1 : Int32) T))))))
def tX8_count (x1 : Int32) (T : mT) (Q : Int32 → mT → Prop) : Prop :=
  t_putI T 0 (0 : Int32) (fun T =>
  ((x1 = 0 →
  t_getI T 1 (fun v61 =>
  Q v61 T)) ∧
  (x1 = 1 →
  t_getI T 5 (fun v66 =>
  Q v66 T)) ∧
  (x1 = 2 →
  t_getI T 12 (fun v71 =>
  Q v71 T)) ∧
  (x1 = 3 →
  t_getI T 25 (fun v76 =>
  Q v76 T)) ∧
  (x1 = 4 →
  ∃ n82, tX8_count_L82 Q n82 (0 : Int32) (0 : Int32) T) ∧
  (x1 = 5 →
  ∃ n116, tX8_count_L116 Q n116 (0 : Int32) (0 : Int32) T) ∧
  (x1 = 6 →
  t_getI T 28 (fun v149 =>
  Q v149 T)) ∧
  (x1 = 7 →
  ∃ n155, tX8_count_L155 Q n155 (0 : Int32) (0 : Int32) T) ∧
  (x1 = 8 →
  t_getI T 6 (fun v189 =>
  Q v189 T)) ∧
  ((x1.toInt < 0 ∨ 8 < x1.toInt) →
  Q (-1 : Int32) T)))
set_option maxHeartbeats 4000000 in
set_option maxRecDepth 100000 in
theorem rX8_count {S : qS} {mo : Nat} {ad : Nat → Nat} {T : mT} {x1 : Int32} {Q : Int32 → mT → Prop} {post : Int32 → qS → Prop} {xp : String → qS → Prop} (hM : RM S mo ad T) (h : tX8_count x1 T Q) (hp : ∀ (v : Int32) (T' : mT) (S' : qS), Q v T' → RM S' mo ad T' → mfr S S' → post v S') : pX8_count mo x1 S post xp := by
  unfold tX8_count at h
  unfold pX8_count
  obtain ⟨S0, hS0⟩ : ∃ S0, S0 = S := ⟨_, rfl⟩
  rw [← hS0] at hp
  have hF : mfr S0 S := by rw [hS0]; exact mfr.rf
  clear hS0
  refine mp_I hM hF (by decide) h (fun T S h hM hF => ?_)
  refine ⟨fun c => ?_, fun c => ?_, fun c => ?_, fun c => ?_, fun c => ?_, fun c => ?_, fun c => ?_, fun c => ?_, fun c => ?_, fun c => ?_⟩
  · have h := h.1 c
    refine mg_I hM (by decide) h (fun v61 h => ?_)
    exact hp _ _ _ h hM hF
  · have h := h.2.1 c
    refine mg_I hM (by decide) h (fun v66 h => ?_)
    exact hp _ _ _ h hM hF
  · have h := h.2.2.1 c
    refine mg_I hM (by decide) h (fun v71 h => ?_)
    exact hp _ _ _ h hM hF
  · have h := h.2.2.2.1 c
    refine mg_I hM (by decide) h (fun v76 h => ?_)
    exact hp _ _ _ h hM hF
  · have h := h.2.2.2.2.1 c
    obtain ⟨n82, h⟩ := h
    refine ⟨n82, ?_⟩
    have lp82 : ∀ (n82 : Nat) (x2 : Int32) (x3 : Int32) (T : mT) (S : qS), tX8_count_L82 Q n82 x2 x3 T → RM S mo ad T → mfr S0 S → pX8_count_L82 post xp n82 (some mo) x2 x3 S := by
      intro n82
      induction n82 with
      | zero => intro x2 x3 T S h hM hF; exact h.elim
      | succ n82 ih82 =>
        intro x2 x3 T S h hM hF
        unfold tX8_count_L82 at h
        unfold pX8_count_L82
        refine mg_I hM (by decide) h (fun v84 h => ?_)
        refine ⟨fun c87 => ?_, fun c87 => ?_⟩
        · have h := h.1 c87
          exact hp _ _ _ h hM hF
        · have h := h.2 c87
          refine mg_at hM ?_
          refine rX8_isBroken hM h (fun v93 T S h hM hF1 => ?_)
          have hF := hF.tr hF1
          have jn104 : ∀ (x3 : Int32) (t0 : Int32) (t1 : Int32) (T : mT) (S : qS), tX8_count_J104 (tX8_count_L82 Q n82) Q x3 t0 t1 T → RM S mo ad T → mfr S0 S → pX8_count_J104 (pX8_count_L82 post xp n82) post xp (some mo) x3 t0 t1 S := by
            intro x3 t0 t1 T S h hM hF
            unfold tX8_count_J104 at h
            unfold pX8_count_J104
            exact ih82 _ _ _ _ h hM hF
          refine ⟨fun c96 => ?_, fun c96 => ?_⟩
          · have h := h.1 c96
            exact jn104 _ _ _ _ _ h hM hF
          · have h := h.2 c96
            exact jn104 _ _ _ _ _ h hM hF
    exact lp82 n82 _ _ _ _ h hM hF
  · have h := h.2.2.2.2.2.1 c
    obtain ⟨n116, h⟩ := h
    refine ⟨n116, ?_⟩
    have lp116 : ∀ (n116 : Nat) (x2 : Int32) (x3 : Int32) (T : mT) (S : qS), tX8_count_L116 Q n116 x2 x3 T → RM S mo ad T → mfr S0 S → pX8_count_L116 post xp n116 (some mo) x2 x3 S := by
      intro n116
      induction n116 with
      | zero => intro x2 x3 T S h hM hF; exact h.elim
      | succ n116 ih116 =>
        intro x2 x3 T S h hM hF
        unfold tX8_count_L116 at h
        unfold pX8_count_L116
        refine mg_I hM (by decide) h (fun v118 h => ?_)
        refine ⟨fun c121 => ?_, fun c121 => ?_⟩
        · have h := h.1 c121
          exact hp _ _ _ h hM hF
        · have h := h.2 c121
          refine mg_at hM ?_
          refine rX8_isLent hM h (fun v127 T S h hM hF1 => ?_)
          have hF := hF.tr hF1
          have jn138 : ∀ (x3 : Int32) (t0 : Int32) (t1 : Int32) (T : mT) (S : qS), tX8_count_J138 (tX8_count_L116 Q n116) Q x3 t0 t1 T → RM S mo ad T → mfr S0 S → pX8_count_J138 (pX8_count_L116 post xp n116) post xp (some mo) x3 t0 t1 S := by
            intro x3 t0 t1 T S h hM hF
            unfold tX8_count_J138 at h
            unfold pX8_count_J138
            exact ih116 _ _ _ _ h hM hF
          refine ⟨fun c130 => ?_, fun c130 => ?_⟩
          · have h := h.1 c130
            exact jn138 _ _ _ _ _ h hM hF
          · have h := h.2 c130
            exact jn138 _ _ _ _ _ h hM hF
    exact lp116 n116 _ _ _ _ h hM hF
  · have h := h.2.2.2.2.2.2.1 c
    refine mg_I hM (by decide) h (fun v149 h => ?_)
    exact hp _ _ _ h hM hF
  · have h := h.2.2.2.2.2.2.2.1 c
    obtain ⟨n155, h⟩ := h
    refine ⟨n155, ?_⟩
    have lp155 : ∀ (n155 : Nat) (x2 : Int32) (x3 : Int32) (T : mT) (S : qS), tX8_count_L155 Q n155 x2 x3 T → RM S mo ad T → mfr S0 S → pX8_count_L155 post xp n155 (some mo) x2 x3 S := by
      intro n155
      induction n155 with
      | zero => intro x2 x3 T S h hM hF; exact h.elim
      | succ n155 ih155 =>
        intro x2 x3 T S h hM hF
        unfold tX8_count_L155 at h
        unfold pX8_count_L155
        refine mg_I hM (by decide) h (fun v157 h => ?_)
        refine ⟨fun c160 => ?_, fun c160 => ?_⟩
        · have h := h.1 c160
          exact hp _ _ _ h hM hF
        · have h := h.2 c160
          refine mg_R hM (k := 27) (by decide) ?_
          refine ml_I hM (by decide) h (fun v169 h => ?_)
          have jn178 : ∀ (x3 : Int32) (t0 : Int32) (t1 : Int32) (T : mT) (S : qS), tX8_count_J178 (tX8_count_L155 Q n155) Q x3 t0 t1 T → RM S mo ad T → mfr S0 S → pX8_count_J178 (pX8_count_L155 post xp n155) post xp (some mo) x3 t0 t1 S := by
            intro x3 t0 t1 T S h hM hF
            unfold tX8_count_J178 at h
            unfold pX8_count_J178
            exact ih155 _ _ _ _ h hM hF
          refine ⟨fun c170 => ?_, fun c170 => ?_⟩
          · have h := h.1 c170
            exact jn178 _ _ _ _ _ h hM hF
          · have h := h.2 c170
            exact jn178 _ _ _ _ _ h hM hF
    exact lp155 n155 _ _ _ _ h hM hF
  · have h := h.2.2.2.2.2.2.2.2.1 c
    refine mg_I hM (by decide) h (fun v189 h => ?_)
    exact hp _ _ _ h hM hF
  · have h := h.2.2.2.2.2.2.2.2.2 c
    exact hp _ _ _ h hM hF

def tX8_tries_J69 (k27 : Int32 → Int32 → mT → Prop) (rct : Int32 → Int32 → mT → (Int32 → mT → Prop) → Prop) (Q : Int32 → mT → Prop) (x2 : Int32) (x3 : Int32) (T : mT) : Prop :=
  k27 x2 (x3 + 1) T
def tX8_tries_L27  (rct : Int32 → Int32 → mT → (Int32 → mT → Prop) → Prop) (Q : Int32 → mT → Prop) : Nat → Int32 → Int32 → mT → Prop
  | 0, _, _, _ => False
  | n27 + 1, x2, x3, T =>
  t_getI T 12 (fun v29 =>
  ((v29 ≤ x3 →
  (((0 : Int32) = 0 ∨ (0 : Int32) = 1) ∧ Q (0 : Int32) T)) ∧ (¬ v29 ≤ x3 →
  t_ldI T 9 x3 (fun v40 =>
  ((v40 = 0 →
  t_stI T 29 x2 x3 (fun T =>
  rct (x3 + (1 : Int32)) (x2 + (1 : Int32)) T (fun v61 T =>
  ((v61 = 0 →
  tX8_tries_J69 (tX8_tries_L27 rct Q n27) rct Q x2 x3 T) ∧ (¬ v61 = 0 →
  (((1 : Int32) = 0 ∨ (1 : Int32) = 1) ∧ Q (1 : Int32) T)))))) ∧ (¬ v40 = 0 →
  tX8_tries_J69 (tX8_tries_L27 rct Q n27) rct Q x2 x3 T))))))
def tX8_tries_J18  (rct : Int32 → Int32 → mT → (Int32 → mT → Prop) → Prop) (Q : Int32 → mT → Prop) (x1 : Int32) (x2 : Int32) (T : mT) : Prop :=
  ((¬ x2 = (4 : Int32) →
  ∃ n27, tX8_tries_L27 rct Q n27 x2 x1 T) ∧ (x2 = (4 : Int32) →
  (((0 : Int32) = 0 ∨ (0 : Int32) = 1) ∧ Q (0 : Int32) T)))
def tX8_tries_B (x1 : Int32) (x2 : Int32) (T : mT) (rct : Int32 → Int32 → mT → (Int32 → mT → Prop) → Prop) (Q : Int32 → mT → Prop) : Prop :=
  ((x2 ≤ 0 →
  tX8_tries_J18 rct Q x1 x2 T) ∧ (¬ x2 ≤ 0 →
  t_putI T 30 x2 (fun T =>
  tX8_gainsWithSome  T (fun v10 T =>
  ((v10 = 0 →
  tX8_tries_J18 rct Q x1 x2 T) ∧ (¬ v10 = 0 →
  (((1 : Int32) = 0 ∨ (1 : Int32) = 1) ∧ Q (1 : Int32) T)))))))
def tX8_tries : Nat → Int32 → Int32 → mT → (Int32 → mT → Prop) → Prop
  | 0, _, _, _, _ => False
  | f + 1, x1, x2, T, Q => tX8_tries_B x1 x2 T (tX8_tries f) Q
set_option maxHeartbeats 4000000 in
set_option maxRecDepth 100000 in
theorem rX8_tries : ∀ (f : Nat) {S : qS} {mo : Nat} {ad : Nat → Nat} {T : mT} {x1 : Int32} {x2 : Int32} {Q : Int32 → mT → Prop} {post : Int32 → qS → Prop} {xp : String → qS → Prop} (hM : RM S mo ad T) (h : tX8_tries f x1 x2 T Q) (hp : ∀ (v : Int32) (T' : mT) (S' : qS), Q v T' → RM S' mo ad T' → mfr S S' → post v S'), pX8_tries f mo x1 x2 S post xp := by
  intro f
  induction f with
  | zero => intro S mo ad T x1 x2 Q post xp hM h hp; exact h.elim
  | succ f ihf =>
    intro S mo ad T x1 x2 Q post xp hM h hp
    unfold tX8_tries tX8_tries_B at h
    unfold pX8_tries pX8_tries_B
    generalize tX8_tries f = rct at h ihf
    generalize pX8_tries f = rc at ihf ⊢
    have hrc := @ihf
    obtain ⟨S0, hS0⟩ : ∃ S0, S0 = S := ⟨_, rfl⟩
    rw [← hS0] at hp
    have hF : mfr S0 S := by rw [hS0]; exact mfr.rf
    clear hS0
    have jn18 : ∀ (x1 : Int32) (x2 : Int32) (T : mT) (S : qS), tX8_tries_J18 rct Q x1 x2 T → RM S mo ad T → mfr S0 S → pX8_tries_J18 rc post xp (some mo) x1 x2 S := by
      intro x1 x2 T S h hM hF
      unfold tX8_tries_J18 at h
      unfold pX8_tries_J18
      refine ⟨fun c20 => ?_, fun c20 => ?_⟩
      · have h := h.1 c20
        obtain ⟨n27, h⟩ := h
        refine ⟨n27, ?_⟩
        have lp27 : ∀ (n27 : Nat) (x2 : Int32) (x3 : Int32) (T : mT) (S : qS), tX8_tries_L27 rct Q n27 x2 x3 T → RM S mo ad T → mfr S0 S → pX8_tries_L27 rc post xp n27 (some mo) x2 x3 S := by
          intro n27
          induction n27 with
          | zero => intro x2 x3 T S h hM hF; exact h.elim
          | succ n27 ih27 =>
            intro x2 x3 T S h hM hF
            unfold tX8_tries_L27 at h
            unfold pX8_tries_L27
            refine mg_I hM (by decide) h (fun v29 h => ?_)
            refine ⟨fun c32 => ?_, fun c32 => ?_⟩
            · have h := h.1 c32
              exact ⟨h.1, hp _ _ _ h.2 hM hF⟩
            · have h := h.2 c32
              refine mg_R hM (k := 9) (by decide) ?_
              refine ml_I hM (by decide) h (fun v40 h => ?_)
              have jn69 : ∀ (x2 : Int32) (x3 : Int32) (T : mT) (S : qS), tX8_tries_J69 (tX8_tries_L27 rct Q n27) rct Q x2 x3 T → RM S mo ad T → mfr S0 S → pX8_tries_J69 (pX8_tries_L27 rc post xp n27) rc post xp (some mo) x2 x3 S := by
                intro x2 x3 T S h hM hF
                unfold tX8_tries_J69 at h
                unfold pX8_tries_J69
                exact ih27 _ _ _ _ h hM hF
              refine ⟨fun c41 => ?_, fun c41 => ?_⟩
              · have h := h.1 c41
                refine mg_R hM (k := 29) (by decide) ?_
                refine ms_I hM hF (by decide) h (fun T S h hM hF => ?_)
                refine mg_at hM ?_
                refine hrc hM h (fun v61 T S h hM hF1 => ?_)
                have hF := hF.tr hF1
                refine ⟨fun c64 => ?_, fun c64 => ?_⟩
                · have h := h.1 c64
                  exact jn69 _ _ _ _ h hM hF
                · have h := h.2 c64
                  exact ⟨h.1, hp _ _ _ h.2 hM hF⟩
              · have h := h.2 c41
                exact jn69 _ _ _ _ h hM hF
        exact lp27 n27 _ _ _ _ h hM hF
      · have h := h.2 c20
        exact ⟨h.1, hp _ _ _ h.2 hM hF⟩
    refine ⟨fun c1 => ?_, fun c1 => ?_⟩
    · have h := h.1 c1
      exact jn18 _ _ _ _ h hM hF
    · have h := h.2 c1
      refine mp_I hM hF (by decide) h (fun T S h hM hF => ?_)
      refine mg_at hM ?_
      refine rX8_gainsWithSome hM h (fun v10 T S h hM hF1 => ?_)
      have hF := hF.tr hF1
      refine ⟨fun c13 => ?_, fun c13 => ?_⟩
      · have h := h.1 c13
        exact jn18 _ _ _ _ h hM hF
      · have h := h.2 c13
        exact ⟨h.1, hp _ _ _ h.2 hM hF⟩

def tX8_gains  (T : mT) (Q : Int32 → mT → Prop) : Prop :=
  t_putI T 0 (0 : Int32) (fun T =>
  tX8_tries 5 (0 : Int32) (0 : Int32) T (fun v8 T =>
  ((v8 = 0 ∨ v8 = 1) ∧ Q v8 T)))
set_option maxHeartbeats 4000000 in
set_option maxRecDepth 100000 in
theorem rX8_gains {S : qS} {mo : Nat} {ad : Nat → Nat} {T : mT}  {Q : Int32 → mT → Prop} {post : Int32 → qS → Prop} {xp : String → qS → Prop} (hM : RM S mo ad T) (h : tX8_gains  T Q) (hp : ∀ (v : Int32) (T' : mT) (S' : qS), Q v T' → RM S' mo ad T' → mfr S S' → post v S') : pX8_gains mo  S post xp := by
  unfold tX8_gains at h
  unfold pX8_gains
  obtain ⟨S0, hS0⟩ : ∃ S0, S0 = S := ⟨_, rfl⟩
  rw [← hS0] at hp
  have hF : mfr S0 S := by rw [hS0]; exact mfr.rf
  clear hS0
  refine mp_I hM hF (by decide) h (fun T S h hM hF => ?_)
  refine mg_at hM ?_
  refine rX8_tries 5 hM h (fun v8 T S h hM hF1 => ?_)
  have hF := hF.tr hF1
  exact ⟨h.1, hp _ _ _ h.2 hM hF⟩
