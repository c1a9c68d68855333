def tX8_thrown  (T : mT) (Q : Int32 → mT → Prop) : Prop :=
  t_getI T 0 (fun v1 =>
  Q v1 T)
set_option maxHeartbeats 4000000 in
set_option maxRecDepth 100000 in
theorem rX8_thrown {S : qS} {mo : Nat} {ad : Nat → Nat} {T : mT}  {Q : Int32 → mT → Prop} {post : Int32 → qS → Prop} {xp : String → qS → Prop} (hM : RM S mo ad T) (h : tX8_thrown  T Q) (hp : ∀ (v : Int32) (T' : mT) (S' : qS), Q v T' → RM S' mo ad T' → mfr S S' → post v S') : pX8_thrown mo  S post xp := by
  unfold tX8_thrown at h
  unfold pX8_thrown
  obtain ⟨S0, hS0⟩ : ∃ S0, S0 = S := ⟨_, rfl⟩
  rw [← hS0] at hp
  have hF : mfr S0 S := by rw [hS0]; exact mfr.rf
  clear hS0
  refine mg_I hM (by decide) h (fun v1 h => ?_)
  exact hp _ _ _ h hM hF

def tX8_throwsIf_J9  (Q : Int32 → mT → Prop) (x1 : Int32) (T : mT) : Prop :=
  ((x1 = 0 ∨ x1 = 1) ∧ Q x1 T)
def tX8_throwsIf (x1 : Int32) (x2 : Int32) (T : mT) (Q : Int32 → mT → Prop) : Prop :=
  ((x1 = 0 →
  tX8_throwsIf_J9 Q x1 T) ∧ (¬ x1 = 0 →
  t_putI T 0 x2 (fun T =>
  tX8_throwsIf_J9 Q x1 T)))
set_option maxHeartbeats 4000000 in
set_option maxRecDepth 100000 in
theorem rX8_throwsIf {S : qS} {mo : Nat} {ad : Nat → Nat} {T : mT} {x1 : Int32} {x2 : Int32} {Q : Int32 → mT → Prop} {post : Int32 → qS → Prop} {xp : String → qS → Prop} (hM : RM S mo ad T) (h : tX8_throwsIf x1 x2 T Q) (hp : ∀ (v : Int32) (T' : mT) (S' : qS), Q v T' → RM S' mo ad T' → mfr S S' → post v S') : pX8_throwsIf mo x1 x2 S post xp := by
  unfold tX8_throwsIf at h
  unfold pX8_throwsIf
  obtain ⟨S0, hS0⟩ : ∃ S0, S0 = S := ⟨_, rfl⟩
  rw [← hS0] at hp
  have hF : mfr S0 S := by rw [hS0]; exact mfr.rf
  clear hS0
  have jn9 : ∀ (x1 : Int32) (T : mT) (S : qS), tX8_throwsIf_J9 Q x1 T → RM S mo ad T → mfr S0 S → pX8_throwsIf_J9 post xp x1 S := by
    intro x1 T S h hM hF
    unfold tX8_throwsIf_J9 at h
    unfold pX8_throwsIf_J9
    exact ⟨h.1, hp _ _ _ h.2 hM hF⟩
  refine ⟨fun c1 => ?_, fun c1 => ?_⟩
  · have h := h.1 c1
    exact jn9 _ _ _ h hM hF
  · have h := h.2 c1
    refine mp_I hM hF (by decide) h (fun T S h hM hF => ?_)
    exact jn9 _ _ _ h hM hF

def tX8_in_J18  (Q : Int32 → mT → Prop) (t0 : Int32) (T : mT) : Prop :=
  ((t0 = 0 ∨ t0 = 1) ∧ Q t0 T)
def tX8_in_J17  (Q : Int32 → mT → Prop)  (T : mT) : Prop :=
  tX8_in_J18 Q (0 : Int32) T
def tX8_in (x0 : Int64) (x2 : Int64) (x4 : Int64) (T : mT) (Q : Int32 → mT → Prop) : Prop :=
  (((lg_cmp x0 x2) < 0 →
  tX8_in_J17 Q T) ∧ (¬ (lg_cmp x0 x2) < 0 →
  ((0 < (lg_cmp x0 x4) →
  tX8_in_J17 Q T) ∧ (¬ 0 < (lg_cmp x0 x4) →
  tX8_in_J18 Q (1 : Int32) T))))
set_option maxHeartbeats 4000000 in
set_option maxRecDepth 100000 in
theorem rX8_in {S : qS} {mo : Nat} {ad : Nat → Nat} {T : mT} {x0 : Int64} {x2 : Int64} {x4 : Int64} {Q : Int32 → mT → Prop} {post : Int32 → qS → Prop} {xp : String → qS → Prop} (hM : RM S mo ad T) (h : tX8_in x0 x2 x4 T Q) (hp : ∀ (v : Int32) (T' : mT) (S' : qS), Q v T' → RM S' mo ad T' → mfr S S' → post v S') : pX8_in x0 x2 x4 S post xp := by
  unfold tX8_in at h
  unfold pX8_in
  obtain ⟨S0, hS0⟩ : ∃ S0, S0 = S := ⟨_, rfl⟩
  rw [← hS0] at hp
  have hF : mfr S0 S := by rw [hS0]; exact mfr.rf
  clear hS0
  have jn18 : ∀ (t0 : Int32) (T : mT) (S : qS), tX8_in_J18 Q t0 T → RM S mo ad T → mfr S0 S → pX8_in_J18 post xp t0 S := by
    intro t0 T S h hM hF
    unfold tX8_in_J18 at h
    unfold pX8_in_J18
    exact ⟨h.1, hp _ _ _ h.2 hM hF⟩
  have jn17 : ∀ (T : mT) (S : qS), tX8_in_J17 Q T → RM S mo ad T → mfr S0 S → pX8_in_J17 post xp S := by
    intro T S h hM hF
    unfold tX8_in_J17 at h
    unfold pX8_in_J17
    exact jn18 _ _ _ h hM hF
  refine ⟨fun c3 => ?_, fun c3 => ?_⟩
  · have h := h.1 c3
    exact jn17 _ _ h hM hF
  · have h := h.2 c3
    refine ⟨fun c10 => ?_, fun c10 => ?_⟩
    · have h := h.1 c10
      exact jn17 _ _ h hM hF
    · have h := h.2 c10
      exact jn18 _ _ _ h hM hF

def tX8_noPlayer_J21  (Q : Int32 → mT → Prop) (t0 : Int32) (T : mT) : Prop :=
  ((t0 = 0 ∨ t0 = 1) ∧ Q t0 T)
def tX8_noPlayer (x1 : Int32) (T : mT) (Q : Int32 → mT → Prop) : Prop :=
  t_getI T 5 (fun v4 =>
  tX8_in x1.toInt64 (0 : Int64) ((v4 - (1 : Int32)).toInt64) T (fun v10 T =>
  ((¬ v10 = 0 →
  tX8_noPlayer_J21 Q (0 : Int32) T) ∧ (v10 = 0 →
  tX8_noPlayer_J21 Q (1 : Int32) T))))
set_option maxHeartbeats 4000000 in
set_option maxRecDepth 100000 in
theorem rX8_noPlayer {S : qS} {mo : Nat} {ad : Nat → Nat} {T : mT} {x1 : Int32} {Q : Int32 → mT → Prop} {post : Int32 → qS → Prop} {xp : String → qS → Prop} (hM : RM S mo ad T) (h : tX8_noPlayer x1 T Q) (hp : ∀ (v : Int32) (T' : mT) (S' : qS), Q v T' → RM S' mo ad T' → mfr S S' → post v S') : pX8_noPlayer mo x1 S post xp := by
  unfold tX8_noPlayer at h
  unfold pX8_noPlayer
  obtain ⟨S0, hS0⟩ : ∃ S0, S0 = S := ⟨_, rfl⟩
  rw [← hS0] at hp
  have hF : mfr S0 S := by rw [hS0]; exact mfr.rf
  clear hS0
  refine mg_I hM (by decide) h (fun v4 h => ?_)
  refine rX8_in hM h (fun v10 T S h hM hF1 => ?_)
  have hF := hF.tr hF1
  have jn21 : ∀ (t0 : Int32) (T : mT) (S : qS), tX8_noPlayer_J21 Q t0 T → RM S mo ad T → mfr S0 S → pX8_noPlayer_J21 post xp t0 S := by
    intro t0 T S h hM hF
    unfold tX8_noPlayer_J21 at h
    unfold pX8_noPlayer_J21
    exact ⟨h.1, hp _ _ _ h.2 hM hF⟩
  refine ⟨fun c13 => ?_, fun c13 => ?_⟩
  · have h := h.1 c13
    exact jn21 _ _ _ h hM hF
  · have h := h.2 c13
    exact jn21 _ _ _ h hM hF

def tX8_noRule_J21  (Q : Int32 → mT → Prop) (t0 : Int32) (T : mT) : Prop :=
  ((t0 = 0 ∨ t0 = 1) ∧ Q t0 T)
def tX8_noRule (x1 : Int32) (T : mT) (Q : Int32 → mT → Prop) : Prop :=
  t_getI T 12 (fun v4 =>
  tX8_in x1.toInt64 (0 : Int64) ((v4 - (1 : Int32)).toInt64) T (fun v10 T =>
  ((¬ v10 = 0 →
  tX8_noRule_J21 Q (0 : Int32) T) ∧ (v10 = 0 →
  tX8_noRule_J21 Q (1 : Int32) T))))
set_option maxHeartbeats 4000000 in
set_option maxRecDepth 100000 in
theorem rX8_noRule {S : qS} {mo : Nat} {ad : Nat → Nat} {T : mT} {x1 : Int32} {Q : Int32 → mT → Prop} {post : Int32 → qS → Prop} {xp : String → qS → Prop} (hM : RM S mo ad T) (h : tX8_noRule x1 T Q) (hp : ∀ (v : Int32) (T' : mT) (S' : qS), Q v T' → RM S' mo ad T' → mfr S S' → post v S') : pX8_noRule mo x1 S post xp := by
  unfold tX8_noRule at h
  unfold pX8_noRule
  obtain ⟨S0, hS0⟩ : ∃ S0, S0 = S := ⟨_, rfl⟩
  rw [← hS0] at hp
  have hF : mfr S0 S := by rw [hS0]; exact mfr.rf
  clear hS0
  refine mg_I hM (by decide) h (fun v4 h => ?_)
  refine rX8_in hM h (fun v10 T S h hM hF1 => ?_)
  have hF := hF.tr hF1
  have jn21 : ∀ (t0 : Int32) (T : mT) (S : qS), tX8_noRule_J21 Q t0 T → RM S mo ad T → mfr S0 S → pX8_noRule_J21 post xp t0 S := by
    intro t0 T S h hM hF
    unfold tX8_noRule_J21 at h
    unfold pX8_noRule_J21
    exact ⟨h.1, hp _ _ _ h.2 hM hF⟩
  refine ⟨fun c13 => ?_, fun c13 => ?_⟩
  · have h := h.1 c13
    exact jn21 _ _ _ h hM hF
  · have h := h.2 c13
    exact jn21 _ _ _ h hM hF

def tX8_noSingle_J21  (Q : Int32 → mT → Prop) (t0 : Int32) (T : mT) : Prop :=
  ((t0 = 0 ∨ t0 = 1) ∧ Q t0 T)
def tX8_noSingle (x1 : Int32) (T : mT) (Q : Int32 → mT → Prop) : Prop :=
  t_getI T 25 (fun v4 =>
  tX8_in x1.toInt64 (0 : Int64) ((v4 - (1 : Int32)).toInt64) T (fun v10 T =>
  ((¬ v10 = 0 →
  tX8_noSingle_J21 Q (0 : Int32) T) ∧ (v10 = 0 →
  tX8_noSingle_J21 Q (1 : Int32) T))))
set_option maxHeartbeats 4000000 in
set_option maxRecDepth 100000 in
theorem rX8_noSingle {S : qS} {mo : Nat} {ad : Nat → Nat} {T : mT} {x1 : Int32} {Q : Int32 → mT → Prop} {post : Int32 → qS → Prop} {xp : String → qS → Prop} (hM : RM S mo ad T) (h : tX8_noSingle x1 T Q) (hp : ∀ (v : Int32) (T' : mT) (S' : qS), Q v T' → RM S' mo ad T' → mfr S S' → post v S') : pX8_noSingle mo x1 S post xp := by
  unfold tX8_noSingle at h
  unfold pX8_noSingle
  obtain ⟨S0, hS0⟩ : ∃ S0, S0 = S := ⟨_, rfl⟩
  rw [← hS0] at hp
  have hF : mfr S0 S := by rw [hS0]; exact mfr.rf
  clear hS0
  refine mg_I hM (by decide) h (fun v4 h => ?_)
  refine rX8_in hM h (fun v10 T S h hM hF1 => ?_)
  have hF := hF.tr hF1
  have jn21 : ∀ (t0 : Int32) (T : mT) (S : qS), tX8_noSingle_J21 Q t0 T → RM S mo ad T → mfr S0 S → pX8_noSingle_J21 post xp t0 S := by
    intro t0 T S h hM hF
    unfold tX8_noSingle_J21 at h
    unfold pX8_noSingle_J21
    exact ⟨h.1, hp _ _ _ h.2 hM hF⟩
  refine ⟨fun c13 => ?_, fun c13 => ?_⟩
  · have h := h.1 c13
    exact jn21 _ _ _ h hM hF
  · have h := h.2 c13
    exact jn21 _ _ _ h hM hF

def tX8_noKind_J17  (Q : Int32 → mT → Prop) (t0 : Int32) (T : mT) : Prop :=
  ((t0 = 0 ∨ t0 = 1) ∧ Q t0 T)
def tX8_noKind (x0 : Int32) (T : mT) (Q : Int32 → mT → Prop) : Prop :=
  tX8_in x0.toInt64 (0 : Int64) (3 : Int64) T (fun v6 T =>
  ((¬ v6 = 0 →
  tX8_noKind_J17 Q (0 : Int32) T) ∧ (v6 = 0 →
  tX8_noKind_J17 Q (1 : Int32) T)))
set_option maxHeartbeats 4000000 in
set_option maxRecDepth 100000 in
theorem rX8_noKind {S : qS} {mo : Nat} {ad : Nat → Nat} {T : mT} {x0 : Int32} {Q : Int32 → mT → Prop} {post : Int32 → qS → Prop} {xp : String → qS → Prop} (hM : RM S mo ad T) (h : tX8_noKind x0 T Q) (hp : ∀ (v : Int32) (T' : mT) (S' : qS), Q v T' → RM S' mo ad T' → mfr S S' → post v S') : pX8_noKind x0 S post xp := by
  unfold tX8_noKind at h
  unfold pX8_noKind
  obtain ⟨S0, hS0⟩ : ∃ S0, S0 = S := ⟨_, rfl⟩
  rw [← hS0] at hp
  have hF : mfr S0 S := by rw [hS0]; exact mfr.rf
  clear hS0
  refine rX8_in hM h (fun v6 T S h hM hF1 => ?_)
  have hF := hF.tr hF1
  have jn17 : ∀ (t0 : Int32) (T : mT) (S : qS), tX8_noKind_J17 Q t0 T → RM S mo ad T → mfr S0 S → pX8_noKind_J17 post xp t0 S := by
    intro t0 T S h hM hF
    unfold tX8_noKind_J17 at h
    unfold pX8_noKind_J17
    exact ⟨h.1, hp _ _ _ h.2 hM hF⟩
  refine ⟨fun c9 => ?_, fun c9 => ?_⟩
  · have h := h.1 c9
    exact jn17 _ _ _ h hM hF
  · have h := h.2 c9
    exact jn17 _ _ _ h hM hF

def tX8_player_J20  (Q : Int32 → mT → Prop) (t1 : Int32) (T : mT) : Prop :=
  tX8_throwsIf t1 (1 : Int32) T (fun v21 T =>
  ((v21 = 0 →
  t_getI T 5 (fun v31 =>
  t_putI T 5 (v31 + (1 : Int32)) (fun T =>
  t_getI T 5 (fun v40 =>
  Q (v40 - (1 : Int32)) T)))) ∧ (¬ v21 = 0 →
  Q (0 : Int32) T)))
def tX8_player  (T : mT) (Q : Int32 → mT → Prop) : Prop :=
  t_putI T 0 (0 : Int32) (fun T =>
  t_getI T 5 (fun v7 =>
  ((¬ v7 = (10 : Int32) →
  tX8_player_J20 Q (0 : Int32) T) ∧ (v7 = (10 : Int32) →
  tX8_player_J20 Q (1 : Int32) T))))
set_option maxHeartbeats 4000000 in
set_option maxRecDepth 100000 in
theorem rX8_player {S : qS} {mo : Nat} {ad : Nat → Nat} {T : mT}  {Q : Int32 → mT → Prop} {post : Int32 → qS → Prop} {xp : String → qS → Prop} (hM : RM S mo ad T) (h : tX8_player  T Q) (hp : ∀ (v : Int32) (T' : mT) (S' : qS), Q v T' → RM S' mo ad T' → mfr S S' → post v S') : pX8_player mo  S post xp := by
  unfold tX8_player at h
  unfold pX8_player
  obtain ⟨S0, hS0⟩ : ∃ S0, S0 = S := ⟨_, rfl⟩
  rw [← hS0] at hp
  have hF : mfr S0 S := by rw [hS0]; exact mfr.rf
  clear hS0
  refine mp_I hM hF (by decide) h (fun T S h hM hF => ?_)
  refine mg_I hM (by decide) h (fun v7 h => ?_)
  have jn20 : ∀ (t1 : Int32) (T : mT) (S : qS), tX8_player_J20 Q t1 T → RM S mo ad T → mfr S0 S → pX8_player_J20 post xp (some mo) (some mo) t1 S := by
    intro t1 T S h hM hF
    unfold tX8_player_J20 at h
    unfold pX8_player_J20
    refine mg_at hM ?_
    refine rX8_throwsIf hM h (fun v21 T S h hM hF1 => ?_)
    have hF := hF.tr hF1
    refine ⟨fun c24 => ?_, fun c24 => ?_⟩
    · have h := h.1 c24
      refine mg_I hM (by decide) h (fun v31 h => ?_)
      refine mp_I hM hF (by decide) h (fun T S h hM hF => ?_)
      refine mg_I hM (by decide) h (fun v40 h => ?_)
      exact hp _ _ _ h hM hF
    · have h := h.2 c24
      exact hp _ _ _ h hM hF
  refine ⟨fun c12 => ?_, fun c12 => ?_⟩
  · have h := h.1 c12
    exact jn20 _ _ _ h hM hF
  · have h := h.2 c12
    exact jn20 _ _ _ h hM hF

def tX8_rule_J20  (Q : Int32 → mT → Prop) (x1 : Int32) (t1 : Int32) (T : mT) : Prop :=
  tX8_throwsIf t1 (1 : Int32) T (fun v21 T =>
  ((v21 = 0 →
  t_getI T 12 (fun v34 =>
  t_stZ T 9 v34 x1 (fun T =>
  t_getI T 12 (fun v41 =>
  t_putI T 12 (v41 + (1 : Int32)) (fun T =>
  t_getI T 12 (fun v50 =>
  Q (v50 - (1 : Int32)) T)))))) ∧ (¬ v21 = 0 →
  Q (0 : Int32) T)))
def tX8_rule (x1 : Int32) (T : mT) (Q : Int32 → mT → Prop) : Prop :=
  t_putI T 0 (0 : Int32) (fun T =>
  t_getI T 12 (fun v7 =>
  ((¬ v7 = (10 : Int32) →
  tX8_rule_J20 Q x1 (0 : Int32) T) ∧ (v7 = (10 : Int32) →
  tX8_rule_J20 Q x1 (1 : Int32) T))))
set_option maxHeartbeats 4000000 in
set_option maxRecDepth 100000 in
theorem rX8_rule {S : qS} {mo : Nat} {ad : Nat → Nat} {T : mT} {x1 : Int32} {Q : Int32 → mT → Prop} {post : Int32 → qS → Prop} {xp : String → qS → Prop} (hM : RM S mo ad T) (h : tX8_rule x1 T Q) (hp : ∀ (v : Int32) (T' : mT) (S' : qS), Q v T' → RM S' mo ad T' → mfr S S' → post v S') : pX8_rule mo x1 S post xp := by
  unfold tX8_rule at h
  unfold pX8_rule
  obtain ⟨S0, hS0⟩ : ∃ S0, S0 = S := ⟨_, rfl⟩
  rw [← hS0] at hp
  have hF : mfr S0 S := by rw [hS0]; exact mfr.rf
  clear hS0
  refine mp_I hM hF (by decide) h (fun T S h hM hF => ?_)
  refine mg_I hM (by decide) h (fun v7 h => ?_)
  have jn20 : ∀ (x1 : Int32) (t1 : Int32) (T : mT) (S : qS), tX8_rule_J20 Q x1 t1 T → RM S mo ad T → mfr S0 S → pX8_rule_J20 post xp (some mo) x1 (some mo) t1 S := by
    intro x1 t1 T S h hM hF
    unfold tX8_rule_J20 at h
    unfold pX8_rule_J20
    refine mg_at hM ?_
    refine rX8_throwsIf hM h (fun v21 T S h hM hF1 => ?_)
    have hF := hF.tr hF1
    refine ⟨fun c24 => ?_, fun c24 => ?_⟩
    · have h := h.1 c24
      refine mg_R hM (k := 9) (by decide) ?_
      refine mg_I hM (by decide) h (fun v34 h => ?_)
      refine ms_Z hM hF (by decide) h (fun T S h hM hF => ?_)
      refine mg_I hM (by decide) h (fun v41 h => ?_)
      refine mp_I hM hF (by decide) h (fun T S h hM hF => ?_)
      refine mg_I hM (by decide) h (fun v50 h => ?_)
      exact hp _ _ _ h hM hF
    · have h := h.2 c24
      exact hp _ _ _ h hM hF
  refine ⟨fun c12 => ?_, fun c12 => ?_⟩
  · have h := h.1 c12
    exact jn20 _ _ _ _ h hM hF
  · have h := h.2 c12
    exact jn20 _ _ _ _ h hM hF

def tX8_part_J59  (Q : mT → Prop)  (T : mT) : Prop :=
  Q T
def tX8_part_J91  (Q : mT → Prop)  (T : mT) : Prop :=
  Q T
def tX8_part_J52  (Q : mT → Prop) (x1 : Int32) (x2 : Int32) (x3 : Int32) (x4 : Int32) (t1 : Int32) (T : mT) : Prop :=
  tX8_throwsIf t1 (2 : Int32) T (fun v53 T =>
  ((v53 = 0 →
  ((x3 = 0 →
  t_stI T 7 (((4 : Int32) * x1) + x2) x4 (fun T =>
  tX8_part_J91 Q T)) ∧ (¬ x3 = 0 →
  t_stI T 8 (((4 : Int32) * x1) + x2) x4 (fun T =>
  tX8_part_J91 Q T)))) ∧ (¬ v53 = 0 →
  tX8_part_J59 Q T)))
def tX8_part_J26  (Q : mT → Prop) (x1 : Int32) (x2 : Int32) (x3 : Int32) (x4 : Int32) (t1 : Int32) (T : mT) : Prop :=
  tX8_throwsIf t1 (1 : Int32) T (fun v27 T =>
  ((¬ v27 = 0 →
  tX8_part_J59 Q T) ∧ (v27 = 0 →
  tX8_in x4.toInt64 (0 : Int64) (9 : Int64) T (fun v41 T =>
  ((¬ v41 = 0 →
  tX8_part_J52 Q x1 x2 x3 x4 (0 : Int32) T) ∧ (v41 = 0 →
  tX8_part_J52 Q x1 x2 x3 x4 (1 : Int32) T))))))
def tX8_part_J21  (Q : mT → Prop) (x1 : Int32) (x2 : Int32) (x3 : Int32) (x4 : Int32) (T : mT) : Prop :=
  tX8_part_J26 Q x1 x2 x3 x4 (1 : Int32) T
def tX8_part (x1 : Int32) (x2 : Int32) (x3 : Int32) (x4 : Int32) (T : mT) (Q : mT → Prop) : Prop :=
  t_putI T 0 (0 : Int32) (fun T =>
  tX8_noRule x1 T (fun v8 T =>
  ((¬ v8 = 0 →
  tX8_part_J21 Q x1 x2 x3 x4 T) ∧ (v8 = 0 →
  tX8_noKind x2 T (fun v15 T =>
  ((v15 = 0 →
  tX8_part_J26 Q x1 x2 x3 x4 (0 : Int32) T) ∧ (¬ v15 = 0 →
  tX8_part_J21 Q x1 x2 x3 x4 T)))))))
set_option maxHeartbeats 4000000 in
set_option maxRecDepth 100000 in
theorem rX8_part {S : qS} {mo : Nat} {ad : Nat → Nat} {T : mT} {x1 : Int32} {x2 : Int32} {x3 : Int32} {x4 : Int32} {Q : mT → Prop} {post : qS → Prop} {xp : String → qS → Prop} (hM : RM S mo ad T) (h : tX8_part x1 x2 x3 x4 T Q) (hp : ∀ (T' : mT) (S' : qS), Q T' → RM S' mo ad T' → mfr S S' → post S') : pX8_part mo x1 x2 x3 x4 S post xp := by
  unfold tX8_part at h
  unfold pX8_part
  obtain ⟨S0, hS0⟩ : ∃ S0, S0 = S := ⟨_, rfl⟩
  rw [← hS0] at hp
  have hF : mfr S0 S := by rw [hS0]; exact mfr.rf
  clear hS0
  refine mp_I hM hF (by decide) h (fun T S h hM hF => ?_)
  refine mg_at hM ?_
  refine rX8_noRule hM h (fun v8 T S h hM hF1 => ?_)
  have hF := hF.tr hF1
  have jn26 : ∀ (x1 : Int32) (x2 : Int32) (x3 : Int32) (x4 : Int32) (t1 : Int32) (T : mT) (S : qS), tX8_part_J26 Q x1 x2 x3 x4 t1 T → RM S mo ad T → mfr S0 S → pX8_part_J26 post xp (some mo) x1 x2 x3 x4 (some mo) t1 S := by
    intro x1 x2 x3 x4 t1 T S h hM hF
    unfold tX8_part_J26 at h
    unfold pX8_part_J26
    refine mg_at hM ?_
    refine rX8_throwsIf hM h (fun v27 T S h hM hF1 => ?_)
    have hF := hF.tr hF1
    have jn59 : ∀ (T : mT) (S : qS), tX8_part_J59 Q T → RM S mo ad T → mfr S0 S → pX8_part_J59 post xp S := by
      intro T S h hM hF
      unfold tX8_part_J59 at h
      unfold pX8_part_J59
      exact hp _ _ h hM hF
    refine ⟨fun c30 => ?_, fun c30 => ?_⟩
    · have h := h.1 c30
      exact jn59 _ _ h hM hF
    · have h := h.2 c30
      refine rX8_in hM h (fun v41 T S h hM hF1 => ?_)
      have hF := hF.tr hF1
      have jn52 : ∀ (x1 : Int32) (x2 : Int32) (x3 : Int32) (x4 : Int32) (t1 : Int32) (T : mT) (S : qS), tX8_part_J52 Q x1 x2 x3 x4 t1 T → RM S mo ad T → mfr S0 S → pX8_part_J52 post xp (some mo) x1 x2 x3 x4 (some mo) t1 S := by
        intro x1 x2 x3 x4 t1 T S h hM hF
        unfold tX8_part_J52 at h
        unfold pX8_part_J52
        refine mg_at hM ?_
        refine rX8_throwsIf hM h (fun v53 T S h hM hF1 => ?_)
        have hF := hF.tr hF1
        refine ⟨fun c56 => ?_, fun c56 => ?_⟩
        · have h := h.1 c56
          have jn91 : ∀ (T : mT) (S : qS), tX8_part_J91 Q T → RM S mo ad T → mfr S0 S → pX8_part_J91 post xp S := by
            intro T S h hM hF
            unfold tX8_part_J91 at h
            unfold pX8_part_J91
            exact hp _ _ h hM hF
          refine ⟨fun c61 => ?_, fun c61 => ?_⟩
          · have h := h.1 c61
            refine mg_R hM (k := 7) (by decide) ?_
            refine ms_I hM hF (by decide) h (fun T S h hM hF => ?_)
            exact jn91 _ _ h hM hF
          · have h := h.2 c61
            refine mg_R hM (k := 8) (by decide) ?_
            refine ms_I hM hF (by decide) h (fun T S h hM hF => ?_)
            exact jn91 _ _ h hM hF
        · have h := h.2 c56
          exact jn59 _ _ h hM hF
      refine ⟨fun c44 => ?_, fun c44 => ?_⟩
      · have h := h.1 c44
        exact jn52 _ _ _ _ _ _ _ h hM hF
      · have h := h.2 c44
        exact jn52 _ _ _ _ _ _ _ h hM hF
  have jn21 : ∀ (x1 : Int32) (x2 : Int32) (x3 : Int32) (x4 : Int32) (T : mT) (S : qS), tX8_part_J21 Q x1 x2 x3 x4 T → RM S mo ad T → mfr S0 S → pX8_part_J21 post xp (some mo) x1 x2 x3 x4 (some mo) S := by
    intro x1 x2 x3 x4 T S h hM hF
    unfold tX8_part_J21 at h
    unfold pX8_part_J21
    exact jn26 _ _ _ _ _ _ _ h hM hF
  refine ⟨fun c11 => ?_, fun c11 => ?_⟩
  · have h := h.1 c11
    exact jn21 _ _ _ _ _ _ h hM hF
  · have h := h.2 c11
    refine rX8_noKind hM h (fun v15 T S h hM hF1 => ?_)
    have hF := hF.tr hF1
    refine ⟨fun c18 => ?_, fun c18 => ?_⟩
    · have h := h.1 c18
      exact jn26 _ _ _ _ _ _ _ h hM hF
    · have h := h.2 c18
      exact jn21 _ _ _ _ _ _ h hM hF

def tX8_does_L129  (Q : Int32 → mT → Prop) : Nat → Int32 → Int32 → Int32 → Int32 → mT → Prop
  | 0, _, _, _, _, _ => False
  | n129 + 1, x1, x2, x3, x6, T =>
  (((4 : Int32) ≤ x6 →
  t_getI T 6 (fun v232 =>
  t_putI T 6 (v232 + (1 : Int32)) (fun T =>
  Q (0 : Int32) T))) ∧ (¬ (4 : Int32) ≤ x6 →
  t_ldI T 2 (((4 : Int32) * x1) + x6) (fun v146 =>
  t_ldI T 8 (((4 : Int32) * x2) + x6) (fun v157 =>
  t_ldI T 7 (((4 : Int32) * x2) + x6) (fun v168 =>
  t_stI T 2 (((4 : Int32) * x1) + x6) (v146 + ((v157 - v168) * x3)) (fun T =>
  t_ldJ T 13 x6 (fun v181 =>
  t_ldI T 8 (((4 : Int32) * x2) + x6) (fun v192 =>
  t_stJ T 13 x6 (v181 + (v192.toInt64 * x3.toInt64)) (fun T =>
  t_ldJ T 14 x6 (fun v206 =>
  t_ldI T 7 (((4 : Int32) * x2) + x6) (fun v217 =>
  t_stJ T 14 x6 (v206 + (v217.toInt64 * x3.toInt64)) (fun T =>
  (tX8_does_L129 Q n129) x1 x2 x3 (x6 + 1) T))))))))))))
def tX8_does_J112  (Q : Int32 → mT → Prop) (x1 : Int32) (x2 : Int32) (x3 : Int32) (x4 : Int32) (x5 : Int32) (T : mT) : Prop :=
  ((x4 = 0 →
  ((x5 = 0 →
  ∃ n129, tX8_does_L129 Q n129 x1 x2 x3 (0 : Int32) T) ∧ (¬ x5 = 0 →
  Q (2 : Int32) T))) ∧ (¬ x4 = 0 →
  Q (1 : Int32) T))
def tX8_does_J104 (k9 : Int32 → Int32 → Int32 → Int32 → Int32 → Int32 → mT → Prop) (Q : Int32 → mT → Prop) (x1 : Int32) (x2 : Int32) (x3 : Int32) (x4 : Int32) (x6 : Int32) (t0 : Int32) (T : mT) : Prop :=
  k9 x1 x2 x3 x4 t0 (x6 + 1) T
def tX8_does_J99 (k9 : Int32 → Int32 → Int32 → Int32 → Int32 → Int32 → mT → Prop) (Q : Int32 → mT → Prop) (x1 : Int32) (x2 : Int32) (x3 : Int32) (x4 : Int32) (x6 : Int32) (T : mT) : Prop :=
  tX8_does_J104 k9 Q x1 x2 x3 x4 x6 (1 : Int32) T
def tX8_does_J64 (k9 : Int32 → Int32 → Int32 → Int32 → Int32 → Int32 → mT → Prop) (Q : Int32 → mT → Prop) (x1 : Int32) (x2 : Int32) (x3 : Int32) (x5 : Int32) (x6 : Int32) (x7 : Int64) (x9 : Int64) (t0 : Int32) (T : mT) : Prop :=
  ((¬ x5 = 0 →
  tX8_does_J99 k9 Q x1 x2 x3 t0 x6 T) ∧ (x5 = 0 →
  t_ldI T 8 (((4 : Int32) * x2) + x6) (fun v86 =>
  (((lg_cmp ((x7 - x9) + (v86.toInt64 * x3.toInt64)) (1000000000 : Int64)) ≤ 0 →
  tX8_does_J104 k9 Q x1 x2 x3 t0 x6 (0 : Int32) T) ∧ (¬ (lg_cmp ((x7 - x9) + (v86.toInt64 * x3.toInt64)) (1000000000 : Int64)) ≤ 0 →
  tX8_does_J99 k9 Q x1 x2 x3 t0 x6 T)))))
def tX8_does_J59 (k9 : Int32 → Int32 → Int32 → Int32 → Int32 → Int32 → mT → Prop) (Q : Int32 → mT → Prop) (x1 : Int32) (x2 : Int32) (x3 : Int32) (x5 : Int32) (x6 : Int32) (x7 : Int64) (x9 : Int64) (T : mT) : Prop :=
  tX8_does_J64 k9 Q x1 x2 x3 x5 x6 x7 x9 (1 : Int32) T
def tX8_does_L9 (k112 : Int32 → Int32 → Int32 → Int32 → Int32 → mT → Prop) (Q : Int32 → mT → Prop) : Nat → Int32 → Int32 → Int32 → Int32 → Int32 → Int32 → mT → Prop
  | 0, _, _, _, _, _, _, _ => False
  | n9 + 1, x1, x2, x3, x4, x5, x6, T =>
  (((4 : Int32) ≤ x6 →
  k112 x1 x2 x3 x4 x5 T) ∧ (¬ (4 : Int32) ≤ x6 →
  t_ldI T 2 (((4 : Int32) * x1) + x6) (fun v25 =>
  t_ldI T 7 (((4 : Int32) * x2) + x6) (fun v39 =>
  ((¬ x4 = 0 →
  tX8_does_J59 (tX8_does_L9 k112 Q n9) Q x1 x2 x3 x5 x6 v25.toInt64 (v39.toInt64 * x3.toInt64) T) ∧ (x4 = 0 →
  ((0 ≤ (lg_cmp v25.toInt64 (v39.toInt64 * x3.toInt64)) →
  tX8_does_J64 (tX8_does_L9 k112 Q n9) Q x1 x2 x3 x5 x6 v25.toInt64 (v39.toInt64 * x3.toInt64) (0 : Int32) T) ∧ (¬ 0 ≤ (lg_cmp v25.toInt64 (v39.toInt64 * x3.toInt64)) →
  tX8_does_J59 (tX8_does_L9 k112 Q n9) Q x1 x2 x3 x5 x6 v25.toInt64 (v39.toInt64 * x3.toInt64) T))))))))
def tX8_does (x1 : Int32) (x2 : Int32) (x3 : Int32) (T : mT) (Q : Int32 → mT → Prop) : Prop :=
  ∃ n9, tX8_does_L9 (tX8_does_J112 Q) Q n9 x1 x2 x3 (0 : Int32) (0 : Int32) (0 : Int32) T
set_option maxHeartbeats 4000000 in
set_option maxRecDepth 100000 in
theorem rX8_does {S : qS} {mo : Nat} {ad : Nat → Nat} {T : mT} {x1 : Int32} {x2 : Int32} {x3 : Int32} {Q : Int32 → mT → Prop} {post : Int32 → qS → Prop} {xp : String → qS → Prop} (hM : RM S mo ad T) (h : tX8_does x1 x2 x3 T Q) (hp : ∀ (v : Int32) (T' : mT) (S' : qS), Q v T' → RM S' mo ad T' → mfr S S' → post v S') : pX8_does mo x1 x2 x3 S post xp := by
  unfold tX8_does at h
  unfold pX8_does
  obtain ⟨S0, hS0⟩ : ∃ S0, S0 = S := ⟨_, rfl⟩
  rw [← hS0] at hp
  have hF : mfr S0 S := by rw [hS0]; exact mfr.rf
  clear hS0
  have jn112 : ∀ (x1 : Int32) (x2 : Int32) (x3 : Int32) (x4 : Int32) (x5 : Int32) (T : mT) (S : qS), tX8_does_J112 Q x1 x2 x3 x4 x5 T → RM S mo ad T → mfr S0 S → pX8_does_J112 post xp (some mo) x1 x2 x3 x4 x5 S := by
    intro x1 x2 x3 x4 x5 T S h hM hF
    unfold tX8_does_J112 at h
    unfold pX8_does_J112
    refine ⟨fun c114 => ?_, fun c114 => ?_⟩
    · have h := h.1 c114
      refine ⟨fun c121 => ?_, fun c121 => ?_⟩
      · have h := h.1 c121
        obtain ⟨n129, h⟩ := h
        refine ⟨n129, ?_⟩
        have lp129 : ∀ (n129 : Nat) (x1 : Int32) (x2 : Int32) (x3 : Int32) (x6 : Int32) (T : mT) (S : qS), tX8_does_L129 Q n129 x1 x2 x3 x6 T → RM S mo ad T → mfr S0 S → pX8_does_L129 post xp n129 (some mo) x1 x2 x3 x6 S := by
          intro n129
          induction n129 with
          | zero => intro x1 x2 x3 x6 T S h hM hF; exact h.elim
          | succ n129 ih129 =>
            intro x1 x2 x3 x6 T S h hM hF
            unfold tX8_does_L129 at h
            unfold pX8_does_L129
            refine ⟨fun c132 => ?_, fun c132 => ?_⟩
            · have h := h.1 c132
              refine mg_I hM (by decide) h (fun v232 h => ?_)
              refine mp_I hM hF (by decide) h (fun T S h hM hF => ?_)
              exact hp _ _ _ h hM hF
            · have h := h.2 c132
              refine mg_R hM (k := 2) (by decide) ?_
              refine ml_I hM (by decide) h (fun v146 h => ?_)
              refine mg_R hM (k := 8) (by decide) ?_
              refine ml_I hM (by decide) h (fun v157 h => ?_)
              refine mg_R hM (k := 7) (by decide) ?_
              refine ml_I hM (by decide) h (fun v168 h => ?_)
              refine ms_I hM hF (by decide) h (fun T S h hM hF => ?_)
              refine mg_R hM (k := 13) (by decide) ?_
              refine ml_J hM (by decide) h (fun v181 h => ?_)
              refine mg_R hM (k := 8) (by decide) ?_
              refine ml_I hM (by decide) h (fun v192 h => ?_)
              refine ms_J hM hF (by decide) h (fun T S h hM hF => ?_)
              refine mg_R hM (k := 14) (by decide) ?_
              refine ml_J hM (by decide) h (fun v206 h => ?_)
              refine mg_R hM (k := 7) (by decide) ?_
              refine ml_I hM (by decide) h (fun v217 h => ?_)
              refine ms_J hM hF (by decide) h (fun T S h hM hF => ?_)
              exact ih129 _ _ _ _ _ _ h hM hF
        exact lp129 n129 _ _ _ _ _ _ h hM hF
      · have h := h.2 c121
        exact hp _ _ _ h hM hF
    · have h := h.2 c114
      exact hp _ _ _ h hM hF
  obtain ⟨n9, h⟩ := h
  refine ⟨n9, ?_⟩
  have lp9 : ∀ (n9 : Nat) (x1 : Int32) (x2 : Int32) (x3 : Int32) (x4 : Int32) (x5 : Int32) (x6 : Int32) (T : mT) (S : qS), tX8_does_L9 (tX8_does_J112 Q) Q n9 x1 x2 x3 x4 x5 x6 T → RM S mo ad T → mfr S0 S → pX8_does_L9 (pX8_does_J112 post xp) post xp n9 (some mo) x1 x2 x3 x4 x5 x6 S := by
    intro n9
    induction n9 with
    | zero => intro x1 x2 x3 x4 x5 x6 T S h hM hF; exact h.elim
    | succ n9 ih9 =>
      intro x1 x2 x3 x4 x5 x6 T S h hM hF
      unfold tX8_does_L9 at h
      unfold pX8_does_L9
      refine ⟨fun c12 => ?_, fun c12 => ?_⟩
      · have h := h.1 c12
        exact jn112 _ _ _ _ _ _ _ h hM hF
      · have h := h.2 c12
        refine mg_R hM (k := 2) (by decide) ?_
        refine ml_I hM (by decide) h (fun v25 h => ?_)
        refine mg_R hM (k := 7) (by decide) ?_
        refine ml_I hM (by decide) h (fun v39 h => ?_)
        have jn64 : ∀ (x1 : Int32) (x2 : Int32) (x3 : Int32) (x5 : Int32) (x6 : Int32) (x7 : Int64) (x9 : Int64) (t0 : Int32) (T : mT) (S : qS), tX8_does_J64 (tX8_does_L9 (tX8_does_J112 Q) Q n9) Q x1 x2 x3 x5 x6 x7 x9 t0 T → RM S mo ad T → mfr S0 S → pX8_does_J64 (pX8_does_L9 (pX8_does_J112 post xp) post xp n9) post xp (some mo) x1 x2 x3 x5 x6 x7 x9 t0 S := by
          intro x1 x2 x3 x5 x6 x7 x9 t0 T S h hM hF
          unfold tX8_does_J64 at h
          unfold pX8_does_J64
          have jn104 : ∀ (x1 : Int32) (x2 : Int32) (x3 : Int32) (x4 : Int32) (x6 : Int32) (t0 : Int32) (T : mT) (S : qS), tX8_does_J104 (tX8_does_L9 (tX8_does_J112 Q) Q n9) Q x1 x2 x3 x4 x6 t0 T → RM S mo ad T → mfr S0 S → pX8_does_J104 (pX8_does_L9 (pX8_does_J112 post xp) post xp n9) post xp (some mo) x1 x2 x3 x4 x6 t0 S := by
            intro x1 x2 x3 x4 x6 t0 T S h hM hF
            unfold tX8_does_J104 at h
            unfold pX8_does_J104
            exact ih9 _ _ _ _ _ _ _ _ h hM hF
          have jn99 : ∀ (x1 : Int32) (x2 : Int32) (x3 : Int32) (x4 : Int32) (x6 : Int32) (T : mT) (S : qS), tX8_does_J99 (tX8_does_L9 (tX8_does_J112 Q) Q n9) Q x1 x2 x3 x4 x6 T → RM S mo ad T → mfr S0 S → pX8_does_J99 (pX8_does_L9 (pX8_does_J112 post xp) post xp n9) post xp (some mo) x1 x2 x3 x4 x6 S := by
            intro x1 x2 x3 x4 x6 T S h hM hF
            unfold tX8_does_J99 at h
            unfold pX8_does_J99
            exact jn104 _ _ _ _ _ _ _ _ h hM hF
          refine ⟨fun c68 => ?_, fun c68 => ?_⟩
          · have h := h.1 c68
            exact jn99 _ _ _ _ _ _ _ h hM hF
          · have h := h.2 c68
            refine mg_R hM (k := 8) (by decide) ?_
            refine ml_I hM (by decide) h (fun v86 h => ?_)
            refine ⟨fun c96 => ?_, fun c96 => ?_⟩
            · have h := h.1 c96
              exact jn104 _ _ _ _ _ _ _ _ h hM hF
            · have h := h.2 c96
              exact jn99 _ _ _ _ _ _ _ h hM hF
        have jn59 : ∀ (x1 : Int32) (x2 : Int32) (x3 : Int32) (x5 : Int32) (x6 : Int32) (x7 : Int64) (x9 : Int64) (T : mT) (S : qS), tX8_does_J59 (tX8_does_L9 (tX8_does_J112 Q) Q n9) Q x1 x2 x3 x5 x6 x7 x9 T → RM S mo ad T → mfr S0 S → pX8_does_J59 (pX8_does_L9 (pX8_does_J112 post xp) post xp n9) post xp (some mo) x1 x2 x3 x5 x6 x7 x9 S := by
          intro x1 x2 x3 x5 x6 x7 x9 T S h hM hF
          unfold tX8_does_J59 at h
          unfold pX8_does_J59
          exact jn64 _ _ _ _ _ _ _ _ _ _ h hM hF
        refine ⟨fun c48 => ?_, fun c48 => ?_⟩
        · have h := h.1 c48
          exact jn59 _ _ _ _ _ _ _ _ _ h hM hF
        · have h := h.2 c48
          refine ⟨fun c56 => ?_, fun c56 => ?_⟩
          · have h := h.1 c56
            exact jn64 _ _ _ _ _ _ _ _ _ _ h hM hF
          · have h := h.2 c56
            exact jn59 _ _ _ _ _ _ _ _ _ h hM hF
  exact lp9 n9 _ _ _ _ _ _ _ _ h hM hF

def tX8_deed_J60  (Q : Int32 → mT → Prop)  (T : mT) : Prop :=
  Q (0 : Int32) T
def tX8_deed_J88  (Q : Int32 → mT → Prop) (x1 : Int32) (x2 : Int32) (x3 : Int32) (x4 : Int32) (T : mT) : Prop :=
  t_ldI T 3 x1 (fun v94 =>
  ((x2 = (v94 + (1 : Int32)) →
  t_stI T 3 x1 x2 (fun T =>
  tX8_does x1 x3 x4 T (fun v119 T =>
  t_stI T 4 x1 v119 (fun T =>
  t_ldI T 4 x1 (fun v128 =>
  Q v128 T))))) ∧ (¬ x2 = (v94 + (1 : Int32)) →
  Q (3 : Int32) T)))
def tX8_deed_J53  (Q : Int32 → mT → Prop) (x1 : Int32) (x2 : Int32) (x3 : Int32) (x4 : Int32) (t1 : Int32) (T : mT) : Prop :=
  tX8_throwsIf t1 (2 : Int32) T (fun v54 T =>
  ((v54 = 0 →
  t_ldI T 3 x1 (fun v67 =>
  ((v67 ≤ 0 →
  tX8_deed_J88 Q x1 x2 x3 x4 T) ∧ (¬ v67 ≤ 0 →
  t_ldI T 3 x1 (fun v77 =>
  ((¬ x2 = v77 →
  tX8_deed_J88 Q x1 x2 x3 x4 T) ∧ (x2 = v77 →
  t_ldI T 4 x1 (fun v86 =>
  Q v86 T)))))))) ∧ (¬ v54 = 0 →
  tX8_deed_J60 Q T)))
def tX8_deed_J27  (Q : Int32 → mT → Prop) (x1 : Int32) (x2 : Int32) (x3 : Int32) (x4 : Int32) (t1 : Int32) (T : mT) : Prop :=
  tX8_throwsIf t1 (1 : Int32) T (fun v28 T =>
  ((¬ v28 = 0 →
  tX8_deed_J60 Q T) ∧ (v28 = 0 →
  tX8_in x4.toInt64 (1 : Int64) (1000 : Int64) T (fun v42 T =>
  ((¬ v42 = 0 →
  tX8_deed_J53 Q x1 x2 x3 x4 (0 : Int32) T) ∧ (v42 = 0 →
  tX8_deed_J53 Q x1 x2 x3 x4 (1 : Int32) T))))))
def tX8_deed_J22  (Q : Int32 → mT → Prop) (x1 : Int32) (x2 : Int32) (x3 : Int32) (x4 : Int32) (T : mT) : Prop :=
  tX8_deed_J27 Q x1 x2 x3 x4 (1 : Int32) T
def tX8_deed (x1 : Int32) (x2 : Int32) (x3 : Int32) (x4 : Int32) (T : mT) (Q : Int32 → mT → Prop) : Prop :=
  t_putI T 0 (0 : Int32) (fun T =>
  tX8_noPlayer x1 T (fun v8 T =>
  ((¬ v8 = 0 →
  tX8_deed_J22 Q x1 x2 x3 x4 T) ∧ (v8 = 0 →
  tX8_noRule x3 T (fun v16 T =>
  ((v16 = 0 →
  tX8_deed_J27 Q x1 x2 x3 x4 (0 : Int32) T) ∧ (¬ v16 = 0 →
  tX8_deed_J22 Q x1 x2 x3 x4 T)))))))
set_option maxHeartbeats 4000000 in
set_option maxRecDepth 100000 in
theorem rX8_deed {S : qS} {mo : Nat} {ad : Nat → Nat} {T : mT} {x1 : Int32} {x2 : Int32} {x3 : Int32} {x4 : Int32} {Q : Int32 → mT → Prop} {post : Int32 → qS → Prop} {xp : String → qS → Prop} (hM : RM S mo ad T) (h : tX8_deed x1 x2 x3 x4 T Q) (hp : ∀ (v : Int32) (T' : mT) (S' : qS), Q v T' → RM S' mo ad T' → mfr S S' → post v S') : pX8_deed mo x1 x2 x3 x4 S post xp := by
  unfold tX8_deed at h
  unfold pX8_deed
  obtain ⟨S0, hS0⟩ : ∃ S0, S0 = S := ⟨_, rfl⟩
  rw [← hS0] at hp
  have hF : mfr S0 S := by rw [hS0]; exact mfr.rf
  clear hS0
  refine mp_I hM hF (by decide) h (fun T S h hM hF => ?_)
  refine mg_at hM ?_
  refine rX8_noPlayer hM h (fun v8 T S h hM hF1 => ?_)
  have hF := hF.tr hF1
  have jn27 : ∀ (x1 : Int32) (x2 : Int32) (x3 : Int32) (x4 : Int32) (t1 : Int32) (T : mT) (S : qS), tX8_deed_J27 Q x1 x2 x3 x4 t1 T → RM S mo ad T → mfr S0 S → pX8_deed_J27 post xp (some mo) x1 x2 x3 x4 (some mo) t1 S := by
    intro x1 x2 x3 x4 t1 T S h hM hF
    unfold tX8_deed_J27 at h
    unfold pX8_deed_J27
    refine mg_at hM ?_
    refine rX8_throwsIf hM h (fun v28 T S h hM hF1 => ?_)
    have hF := hF.tr hF1
    have jn60 : ∀ (T : mT) (S : qS), tX8_deed_J60 Q T → RM S mo ad T → mfr S0 S → pX8_deed_J60 post xp S := by
      intro T S h hM hF
      unfold tX8_deed_J60 at h
      unfold pX8_deed_J60
      exact hp _ _ _ h hM hF
    refine ⟨fun c31 => ?_, fun c31 => ?_⟩
    · have h := h.1 c31
      exact jn60 _ _ h hM hF
    · have h := h.2 c31
      refine rX8_in hM h (fun v42 T S h hM hF1 => ?_)
      have hF := hF.tr hF1
      have jn53 : ∀ (x1 : Int32) (x2 : Int32) (x3 : Int32) (x4 : Int32) (t1 : Int32) (T : mT) (S : qS), tX8_deed_J53 Q x1 x2 x3 x4 t1 T → RM S mo ad T → mfr S0 S → pX8_deed_J53 post xp (some mo) x1 x2 x3 x4 (some mo) t1 S := by
        intro x1 x2 x3 x4 t1 T S h hM hF
        unfold tX8_deed_J53 at h
        unfold pX8_deed_J53
        refine mg_at hM ?_
        refine rX8_throwsIf hM h (fun v54 T S h hM hF1 => ?_)
        have hF := hF.tr hF1
        refine ⟨fun c57 => ?_, fun c57 => ?_⟩
        · have h := h.1 c57
          refine mg_R hM (k := 3) (by decide) ?_
          refine ml_I hM (by decide) h (fun v67 h => ?_)
          have jn88 : ∀ (x1 : Int32) (x2 : Int32) (x3 : Int32) (x4 : Int32) (T : mT) (S : qS), tX8_deed_J88 Q x1 x2 x3 x4 T → RM S mo ad T → mfr S0 S → pX8_deed_J88 post xp (some mo) x1 x2 x3 x4 S := by
            intro x1 x2 x3 x4 T S h hM hF
            unfold tX8_deed_J88 at h
            unfold pX8_deed_J88
            refine mg_R hM (k := 3) (by decide) ?_
            refine ml_I hM (by decide) h (fun v94 h => ?_)
            refine ⟨fun c97 => ?_, fun c97 => ?_⟩
            · have h := h.1 c97
              refine mg_R hM (k := 3) (by decide) ?_
              refine ms_I hM hF (by decide) h (fun T S h hM hF => ?_)
              refine mg_R hM (k := 4) (by decide) ?_
              refine mg_at hM ?_
              refine rX8_does hM h (fun v119 T S h hM hF1 => ?_)
              have hF := hF.tr hF1
              refine ms_I hM hF (by decide) h (fun T S h hM hF => ?_)
              refine mg_R hM (k := 4) (by decide) ?_
              refine ml_I hM (by decide) h (fun v128 h => ?_)
              exact hp _ _ _ h hM hF
            · have h := h.2 c97
              exact hp _ _ _ h hM hF
          refine ⟨fun c68 => ?_, fun c68 => ?_⟩
          · have h := h.1 c68
            exact jn88 _ _ _ _ _ _ h hM hF
          · have h := h.2 c68
            refine mg_R hM (k := 3) (by decide) ?_
            refine ml_I hM (by decide) h (fun v77 h => ?_)
            refine ⟨fun c78 => ?_, fun c78 => ?_⟩
            · have h := h.1 c78
              exact jn88 _ _ _ _ _ _ h hM hF
            · have h := h.2 c78
              refine mg_R hM (k := 4) (by decide) ?_
              refine ml_I hM (by decide) h (fun v86 h => ?_)
              exact hp _ _ _ h hM hF
        · have h := h.2 c57
          exact jn60 _ _ h hM hF
      refine ⟨fun c45 => ?_, fun c45 => ?_⟩
      · have h := h.1 c45
        exact jn53 _ _ _ _ _ _ _ h hM hF
      · have h := h.2 c45
        exact jn53 _ _ _ _ _ _ _ h hM hF
  have jn22 : ∀ (x1 : Int32) (x2 : Int32) (x3 : Int32) (x4 : Int32) (T : mT) (S : qS), tX8_deed_J22 Q x1 x2 x3 x4 T → RM S mo ad T → mfr S0 S → pX8_deed_J22 post xp (some mo) x1 x2 x3 x4 (some mo) S := by
    intro x1 x2 x3 x4 T S h hM hF
    unfold tX8_deed_J22 at h
    unfold pX8_deed_J22
    exact jn27 _ _ _ _ _ _ _ h hM hF
  refine ⟨fun c11 => ?_, fun c11 => ?_⟩
  · have h := h.1 c11
    exact jn22 _ _ _ _ _ _ h hM hF
  · have h := h.2 c11
    refine mg_at hM ?_
    refine rX8_noRule hM h (fun v16 T S h hM hF1 => ?_)
    have hF := hF.tr hF1
    refine ⟨fun c19 => ?_, fun c19 => ?_⟩
    · have h := h.1 c19
      exact jn27 _ _ _ _ _ _ _ h hM hF
    · have h := h.2 c19
      exact jn22 _ _ _ _ _ _ h hM hF

def tX8_has_J47  (Q : Int32 → mT → Prop) (t0 : Int32) (T : mT) : Prop :=
  Q t0 T
def tX8_has_J26  (Q : Int32 → mT → Prop) (x1 : Int32) (x2 : Int32) (t1 : Int32) (T : mT) : Prop :=
  tX8_throwsIf t1 (1 : Int32) T (fun v27 T =>
  ((v27 = 0 →
  t_ldI T 2 (((4 : Int32) * x1) + x2) (fun v46 =>
  tX8_has_J47 Q v46 T)) ∧ (¬ v27 = 0 →
  tX8_has_J47 Q (0 : Int32) T)))
def tX8_has_J21  (Q : Int32 → mT → Prop) (x1 : Int32) (x2 : Int32) (T : mT) : Prop :=
  tX8_has_J26 Q x1 x2 (1 : Int32) T
def tX8_has (x1 : Int32) (x2 : Int32) (T : mT) (Q : Int32 → mT → Prop) : Prop :=
  t_putI T 0 (0 : Int32) (fun T =>
  tX8_noPlayer x1 T (fun v8 T =>
  ((¬ v8 = 0 →
  tX8_has_J21 Q x1 x2 T) ∧ (v8 = 0 →
  tX8_noKind x2 T (fun v15 T =>
  ((v15 = 0 →
  tX8_has_J26 Q x1 x2 (0 : Int32) T) ∧ (¬ v15 = 0 →
  tX8_has_J21 Q x1 x2 T)))))))
set_option maxHeartbeats 4000000 in
set_option maxRecDepth 100000 in
theorem rX8_has {S : qS} {mo : Nat} {ad : Nat → Nat} {T : mT} {x1 : Int32} {x2 : Int32} {Q : Int32 → mT → Prop} {post : Int32 → qS → Prop} {xp : String → qS → Prop} (hM : RM S mo ad T) (h : tX8_has x1 x2 T Q) (hp : ∀ (v : Int32) (T' : mT) (S' : qS), Q v T' → RM S' mo ad T' → mfr S S' → post v S') : pX8_has mo x1 x2 S post xp := by
  unfold tX8_has at h
  unfold pX8_has
  obtain ⟨S0, hS0⟩ : ∃ S0, S0 = S := ⟨_, rfl⟩
  rw [← hS0] at hp
  have hF : mfr S0 S := by rw [hS0]; exact mfr.rf
  clear hS0
  refine mp_I hM hF (by decide) h (fun T S h hM hF => ?_)
  refine mg_at hM ?_
  refine rX8_noPlayer hM h (fun v8 T S h hM hF1 => ?_)
  have hF := hF.tr hF1
  have jn26 : ∀ (x1 : Int32) (x2 : Int32) (t1 : Int32) (T : mT) (S : qS), tX8_has_J26 Q x1 x2 t1 T → RM S mo ad T → mfr S0 S → pX8_has_J26 post xp (some mo) x1 x2 (some mo) t1 S := by
    intro x1 x2 t1 T S h hM hF
    unfold tX8_has_J26 at h
    unfold pX8_has_J26
    refine mg_at hM ?_
    refine rX8_throwsIf hM h (fun v27 T S h hM hF1 => ?_)
    have hF := hF.tr hF1
    have jn47 : ∀ (t0 : Int32) (T : mT) (S : qS), tX8_has_J47 Q t0 T → RM S mo ad T → mfr S0 S → pX8_has_J47 post xp t0 S := by
      intro t0 T S h hM hF
      unfold tX8_has_J47 at h
      unfold pX8_has_J47
      exact hp _ _ _ h hM hF
    refine ⟨fun c30 => ?_, fun c30 => ?_⟩
    · have h := h.1 c30
      refine mg_R hM (k := 2) (by decide) ?_
      refine ml_I hM (by decide) h (fun v46 h => ?_)
      exact jn47 _ _ _ h hM hF
    · have h := h.2 c30
      exact jn47 _ _ _ h hM hF
  have jn21 : ∀ (x1 : Int32) (x2 : Int32) (T : mT) (S : qS), tX8_has_J21 Q x1 x2 T → RM S mo ad T → mfr S0 S → pX8_has_J21 post xp (some mo) x1 x2 (some mo) S := by
    intro x1 x2 T S h hM hF
    unfold tX8_has_J21 at h
    unfold pX8_has_J21
    exact jn26 _ _ _ _ _ h hM hF
  refine ⟨fun c11 => ?_, fun c11 => ?_⟩
  · have h := h.1 c11
    exact jn21 _ _ _ _ h hM hF
  · have h := h.2 c11
    refine rX8_noKind hM h (fun v15 T S h hM hF1 => ?_)
    have hF := hF.tr hF1
    refine ⟨fun c18 => ?_, fun c18 => ?_⟩
    · have h := h.1 c18
      exact jn26 _ _ _ _ _ h hM hF
    · have h := h.2 c18
      exact jn21 _ _ _ _ h hM hF

def tX8_sum_J40  (Q : Int64 → mT → Prop) (t0 : Int64) (T : mT) : Prop :=
  Q t0 T
def tX8_sum (x1 : Int32) (x2 : Int32) (T : mT) (Q : Int64 → mT → Prop) : Prop :=
  t_putI T 0 (0 : Int32) (fun T =>
  tX8_noKind x1 T (fun v7 T =>
  tX8_throwsIf v7 (1 : Int32) T (fun v11 T =>
  ((v11 = 0 →
  ((x2 = 0 →
  t_ldJ T 13 x1 (fun v39 =>
  tX8_sum_J40 Q v39 T)) ∧ (¬ x2 = 0 →
  t_ldJ T 14 x1 (fun v30 =>
  tX8_sum_J40 Q v30 T)))) ∧ (¬ v11 = 0 →
  tX8_sum_J40 Q (0 : Int64) T)))))
set_option maxHeartbeats 4000000 in
set_option maxRecDepth 100000 in
theorem rX8_sum {S : qS} {mo : Nat} {ad : Nat → Nat} {T : mT} {x1 : Int32} {x2 : Int32} {Q : Int64 → mT → Prop} {post : Int64 → qS → Prop} {xp : String → qS → Prop} (hM : RM S mo ad T) (h : tX8_sum x1 x2 T Q) (hp : ∀ (v : Int64) (T' : mT) (S' : qS), Q v T' → RM S' mo ad T' → mfr S S' → post v S') : pX8_sum mo x1 x2 S post xp := by
  unfold tX8_sum at h
  unfold pX8_sum
  obtain ⟨S0, hS0⟩ : ∃ S0, S0 = S := ⟨_, rfl⟩
  rw [← hS0] at hp
  have hF : mfr S0 S := by rw [hS0]; exact mfr.rf
  clear hS0
  refine mp_I hM hF (by decide) h (fun T S h hM hF => ?_)
  refine rX8_noKind hM h (fun v7 T S h hM hF1 => ?_)
  have hF := hF.tr hF1
  refine mg_at hM ?_
  refine rX8_throwsIf hM h (fun v11 T S h hM hF1 => ?_)
  have hF := hF.tr hF1
  have jn40 : ∀ (t0 : Int64) (T : mT) (S : qS), tX8_sum_J40 Q t0 T → RM S mo ad T → mfr S0 S → pX8_sum_J40 post xp t0 S := by
    intro t0 T S h hM hF
    unfold tX8_sum_J40 at h
    unfold pX8_sum_J40
    exact hp _ _ _ h hM hF
  refine ⟨fun c14 => ?_, fun c14 => ?_⟩
  · have h := h.1 c14
    refine ⟨fun c22 => ?_, fun c22 => ?_⟩
    · have h := h.1 c22
      refine mg_R hM (k := 13) (by decide) ?_
      refine ml_J hM (by decide) h (fun v39 h => ?_)
      exact jn40 _ _ _ h hM hF
    · have h := h.2 c22
      refine mg_R hM (k := 14) (by decide) ?_
      refine ml_J hM (by decide) h (fun v30 h => ?_)
      exact jn40 _ _ _ h hM hF
  · have h := h.2 c14
    exact jn40 _ _ _ h hM hF

def tX8_isWithin_J35  (Q : Int32 → mT → Prop) (t0 : Int32) (T : mT) : Prop :=
  ((t0 = 0 ∨ t0 = 1) ∧ Q t0 T)
def tX8_isWithin_J26  (Q : Int32 → mT → Prop) (x3 : Int32) (T : mT) : Prop :=
  ((x3 < 0 →
  tX8_isWithin_J35 Q (0 : Int32) T) ∧ (¬ x3 < 0 →
  tX8_isWithin_J35 Q (1 : Int32) T))
def tX8_isWithin_L7 (k26 : Int32 → mT → Prop) (Q : Int32 → mT → Prop) : Nat → Int32 → Int32 → mT → Prop
  | 0, _, _, _ => False
  | n7 + 1, x2, x3, T =>
  ((x3 < 0 →
  k26 x3 T) ∧ (¬ x3 < 0 →
  ((x3 = x2 →
  k26 x3 T) ∧ (¬ x3 = x2 →
  t_ldI T 18 x3 (fun v21 =>
  (tX8_isWithin_L7 k26 Q n7) x2 v21 T)))))
def tX8_isWithin (x1 : Int32) (x2 : Int32) (T : mT) (Q : Int32 → mT → Prop) : Prop :=
  t_ldI T 18 x1 (fun v5 =>
  ∃ n7, tX8_isWithin_L7 (tX8_isWithin_J26 Q) Q n7 x2 v5 T)
set_option maxHeartbeats 4000000 in
set_option maxRecDepth 100000 in
theorem rX8_isWithin {S : qS} {mo : Nat} {ad : Nat → Nat} {T : mT} {x1 : Int32} {x2 : Int32} {Q : Int32 → mT → Prop} {post : Int32 → qS → Prop} {xp : String → qS → Prop} (hM : RM S mo ad T) (h : tX8_isWithin x1 x2 T Q) (hp : ∀ (v : Int32) (T' : mT) (S' : qS), Q v T' → RM S' mo ad T' → mfr S S' → post v S') : pX8_isWithin mo x1 x2 S post xp := by
  unfold tX8_isWithin at h
  unfold pX8_isWithin
  obtain ⟨S0, hS0⟩ : ∃ S0, S0 = S := ⟨_, rfl⟩
  rw [← hS0] at hp
  have hF : mfr S0 S := by rw [hS0]; exact mfr.rf
  clear hS0
  refine mg_R hM (k := 18) (by decide) ?_
  refine ml_I hM (by decide) h (fun v5 h => ?_)
  have jn26 : ∀ (x3 : Int32) (T : mT) (S : qS), tX8_isWithin_J26 Q x3 T → RM S mo ad T → mfr S0 S → pX8_isWithin_J26 post xp x3 S := by
    intro x3 T S h hM hF
    unfold tX8_isWithin_J26 at h
    unfold pX8_isWithin_J26
    have jn35 : ∀ (t0 : Int32) (T : mT) (S : qS), tX8_isWithin_J35 Q t0 T → RM S mo ad T → mfr S0 S → pX8_isWithin_J35 post xp t0 S := by
      intro t0 T S h hM hF
      unfold tX8_isWithin_J35 at h
      unfold pX8_isWithin_J35
      exact ⟨h.1, hp _ _ _ h.2 hM hF⟩
    refine ⟨fun c27 => ?_, fun c27 => ?_⟩
    · have h := h.1 c27
      exact jn35 _ _ _ h hM hF
    · have h := h.2 c27
      exact jn35 _ _ _ h hM hF
  obtain ⟨n7, h⟩ := h
  refine ⟨n7, ?_⟩
  have lp7 : ∀ (n7 : Nat) (x2 : Int32) (x3 : Int32) (T : mT) (S : qS), tX8_isWithin_L7 (tX8_isWithin_J26 Q) Q n7 x2 x3 T → RM S mo ad T → mfr S0 S → pX8_isWithin_L7 (pX8_isWithin_J26 post xp) post xp n7 (some mo) x2 x3 S := by
    intro n7
    induction n7 with
    | zero => intro x2 x3 T S h hM hF; exact h.elim
    | succ n7 ih7 =>
      intro x2 x3 T S h hM hF
      unfold tX8_isWithin_L7 at h
      unfold pX8_isWithin_L7
      refine ⟨fun c8 => ?_, fun c8 => ?_⟩
      · have h := h.1 c8
        exact jn26 _ _ _ h hM hF
      · have h := h.2 c8
        refine ⟨fun c13 => ?_, fun c13 => ?_⟩
        · have h := h.1 c13
          exact jn26 _ _ _ h hM hF
        · have h := h.2 c13
          refine mg_R hM (k := 18) (by decide) ?_
          refine ml_I hM (by decide) h (fun v21 h => ?_)
          exact ih7 _ _ _ _ h hM hF
  exact lp7 n7 _ _ _ _ h hM hF

def tX8_right_J28 (k4 : Int32 → Int32 → Int32 → mT → Prop) (Q : Int32 → mT → Prop) (x1 : Int32) (x3 : Int32) (t0 : Int32) (t1 : Int32) (T : mT) : Prop :=
  k4 x1 (t0 + t1) (x3 + 1) T
def tX8_right_L4  (Q : Int32 → mT → Prop) : Nat → Int32 → Int32 → Int32 → mT → Prop
  | 0, _, _, _, _ => False
  | n4 + 1, x1, x2, x3, T =>
  t_getI T 25 (fun v6 =>
  ((v6 ≤ x3 →
  Q x2 T) ∧ (¬ v6 ≤ x3 →
  t_ldI T 18 x3 (fun v18 =>
  ((¬ v18 = x1 →
  tX8_right_J28 (tX8_right_L4 Q n4) Q x1 x3 x2 (0 : Int32) T) ∧ (v18 = x1 →
  tX8_right_J28 (tX8_right_L4 Q n4) Q x1 x3 x2 (1 : Int32) T))))))
def tX8_right (x1 : Int32) (T : mT) (Q : Int32 → mT → Prop) : Prop :=
  ∃ n4, tX8_right_L4 Q n4 x1 (0 : Int32) (0 : Int32) T
set_option maxHeartbeats 4000000 in
set_option maxRecDepth 100000 in
theorem rX8_right {S : qS} {mo : Nat} {ad : Nat → Nat} {T : mT} {x1 : Int32} {Q : Int32 → mT → Prop} {post : Int32 → qS → Prop} {xp : String → qS → Prop} (hM : RM S mo ad T) (h : tX8_right x1 T Q) (hp : ∀ (v : Int32) (T' : mT) (S' : qS), Q v T' → RM S' mo ad T' → mfr S S' → post v S') : pX8_right mo x1 S post xp := by
  unfold tX8_right at h
  unfold pX8_right
  obtain ⟨S0, hS0⟩ : ∃ S0, S0 = S := ⟨_, rfl⟩
  rw [← hS0] at hp
  have hF : mfr S0 S := by rw [hS0]; exact mfr.rf
  clear hS0
  obtain ⟨n4, h⟩ := h
  refine ⟨n4, ?_⟩
  have lp4 : ∀ (n4 : Nat) (x1 : Int32) (x2 : Int32) (x3 : Int32) (T : mT) (S : qS), tX8_right_L4 Q n4 x1 x2 x3 T → RM S mo ad T → mfr S0 S → pX8_right_L4 post xp n4 (some mo) x1 x2 x3 S := by
    intro n4
    induction n4 with
    | zero => intro x1 x2 x3 T S h hM hF; exact h.elim
    | succ n4 ih4 =>
      intro x1 x2 x3 T S h hM hF
      unfold tX8_right_L4 at h
      unfold pX8_right_L4
      refine mg_I hM (by decide) h (fun v6 h => ?_)
      refine ⟨fun c9 => ?_, fun c9 => ?_⟩
      · have h := h.1 c9
        exact hp _ _ _ h hM hF
      · have h := h.2 c9
        refine mg_R hM (k := 18) (by decide) ?_
        refine ml_I hM (by decide) h (fun v18 h => ?_)
        have jn28 : ∀ (x1 : Int32) (x3 : Int32) (t0 : Int32) (t1 : Int32) (T : mT) (S : qS), tX8_right_J28 (tX8_right_L4 Q n4) Q x1 x3 t0 t1 T → RM S mo ad T → mfr S0 S → pX8_right_J28 (pX8_right_L4 post xp n4) post xp (some mo) x1 x3 t0 t1 S := by
          intro x1 x3 t0 t1 T S h hM hF
          unfold tX8_right_J28 at h
          unfold pX8_right_J28
          exact ih4 _ _ _ _ _ h hM hF
        refine ⟨fun c20 => ?_, fun c20 => ?_⟩
        · have h := h.1 c20
          exact jn28 _ _ _ _ _ _ h hM hF
        · have h := h.2 c20
          exact jn28 _ _ _ _ _ _ h hM hF
  exact lp4 n4 _ _ _ _ _ h hM hF

def tX8_isBroken_J14  (Q : Int32 → mT → Prop) (t0 : Int32) (T : mT) : Prop :=
  ((t0 = 0 ∨ t0 = 1) ∧ Q t0 T)
def tX8_isBroken (x1 : Int32) (T : mT) (Q : Int32 → mT → Prop) : Prop :=
  t_ldI T 19 x1 (fun v5 =>
  ((0 ≤ v5 →
  tX8_isBroken_J14 Q (0 : Int32) T) ∧ (¬ 0 ≤ v5 →
  tX8_isBroken_J14 Q (1 : Int32) T)))
set_option maxHeartbeats 4000000 in
set_option maxRecDepth 100000 in
theorem rX8_isBroken {S : qS} {mo : Nat} {ad : Nat → Nat} {T : mT} {x1 : Int32} {Q : Int32 → mT → Prop} {post : Int32 → qS → Prop} {xp : String → qS → Prop} (hM : RM S mo ad T) (h : tX8_isBroken x1 T Q) (hp : ∀ (v : Int32) (T' : mT) (S' : qS), Q v T' → RM S' mo ad T' → mfr S S' → post v S') : pX8_isBroken mo x1 S post xp := by
  unfold tX8_isBroken at h
  unfold pX8_isBroken
  obtain ⟨S0, hS0⟩ : ∃ S0, S0 = S := ⟨_, rfl⟩
  rw [← hS0] at hp
  have hF : mfr S0 S := by rw [hS0]; exact mfr.rf
  clear hS0
  refine mg_R hM (k := 19) (by decide) ?_
  refine ml_I hM (by decide) h (fun v5 h => ?_)
  have jn14 : ∀ (t0 : Int32) (T : mT) (S : qS), tX8_isBroken_J14 Q t0 T → RM S mo ad T → mfr S0 S → pX8_isBroken_J14 post xp t0 S := by
    intro t0 T S h hM hF
    unfold tX8_isBroken_J14 at h
    unfold pX8_isBroken_J14
    exact ⟨h.1, hp _ _ _ h.2 hM hF⟩
  refine ⟨fun c6 => ?_, fun c6 => ?_⟩
  · have h := h.1 c6
    exact jn14 _ _ _ h hM hF
  · have h := h.2 c6
    exact jn14 _ _ _ h hM hF

def tX8_isLent_J14  (Q : Int32 → mT → Prop) (t0 : Int32) (T : mT) : Prop :=
  ((t0 = 0 ∨ t0 = 1) ∧ Q t0 T)
def tX8_isLent (x1 : Int32) (T : mT) (Q : Int32 → mT → Prop) : Prop :=
  t_ldI T 20 x1 (fun v5 =>
  ((v5 < 0 →
  tX8_isLent_J14 Q (0 : Int32) T) ∧ (¬ v5 < 0 →
  tX8_isLent_J14 Q (1 : Int32) T)))
set_option maxHeartbeats 4000000 in
set_option maxRecDepth 100000 in
theorem rX8_isLent {S : qS} {mo : Nat} {ad : Nat → Nat} {T : mT} {x1 : Int32} {Q : Int32 → mT → Prop} {post : Int32 → qS → Prop} {xp : String → qS → Prop} (hM : RM S mo ad T) (h : tX8_isLent x1 T Q) (hp : ∀ (v : Int32) (T' : mT) (S' : qS), Q v T' → RM S' mo ad T' → mfr S S' → post v S') : pX8_isLent mo x1 S post xp := by
  unfold tX8_isLent at h
  unfold pX8_isLent
  obtain ⟨S0, hS0⟩ : ∃ S0, S0 = S := ⟨_, rfl⟩
  rw [← hS0] at hp
  have hF : mfr S0 S := by rw [hS0]; exact mfr.rf
  clear hS0
  refine mg_R hM (k := 20) (by decide) ?_
  refine ml_I hM (by decide) h (fun v5 h => ?_)
  have jn14 : ∀ (t0 : Int32) (T : mT) (S : qS), tX8_isLent_J14 Q t0 T → RM S mo ad T → mfr S0 S → pX8_isLent_J14 post xp t0 S := by
    intro t0 T S h hM hF
    unfold tX8_isLent_J14 at h
    unfold pX8_isLent_J14
    exact ⟨h.1, hp _ _ _ h.2 hM hF⟩
  refine ⟨fun c6 => ?_, fun c6 => ?_⟩
  · have h := h.1 c6
    exact jn14 _ _ _ h hM hF
  · have h := h.2 c6
    exact jn14 _ _ _ h hM hF

def tX8_lines_J48  (Q : mT → Prop) (x1 : Int32) (T : mT) : Prop :=
  t_ldI T 24 x1 (fun v54 =>
  t_stI T 24 x1 (v54 + (1 : Int32)) (fun T =>
  Q T))
def tX8_lines (x1 : Int32) (x2 : Int32) (T : mT) (Q : mT → Prop) : Prop :=
  t_ldI T 24 x1 (fun v5 =>
  (((30 : Int32) ≤ v5 →
  tX8_lines_J48 Q x1 T) ∧ (¬ (30 : Int32) ≤ v5 →
  t_ldI T 24 x1 (fun v24 =>
  t_stI T 22 (((30 : Int32) * x1) + v24) x2 (fun T =>
  t_ldI T 24 x1 (fun v41 =>
  t_getI T 1 (fun v44 =>
  t_stI T 23 (((30 : Int32) * x1) + v41) v44 (fun T =>
  tX8_lines_J48 Q x1 T))))))))
set_option maxHeartbeats 4000000 in
set_option maxRecDepth 100000 in
theorem rX8_lines {S : qS} {mo : Nat} {ad : Nat → Nat} {T : mT} {x1 : Int32} {x2 : Int32} {Q : mT → Prop} {post : qS → Prop} {xp : String → qS → Prop} (hM : RM S mo ad T) (h : tX8_lines x1 x2 T Q) (hp : ∀ (T' : mT) (S' : qS), Q T' → RM S' mo ad T' → mfr S S' → post S') : pX8_lines mo x1 x2 S post xp := by
  unfold tX8_lines at h
  unfold pX8_lines
  obtain ⟨S0, hS0⟩ : ∃ S0, S0 = S := ⟨_, rfl⟩
  rw [← hS0] at hp
  have hF : mfr S0 S := by rw [hS0]; exact mfr.rf
  clear hS0
  refine mg_R hM (k := 24) (by decide) ?_
  refine ml_I hM (by decide) h (fun v5 h => ?_)
  have jn48 : ∀ (x1 : Int32) (T : mT) (S : qS), tX8_lines_J48 Q x1 T → RM S mo ad T → mfr S0 S → pX8_lines_J48 post xp (some mo) x1 S := by
    intro x1 T S h hM hF
    unfold tX8_lines_J48 at h
    unfold pX8_lines_J48
    refine mg_R hM (k := 24) (by decide) ?_
    refine ml_I hM (by decide) h (fun v54 h => ?_)
    refine ms_I hM hF (by decide) h (fun T S h hM hF => ?_)
    exact hp _ _ h hM hF
  refine ⟨fun c8 => ?_, fun c8 => ?_⟩
  · have h := h.1 c8
    exact jn48 _ _ _ h hM hF
  · have h := h.2 c8
    refine mg_R hM (k := 22) (by decide) ?_
    refine mg_R hM (k := 24) (by decide) ?_
    refine ml_I hM (by decide) h (fun v24 h => ?_)
    refine ms_I hM hF (by decide) h (fun T S h hM hF => ?_)
    refine mg_R hM (k := 23) (by decide) ?_
    refine mg_R hM (k := 24) (by decide) ?_
    refine ml_I hM (by decide) h (fun v41 h => ?_)
    refine mg_I hM (by decide) h (fun v44 h => ?_)
    refine ms_I hM hF (by decide) h (fun T S h hM hF => ?_)
    exact jn48 _ _ _ h hM hF

def tX8_single_J65  (Q : Int32 → mT → Prop)  (T : mT) : Prop :=
  Q (0 : Int32) T
def tX8_single_J58  (Q : Int32 → mT → Prop) (x1 : Int32) (x2 : Int32) (x3 : Int32) (t1 : Int32) (T : mT) : Prop :=
  tX8_throwsIf t1 (3 : Int32) T (fun v59 T =>
  ((v59 = 0 →
  t_getI T 25 (fun v68 =>
  t_getI T 25 (fun v75 =>
  t_putI T 25 (v75 + (1 : Int32)) (fun T =>
  t_stZ T 16 v68 x2 (fun T =>
  t_stI T 17 v68 x3 (fun T =>
  t_stI T 18 v68 (-1 : Int32) (fun T =>
  t_stI T 19 v68 x1 (fun T =>
  t_stI T 20 v68 (-1 : Int32) (fun T =>
  t_stI T 21 v68 (-1 : Int32) (fun T =>
  tX8_lines v68 x1 T (fun T =>
  Q v68 T))))))))))) ∧ (¬ v59 = 0 →
  tX8_single_J65 Q T)))
def tX8_single_J36  (Q : Int32 → mT → Prop) (x1 : Int32) (x2 : Int32) (x3 : Int32) (t1 : Int32) (T : mT) : Prop :=
  tX8_throwsIf t1 (2 : Int32) T (fun v37 T =>
  ((¬ v37 = 0 →
  tX8_single_J65 Q T) ∧ (v37 = 0 →
  t_getI T 25 (fun v45 =>
  ((¬ v45 = (40 : Int32) →
  tX8_single_J58 Q x1 x2 x3 (0 : Int32) T) ∧ (v45 = (40 : Int32) →
  tX8_single_J58 Q x1 x2 x3 (1 : Int32) T))))))
def tX8_single (x1 : Int32) (x2 : Int32) (x3 : Int32) (T : mT) (Q : Int32 → mT → Prop) : Prop :=
  t_putI T 0 (0 : Int32) (fun T =>
  tX8_noPlayer x1 T (fun v8 T =>
  tX8_throwsIf v8 (1 : Int32) T (fun v12 T =>
  ((¬ v12 = 0 →
  tX8_single_J65 Q T) ∧ (v12 = 0 →
  tX8_in x3.toInt64 (0 : Int64) (8 : Int64) T (fun v25 T =>
  ((¬ v25 = 0 →
  tX8_single_J36 Q x1 x2 x3 (0 : Int32) T) ∧ (v25 = 0 →
  tX8_single_J36 Q x1 x2 x3 (1 : Int32) T))))))))
set_option maxHeartbeats 4000000 in
set_option maxRecDepth 100000 in
theorem rX8_single {S : qS} {mo : Nat} {ad : Nat → Nat} {T : mT} {x1 : Int32} {x2 : Int32} {x3 : Int32} {Q : Int32 → mT → Prop} {post : Int32 → qS → Prop} {xp : String → qS → Prop} (hM : RM S mo ad T) (h : tX8_single x1 x2 x3 T Q) (hp : ∀ (v : Int32) (T' : mT) (S' : qS), Q v T' → RM S' mo ad T' → mfr S S' → post v S') : pX8_single mo x1 x2 x3 S post xp := by
  unfold tX8_single at h
  unfold pX8_single
  obtain ⟨S0, hS0⟩ : ∃ S0, S0 = S := ⟨_, rfl⟩
  rw [← hS0] at hp
  have hF : mfr S0 S := by rw [hS0]; exact mfr.rf
  clear hS0
  refine mp_I hM hF (by decide) h (fun T S h hM hF => ?_)
  refine mg_at hM ?_
  refine rX8_noPlayer hM h (fun v8 T S h hM hF1 => ?_)
  have hF := hF.tr hF1
  refine mg_at hM ?_
  refine rX8_throwsIf hM h (fun v12 T S h hM hF1 => ?_)
  have hF := hF.tr hF1
  have jn65 : ∀ (T : mT) (S : qS), tX8_single_J65 Q T → RM S mo ad T → mfr S0 S → pX8_single_J65 post xp S := by
    intro T S h hM hF
    unfold tX8_single_J65 at h
    unfold pX8_single_J65
    exact hp _ _ _ h hM hF
  refine ⟨fun c15 => ?_, fun c15 => ?_⟩
  · have h := h.1 c15
    exact jn65 _ _ h hM hF
  · have h := h.2 c15
    refine rX8_in hM h (fun v25 T S h hM hF1 => ?_)
    have hF := hF.tr hF1
    have jn36 : ∀ (x1 : Int32) (x2 : Int32) (x3 : Int32) (t1 : Int32) (T : mT) (S : qS), tX8_single_J36 Q x1 x2 x3 t1 T → RM S mo ad T → mfr S0 S → pX8_single_J36 post xp (some mo) x1 x2 x3 (some mo) t1 S := by
      intro x1 x2 x3 t1 T S h hM hF
      unfold tX8_single_J36 at h
      unfold pX8_single_J36
      refine mg_at hM ?_
      refine rX8_throwsIf hM h (fun v37 T S h hM hF1 => ?_)
      have hF := hF.tr hF1
      refine ⟨fun c40 => ?_, fun c40 => ?_⟩
      · have h := h.1 c40
        exact jn65 _ _ h hM hF
      · have h := h.2 c40
        refine mg_I hM (by decide) h (fun v45 h => ?_)
        have jn58 : ∀ (x1 : Int32) (x2 : Int32) (x3 : Int32) (t1 : Int32) (T : mT) (S : qS), tX8_single_J58 Q x1 x2 x3 t1 T → RM S mo ad T → mfr S0 S → pX8_single_J58 post xp (some mo) x1 x2 x3 (some mo) t1 S := by
          intro x1 x2 x3 t1 T S h hM hF
          unfold tX8_single_J58 at h
          unfold pX8_single_J58
          refine mg_at hM ?_
          refine rX8_throwsIf hM h (fun v59 T S h hM hF1 => ?_)
          have hF := hF.tr hF1
          refine ⟨fun c62 => ?_, fun c62 => ?_⟩
          · have h := h.1 c62
            refine mg_I hM (by decide) h (fun v68 h => ?_)
            refine mg_I hM (by decide) h (fun v75 h => ?_)
            refine mp_I hM hF (by decide) h (fun T S h hM hF => ?_)
            refine mg_R hM (k := 16) (by decide) ?_
            refine ms_Z hM hF (by decide) h (fun T S h hM hF => ?_)
            refine mg_R hM (k := 17) (by decide) ?_
            refine ms_I hM hF (by decide) h (fun T S h hM hF => ?_)
            refine mg_R hM (k := 18) (by decide) ?_
            refine ms_I hM hF (by decide) h (fun T S h hM hF => ?_)
            refine mg_R hM (k := 19) (by decide) ?_
            refine ms_I hM hF (by decide) h (fun T S h hM hF => ?_)
            refine mg_R hM (k := 20) (by decide) ?_
            refine ms_I hM hF (by decide) h (fun T S h hM hF => ?_)
            refine mg_R hM (k := 21) (by decide) ?_
            refine ms_I hM hF (by decide) h (fun T S h hM hF => ?_)
            refine mg_at hM ?_
            refine rX8_lines hM h (fun T S h hM hF1 => ?_)
            have hF := hF.tr hF1
            exact hp _ _ _ h hM hF
          · have h := h.2 c62
            exact jn65 _ _ h hM hF
        refine ⟨fun c50 => ?_, fun c50 => ?_⟩
        · have h := h.1 c50
          exact jn58 _ _ _ _ _ _ h hM hF
        · have h := h.2 c50
          exact jn58 _ _ _ _ _ _ h hM hF
    refine ⟨fun c28 => ?_, fun c28 => ?_⟩
    · have h := h.1 c28
      exact jn36 _ _ _ _ _ _ h hM hF
    · have h := h.2 c28
      exact jn36 _ _ _ _ _ _ h hM hF

def tX8_put_J96  (Q : Int32 → mT → Prop)  (T : mT) : Prop :=
  (((0 : Int32) = 0 ∨ (0 : Int32) = 1) ∧ Q (0 : Int32) T)
def tX8_put_J27  (Q : Int32 → mT → Prop) (x1 : Int32) (x2 : Int32) (t1 : Int32) (T : mT) : Prop :=
  tX8_throwsIf t1 (1 : Int32) T (fun v28 T =>
  ((v28 = 0 →
  tX8_isBroken x1 T (fun v38 T =>
  ((¬ v38 = 0 →
  tX8_put_J96 Q T) ∧ (v38 = 0 →
  t_ldI T 19 x1 (fun v49 =>
  t_ldI T 19 x2 (fun v55 =>
  ((¬ v49 = v55 →
  tX8_put_J96 Q T) ∧ (v49 = v55 →
  t_ldI T 18 x1 (fun v64 =>
  ((0 ≤ v64 →
  tX8_put_J96 Q T) ∧ (¬ 0 ≤ v64 →
  ((x1 = x2 →
  tX8_put_J96 Q T) ∧ (¬ x1 = x2 →
  tX8_isWithin x2 x1 T (fun v76 T =>
  ((¬ v76 = 0 →
  tX8_put_J96 Q T) ∧ (v76 = 0 →
  tX8_right x2 T (fun v84 T =>
  t_ldI T 17 x2 (fun v92 =>
  ((v84 < v92 →
  t_stI T 18 x1 x2 (fun T =>
  (((1 : Int32) = 0 ∨ (1 : Int32) = 1) ∧ Q (1 : Int32) T))) ∧ (¬ v84 < v92 →
  tX8_put_J96 Q T)))))))))))))))))))) ∧ (¬ v28 = 0 →
  (((0 : Int32) = 0 ∨ (0 : Int32) = 1) ∧ Q (0 : Int32) T))))
def tX8_put_J22  (Q : Int32 → mT → Prop) (x1 : Int32) (x2 : Int32) (T : mT) : Prop :=
  tX8_put_J27 Q x1 x2 (1 : Int32) T
def tX8_put (x1 : Int32) (x2 : Int32) (T : mT) (Q : Int32 → mT → Prop) : Prop :=
  t_putI T 0 (0 : Int32) (fun T =>
  tX8_noSingle x1 T (fun v8 T =>
  ((¬ v8 = 0 →
  tX8_put_J22 Q x1 x2 T) ∧ (v8 = 0 →
  tX8_noSingle x2 T (fun v16 T =>
  ((v16 = 0 →
  tX8_put_J27 Q x1 x2 (0 : Int32) T) ∧ (¬ v16 = 0 →
  tX8_put_J22 Q x1 x2 T)))))))
set_option maxHeartbeats 4000000 in
set_option maxRecDepth 100000 in
theorem rX8_put {S : qS} {mo : Nat} {ad : Nat → Nat} {T : mT} {x1 : Int32} {x2 : Int32} {Q : Int32 → mT → Prop} {post : Int32 → qS → Prop} {xp : String → qS → Prop} (hM : RM S mo ad T) (h : tX8_put x1 x2 T Q) (hp : ∀ (v : Int32) (T' : mT) (S' : qS), Q v T' → RM S' mo ad T' → mfr S S' → post v S') : pX8_put mo x1 x2 S post xp := by
  unfold tX8_put at h
  unfold pX8_put
  obtain ⟨S0, hS0⟩ : ∃ S0, S0 = S := ⟨_, rfl⟩
  rw [← hS0] at hp
  have hF : mfr S0 S := by rw [hS0]; exact mfr.rf
  clear hS0
  refine mp_I hM hF (by decide) h (fun T S h hM hF => ?_)
  refine mg_at hM ?_
  refine rX8_noSingle hM h (fun v8 T S h hM hF1 => ?_)
  have hF := hF.tr hF1
  have jn27 : ∀ (x1 : Int32) (x2 : Int32) (t1 : Int32) (T : mT) (S : qS), tX8_put_J27 Q x1 x2 t1 T → RM S mo ad T → mfr S0 S → pX8_put_J27 post xp (some mo) x1 x2 (some mo) t1 S := by
    intro x1 x2 t1 T S h hM hF
    unfold tX8_put_J27 at h
    unfold pX8_put_J27
    refine mg_at hM ?_
    refine rX8_throwsIf hM h (fun v28 T S h hM hF1 => ?_)
    have hF := hF.tr hF1
    refine ⟨fun c31 => ?_, fun c31 => ?_⟩
    · have h := h.1 c31
      refine mg_at hM ?_
      refine rX8_isBroken hM h (fun v38 T S h hM hF1 => ?_)
      have hF := hF.tr hF1
      have jn96 : ∀ (T : mT) (S : qS), tX8_put_J96 Q T → RM S mo ad T → mfr S0 S → pX8_put_J96 post xp S := by
        intro T S h hM hF
        unfold tX8_put_J96 at h
        unfold pX8_put_J96
        exact ⟨h.1, hp _ _ _ h.2 hM hF⟩
      refine ⟨fun c41 => ?_, fun c41 => ?_⟩
      · have h := h.1 c41
        exact jn96 _ _ h hM hF
      · have h := h.2 c41
        refine mg_R hM (k := 19) (by decide) ?_
        refine ml_I hM (by decide) h (fun v49 h => ?_)
        refine mg_R hM (k := 19) (by decide) ?_
        refine ml_I hM (by decide) h (fun v55 h => ?_)
        refine ⟨fun c56 => ?_, fun c56 => ?_⟩
        · have h := h.1 c56
          exact jn96 _ _ h hM hF
        · have h := h.2 c56
          refine mg_R hM (k := 18) (by decide) ?_
          refine ml_I hM (by decide) h (fun v64 h => ?_)
          refine ⟨fun c65 => ?_, fun c65 => ?_⟩
          · have h := h.1 c65
            exact jn96 _ _ h hM hF
          · have h := h.2 c65
            refine ⟨fun c70 => ?_, fun c70 => ?_⟩
            · have h := h.1 c70
              exact jn96 _ _ h hM hF
            · have h := h.2 c70
              refine mg_at hM ?_
              refine rX8_isWithin hM h (fun v76 T S h hM hF1 => ?_)
              have hF := hF.tr hF1
              refine ⟨fun c79 => ?_, fun c79 => ?_⟩
              · have h := h.1 c79
                exact jn96 _ _ h hM hF
              · have h := h.2 c79
                refine mg_at hM ?_
                refine rX8_right hM h (fun v84 T S h hM hF1 => ?_)
                have hF := hF.tr hF1
                refine mg_R hM (k := 17) (by decide) ?_
                refine ml_I hM (by decide) h (fun v92 h => ?_)
                refine ⟨fun c93 => ?_, fun c93 => ?_⟩
                · have h := h.1 c93
                  refine mg_R hM (k := 18) (by decide) ?_
                  refine ms_I hM hF (by decide) h (fun T S h hM hF => ?_)
                  exact ⟨h.1, hp _ _ _ h.2 hM hF⟩
                · have h := h.2 c93
                  exact jn96 _ _ h hM hF
    · have h := h.2 c31
      exact ⟨h.1, hp _ _ _ h.2 hM hF⟩
  have jn22 : ∀ (x1 : Int32) (x2 : Int32) (T : mT) (S : qS), tX8_put_J22 Q x1 x2 T → RM S mo ad T → mfr S0 S → pX8_put_J22 post xp (some mo) x1 x2 (some mo) S := by
    intro x1 x2 T S h hM hF
    unfold tX8_put_J22 at h
    unfold pX8_put_J22
    exact jn27 _ _ _ _ _ h hM hF
  refine ⟨fun c11 => ?_, fun c11 => ?_⟩
  · have h := h.1 c11
    exact jn22 _ _ _ _ h hM hF
  · have h := h.2 c11
    refine mg_at hM ?_
    refine rX8_noSingle hM h (fun v16 T S h hM hF1 => ?_)
    have hF := hF.tr hF1
    refine ⟨fun c19 => ?_, fun c19 => ?_⟩
    · have h := h.1 c19
      exact jn27 _ _ _ _ _ h hM hF
    · have h := h.2 c19
      exact jn22 _ _ _ _ h hM hF

def tX8_take_J27  (Q : Int32 → mT → Prop)  (T : mT) : Prop :=
  (((0 : Int32) = 0 ∨ (0 : Int32) = 1) ∧ Q (0 : Int32) T)
def tX8_take (x1 : Int32) (T : mT) (Q : Int32 → mT → Prop) : Prop :=
  t_putI T 0 (0 : Int32) (fun T =>
  tX8_noSingle x1 T (fun v8 T =>
  tX8_throwsIf v8 (1 : Int32) T (fun v12 T =>
  ((¬ v12 = 0 →
  tX8_take_J27 Q T) ∧ (v12 = 0 →
  t_ldI T 18 x1 (fun v23 =>
  ((0 ≤ v23 →
  t_stI T 18 x1 (-1 : Int32) (fun T =>
  (((1 : Int32) = 0 ∨ (1 : Int32) = 1) ∧ Q (1 : Int32) T))) ∧ (¬ 0 ≤ v23 →
  tX8_take_J27 Q T))))))))
set_option maxHeartbeats 4000000 in
set_option maxRecDepth 100000 in
theorem rX8_take {S : qS} {mo : Nat} {ad : Nat → Nat} {T : mT} {x1 : Int32} {Q : Int32 → mT → Prop} {post : Int32 → qS → Prop} {xp : String → qS → Prop} (hM : RM S mo ad T) (h : tX8_take x1 T Q) (hp : ∀ (v : Int32) (T' : mT) (S' : qS), Q v T' → RM S' mo ad T' → mfr S S' → post v S') : pX8_take mo x1 S post xp := by
  unfold tX8_take at h
  unfold pX8_take
  obtain ⟨S0, hS0⟩ : ∃ S0, S0 = S := ⟨_, rfl⟩
  rw [← hS0] at hp
  have hF : mfr S0 S := by rw [hS0]; exact mfr.rf
  clear hS0
  refine mp_I hM hF (by decide) h (fun T S h hM hF => ?_)
  refine mg_at hM ?_
  refine rX8_noSingle hM h (fun v8 T S h hM hF1 => ?_)
  have hF := hF.tr hF1
  refine mg_at hM ?_
  refine rX8_throwsIf hM h (fun v12 T S h hM hF1 => ?_)
  have hF := hF.tr hF1
  have jn27 : ∀ (T : mT) (S : qS), tX8_take_J27 Q T → RM S mo ad T → mfr S0 S → pX8_take_J27 post xp S := by
    intro T S h hM hF
    unfold tX8_take_J27 at h
    unfold pX8_take_J27
    exact ⟨h.1, hp _ _ _ h.2 hM hF⟩
  refine ⟨fun c15 => ?_, fun c15 => ?_⟩
  · have h := h.1 c15
    exact jn27 _ _ h hM hF
  · have h := h.2 c15
    refine mg_R hM (k := 18) (by decide) ?_
    refine ml_I hM (by decide) h (fun v23 h => ?_)
    refine ⟨fun c24 => ?_, fun c24 => ?_⟩
    · have h := h.1 c24
      refine mg_R hM (k := 18) (by decide) ?_
      refine ms_I hM hF (by decide) h (fun T S h hM hF => ?_)
      exact ⟨h.1, hp _ _ _ h.2 hM hF⟩
    · have h := h.2 c24
      exact jn27 _ _ h hM hF

def tX8_mayGo_J17  (Q : Int32 → mT → Prop)  (T : mT) : Prop :=
  (((0 : Int32) = 0 ∨ (0 : Int32) = 1) ∧ Q (0 : Int32) T)
def tX8_mayGo_J72 (k23 : Int32 → Int32 → Int32 → mT → Prop) (Q : Int32 → mT → Prop) (x1 : Int32) (x2 : Int32) (x3 : Int32) (T : mT) : Prop :=
  k23 x1 x2 (x3 + 1) T
def tX8_mayGo_J71 (k23 : Int32 → Int32 → Int32 → mT → Prop) (Q : Int32 → mT → Prop) (x1 : Int32) (x3 : Int32) (t0 : Int32) (T : mT) : Prop :=
  tX8_mayGo_J72 k23 Q x1 t0 x3 T
def tX8_mayGo_J70 (k23 : Int32 → Int32 → Int32 → mT → Prop) (Q : Int32 → mT → Prop) (x1 : Int32) (x3 : Int32) (T : mT) : Prop :=
  tX8_mayGo_J71 k23 Q x1 x3 (0 : Int32) T
def tX8_mayGo_J45 (k23 : Int32 → Int32 → Int32 → mT → Prop) (Q : Int32 → mT → Prop) (x1 : Int32) (x2 : Int32) (x3 : Int32) (T : mT) : Prop :=
  ((x2 = 0 →
  tX8_mayGo_J70 k23 Q x1 x3 T) ∧ (¬ x2 = 0 →
  t_ldI T 16 x3 (fun v54 =>
  ((¬ v54 = 0 →
  tX8_mayGo_J70 k23 Q x1 x3 T) ∧ (v54 = 0 →
  tX8_isLent x3 T (fun v60 T =>
  ((¬ v60 = 0 →
  tX8_mayGo_J70 k23 Q x1 x3 T) ∧ (v60 = 0 →
  tX8_mayGo_J71 k23 Q x1 x3 (1 : Int32) T))))))))
def tX8_mayGo_L23  (Q : Int32 → mT → Prop) : Nat → Int32 → Int32 → Int32 → mT → Prop
  | 0, _, _, _, _ => False
  | n23 + 1, x1, x2, x3, T =>
  t_getI T 25 (fun v25 =>
  ((v25 ≤ x3 →
  ((x2 = 0 ∨ x2 = 1) ∧ Q x2 T)) ∧ (¬ v25 ≤ x3 →
  ((x3 = x1 →
  tX8_mayGo_J45 (tX8_mayGo_L23 Q n23) Q x1 x2 x3 T) ∧ (¬ x3 = x1 →
  tX8_isWithin x3 x1 T (fun v39 T =>
  ((v39 = 0 →
  tX8_mayGo_J72 (tX8_mayGo_L23 Q n23) Q x1 x2 x3 T) ∧ (¬ v39 = 0 →
  tX8_mayGo_J45 (tX8_mayGo_L23 Q n23) Q x1 x2 x3 T))))))))
def tX8_mayGo (x1 : Int32) (T : mT) (Q : Int32 → mT → Prop) : Prop :=
  tX8_isBroken x1 T (fun v2 T =>
  ((¬ v2 = 0 →
  tX8_mayGo_J17 Q T) ∧ (v2 = 0 →
  t_ldI T 18 x1 (fun v13 =>
  ((v13 < 0 →
  ∃ n23, tX8_mayGo_L23 Q n23 x1 (1 : Int32) (0 : Int32) T) ∧ (¬ v13 < 0 →
  tX8_mayGo_J17 Q T))))))
set_option maxHeartbeats 4000000 in
set_option maxRecDepth 100000 in
theorem rX8_mayGo {S : qS} {mo : Nat} {ad : Nat → Nat} {T : mT} {x1 : Int32} {Q : Int32 → mT → Prop} {post : Int32 → qS → Prop} {xp : String → qS → Prop} (hM : RM S mo ad T) (h : tX8_mayGo x1 T Q) (hp : ∀ (v : Int32) (T' : mT) (S' : qS), Q v T' → RM S' mo ad T' → mfr S S' → post v S') : pX8_mayGo mo x1 S post xp := by
  unfold tX8_mayGo at h
  unfold pX8_mayGo
  obtain ⟨S0, hS0⟩ : ∃ S0, S0 = S := ⟨_, rfl⟩
  rw [← hS0] at hp
  have hF : mfr S0 S := by rw [hS0]; exact mfr.rf
  clear hS0
  refine mg_at hM ?_
  refine rX8_isBroken hM h (fun v2 T S h hM hF1 => ?_)
  have hF := hF.tr hF1
  have jn17 : ∀ (T : mT) (S : qS), tX8_mayGo_J17 Q T → RM S mo ad T → mfr S0 S → pX8_mayGo_J17 post xp S := by
    intro T S h hM hF
    unfold tX8_mayGo_J17 at h
    unfold pX8_mayGo_J17
    exact ⟨h.1, hp _ _ _ h.2 hM hF⟩
  refine ⟨fun c5 => ?_, fun c5 => ?_⟩
  · have h := h.1 c5
    exact jn17 _ _ h hM hF
  · have h := h.2 c5
    refine mg_R hM (k := 18) (by decide) ?_
    refine ml_I hM (by decide) h (fun v13 h => ?_)
    refine ⟨fun c14 => ?_, fun c14 => ?_⟩
    · have h := h.1 c14
      obtain ⟨n23, h⟩ := h
      refine ⟨n23, ?_⟩
      have lp23 : ∀ (n23 : Nat) (x1 : Int32) (x2 : Int32) (x3 : Int32) (T : mT) (S : qS), tX8_mayGo_L23 Q n23 x1 x2 x3 T → RM S mo ad T → mfr S0 S → pX8_mayGo_L23 post xp n23 (some mo) x1 x2 x3 S := by
        intro n23
        induction n23 with
        | zero => intro x1 x2 x3 T S h hM hF; exact h.elim
        | succ n23 ih23 =>
          intro x1 x2 x3 T S h hM hF
          unfold tX8_mayGo_L23 at h
          unfold pX8_mayGo_L23
          refine mg_I hM (by decide) h (fun v25 h => ?_)
          refine ⟨fun c28 => ?_, fun c28 => ?_⟩
          · have h := h.1 c28
            exact ⟨h.1, hp _ _ _ h.2 hM hF⟩
          · have h := h.2 c28
            have jn72 : ∀ (x1 : Int32) (x2 : Int32) (x3 : Int32) (T : mT) (S : qS), tX8_mayGo_J72 (tX8_mayGo_L23 Q n23) Q x1 x2 x3 T → RM S mo ad T → mfr S0 S → pX8_mayGo_J72 (pX8_mayGo_L23 post xp n23) post xp (some mo) x1 x2 x3 S := by
              intro x1 x2 x3 T S h hM hF
              unfold tX8_mayGo_J72 at h
              unfold pX8_mayGo_J72
              exact ih23 _ _ _ _ _ h hM hF
            have jn45 : ∀ (x1 : Int32) (x2 : Int32) (x3 : Int32) (T : mT) (S : qS), tX8_mayGo_J45 (tX8_mayGo_L23 Q n23) Q x1 x2 x3 T → RM S mo ad T → mfr S0 S → pX8_mayGo_J45 (pX8_mayGo_L23 post xp n23) post xp (some mo) x1 x2 x3 S := by
              intro x1 x2 x3 T S h hM hF
              unfold tX8_mayGo_J45 at h
              unfold pX8_mayGo_J45
              have jn71 : ∀ (x1 : Int32) (x3 : Int32) (t0 : Int32) (T : mT) (S : qS), tX8_mayGo_J71 (tX8_mayGo_L23 Q n23) Q x1 x3 t0 T → RM S mo ad T → mfr S0 S → pX8_mayGo_J71 (pX8_mayGo_L23 post xp n23) post xp (some mo) x1 x3 t0 S := by
                intro x1 x3 t0 T S h hM hF
                unfold tX8_mayGo_J71 at h
                unfold pX8_mayGo_J71
                exact jn72 _ _ _ _ _ h hM hF
              have jn70 : ∀ (x1 : Int32) (x3 : Int32) (T : mT) (S : qS), tX8_mayGo_J70 (tX8_mayGo_L23 Q n23) Q x1 x3 T → RM S mo ad T → mfr S0 S → pX8_mayGo_J70 (pX8_mayGo_L23 post xp n23) post xp (some mo) x1 x3 S := by
                intro x1 x3 T S h hM hF
                unfold tX8_mayGo_J70 at h
                unfold pX8_mayGo_J70
                exact jn71 _ _ _ _ _ h hM hF
              refine ⟨fun c46 => ?_, fun c46 => ?_⟩
              · have h := h.1 c46
                exact jn70 _ _ _ _ h hM hF
              · have h := h.2 c46
                refine mg_R hM (k := 16) (by decide) ?_
                refine ml_I hM (by decide) h (fun v54 h => ?_)
                refine ⟨fun c55 => ?_, fun c55 => ?_⟩
                · have h := h.1 c55
                  exact jn70 _ _ _ _ h hM hF
                · have h := h.2 c55
                  refine mg_at hM ?_
                  refine rX8_isLent hM h (fun v60 T S h hM hF1 => ?_)
                  have hF := hF.tr hF1
                  refine ⟨fun c63 => ?_, fun c63 => ?_⟩
                  · have h := h.1 c63
                    exact jn70 _ _ _ _ h hM hF
                  · have h := h.2 c63
                    exact jn71 _ _ _ _ _ h hM hF
            refine ⟨fun c33 => ?_, fun c33 => ?_⟩
            · have h := h.1 c33
              exact jn45 _ _ _ _ _ h hM hF
            · have h := h.2 c33
              refine mg_at hM ?_
              refine rX8_isWithin hM h (fun v39 T S h hM hF1 => ?_)
              have hF := hF.tr hF1
              refine ⟨fun c42 => ?_, fun c42 => ?_⟩
              · have h := h.1 c42
                exact jn72 _ _ _ _ _ h hM hF
              · have h := h.2 c42
                exact jn45 _ _ _ _ _ h hM hF
      exact lp23 n23 _ _ _ _ _ h hM hF
    · have h := h.2 c14
      exact jn17 _ _ h hM hF

def tX8_goes_J40 (k2 : Int32 → Int32 → Int32 → mT → Prop) (Q : mT → Prop) (x1 : Int32) (x2 : Int32) (x3 : Int32) (T : mT) : Prop :=
  k2 x1 x2 (x3 + 1) T
def tX8_goes_J27 (k2 : Int32 → Int32 → Int32 → mT → Prop) (Q : mT → Prop) (x1 : Int32) (x2 : Int32) (x3 : Int32) (T : mT) : Prop :=
  t_stI T 19 x3 x2 (fun T =>
  tX8_lines x3 x2 T (fun T =>
  tX8_goes_J40 k2 Q x1 x2 x3 T))
def tX8_goes_L2  (Q : mT → Prop) : Nat → Int32 → Int32 → Int32 → mT → Prop
  | 0, _, _, _, _ => False
  | n2 + 1, x1, x2, x3, T =>
  t_getI T 25 (fun v4 =>
  ((v4 ≤ x3 →
  Q T) ∧ (¬ v4 ≤ x3 →
  ((x3 = x1 →
  tX8_goes_J27 (tX8_goes_L2 Q n2) Q x1 x2 x3 T) ∧ (¬ x3 = x1 →
  tX8_isWithin x3 x1 T (fun v18 T =>
  ((¬ v18 = 0 →
  tX8_goes_J27 (tX8_goes_L2 Q n2) Q x1 x2 x3 T) ∧ (v18 = 0 →
  tX8_goes_J40 (tX8_goes_L2 Q n2) Q x1 x2 x3 T))))))))
def tX8_goes (x1 : Int32) (x2 : Int32) (T : mT) (Q : mT → Prop) : Prop :=
  ∃ n2, tX8_goes_L2 Q n2 x1 x2 (0 : Int32) T
set_option maxHeartbeats 4000000 in
set_option maxRecDepth 100000 in
theorem rX8_goes {S : qS} {mo : Nat} {ad : Nat → Nat} {T : mT} {x1 : Int32} {x2 : Int32} {Q : mT → Prop} {post : qS → Prop} {xp : String → qS → Prop} (hM : RM S mo ad T) (h : tX8_goes x1 x2 T Q) (hp : ∀ (T' : mT) (S' : qS), Q T' → RM S' mo ad T' → mfr S S' → post S') : pX8_goes mo x1 x2 S post xp := by
  unfold tX8_goes at h
  unfold pX8_goes
  obtain ⟨S0, hS0⟩ : ∃ S0, S0 = S := ⟨_, rfl⟩
  rw [← hS0] at hp
  have hF : mfr S0 S := by rw [hS0]; exact mfr.rf
  clear hS0
  obtain ⟨n2, h⟩ := h
  refine ⟨n2, ?_⟩
  have lp2 : ∀ (n2 : Nat) (x1 : Int32) (x2 : Int32) (x3 : Int32) (T : mT) (S : qS), tX8_goes_L2 Q n2 x1 x2 x3 T → RM S mo ad T → mfr S0 S → pX8_goes_L2 post xp n2 (some mo) x1 x2 x3 S := by
    intro n2
    induction n2 with
    | zero => intro x1 x2 x3 T S h hM hF; exact h.elim
    | succ n2 ih2 =>
      intro x1 x2 x3 T S h hM hF
      unfold tX8_goes_L2 at h
      unfold pX8_goes_L2
      refine mg_I hM (by decide) h (fun v4 h => ?_)
      refine ⟨fun c7 => ?_, fun c7 => ?_⟩
      · have h := h.1 c7
        exact hp _ _ h hM hF
      · have h := h.2 c7
        have jn40 : ∀ (x1 : Int32) (x2 : Int32) (x3 : Int32) (T : mT) (S : qS), tX8_goes_J40 (tX8_goes_L2 Q n2) Q x1 x2 x3 T → RM S mo ad T → mfr S0 S → pX8_goes_J40 (pX8_goes_L2 post xp n2) post xp (some mo) x1 x2 x3 S := by
          intro x1 x2 x3 T S h hM hF
          unfold tX8_goes_J40 at h
          unfold pX8_goes_J40
          exact ih2 _ _ _ _ _ h hM hF
        have jn27 : ∀ (x1 : Int32) (x2 : Int32) (x3 : Int32) (T : mT) (S : qS), tX8_goes_J27 (tX8_goes_L2 Q n2) Q x1 x2 x3 T → RM S mo ad T → mfr S0 S → pX8_goes_J27 (pX8_goes_L2 post xp n2) post xp (some mo) x1 x2 x3 S := by
          intro x1 x2 x3 T S h hM hF
          unfold tX8_goes_J27 at h
          unfold pX8_goes_J27
          refine mg_R hM (k := 19) (by decide) ?_
          refine ms_I hM hF (by decide) h (fun T S h hM hF => ?_)
          refine mg_at hM ?_
          refine rX8_lines hM h (fun T S h hM hF1 => ?_)
          have hF := hF.tr hF1
          exact jn40 _ _ _ _ _ h hM hF
        refine ⟨fun c12 => ?_, fun c12 => ?_⟩
        · have h := h.1 c12
          exact jn27 _ _ _ _ _ h hM hF
        · have h := h.2 c12
          refine mg_at hM ?_
          refine rX8_isWithin hM h (fun v18 T S h hM hF1 => ?_)
          have hF := hF.tr hF1
          refine ⟨fun c21 => ?_, fun c21 => ?_⟩
          · have h := h.1 c21
            exact jn27 _ _ _ _ _ h hM hF
          · have h := h.2 c21
            exact jn40 _ _ _ _ _ h hM hF
  exact lp2 n2 _ _ _ _ _ h hM hF

def tX8_give_J52  (Q : Int32 → mT → Prop)  (T : mT) : Prop :=
  (((0 : Int32) = 0 ∨ (0 : Int32) = 1) ∧ Q (0 : Int32) T)
def tX8_give_J27  (Q : Int32 → mT → Prop) (x1 : Int32) (x2 : Int32) (t1 : Int32) (T : mT) : Prop :=
  tX8_throwsIf t1 (1 : Int32) T (fun v28 T =>
  ((¬ v28 = 0 →
  tX8_give_J52 Q T) ∧ (v28 = 0 →
  tX8_mayGo x1 T (fun v36 T =>
  ((v36 = 0 →
  tX8_give_J52 Q T) ∧ (¬ v36 = 0 →
  t_ldI T 19 x1 (fun v47 =>
  ((¬ v47 = x2 →
  tX8_goes x1 x2 T (fun T =>
  (((1 : Int32) = 0 ∨ (1 : Int32) = 1) ∧ Q (1 : Int32) T))) ∧ (v47 = x2 →
  tX8_give_J52 Q T)))))))))
def tX8_give_J22  (Q : Int32 → mT → Prop) (x1 : Int32) (x2 : Int32) (T : mT) : Prop :=
  tX8_give_J27 Q x1 x2 (1 : Int32) T
def tX8_give (x1 : Int32) (x2 : Int32) (T : mT) (Q : Int32 → mT → Prop) : Prop :=
  t_putI T 0 (0 : Int32) (fun T =>
  tX8_noSingle x1 T (fun v8 T =>
  ((¬ v8 = 0 →
  tX8_give_J22 Q x1 x2 T) ∧ (v8 = 0 →
  tX8_noPlayer x2 T (fun v16 T =>
  ((v16 = 0 →
  tX8_give_J27 Q x1 x2 (0 : Int32) T) ∧ (¬ v16 = 0 →
  tX8_give_J22 Q x1 x2 T)))))))
set_option maxHeartbeats 4000000 in
set_option maxRecDepth 100000 in
theorem rX8_give {S : qS} {mo : Nat} {ad : Nat → Nat} {T : mT} {x1 : Int32} {x2 : Int32} {Q : Int32 → mT → Prop} {post : Int32 → qS → Prop} {xp : String → qS → Prop} (hM : RM S mo ad T) (h : tX8_give x1 x2 T Q) (hp : ∀ (v : Int32) (T' : mT) (S' : qS), Q v T' → RM S' mo ad T' → mfr S S' → post v S') : pX8_give mo x1 x2 S post xp := by
  unfold tX8_give at h
  unfold pX8_give
  obtain ⟨S0, hS0⟩ : ∃ S0, S0 = S := ⟨_, rfl⟩
  rw [← hS0] at hp
  have hF : mfr S0 S := by rw [hS0]; exact mfr.rf
  clear hS0
  refine mp_I hM hF (by decide) h (fun T S h hM hF => ?_)
  refine mg_at hM ?_
  refine rX8_noSingle hM h (fun v8 T S h hM hF1 => ?_)
  have hF := hF.tr hF1
  have jn27 : ∀ (x1 : Int32) (x2 : Int32) (t1 : Int32) (T : mT) (S : qS), tX8_give_J27 Q x1 x2 t1 T → RM S mo ad T → mfr S0 S → pX8_give_J27 post xp (some mo) x1 x2 (some mo) t1 S := by
    intro x1 x2 t1 T S h hM hF
    unfold tX8_give_J27 at h
    unfold pX8_give_J27
    refine mg_at hM ?_
    refine rX8_throwsIf hM h (fun v28 T S h hM hF1 => ?_)
    have hF := hF.tr hF1
    have jn52 : ∀ (T : mT) (S : qS), tX8_give_J52 Q T → RM S mo ad T → mfr S0 S → pX8_give_J52 post xp S := by
      intro T S h hM hF
      unfold tX8_give_J52 at h
      unfold pX8_give_J52
      exact ⟨h.1, hp _ _ _ h.2 hM hF⟩
    refine ⟨fun c31 => ?_, fun c31 => ?_⟩
    · have h := h.1 c31
      exact jn52 _ _ h hM hF
    · have h := h.2 c31
      refine mg_at hM ?_
      refine rX8_mayGo hM h (fun v36 T S h hM hF1 => ?_)
      have hF := hF.tr hF1
      refine ⟨fun c39 => ?_, fun c39 => ?_⟩
      · have h := h.1 c39
        exact jn52 _ _ h hM hF
      · have h := h.2 c39
        refine mg_R hM (k := 19) (by decide) ?_
        refine ml_I hM (by decide) h (fun v47 h => ?_)
        refine ⟨fun c49 => ?_, fun c49 => ?_⟩
        · have h := h.1 c49
          refine mg_at hM ?_
          refine rX8_goes hM h (fun T S h hM hF1 => ?_)
          have hF := hF.tr hF1
          exact ⟨h.1, hp _ _ _ h.2 hM hF⟩
        · have h := h.2 c49
          exact jn52 _ _ h hM hF
  have jn22 : ∀ (x1 : Int32) (x2 : Int32) (T : mT) (S : qS), tX8_give_J22 Q x1 x2 T → RM S mo ad T → mfr S0 S → pX8_give_J22 post xp (some mo) x1 x2 (some mo) S := by
    intro x1 x2 T S h hM hF
    unfold tX8_give_J22 at h
    unfold pX8_give_J22
    exact jn27 _ _ _ _ _ h hM hF
  refine ⟨fun c11 => ?_, fun c11 => ?_⟩
  · have h := h.1 c11
    exact jn22 _ _ _ _ h hM hF
  · have h := h.2 c11
    refine mg_at hM ?_
    refine rX8_noPlayer hM h (fun v16 T S h hM hF1 => ?_)
    have hF := hF.tr hF1
    refine ⟨fun c19 => ?_, fun c19 => ?_⟩
    · have h := h.1 c19
      exact jn27 _ _ _ _ _ h hM hF
    · have h := h.2 c19
      exact jn22 _ _ _ _ h hM hF

def tX8_lend_J60  (Q : Int32 → mT → Prop)  (T : mT) : Prop :=
  (((0 : Int32) = 0 ∨ (0 : Int32) = 1) ∧ Q (0 : Int32) T)
def tX8_lend_J27  (Q : Int32 → mT → Prop) (x1 : Int32) (x2 : Int32) (x3 : Int32) (t1 : Int32) (T : mT) : Prop :=
  tX8_throwsIf t1 (1 : Int32) T (fun v28 T =>
  ((¬ v28 = 0 →
  tX8_lend_J60 Q T) ∧ (v28 = 0 →
  tX8_mayGo x1 T (fun v36 T =>
  ((v36 = 0 →
  tX8_lend_J60 Q T) ∧ (¬ v36 = 0 →
  t_ldI T 19 x1 (fun v47 =>
  ((v47 = x2 →
  tX8_lend_J60 Q T) ∧ (¬ v47 = x2 →
  t_getI T 1 (fun v54 =>
  ((v54 < x3 →
  t_ldI T 19 x1 (fun v72 =>
  t_stI T 21 x1 v72 (fun T =>
  t_stI T 20 x1 x3 (fun T =>
  tX8_goes x1 x2 T (fun T =>
  (((1 : Int32) = 0 ∨ (1 : Int32) = 1) ∧ Q (1 : Int32) T)))))) ∧ (¬ v54 < x3 →
  tX8_lend_J60 Q T))))))))))))
def tX8_lend_J22  (Q : Int32 → mT → Prop) (x1 : Int32) (x2 : Int32) (x3 : Int32) (T : mT) : Prop :=
  tX8_lend_J27 Q x1 x2 x3 (1 : Int32) T
def tX8_lend (x1 : Int32) (x2 : Int32) (x3 : Int32) (T : mT) (Q : Int32 → mT → Prop) : Prop :=
  t_putI T 0 (0 : Int32) (fun T =>
  tX8_noSingle x1 T (fun v8 T =>
  ((¬ v8 = 0 →
  tX8_lend_J22 Q x1 x2 x3 T) ∧ (v8 = 0 →
  tX8_noPlayer x2 T (fun v16 T =>
  ((v16 = 0 →
  tX8_lend_J27 Q x1 x2 x3 (0 : Int32) T) ∧ (¬ v16 = 0 →
  tX8_lend_J22 Q x1 x2 x3 T)))))))
set_option maxHeartbeats 4000000 in
set_option maxRecDepth 100000 in
theorem rX8_lend {S : qS} {mo : Nat} {ad : Nat → Nat} {T : mT} {x1 : Int32} {x2 : Int32} {x3 : Int32} {Q : Int32 → mT → Prop} {post : Int32 → qS → Prop} {xp : String → qS → Prop} (hM : RM S mo ad T) (h : tX8_lend x1 x2 x3 T Q) (hp : ∀ (v : Int32) (T' : mT) (S' : qS), Q v T' → RM S' mo ad T' → mfr S S' → post v S') : pX8_lend mo x1 x2 x3 S post xp := by
  unfold tX8_lend at h
  unfold pX8_lend
  obtain ⟨S0, hS0⟩ : ∃ S0, S0 = S := ⟨_, rfl⟩
  rw [← hS0] at hp
  have hF : mfr S0 S := by rw [hS0]; exact mfr.rf
  clear hS0
  refine mp_I hM hF (by decide) h (fun T S h hM hF => ?_)
  refine mg_at hM ?_
  refine rX8_noSingle hM h (fun v8 T S h hM hF1 => ?_)
  have hF := hF.tr hF1
  have jn27 : ∀ (x1 : Int32) (x2 : Int32) (x3 : Int32) (t1 : Int32) (T : mT) (S : qS), tX8_lend_J27 Q x1 x2 x3 t1 T → RM S mo ad T → mfr S0 S → pX8_lend_J27 post xp (some mo) x1 x2 x3 (some mo) t1 S := by
    intro x1 x2 x3 t1 T S h hM hF
    unfold tX8_lend_J27 at h
    unfold pX8_lend_J27
    refine mg_at hM ?_
    refine rX8_throwsIf hM h (fun v28 T S h hM hF1 => ?_)
    have hF := hF.tr hF1
    have jn60 : ∀ (T : mT) (S : qS), tX8_lend_J60 Q T → RM S mo ad T → mfr S0 S → pX8_lend_J60 post xp S := by
      intro T S h hM hF
      unfold tX8_lend_J60 at h
      unfold pX8_lend_J60
      exact ⟨h.1, hp _ _ _ h.2 hM hF⟩
    refine ⟨fun c31 => ?_, fun c31 => ?_⟩
    · have h := h.1 c31
      exact jn60 _ _ h hM hF
    · have h := h.2 c31
      refine mg_at hM ?_
      refine rX8_mayGo hM h (fun v36 T S h hM hF1 => ?_)
      have hF := hF.tr hF1
      refine ⟨fun c39 => ?_, fun c39 => ?_⟩
      · have h := h.1 c39
        exact jn60 _ _ h hM hF
      · have h := h.2 c39
        refine mg_R hM (k := 19) (by decide) ?_
        refine ml_I hM (by decide) h (fun v47 h => ?_)
        refine ⟨fun c49 => ?_, fun c49 => ?_⟩
        · have h := h.1 c49
          exact jn60 _ _ h hM hF
        · have h := h.2 c49
          refine mg_I hM (by decide) h (fun v54 h => ?_)
          refine ⟨fun c57 => ?_, fun c57 => ?_⟩
          · have h := h.1 c57
            refine mg_R hM (k := 21) (by decide) ?_
            refine mg_R hM (k := 19) (by decide) ?_
            refine ml_I hM (by decide) h (fun v72 h => ?_)
            refine ms_I hM hF (by decide) h (fun T S h hM hF => ?_)
            refine mg_R hM (k := 20) (by decide) ?_
            refine ms_I hM hF (by decide) h (fun T S h hM hF => ?_)
            refine mg_at hM ?_
            refine rX8_goes hM h (fun T S h hM hF1 => ?_)
            have hF := hF.tr hF1
            exact ⟨h.1, hp _ _ _ h.2 hM hF⟩
          · have h := h.2 c57
            exact jn60 _ _ h hM hF
  have jn22 : ∀ (x1 : Int32) (x2 : Int32) (x3 : Int32) (T : mT) (S : qS), tX8_lend_J22 Q x1 x2 x3 T → RM S mo ad T → mfr S0 S → pX8_lend_J22 post xp (some mo) x1 x2 x3 (some mo) S := by
    intro x1 x2 x3 T S h hM hF
    unfold tX8_lend_J22 at h
    unfold pX8_lend_J22
    exact jn27 _ _ _ _ _ _ h hM hF
  refine ⟨fun c11 => ?_, fun c11 => ?_⟩
  · have h := h.1 c11
    exact jn22 _ _ _ _ _ h hM hF
  · have h := h.2 c11
    refine mg_at hM ?_
    refine rX8_noPlayer hM h (fun v16 T S h hM hF1 => ?_)
    have hF := hF.tr hF1
    refine ⟨fun c19 => ?_, fun c19 => ?_⟩
    · have h := h.1 c19
      exact jn27 _ _ _ _ _ _ h hM hF
    · have h := h.2 c19
      exact jn22 _ _ _ _ _ h hM hF

def tX8_wear_J43  (Q : Int32 → mT → Prop)  (T : mT) : Prop :=
  Q (0 : Int32) T
def tX8_wear_J125  (Q : Int32 → mT → Prop) (x1 : Int32) (T : mT) : Prop :=
  t_stI T 18 x1 (-1 : Int32) (fun T =>
  t_stI T 19 x1 (-1 : Int32) (fun T =>
  t_stI T 20 x1 (-1 : Int32) (fun T =>
  t_stI T 21 x1 (-1 : Int32) (fun T =>
  Q (100 : Int32) T))))
def tX8_wear_J119 (k94 : Int32 → Int32 → mT → Prop) (Q : Int32 → mT → Prop) (x1 : Int32) (x3 : Int32) (T : mT) : Prop :=
  k94 x1 (x3 + 1) T
def tX8_wear_L94 (k125 : Int32 → mT → Prop) (Q : Int32 → mT → Prop) : Nat → Int32 → Int32 → mT → Prop
  | 0, _, _, _ => False
  | n94 + 1, x1, x3, T =>
  t_getI T 25 (fun v96 =>
  ((v96 ≤ x3 →
  k125 x1 T) ∧ (¬ v96 ≤ x3 →
  t_ldI T 18 x3 (fun v107 =>
  ((¬ v107 = x1 →
  tX8_wear_J119 (tX8_wear_L94 k125 Q n94) Q x1 x3 T) ∧ (v107 = x1 →
  t_stI T 18 x3 (-1 : Int32) (fun T =>
  tX8_wear_J119 (tX8_wear_L94 k125 Q n94) Q x1 x3 T)))))))
def tX8_wear_J36  (Q : Int32 → mT → Prop) (x1 : Int32) (x2 : Int32) (t1 : Int32) (T : mT) : Prop :=
  tX8_throwsIf t1 (2 : Int32) T (fun v37 T =>
  ((v37 = 0 →
  tX8_isBroken x1 T (fun v47 T =>
  ((v47 = 0 →
  t_ldI T 15 x1 (fun v67 =>
  t_stI T 15 x1 (if (v67 + x2) < (100 : Int32) then (v67 + x2) else (100 : Int32)) (fun T =>
  t_ldI T 15 x1 (fun v79 =>
  (((100 : Int32) ≤ v79 →
  ∃ n94, tX8_wear_L94 (tX8_wear_J125 Q) Q n94 x1 (0 : Int32) T) ∧ (¬ (100 : Int32) ≤ v79 →
  t_ldI T 15 x1 (fun v90 =>
  Q v90 T))))))) ∧ (¬ v47 = 0 →
  Q (-1 : Int32) T)))) ∧ (¬ v37 = 0 →
  tX8_wear_J43 Q T)))
def tX8_wear (x1 : Int32) (x2 : Int32) (T : mT) (Q : Int32 → mT → Prop) : Prop :=
  t_putI T 0 (0 : Int32) (fun T =>
  tX8_noSingle x1 T (fun v8 T =>
  tX8_throwsIf v8 (1 : Int32) T (fun v12 T =>
  ((¬ v12 = 0 →
  tX8_wear_J43 Q T) ∧ (v12 = 0 →
  tX8_in x2.toInt64 (1 : Int64) (100 : Int64) T (fun v25 T =>
  ((¬ v25 = 0 →
  tX8_wear_J36 Q x1 x2 (0 : Int32) T) ∧ (v25 = 0 →
  tX8_wear_J36 Q x1 x2 (1 : Int32) T))))))))
set_option maxHeartbeats 4000000 in
set_option maxRecDepth 100000 in
theorem rX8_wear {S : qS} {mo : Nat} {ad : Nat → Nat} {T : mT} {x1 : Int32} {x2 : Int32} {Q : Int32 → mT → Prop} {post : Int32 → qS → Prop} {xp : String → qS → Prop} (hM : RM S mo ad T) (h : tX8_wear x1 x2 T Q) (hp : ∀ (v : Int32) (T' : mT) (S' : qS), Q v T' → RM S' mo ad T' → mfr S S' → post v S') : pX8_wear mo x1 x2 S post xp := by
  unfold tX8_wear at h
  unfold pX8_wear
  obtain ⟨S0, hS0⟩ : ∃ S0, S0 = S := ⟨_, rfl⟩
  rw [← hS0] at hp
  have hF : mfr S0 S := by rw [hS0]; exact mfr.rf
  clear hS0
  refine mp_I hM hF (by decide) h (fun T S h hM hF => ?_)
  refine mg_at hM ?_
  refine rX8_noSingle hM h (fun v8 T S h hM hF1 => ?_)
  have hF := hF.tr hF1
  refine mg_at hM ?_
  refine rX8_throwsIf hM h (fun v12 T S h hM hF1 => ?_)
  have hF := hF.tr hF1
  have jn43 : ∀ (T : mT) (S : qS), tX8_wear_J43 Q T → RM S mo ad T → mfr S0 S → pX8_wear_J43 post xp S := by
    intro T S h hM hF
    unfold tX8_wear_J43 at h
    unfold pX8_wear_J43
    exact hp _ _ _ h hM hF
  refine ⟨fun c15 => ?_, fun c15 => ?_⟩
  · have h := h.1 c15
    exact jn43 _ _ h hM hF
  · have h := h.2 c15
    refine rX8_in hM h (fun v25 T S h hM hF1 => ?_)
    have hF := hF.tr hF1
    have jn36 : ∀ (x1 : Int32) (x2 : Int32) (t1 : Int32) (T : mT) (S : qS), tX8_wear_J36 Q x1 x2 t1 T → RM S mo ad T → mfr S0 S → pX8_wear_J36 post xp (some mo) x1 x2 (some mo) t1 S := by
      intro x1 x2 t1 T S h hM hF
      unfold tX8_wear_J36 at h
      unfold pX8_wear_J36
      refine mg_at hM ?_
      refine rX8_throwsIf hM h (fun v37 T S h hM hF1 => ?_)
      have hF := hF.tr hF1
      refine ⟨fun c40 => ?_, fun c40 => ?_⟩
      · have h := h.1 c40
        refine mg_at hM ?_
        refine rX8_isBroken hM h (fun v47 T S h hM hF1 => ?_)
        have hF := hF.tr hF1
        refine ⟨fun c50 => ?_, fun c50 => ?_⟩
        · have h := h.1 c50
          refine mg_R hM (k := 15) (by decide) ?_
          refine mg_R hM (k := 15) (by decide) ?_
          refine ml_I hM (by decide) h (fun v67 h => ?_)
          refine ms_I hM hF (by decide) h (fun T S h hM hF => ?_)
          refine mg_R hM (k := 15) (by decide) ?_
          refine ml_I hM (by decide) h (fun v79 h => ?_)
          refine ⟨fun c82 => ?_, fun c82 => ?_⟩
          · have h := h.1 c82
            have jn125 : ∀ (x1 : Int32) (T : mT) (S : qS), tX8_wear_J125 Q x1 T → RM S mo ad T → mfr S0 S → pX8_wear_J125 post xp (some mo) x1 S := by
              intro x1 T S h hM hF
              unfold tX8_wear_J125 at h
              unfold pX8_wear_J125
              refine mg_R hM (k := 18) (by decide) ?_
              refine ms_I hM hF (by decide) h (fun T S h hM hF => ?_)
              refine mg_R hM (k := 19) (by decide) ?_
              refine ms_I hM hF (by decide) h (fun T S h hM hF => ?_)
              refine mg_R hM (k := 20) (by decide) ?_
              refine ms_I hM hF (by decide) h (fun T S h hM hF => ?_)
              refine mg_R hM (k := 21) (by decide) ?_
              refine ms_I hM hF (by decide) h (fun T S h hM hF => ?_)
              exact hp _ _ _ h hM hF
            obtain ⟨n94, h⟩ := h
            refine ⟨n94, ?_⟩
            have lp94 : ∀ (n94 : Nat) (x1 : Int32) (x3 : Int32) (T : mT) (S : qS), tX8_wear_L94 (tX8_wear_J125 Q) Q n94 x1 x3 T → RM S mo ad T → mfr S0 S → pX8_wear_L94 (pX8_wear_J125 post xp) post xp n94 (some mo) x1 x3 S := by
              intro n94
              induction n94 with
              | zero => intro x1 x3 T S h hM hF; exact h.elim
              | succ n94 ih94 =>
                intro x1 x3 T S h hM hF
                unfold tX8_wear_L94 at h
                unfold pX8_wear_L94
                refine mg_I hM (by decide) h (fun v96 h => ?_)
                refine ⟨fun c99 => ?_, fun c99 => ?_⟩
                · have h := h.1 c99
                  exact jn125 _ _ _ h hM hF
                · have h := h.2 c99
                  refine mg_R hM (k := 18) (by decide) ?_
                  refine ml_I hM (by decide) h (fun v107 h => ?_)
                  have jn119 : ∀ (x1 : Int32) (x3 : Int32) (T : mT) (S : qS), tX8_wear_J119 (tX8_wear_L94 (tX8_wear_J125 Q) Q n94) Q x1 x3 T → RM S mo ad T → mfr S0 S → pX8_wear_J119 (pX8_wear_L94 (pX8_wear_J125 post xp) post xp n94) post xp (some mo) x1 x3 S := by
                    intro x1 x3 T S h hM hF
                    unfold tX8_wear_J119 at h
                    unfold pX8_wear_J119
                    exact ih94 _ _ _ _ h hM hF
                  refine ⟨fun c109 => ?_, fun c109 => ?_⟩
                  · have h := h.1 c109
                    exact jn119 _ _ _ _ h hM hF
                  · have h := h.2 c109
                    refine mg_R hM (k := 18) (by decide) ?_
                    refine ms_I hM hF (by decide) h (fun T S h hM hF => ?_)
                    exact jn119 _ _ _ _ h hM hF
            exact lp94 n94 _ _ _ _ h hM hF
          · have h := h.2 c82
            refine mg_R hM (k := 15) (by decide) ?_
            refine ml_I hM (by decide) h (fun v90 h => ?_)
            exact hp _ _ _ h hM hF
        · have h := h.2 c50
          exact hp _ _ _ h hM hF
      · have h := h.2 c40
        exact jn43 _ _ h hM hF
    refine ⟨fun c28 => ?_, fun c28 => ?_⟩
    · have h := h.1 c28
      exact jn36 _ _ _ _ _ h hM hF
    · have h := h.2 c28
      exact jn36 _ _ _ _ _ h hM hF

def tX8_days_J117 (k34 : Int32 → Int32 → mT → Prop) (Q : Int32 → mT → Prop) (x1 : Int32) (x2 : Int32) (T : mT) : Prop :=
  k34 x1 (x2 + 1) T
def tX8_days_J111 (k51 : Int32 → Int32 → Int32 → mT → Prop) (Q : Int32 → mT → Prop) (x1 : Int32) (x2 : Int32) (x3 : Int32) (T : mT) : Prop :=
  k51 x1 x2 (x3 + 1) T
def tX8_days_L51 (k117 : Int32 → Int32 → mT → Prop) (Q : Int32 → mT → Prop) : Nat → Int32 → Int32 → Int32 → mT → Prop
  | 0, _, _, _, _ => False
  | n51 + 1, x1, x2, x3, T =>
  t_getI T 25 (fun v53 =>
  ((v53 ≤ x3 →
  k117 x1 x2 T) ∧ (¬ v53 ≤ x3 →
  t_ldI T 20 x3 (fun v64 =>
  t_getI T 1 (fun v66 =>
  ((v64 = v66 →
  t_stI T 18 x3 (-1 : Int32) (fun T =>
  t_ldI T 21 x3 (fun v87 =>
  t_stI T 20 x3 (-1 : Int32) (fun T =>
  t_stI T 21 x3 (-1 : Int32) (fun T =>
  tX8_goes x3 v87 T (fun T =>
  tX8_days_J111 (tX8_days_L51 k117 Q n51) Q x1 x2 x3 T)))))) ∧ (¬ v64 = v66 →
  tX8_days_J111 (tX8_days_L51 k117 Q n51) Q x1 x2 x3 T)))))))
def tX8_days_L34  (Q : Int32 → mT → Prop) : Nat → Int32 → Int32 → mT → Prop
  | 0, _, _, _ => False
  | n34 + 1, x1, x2, T =>
  ((x1 ≤ x2 →
  t_getI T 1 (fun v124 =>
  Q v124 T)) ∧ (¬ x1 ≤ x2 →
  t_getI T 1 (fun v41 =>
  t_putI T 1 (v41 + (1 : Int32)) (fun T =>
  ∃ n51, tX8_days_L51 (tX8_days_J117 (tX8_days_L34 Q n34) Q) Q n51 x1 x2 (0 : Int32) T))))
def tX8_days_J23  (Q : Int32 → mT → Prop) (x1 : Int32) (t1 : Int32) (T : mT) : Prop :=
  tX8_throwsIf t1 (1 : Int32) T (fun v24 T =>
  ((v24 = 0 →
  ∃ n34, tX8_days_L34 Q n34 x1 (0 : Int32) T) ∧ (¬ v24 = 0 →
  Q (0 : Int32) T)))
def tX8_days (x1 : Int32) (T : mT) (Q : Int32 → mT → Prop) : Prop :=
  t_putI T 0 (0 : Int32) (fun T =>
  tX8_in x1.toInt64 (0 : Int64) (1000 : Int64) T (fun v12 T =>
  ((¬ v12 = 0 →
  tX8_days_J23 Q x1 (0 : Int32) T) ∧ (v12 = 0 →
  tX8_days_J23 Q x1 (1 : Int32) T))))
set_option maxHeartbeats 4000000 in
set_option maxRecDepth 100000 in
theorem rX8_days {S : qS} {mo : Nat} {ad : Nat → Nat} {T : mT} {x1 : Int32} {Q : Int32 → mT → Prop} {post : Int32 → qS → Prop} {xp : String → qS → Prop} (hM : RM S mo ad T) (h : tX8_days x1 T Q) (hp : ∀ (v : Int32) (T' : mT) (S' : qS), Q v T' → RM S' mo ad T' → mfr S S' → post v S') : pX8_days mo x1 S post xp := by
  unfold tX8_days at h
  unfold pX8_days
  obtain ⟨S0, hS0⟩ : ∃ S0, S0 = S := ⟨_, rfl⟩
  rw [← hS0] at hp
  have hF : mfr S0 S := by rw [hS0]; exact mfr.rf
  clear hS0
  refine mp_I hM hF (by decide) h (fun T S h hM hF => ?_)
  refine rX8_in hM h (fun v12 T S h hM hF1 => ?_)
  have hF := hF.tr hF1
  have jn23 : ∀ (x1 : Int32) (t1 : Int32) (T : mT) (S : qS), tX8_days_J23 Q x1 t1 T → RM S mo ad T → mfr S0 S → pX8_days_J23 post xp (some mo) x1 (some mo) t1 S := by
    intro x1 t1 T S h hM hF
    unfold tX8_days_J23 at h
    unfold pX8_days_J23
    refine mg_at hM ?_
    refine rX8_throwsIf hM h (fun v24 T S h hM hF1 => ?_)
    have hF := hF.tr hF1
    refine ⟨fun c27 => ?_, fun c27 => ?_⟩
    · have h := h.1 c27
      obtain ⟨n34, h⟩ := h
      refine ⟨n34, ?_⟩
      have lp34 : ∀ (n34 : Nat) (x1 : Int32) (x2 : Int32) (T : mT) (S : qS), tX8_days_L34 Q n34 x1 x2 T → RM S mo ad T → mfr S0 S → pX8_days_L34 post xp n34 (some mo) x1 x2 S := by
        intro n34
        induction n34 with
        | zero => intro x1 x2 T S h hM hF; exact h.elim
        | succ n34 ih34 =>
          intro x1 x2 T S h hM hF
          unfold tX8_days_L34 at h
          unfold pX8_days_L34
          refine ⟨fun c36 => ?_, fun c36 => ?_⟩
          · have h := h.1 c36
            refine mg_I hM (by decide) h (fun v124 h => ?_)
            exact hp _ _ _ h hM hF
          · have h := h.2 c36
            refine mg_I hM (by decide) h (fun v41 h => ?_)
            refine mp_I hM hF (by decide) h (fun T S h hM hF => ?_)
            have jn117 : ∀ (x1 : Int32) (x2 : Int32) (T : mT) (S : qS), tX8_days_J117 (tX8_days_L34 Q n34) Q x1 x2 T → RM S mo ad T → mfr S0 S → pX8_days_J117 (pX8_days_L34 post xp n34) post xp (some mo) x1 x2 S := by
              intro x1 x2 T S h hM hF
              unfold tX8_days_J117 at h
              unfold pX8_days_J117
              exact ih34 _ _ _ _ h hM hF
            obtain ⟨n51, h⟩ := h
            refine ⟨n51, ?_⟩
            have lp51 : ∀ (n51 : Nat) (x1 : Int32) (x2 : Int32) (x3 : Int32) (T : mT) (S : qS), tX8_days_L51 (tX8_days_J117 (tX8_days_L34 Q n34) Q) Q n51 x1 x2 x3 T → RM S mo ad T → mfr S0 S → pX8_days_L51 (pX8_days_J117 (pX8_days_L34 post xp n34) post xp) post xp n51 (some mo) x1 x2 x3 S := by
              intro n51
              induction n51 with
              | zero => intro x1 x2 x3 T S h hM hF; exact h.elim
              | succ n51 ih51 =>
                intro x1 x2 x3 T S h hM hF
                unfold tX8_days_L51 at h
                unfold pX8_days_L51
                refine mg_I hM (by decide) h (fun v53 h => ?_)
                refine ⟨fun c56 => ?_, fun c56 => ?_⟩
                · have h := h.1 c56
                  exact jn117 _ _ _ _ h hM hF
                · have h := h.2 c56
                  refine mg_R hM (k := 20) (by decide) ?_
                  refine ml_I hM (by decide) h (fun v64 h => ?_)
                  refine mg_I hM (by decide) h (fun v66 h => ?_)
                  have jn111 : ∀ (x1 : Int32) (x2 : Int32) (x3 : Int32) (T : mT) (S : qS), tX8_days_J111 (tX8_days_L51 (tX8_days_J117 (tX8_days_L34 Q n34) Q) Q n51) Q x1 x2 x3 T → RM S mo ad T → mfr S0 S → pX8_days_J111 (pX8_days_L51 (pX8_days_J117 (pX8_days_L34 post xp n34) post xp) post xp n51) post xp (some mo) x1 x2 x3 S := by
                    intro x1 x2 x3 T S h hM hF
                    unfold tX8_days_J111 at h
                    unfold pX8_days_J111
                    exact ih51 _ _ _ _ _ h hM hF
                  refine ⟨fun c69 => ?_, fun c69 => ?_⟩
                  · have h := h.1 c69
                    refine mg_R hM (k := 18) (by decide) ?_
                    refine ms_I hM hF (by decide) h (fun T S h hM hF => ?_)
                    refine mg_R hM (k := 21) (by decide) ?_
                    refine ml_I hM (by decide) h (fun v87 h => ?_)
                    refine mg_R hM (k := 20) (by decide) ?_
                    refine ms_I hM hF (by decide) h (fun T S h hM hF => ?_)
                    refine mg_R hM (k := 21) (by decide) ?_
                    refine ms_I hM hF (by decide) h (fun T S h hM hF => ?_)
                    refine mg_at hM ?_
                    refine rX8_goes hM h (fun T S h hM hF1 => ?_)
                    have hF := hF.tr hF1
                    exact jn111 _ _ _ _ _ h hM hF
                  · have h := h.2 c69
                    exact jn111 _ _ _ _ _ h hM hF
            exact lp51 n51 _ _ _ _ _ h hM hF
      exact lp34 n34 _ _ _ _ h hM hF
    · have h := h.2 c27
      exact hp _ _ _ h hM hF
  refine ⟨fun c15 => ?_, fun c15 => ?_⟩
  · have h := h.1 c15
    exact jn23 _ _ _ _ h hM hF
  · have h := h.2 c15
    exact jn23 _ _ _ _ h hM hF

def tX8_look_J129 (k104 : Int32 → Int32 → Int32 → mT → Prop) (Q : Int32 → mT → Prop) (x1 : Int32) (x4 : Int32) (t0 : Int32) (t1 : Int32) (T : mT) : Prop :=
  k104 x1 (t0 + t1) (x4 + 1) T
def tX8_look_L104  (Q : Int32 → mT → Prop) : Nat → Int32 → Int32 → Int32 → mT → Prop
  | 0, _, _, _, _ => False
  | n104 + 1, x1, x3, x4, T =>
  t_getI T 25 (fun v107 =>
  ((v107 ≤ x4 →
  Q x3 T) ∧ (¬ v107 ≤ x4 →
  tX8_isWithin x4 x1 T (fun v118 T =>
  ((v118 = 0 →
  tX8_look_J129 (tX8_look_L104 Q n104) Q x1 x4 x3 (0 : Int32) T) ∧ (¬ v118 = 0 →
  tX8_look_J129 (tX8_look_L104 Q n104) Q x1 x4 x3 (1 : Int32) T))))))
def tX8_look_J152  (Q : Int32 → mT → Prop) (t0 : Int32) (T : mT) : Prop :=
  Q t0 T
def tX8_look (x1 : Int32) (x2 : Int32) (T : mT) (Q : Int32 → mT → Prop) : Prop :=
  t_putI T 0 (0 : Int32) (fun T =>
  tX8_noSingle x1 T (fun v8 T =>
  tX8_throwsIf v8 (1 : Int32) T (fun v12 T =>
  ((v12 = 0 →
  ((x2 = 0 →
  t_ldI T 19 x1 (fun v77 =>
  Q v77 T)) ∧
  (x2 = 1 →
  t_ldI T 18 x1 (fun v84 =>
  Q v84 T)) ∧
  (x2 = 2 →
  t_ldI T 15 x1 (fun v91 =>
  Q v91 T)) ∧
  (x2 = 3 →
  tX8_right x1 T (fun v95 T =>
  Q v95 T)) ∧
  (x2 = 4 →
  ∃ n104, tX8_look_L104 Q n104 x1 (0 : Int32) (0 : Int32) T) ∧
  (x2 = 5 →
  tX8_isLent x1 T (fun v141 T =>
  ((v141 = 0 →
  tX8_look_J152 Q (0 : Int32) T) ∧ (¬ v141 = 0 →
  tX8_look_J152 Q (1 : Int32) T)))) ∧
  (x2 = 6 →
  t_ldI T 20 x1 (fun v158 =>
  Q v158 T)) ∧
  (x2 = 7 →
  t_ldI T 21 x1 (fun v165 =>
  Q v165 T)) ∧
  (x2 = 8 →
  t_ldI T 24 x1 (fun v172 =>
  Q v172 T)) ∧
  ((x2.toInt < 0 ∨ 8 < x2.toInt) →
  t_putI T 0 (2 : Int32) (fun T =>
  Q (0 : Int32) T)))) ∧ (¬ v12 = 0 →
  Q (0 : Int32) T)))))
set_option maxHeartbeats 4000000 in
set_option maxRecDepth 100000 in
theorem rX8_look {S : qS} {mo : Nat} {ad : Nat → Nat} {T : mT} {x1 : Int32} {x2 : Int32} {Q : Int32 → mT → Prop} {post : Int32 → qS → Prop} {xp : String → qS → Prop} (hM : RM S mo ad T) (h : tX8_look x1 x2 T Q) (hp : ∀ (v : Int32) (T' : mT) (S' : qS), Q v T' → RM S' mo ad T' → mfr S S' → post v S') : pX8_look mo x1 x2 S post xp := by
  unfold tX8_look at h
  unfold pX8_look
  obtain ⟨S0, hS0⟩ : ∃ S0, S0 = S := ⟨_, rfl⟩
  rw [← hS0] at hp
  have hF : mfr S0 S := by rw [hS0]; exact mfr.rf
  clear hS0
  refine mp_I hM hF (by decide) h (fun T S h hM hF => ?_)
  refine mg_at hM ?_
  refine rX8_noSingle hM h (fun v8 T S h hM hF1 => ?_)
  have hF := hF.tr hF1
  refine mg_at hM ?_
  refine rX8_throwsIf hM h (fun v12 T S h hM hF1 => ?_)
  have hF := hF.tr hF1
  refine ⟨fun c15 => ?_, fun c15 => ?_⟩
  · have h := h.1 c15
    refine ⟨fun c => ?_, fun c => ?_, fun c => ?_, fun c => ?_, fun c => ?_, fun c => ?_, fun c => ?_, fun c => ?_, fun c => ?_, fun c => ?_⟩
    · have h := h.1 c
      refine mg_R hM (k := 19) (by decide) ?_
      refine ml_I hM (by decide) h (fun v77 h => ?_)
      exact hp _ _ _ h hM hF
    · have h := h.2.1 c
      refine mg_R hM (k := 18) (by decide) ?_
      refine ml_I hM (by decide) h (fun v84 h => ?_)
      exact hp _ _ _ h hM hF
    · have h := h.2.2.1 c
      refine mg_R hM (k := 15) (by decide) ?_
      refine ml_I hM (by decide) h (fun v91 h => ?_)
      exact hp _ _ _ h hM hF
    · have h := h.2.2.2.1 c
      refine mg_at hM ?_
      refine rX8_right hM h (fun v95 T S h hM hF1 => ?_)
      have hF := hF.tr hF1
      exact hp _ _ _ h hM hF
    · have h := h.2.2.2.2.1 c
      obtain ⟨n104, h⟩ := h
      refine ⟨n104, ?_⟩
      have lp104 : ∀ (n104 : Nat) (x1 : Int32) (x3 : Int32) (x4 : Int32) (T : mT) (S : qS), tX8_look_L104 Q n104 x1 x3 x4 T → RM S mo ad T → mfr S0 S → pX8_look_L104 post xp n104 (some mo) x1 x3 x4 S := by
        intro n104
        induction n104 with
        | zero => intro x1 x3 x4 T S h hM hF; exact h.elim
        | succ n104 ih104 =>
          intro x1 x3 x4 T S h hM hF
          unfold tX8_look_L104 at h
          unfold pX8_look_L104
          refine mg_I hM (by decide) h (fun v107 h => ?_)
          refine ⟨fun c110 => ?_, fun c110 => ?_⟩
          · have h := h.1 c110
            exact hp _ _ _ h hM hF
          · have h := h.2 c110
            refine mg_at hM ?_
            refine rX8_isWithin hM h (fun v118 T S h hM hF1 => ?_)
            have hF := hF.tr hF1
            have jn129 : ∀ (x1 : Int32) (x4 : Int32) (t0 : Int32) (t1 : Int32) (T : mT) (S : qS), tX8_look_J129 (tX8_look_L104 Q n104) Q x1 x4 t0 t1 T → RM S mo ad T → mfr S0 S → pX8_look_J129 (pX8_look_L104 post xp n104) post xp (some mo) x1 x4 t0 t1 S := by
              intro x1 x4 t0 t1 T S h hM hF
              unfold tX8_look_J129 at h
              unfold pX8_look_J129
              exact ih104 _ _ _ _ _ h hM hF
            refine ⟨fun c121 => ?_, fun c121 => ?_⟩
            · have h := h.1 c121
              exact jn129 _ _ _ _ _ _ h hM hF
            · have h := h.2 c121
              exact jn129 _ _ _ _ _ _ h hM hF
      exact lp104 n104 _ _ _ _ _ h hM hF
    · have h := h.2.2.2.2.2.1 c
      refine mg_at hM ?_
      refine rX8_isLent hM h (fun v141 T S h hM hF1 => ?_)
      have hF := hF.tr hF1
      have jn152 : ∀ (t0 : Int32) (T : mT) (S : qS), tX8_look_J152 Q t0 T → RM S mo ad T → mfr S0 S → pX8_look_J152 post xp t0 S := by
        intro t0 T S h hM hF
        unfold tX8_look_J152 at h
        unfold pX8_look_J152
        exact hp _ _ _ h hM hF
      refine ⟨fun c144 => ?_, fun c144 => ?_⟩
      · have h := h.1 c144
        exact jn152 _ _ _ h hM hF
      · have h := h.2 c144
        exact jn152 _ _ _ h hM hF
    · have h := h.2.2.2.2.2.2.1 c
      refine mg_R hM (k := 20) (by decide) ?_
      refine ml_I hM (by decide) h (fun v158 h => ?_)
      exact hp _ _ _ h hM hF
    · have h := h.2.2.2.2.2.2.2.1 c
      refine mg_R hM (k := 21) (by decide) ?_
      refine ml_I hM (by decide) h (fun v165 h => ?_)
      exact hp _ _ _ h hM hF
    · have h := h.2.2.2.2.2.2.2.2.1 c
      refine mg_R hM (k := 24) (by decide) ?_
      refine ml_I hM (by decide) h (fun v172 h => ?_)
      exact hp _ _ _ h hM hF
    · have h := h.2.2.2.2.2.2.2.2.2 c
      refine mp_I hM hF (by decide) h (fun T S h hM hF => ?_)
      exact hp _ _ _ h hM hF
  · have h := h.2 c15
    exact hp _ _ _ h hM hF

def tX8_line_J40  (Q : Int32 → mT → Prop)  (T : mT) : Prop :=
  Q (-1 : Int32) T
def tX8_line_J71  (Q : Int32 → mT → Prop) (t0 : Int32) (T : mT) : Prop :=
  Q t0 T
def tX8_line (x1 : Int32) (x2 : Int32) (x3 : Int32) (T : mT) (Q : Int32 → mT → Prop) : Prop :=
  t_putI T 0 (0 : Int32) (fun T =>
  tX8_noSingle x1 T (fun v8 T =>
  tX8_throwsIf v8 (1 : Int32) T (fun v12 T =>
  ((v12 = 0 →
  ((x2 < 0 →
  tX8_line_J40 Q T) ∧ (¬ x2 < 0 →
  t_ldI T 24 x1 (fun v30 =>
  ((v30 ≤ x2 →
  tX8_line_J40 Q T) ∧ (¬ v30 ≤ x2 →
  ((x2 < (30 : Int32) →
  ((x3 = 0 →
  t_ldI T 22 (((30 : Int32) * x1) + x2) (fun v70 =>
  tX8_line_J71 Q v70 T)) ∧ (¬ x3 = 0 →
  t_ldI T 23 (((30 : Int32) * x1) + x2) (fun v56 =>
  tX8_line_J71 Q v56 T)))) ∧ (¬ x2 < (30 : Int32) →
  tX8_line_J40 Q T)))))))) ∧ (¬ v12 = 0 →
  Q (0 : Int32) T)))))
set_option maxHeartbeats 4000000 in
set_option maxRecDepth 100000 in
theorem rX8_line {S : qS} {mo : Nat} {ad : Nat → Nat} {T : mT} {x1 : Int32} {x2 : Int32} {x3 : Int32} {Q : Int32 → mT → Prop} {post : Int32 → qS → Prop} {xp : String → qS → Prop} (hM : RM S mo ad T) (h : tX8_line x1 x2 x3 T Q) (hp : ∀ (v : Int32) (T' : mT) (S' : qS), Q v T' → RM S' mo ad T' → mfr S S' → post v S') : pX8_line mo x1 x2 x3 S post xp := by
  unfold tX8_line at h
  unfold pX8_line
  obtain ⟨S0, hS0⟩ : ∃ S0, S0 = S := ⟨_, rfl⟩
  rw [← hS0] at hp
  have hF : mfr S0 S := by rw [hS0]; exact mfr.rf
  clear hS0
  refine mp_I hM hF (by decide) h (fun T S h hM hF => ?_)
  refine mg_at hM ?_
  refine rX8_noSingle hM h (fun v8 T S h hM hF1 => ?_)
  have hF := hF.tr hF1
  refine mg_at hM ?_
  refine rX8_throwsIf hM h (fun v12 T S h hM hF1 => ?_)
  have hF := hF.tr hF1
  refine ⟨fun c15 => ?_, fun c15 => ?_⟩
  · have h := h.1 c15
    have jn40 : ∀ (T : mT) (S : qS), tX8_line_J40 Q T → RM S mo ad T → mfr S0 S → pX8_line_J40 post xp S := by
      intro T S h hM hF
      unfold tX8_line_J40 at h
      unfold pX8_line_J40
      exact hp _ _ _ h hM hF
    refine ⟨fun c21 => ?_, fun c21 => ?_⟩
    · have h := h.1 c21
      exact jn40 _ _ h hM hF
    · have h := h.2 c21
      refine mg_R hM (k := 24) (by decide) ?_
      refine ml_I hM (by decide) h (fun v30 h => ?_)
      refine ⟨fun c31 => ?_, fun c31 => ?_⟩
      · have h := h.1 c31
        exact jn40 _ _ h hM hF
      · have h := h.2 c31
        refine ⟨fun c37 => ?_, fun c37 => ?_⟩
        · have h := h.1 c37
          have jn71 : ∀ (t0 : Int32) (T : mT) (S : qS), tX8_line_J71 Q t0 T → RM S mo ad T → mfr S0 S → pX8_line_J71 post xp t0 S := by
            intro t0 T S h hM hF
            unfold tX8_line_J71 at h
            unfold pX8_line_J71
            exact hp _ _ _ h hM hF
          refine ⟨fun c43 => ?_, fun c43 => ?_⟩
          · have h := h.1 c43
            refine mg_R hM (k := 22) (by decide) ?_
            refine ml_I hM (by decide) h (fun v70 h => ?_)
            exact jn71 _ _ _ h hM hF
          · have h := h.2 c43
            refine mg_R hM (k := 23) (by decide) ?_
            refine ml_I hM (by decide) h (fun v56 h => ?_)
            exact jn71 _ _ _ h hM hF
        · have h := h.2 c37
          exact jn40 _ _ h hM hF
  · have h := h.2 c15
    exact hp _ _ _ h hM hF

def tX8_offer_J149  (Q : Int32 → mT → Prop)  (T : mT) : Prop :=
  Q (0 : Int32) T
def tX8_offer_J296  (Q : Int32 → mT → Prop) (t1 : Int32) (t2 : Int32) (T : mT) : Prop :=
  t_stI T 26 t1 t2 (fun T =>
  t_getI T 28 (fun v302 =>
  t_stZ T 27 v302 (1 : Int32) (fun T =>
  t_getI T 28 (fun v309 =>
  t_putI T 28 (v309 + (1 : Int32)) (fun T =>
  t_getI T 28 (fun v318 =>
  Q (v318 - (1 : Int32)) T))))))
def tX8_offer_J270  (Q : Int32 → mT → Prop) (x8 : Int32) (x10 : Int32) (t1 : Int32) (t2 : Int32) (T : mT) : Prop :=
  t_stI T 26 t1 t2 (fun T =>
  ((0 ≤ x8 →
  t_ldI T 15 x8 (fun v295 =>
  tX8_offer_J296 Q (x10 + (9 : Int32)) v295 T)) ∧ (¬ 0 ≤ x8 →
  tX8_offer_J296 Q (x10 + (9 : Int32)) (0 : Int32) T)))
def tX8_offer_J142  (Q : Int32 → mT → Prop) (x1 : Int32) (x2 : Int32) (x3 : Int32) (x4 : Int32) (x5 : Int32) (x6 : Int32) (x7 : Int32) (x8 : Int32) (t1 : Int32) (T : mT) : Prop :=
  tX8_throwsIf t1 (3 : Int32) T (fun v143 T =>
  ((v143 = 0 →
  t_getI T 28 (fun v154 =>
  t_stI T 26 ((10 : Int32) * v154) x1 (fun T =>
  t_stI T 26 (((10 : Int32) * v154) + (1 : Int32)) x2 (fun T =>
  t_stI T 26 (((10 : Int32) * v154) + (2 : Int32)) x3 (fun T =>
  t_stI T 26 (((10 : Int32) * v154) + (3 : Int32)) x4 (fun T =>
  t_stI T 26 (((10 : Int32) * v154) + (4 : Int32)) x5 (fun T =>
  t_stI T 26 (((10 : Int32) * v154) + (5 : Int32)) x6 (fun T =>
  t_stI T 26 (((10 : Int32) * v154) + (6 : Int32)) x7 (fun T =>
  t_stI T 26 (((10 : Int32) * v154) + (7 : Int32)) x8 (fun T =>
  ((0 ≤ x5 →
  t_ldI T 15 x5 (fun v269 =>
  tX8_offer_J270 Q x8 ((10 : Int32) * v154) (((10 : Int32) * v154) + (8 : Int32)) v269 T)) ∧ (¬ 0 ≤ x5 →
  tX8_offer_J270 Q x8 ((10 : Int32) * v154) (((10 : Int32) * v154) + (8 : Int32)) (0 : Int32) T)))))))))))) ∧ (¬ v143 = 0 →
  tX8_offer_J149 Q T)))
def tX8_offer_J120  (Q : Int32 → mT → Prop) (x1 : Int32) (x2 : Int32) (x3 : Int32) (x4 : Int32) (x5 : Int32) (x6 : Int32) (x7 : Int32) (x8 : Int32) (t1 : Int32) (T : mT) : Prop :=
  tX8_throwsIf t1 (2 : Int32) T (fun v121 T =>
  ((¬ v121 = 0 →
  tX8_offer_J149 Q T) ∧ (v121 = 0 →
  t_getI T 28 (fun v129 =>
  ((¬ v129 = (60 : Int32) →
  tX8_offer_J142 Q x1 x2 x3 x4 x5 x6 x7 x8 (0 : Int32) T) ∧ (v129 = (60 : Int32) →
  tX8_offer_J142 Q x1 x2 x3 x4 x5 x6 x7 x8 (1 : Int32) T))))))
def tX8_offer_J115  (Q : Int32 → mT → Prop) (x1 : Int32) (x2 : Int32) (x3 : Int32) (x4 : Int32) (x5 : Int32) (x6 : Int32) (x7 : Int32) (x8 : Int32) (T : mT) : Prop :=
  tX8_offer_J120 Q x1 x2 x3 x4 x5 x6 x7 x8 (1 : Int32) T
def tX8_offer_J72  (Q : Int32 → mT → Prop) (x1 : Int32) (x2 : Int32) (x3 : Int32) (x4 : Int32) (x5 : Int32) (x6 : Int32) (x7 : Int32) (x8 : Int32) (t0 : Int32) (T : mT) : Prop :=
  tX8_throwsIf t0 (1 : Int32) T (fun v78 T =>
  ((¬ v78 = 0 →
  tX8_offer_J149 Q T) ∧ (v78 = 0 →
  ((x1 = x2 →
  tX8_offer_J115 Q x1 x2 x3 x4 x5 x6 x7 x8 T) ∧ (¬ x1 = x2 →
  tX8_in x3.toInt64 (0 : Int64) (1000000 : Int64) T (fun v96 T =>
  ((v96 = 0 →
  tX8_offer_J115 Q x1 x2 x3 x4 x5 x6 x7 x8 T) ∧ (¬ v96 = 0 →
  tX8_in x6.toInt64 (0 : Int64) (1000000 : Int64) T (fun v109 T =>
  ((¬ v109 = 0 →
  tX8_offer_J120 Q x1 x2 x3 x4 x5 x6 x7 x8 (0 : Int32) T) ∧ (v109 = 0 →
  tX8_offer_J115 Q x1 x2 x3 x4 x5 x6 x7 x8 T)))))))))))
def tX8_offer_J67  (Q : Int32 → mT → Prop) (x1 : Int32) (x2 : Int32) (x3 : Int32) (x4 : Int32) (x5 : Int32) (x6 : Int32) (x7 : Int32) (x8 : Int32) (T : mT) : Prop :=
  tX8_offer_J72 Q x1 x2 x3 x4 x5 x6 x7 x8 (1 : Int32) T
def tX8_offer_J71  (Q : Int32 → mT → Prop) (x1 : Int32) (x2 : Int32) (x3 : Int32) (x4 : Int32) (x5 : Int32) (x6 : Int32) (x7 : Int32) (x8 : Int32) (T : mT) : Prop :=
  tX8_offer_J72 Q x1 x2 x3 x4 x5 x6 x7 x8 (0 : Int32) T
def tX8_offer_J52  (Q : Int32 → mT → Prop) (x1 : Int32) (x2 : Int32) (x3 : Int32) (x4 : Int32) (x5 : Int32) (x6 : Int32) (x7 : Int32) (x8 : Int32) (T : mT) : Prop :=
  ((x8 = (-1 : Int32) →
  tX8_offer_J71 Q x1 x2 x3 x4 x5 x6 x7 x8 T) ∧ (¬ x8 = (-1 : Int32) →
  tX8_noSingle x8 T (fun v61 T =>
  ((v61 = 0 →
  tX8_offer_J71 Q x1 x2 x3 x4 x5 x6 x7 x8 T) ∧ (¬ v61 = 0 →
  tX8_offer_J67 Q x1 x2 x3 x4 x5 x6 x7 x8 T)))))
def tX8_offer (x1 : Int32) (x2 : Int32) (x3 : Int32) (x4 : Int32) (x5 : Int32) (x6 : Int32) (x7 : Int32) (x8 : Int32) (T : mT) (Q : Int32 → mT → Prop) : Prop :=
  t_putI T 0 (0 : Int32) (fun T =>
  tX8_noPlayer x1 T (fun v7 T =>
  ((¬ v7 = 0 →
  tX8_offer_J67 Q x1 x2 x3 x4 x5 x6 x7 x8 T) ∧ (v7 = 0 →
  tX8_noPlayer x2 T (fun v15 T =>
  ((¬ v15 = 0 →
  tX8_offer_J67 Q x1 x2 x3 x4 x5 x6 x7 x8 T) ∧ (v15 = 0 →
  tX8_noKind x4 T (fun v23 T =>
  ((¬ v23 = 0 →
  tX8_offer_J67 Q x1 x2 x3 x4 x5 x6 x7 x8 T) ∧ (v23 = 0 →
  tX8_noKind x7 T (fun v31 T =>
  ((¬ v31 = 0 →
  tX8_offer_J67 Q x1 x2 x3 x4 x5 x6 x7 x8 T) ∧ (v31 = 0 →
  ((x5 = (-1 : Int32) →
  tX8_offer_J52 Q x1 x2 x3 x4 x5 x6 x7 x8 T) ∧ (¬ x5 = (-1 : Int32) →
  tX8_noSingle x5 T (fun v46 T =>
  ((¬ v46 = 0 →
  tX8_offer_J67 Q x1 x2 x3 x4 x5 x6 x7 x8 T) ∧ (v46 = 0 →
  tX8_offer_J52 Q x1 x2 x3 x4 x5 x6 x7 x8 T))))))))))))))))))
set_option maxHeartbeats 4000000 in
set_option maxRecDepth 100000 in
theorem rX8_offer {S : qS} {mo : Nat} {ad : Nat → Nat} {T : mT} {x1 : Int32} {x2 : Int32} {x3 : Int32} {x4 : Int32} {x5 : Int32} {x6 : Int32} {x7 : Int32} {x8 : Int32} {Q : Int32 → mT → Prop} {post : Int32 → qS → Prop} {xp : String → qS → Prop} (hM : RM S mo ad T) (h : tX8_offer x1 x2 x3 x4 x5 x6 x7 x8 T Q) (hp : ∀ (v : Int32) (T' : mT) (S' : qS), Q v T' → RM S' mo ad T' → mfr S S' → post v S') : pX8_offer mo x1 x2 x3 x4 x5 x6 x7 x8 S post xp := by
  unfold tX8_offer at h
  unfold pX8_offer
  obtain ⟨S0, hS0⟩ : ∃ S0, S0 = S := ⟨_, rfl⟩
  rw [← hS0] at hp
  have hF : mfr S0 S := by rw [hS0]; exact mfr.rf
  clear hS0
  refine mp_I hM hF (by decide) h (fun T S h hM hF => ?_)
  refine mg_at hM ?_
  refine rX8_noPlayer hM h (fun v7 T S h hM hF1 => ?_)
  have hF := hF.tr hF1
  have jn72 : ∀ (x1 : Int32) (x2 : Int32) (x3 : Int32) (x4 : Int32) (x5 : Int32) (x6 : Int32) (x7 : Int32) (x8 : Int32) (t0 : Int32) (T : mT) (S : qS), tX8_offer_J72 Q x1 x2 x3 x4 x5 x6 x7 x8 t0 T → RM S mo ad T → mfr S0 S → pX8_offer_J72 post xp (some mo) x1 x2 x3 x4 x5 x6 x7 x8 t0 S := by
    intro x1 x2 x3 x4 x5 x6 x7 x8 t0 T S h hM hF
    unfold tX8_offer_J72 at h
    unfold pX8_offer_J72
    refine mg_at hM ?_
    refine rX8_throwsIf hM h (fun v78 T S h hM hF1 => ?_)
    have hF := hF.tr hF1
    have jn149 : ∀ (T : mT) (S : qS), tX8_offer_J149 Q T → RM S mo ad T → mfr S0 S → pX8_offer_J149 post xp S := by
      intro T S h hM hF
      unfold tX8_offer_J149 at h
      unfold pX8_offer_J149
      exact hp _ _ _ h hM hF
    refine ⟨fun c81 => ?_, fun c81 => ?_⟩
    · have h := h.1 c81
      exact jn149 _ _ h hM hF
    · have h := h.2 c81
      have jn120 : ∀ (x1 : Int32) (x2 : Int32) (x3 : Int32) (x4 : Int32) (x5 : Int32) (x6 : Int32) (x7 : Int32) (x8 : Int32) (t1 : Int32) (T : mT) (S : qS), tX8_offer_J120 Q x1 x2 x3 x4 x5 x6 x7 x8 t1 T → RM S mo ad T → mfr S0 S → pX8_offer_J120 post xp (some mo) x1 x2 x3 x4 x5 x6 x7 x8 (some mo) t1 S := by
        intro x1 x2 x3 x4 x5 x6 x7 x8 t1 T S h hM hF
        unfold tX8_offer_J120 at h
        unfold pX8_offer_J120
        refine mg_at hM ?_
        refine rX8_throwsIf hM h (fun v121 T S h hM hF1 => ?_)
        have hF := hF.tr hF1
        refine ⟨fun c124 => ?_, fun c124 => ?_⟩
        · have h := h.1 c124
          exact jn149 _ _ h hM hF
        · have h := h.2 c124
          refine mg_I hM (by decide) h (fun v129 h => ?_)
          have jn142 : ∀ (x1 : Int32) (x2 : Int32) (x3 : Int32) (x4 : Int32) (x5 : Int32) (x6 : Int32) (x7 : Int32) (x8 : Int32) (t1 : Int32) (T : mT) (S : qS), tX8_offer_J142 Q x1 x2 x3 x4 x5 x6 x7 x8 t1 T → RM S mo ad T → mfr S0 S → pX8_offer_J142 post xp (some mo) x1 x2 x3 x4 x5 x6 x7 x8 (some mo) t1 S := by
            intro x1 x2 x3 x4 x5 x6 x7 x8 t1 T S h hM hF
            unfold tX8_offer_J142 at h
            unfold pX8_offer_J142
            refine mg_at hM ?_
            refine rX8_throwsIf hM h (fun v143 T S h hM hF1 => ?_)
            have hF := hF.tr hF1
            refine ⟨fun c146 => ?_, fun c146 => ?_⟩
            · have h := h.1 c146
              refine mg_I hM (by decide) h (fun v154 h => ?_)
              refine mg_R hM (k := 26) (by decide) ?_
              refine ms_I hM hF (by decide) h (fun T S h hM hF => ?_)
              refine mg_R hM (k := 26) (by decide) ?_
              refine ms_I hM hF (by decide) h (fun T S h hM hF => ?_)
              refine mg_R hM (k := 26) (by decide) ?_
              refine ms_I hM hF (by decide) h (fun T S h hM hF => ?_)
              refine mg_R hM (k := 26) (by decide) ?_
              refine ms_I hM hF (by decide) h (fun T S h hM hF => ?_)
              refine mg_R hM (k := 26) (by decide) ?_
              refine ms_I hM hF (by decide) h (fun T S h hM hF => ?_)
              refine mg_R hM (k := 26) (by decide) ?_
              refine ms_I hM hF (by decide) h (fun T S h hM hF => ?_)
              refine mg_R hM (k := 26) (by decide) ?_
              refine ms_I hM hF (by decide) h (fun T S h hM hF => ?_)
              refine mg_R hM (k := 26) (by decide) ?_
              refine ms_I hM hF (by decide) h (fun T S h hM hF => ?_)
              refine mg_R hM (k := 26) (by decide) ?_
              have jn270 : ∀ (x8 : Int32) (x10 : Int32) (t1 : Int32) (t2 : Int32) (T : mT) (S : qS), tX8_offer_J270 Q x8 x10 t1 t2 T → RM S mo ad T → mfr S0 S → pX8_offer_J270 post xp (some mo) x8 x10 (some (ad 26)) t1 t2 S := by
                intro x8 x10 t1 t2 T S h hM hF
                unfold tX8_offer_J270 at h
                unfold pX8_offer_J270
                refine ms_I hM hF (by decide) h (fun T S h hM hF => ?_)
                refine mg_R hM (k := 26) (by decide) ?_
                have jn296 : ∀ (t1 : Int32) (t2 : Int32) (T : mT) (S : qS), tX8_offer_J296 Q t1 t2 T → RM S mo ad T → mfr S0 S → pX8_offer_J296 post xp (some mo) (some (ad 26)) t1 t2 S := by
                  intro t1 t2 T S h hM hF
                  unfold tX8_offer_J296 at h
                  unfold pX8_offer_J296
                  refine ms_I hM hF (by decide) h (fun T S h hM hF => ?_)
                  refine mg_R hM (k := 27) (by decide) ?_
                  refine mg_I hM (by decide) h (fun v302 h => ?_)
                  refine ms_Z hM hF (by decide) h (fun T S h hM hF => ?_)
                  refine mg_I hM (by decide) h (fun v309 h => ?_)
                  refine mp_I hM hF (by decide) h (fun T S h hM hF => ?_)
                  refine mg_I hM (by decide) h (fun v318 h => ?_)
                  exact hp _ _ _ h hM hF
                refine ⟨fun c282 => ?_, fun c282 => ?_⟩
                · have h := h.1 c282
                  refine mg_R hM (k := 15) (by decide) ?_
                  refine ml_I hM (by decide) h (fun v295 h => ?_)
                  exact jn296 _ _ _ _ h hM hF
                · have h := h.2 c282
                  exact jn296 _ _ _ _ h hM hF
              refine ⟨fun c256 => ?_, fun c256 => ?_⟩
              · have h := h.1 c256
                refine mg_R hM (k := 15) (by decide) ?_
                refine ml_I hM (by decide) h (fun v269 h => ?_)
                exact jn270 _ _ _ _ _ _ h hM hF
              · have h := h.2 c256
                exact jn270 _ _ _ _ _ _ h hM hF
            · have h := h.2 c146
              exact jn149 _ _ h hM hF
          refine ⟨fun c134 => ?_, fun c134 => ?_⟩
          · have h := h.1 c134
            exact jn142 _ _ _ _ _ _ _ _ _ _ _ h hM hF
          · have h := h.2 c134
            exact jn142 _ _ _ _ _ _ _ _ _ _ _ h hM hF
      have jn115 : ∀ (x1 : Int32) (x2 : Int32) (x3 : Int32) (x4 : Int32) (x5 : Int32) (x6 : Int32) (x7 : Int32) (x8 : Int32) (T : mT) (S : qS), tX8_offer_J115 Q x1 x2 x3 x4 x5 x6 x7 x8 T → RM S mo ad T → mfr S0 S → pX8_offer_J115 post xp (some mo) x1 x2 x3 x4 x5 x6 x7 x8 (some mo) S := by
        intro x1 x2 x3 x4 x5 x6 x7 x8 T S h hM hF
        unfold tX8_offer_J115 at h
        unfold pX8_offer_J115
        exact jn120 _ _ _ _ _ _ _ _ _ _ _ h hM hF
      refine ⟨fun c87 => ?_, fun c87 => ?_⟩
      · have h := h.1 c87
        exact jn115 _ _ _ _ _ _ _ _ _ _ h hM hF
      · have h := h.2 c87
        refine rX8_in hM h (fun v96 T S h hM hF1 => ?_)
        have hF := hF.tr hF1
        refine ⟨fun c99 => ?_, fun c99 => ?_⟩
        · have h := h.1 c99
          exact jn115 _ _ _ _ _ _ _ _ _ _ h hM hF
        · have h := h.2 c99
          refine rX8_in hM h (fun v109 T S h hM hF1 => ?_)
          have hF := hF.tr hF1
          refine ⟨fun c112 => ?_, fun c112 => ?_⟩
          · have h := h.1 c112
            exact jn120 _ _ _ _ _ _ _ _ _ _ _ h hM hF
          · have h := h.2 c112
            exact jn115 _ _ _ _ _ _ _ _ _ _ h hM hF
  have jn67 : ∀ (x1 : Int32) (x2 : Int32) (x3 : Int32) (x4 : Int32) (x5 : Int32) (x6 : Int32) (x7 : Int32) (x8 : Int32) (T : mT) (S : qS), tX8_offer_J67 Q x1 x2 x3 x4 x5 x6 x7 x8 T → RM S mo ad T → mfr S0 S → pX8_offer_J67 post xp (some mo) x1 x2 x3 x4 x5 x6 x7 x8 S := by
    intro x1 x2 x3 x4 x5 x6 x7 x8 T S h hM hF
    unfold tX8_offer_J67 at h
    unfold pX8_offer_J67
    exact jn72 _ _ _ _ _ _ _ _ _ _ _ h hM hF
  refine ⟨fun c10 => ?_, fun c10 => ?_⟩
  · have h := h.1 c10
    exact jn67 _ _ _ _ _ _ _ _ _ _ h hM hF
  · have h := h.2 c10
    refine mg_at hM ?_
    refine rX8_noPlayer hM h (fun v15 T S h hM hF1 => ?_)
    have hF := hF.tr hF1
    refine ⟨fun c18 => ?_, fun c18 => ?_⟩
    · have h := h.1 c18
      exact jn67 _ _ _ _ _ _ _ _ _ _ h hM hF
    · have h := h.2 c18
      refine rX8_noKind hM h (fun v23 T S h hM hF1 => ?_)
      have hF := hF.tr hF1
      refine ⟨fun c26 => ?_, fun c26 => ?_⟩
      · have h := h.1 c26
        exact jn67 _ _ _ _ _ _ _ _ _ _ h hM hF
      · have h := h.2 c26
        refine rX8_noKind hM h (fun v31 T S h hM hF1 => ?_)
        have hF := hF.tr hF1
        refine ⟨fun c34 => ?_, fun c34 => ?_⟩
        · have h := h.1 c34
          exact jn67 _ _ _ _ _ _ _ _ _ _ h hM hF
        · have h := h.2 c34
          have jn52 : ∀ (x1 : Int32) (x2 : Int32) (x3 : Int32) (x4 : Int32) (x5 : Int32) (x6 : Int32) (x7 : Int32) (x8 : Int32) (T : mT) (S : qS), tX8_offer_J52 Q x1 x2 x3 x4 x5 x6 x7 x8 T → RM S mo ad T → mfr S0 S → pX8_offer_J52 post xp (some mo) x1 x2 x3 x4 x5 x6 x7 x8 S := by
            intro x1 x2 x3 x4 x5 x6 x7 x8 T S h hM hF
            unfold tX8_offer_J52 at h
            unfold pX8_offer_J52
            have jn71 : ∀ (x1 : Int32) (x2 : Int32) (x3 : Int32) (x4 : Int32) (x5 : Int32) (x6 : Int32) (x7 : Int32) (x8 : Int32) (T : mT) (S : qS), tX8_offer_J71 Q x1 x2 x3 x4 x5 x6 x7 x8 T → RM S mo ad T → mfr S0 S → pX8_offer_J71 post xp (some mo) x1 x2 x3 x4 x5 x6 x7 x8 S := by
              intro x1 x2 x3 x4 x5 x6 x7 x8 T S h hM hF
              unfold tX8_offer_J71 at h
              unfold pX8_offer_J71
              exact jn72 _ _ _ _ _ _ _ _ _ _ _ h hM hF
            refine ⟨fun c55 => ?_, fun c55 => ?_⟩
            · have h := h.1 c55
              exact jn71 _ _ _ _ _ _ _ _ _ _ h hM hF
            · have h := h.2 c55
              refine mg_at hM ?_
              refine rX8_noSingle hM h (fun v61 T S h hM hF1 => ?_)
              have hF := hF.tr hF1
              refine ⟨fun c64 => ?_, fun c64 => ?_⟩
              · have h := h.1 c64
                exact jn71 _ _ _ _ _ _ _ _ _ _ h hM hF
              · have h := h.2 c64
                exact jn67 _ _ _ _ _ _ _ _ _ _ h hM hF
          refine ⟨fun c40 => ?_, fun c40 => ?_⟩
          · have h := h.1 c40
            exact jn52 _ _ _ _ _ _ _ _ _ _ h hM hF
          · have h := h.2 c40
            refine mg_at hM ?_
            refine rX8_noSingle hM h (fun v46 T S h hM hF1 => ?_)
            have hF := hF.tr hF1
            refine ⟨fun c49 => ?_, fun c49 => ?_⟩
            · have h := h.1 c49
              exact jn67 _ _ _ _ _ _ _ _ _ _ h hM hF
            · have h := h.2 c49
              exact jn52 _ _ _ _ _ _ _ _ _ _ h hM hF

def tX8_after_J44  (Q : Int32 → mT → Prop) (t0 : Int32) (T : mT) : Prop :=
  Q t0 T
def tX8_after_J25  (Q : Int32 → mT → Prop) (x5 : Int32) (x6 : Int32) (T : mT) : Prop :=
  ((x6 ≤ ((1000000000 : Int32) - x5) →
  tX8_after_J44 Q (x6 + x5) T) ∧ (¬ x6 ≤ ((1000000000 : Int32) - x5) →
  tX8_after_J44 Q (-1 : Int32) T))
def tX8_after (x1 : Int32) (x2 : Int32) (x3 : Int32) (x4 : Int32) (x5 : Int32) (T : mT) (Q : Int32 → mT → Prop) : Prop :=
  t_ldI T 2 (((4 : Int32) * x1) + x4) (fun v10 =>
  ((¬ x2 = x4 →
  tX8_after_J25 Q x5 v10 T) ∧ (x2 = x4 →
  tX8_after_J25 Q x5 (v10 - x3) T)))
set_option maxHeartbeats 4000000 in
set_option maxRecDepth 100000 in
theorem rX8_after {S : qS} {mo : Nat} {ad : Nat → Nat} {T : mT} {x1 : Int32} {x2 : Int32} {x3 : Int32} {x4 : Int32} {x5 : Int32} {Q : Int32 → mT → Prop} {post : Int32 → qS → Prop} {xp : String → qS → Prop} (hM : RM S mo ad T) (h : tX8_after x1 x2 x3 x4 x5 T Q) (hp : ∀ (v : Int32) (T' : mT) (S' : qS), Q v T' → RM S' mo ad T' → mfr S S' → post v S') : pX8_after mo x1 x2 x3 x4 x5 S post xp := by
  unfold tX8_after at h
  unfold pX8_after
  obtain ⟨S0, hS0⟩ : ∃ S0, S0 = S := ⟨_, rfl⟩
  rw [← hS0] at hp
  have hF : mfr S0 S := by rw [hS0]; exact mfr.rf
  clear hS0
  refine mg_R hM (k := 2) (by decide) ?_
  refine ml_I hM (by decide) h (fun v10 h => ?_)
  have jn25 : ∀ (x5 : Int32) (x6 : Int32) (T : mT) (S : qS), tX8_after_J25 Q x5 x6 T → RM S mo ad T → mfr S0 S → pX8_after_J25 post xp x5 x6 S := by
    intro x5 x6 T S h hM hF
    unfold tX8_after_J25 at h
    unfold pX8_after_J25
    have jn44 : ∀ (t0 : Int32) (T : mT) (S : qS), tX8_after_J44 Q t0 T → RM S mo ad T → mfr S0 S → pX8_after_J44 post xp t0 S := by
      intro t0 T S h hM hF
      unfold tX8_after_J44 at h
      unfold pX8_after_J44
      exact hp _ _ _ h hM hF
    refine ⟨fun c32 => ?_, fun c32 => ?_⟩
    · have h := h.1 c32
      exact jn44 _ _ _ h hM hF
    · have h := h.2 c32
      exact jn44 _ _ _ h hM hF
  refine ⟨fun c16 => ?_, fun c16 => ?_⟩
  · have h := h.1 c16
    exact jn25 _ _ _ _ h hM hF
  · have h := h.2 c16
    exact jn25 _ _ _ _ h hM hF

def tX8_against_J294  (Q : Int32 → mT → Prop) (t0 : Int32) (T : mT) : Prop :=
  Q t0 T
def tX8_against_J288  (Q : Int32 → mT → Prop)  (T : mT) : Prop :=
  tX8_against_J294 Q (8 : Int32) T
def tX8_against_J293  (Q : Int32 → mT → Prop)  (T : mT) : Prop :=
  tX8_against_J294 Q (0 : Int32) T
def tX8_against_J264  (Q : Int32 → mT → Prop) (x1 : Int32) (x5 : Int32) (T : mT) : Prop :=
  ((x5 < 0 →
  tX8_against_J293 Q T) ∧ (¬ x5 < 0 →
  t_ldI T 15 x5 (fun v275 =>
  t_ldI T 26 (x1 + (9 : Int32)) (fun v284 =>
  ((v275 = v284 →
  tX8_against_J293 Q T) ∧ (¬ v275 = v284 →
  tX8_against_J288 Q T))))))
def tX8_against_J240  (Q : Int32 → mT → Prop) (x1 : Int32) (x4 : Int32) (x5 : Int32) (T : mT) : Prop :=
  ((x4 < 0 →
  tX8_against_J264 Q x1 x5 T) ∧ (¬ x4 < 0 →
  t_ldI T 15 x4 (fun v251 =>
  t_ldI T 26 (x1 + (8 : Int32)) (fun v260 =>
  ((¬ v251 = v260 →
  tX8_against_J288 Q T) ∧ (v251 = v260 →
  tX8_against_J264 Q x1 x5 T))))))
def tX8_against_J237  (Q : Int32 → mT → Prop)  (T : mT) : Prop :=
  Q (7 : Int32) T
def tX8_against_J212  (Q : Int32 → mT → Prop) (x1 : Int32) (x3 : Int32) (x4 : Int32) (x5 : Int32) (T : mT) : Prop :=
  ((x5 < 0 →
  tX8_against_J240 Q x1 x4 x5 T) ∧ (¬ x5 < 0 →
  t_ldI T 19 x5 (fun v223 =>
  ((¬ v223 = x3 →
  tX8_against_J237 Q T) ∧ (v223 = x3 →
  tX8_mayGo x5 T (fun v231 T =>
  ((¬ v231 = 0 →
  tX8_against_J240 Q x1 x4 x5 T) ∧ (v231 = 0 →
  tX8_against_J237 Q T))))))))
def tX8_against_J209  (Q : Int32 → mT → Prop)  (T : mT) : Prop :=
  Q (6 : Int32) T
def tX8_against (x1 : Int32) (T : mT) (Q : Int32 → mT → Prop) : Prop :=
  t_ldI T 26 x1 (fun v5 =>
  t_ldI T 26 (x1 + (1 : Int32)) (fun v14 =>
  t_ldI T 26 (x1 + (4 : Int32)) (fun v23 =>
  t_ldI T 26 (x1 + (7 : Int32)) (fun v34 =>
  t_ldI T 26 (x1 + (3 : Int32)) (fun v51 =>
  t_ldI T 2 (((4 : Int32) * v5) + v51) (fun v53 =>
  t_ldI T 26 (x1 + (2 : Int32)) (fun v61 =>
  ((v61 ≤ v53 →
  t_ldI T 26 (x1 + (6 : Int32)) (fun v82 =>
  t_ldI T 2 (((4 : Int32) * v14) + v82) (fun v84 =>
  t_ldI T 26 (x1 + (5 : Int32)) (fun v92 =>
  ((v92 ≤ v84 →
  t_ldI T 26 (x1 + (3 : Int32)) (fun v107 =>
  t_ldI T 26 (x1 + (2 : Int32)) (fun v115 =>
  t_ldI T 26 (x1 + (6 : Int32)) (fun v124 =>
  t_ldI T 26 (x1 + (5 : Int32)) (fun v132 =>
  tX8_after v5 v107 v115 v124 v132 T (fun v133 T =>
  ((0 ≤ v133 →
  t_ldI T 26 (x1 + (6 : Int32)) (fun v151 =>
  t_ldI T 26 (x1 + (5 : Int32)) (fun v159 =>
  t_ldI T 26 (x1 + (3 : Int32)) (fun v167 =>
  t_ldI T 26 (x1 + (2 : Int32)) (fun v175 =>
  tX8_after v14 v151 v159 v167 v175 T (fun v176 T =>
  ((0 ≤ v176 →
  ((v23 < 0 →
  tX8_against_J212 Q x1 v14 v23 v34 T) ∧ (¬ v23 < 0 →
  t_ldI T 19 v23 (fun v195 =>
  ((¬ v195 = v5 →
  tX8_against_J209 Q T) ∧ (v195 = v5 →
  tX8_mayGo v23 T (fun v203 T =>
  ((¬ v203 = 0 →
  tX8_against_J212 Q x1 v14 v23 v34 T) ∧ (v203 = 0 →
  tX8_against_J209 Q T))))))))) ∧ (¬ 0 ≤ v176 →
  Q (5 : Int32) T)))))))) ∧ (¬ 0 ≤ v133 →
  Q (4 : Int32) T)))))))) ∧ (¬ v92 ≤ v84 →
  Q (3 : Int32) T)))))) ∧ (¬ v61 ≤ v53 →
  Q (2 : Int32) T)))))))))
set_option maxHeartbeats 4000000 in
set_option maxRecDepth 100000 in
theorem rX8_against {S : qS} {mo : Nat} {ad : Nat → Nat} {T : mT} {x1 : Int32} {Q : Int32 → mT → Prop} {post : Int32 → qS → Prop} {xp : String → qS → Prop} (hM : RM S mo ad T) (h : tX8_against x1 T Q) (hp : ∀ (v : Int32) (T' : mT) (S' : qS), Q v T' → RM S' mo ad T' → mfr S S' → post v S') : pX8_against mo x1 S post xp := by
  unfold tX8_against at h
  unfold pX8_against
  obtain ⟨S0, hS0⟩ : ∃ S0, S0 = S := ⟨_, rfl⟩
  rw [← hS0] at hp
  have hF : mfr S0 S := by rw [hS0]; exact mfr.rf
  clear hS0
  refine mg_R hM (k := 26) (by decide) ?_
  refine ml_I hM (by decide) h (fun v5 h => ?_)
  refine mg_R hM (k := 26) (by decide) ?_
  refine ml_I hM (by decide) h (fun v14 h => ?_)
  refine mg_R hM (k := 26) (by decide) ?_
  refine ml_I hM (by decide) h (fun v23 h => ?_)
  refine mg_R hM (k := 26) (by decide) ?_
  refine ml_I hM (by decide) h (fun v34 h => ?_)
  refine mg_R hM (k := 2) (by decide) ?_
  refine mg_R hM (k := 26) (by decide) ?_
  refine ml_I hM (by decide) h (fun v51 h => ?_)
  refine ml_I hM (by decide) h (fun v53 h => ?_)
  refine mg_R hM (k := 26) (by decide) ?_
  refine ml_I hM (by decide) h (fun v61 h => ?_)
  refine ⟨fun c62 => ?_, fun c62 => ?_⟩
  · have h := h.1 c62
    refine mg_R hM (k := 2) (by decide) ?_
    refine mg_R hM (k := 26) (by decide) ?_
    refine ml_I hM (by decide) h (fun v82 h => ?_)
    refine ml_I hM (by decide) h (fun v84 h => ?_)
    refine mg_R hM (k := 26) (by decide) ?_
    refine ml_I hM (by decide) h (fun v92 h => ?_)
    refine ⟨fun c93 => ?_, fun c93 => ?_⟩
    · have h := h.1 c93
      refine mg_R hM (k := 26) (by decide) ?_
      refine ml_I hM (by decide) h (fun v107 h => ?_)
      refine mg_R hM (k := 26) (by decide) ?_
      refine ml_I hM (by decide) h (fun v115 h => ?_)
      refine mg_R hM (k := 26) (by decide) ?_
      refine ml_I hM (by decide) h (fun v124 h => ?_)
      refine mg_R hM (k := 26) (by decide) ?_
      refine ml_I hM (by decide) h (fun v132 h => ?_)
      refine mg_at hM ?_
      refine rX8_after hM h (fun v133 T S h hM hF1 => ?_)
      have hF := hF.tr hF1
      refine ⟨fun c136 => ?_, fun c136 => ?_⟩
      · have h := h.1 c136
        refine mg_R hM (k := 26) (by decide) ?_
        refine ml_I hM (by decide) h (fun v151 h => ?_)
        refine mg_R hM (k := 26) (by decide) ?_
        refine ml_I hM (by decide) h (fun v159 h => ?_)
        refine mg_R hM (k := 26) (by decide) ?_
        refine ml_I hM (by decide) h (fun v167 h => ?_)
        refine mg_R hM (k := 26) (by decide) ?_
        refine ml_I hM (by decide) h (fun v175 h => ?_)
        refine mg_at hM ?_
        refine rX8_after hM h (fun v176 T S h hM hF1 => ?_)
        have hF := hF.tr hF1
        refine ⟨fun c179 => ?_, fun c179 => ?_⟩
        · have h := h.1 c179
          have jn212 : ∀ (x1 : Int32) (x3 : Int32) (x4 : Int32) (x5 : Int32) (T : mT) (S : qS), tX8_against_J212 Q x1 x3 x4 x5 T → RM S mo ad T → mfr S0 S → pX8_against_J212 post xp (some mo) x1 x3 x4 x5 S := by
            intro x1 x3 x4 x5 T S h hM hF
            unfold tX8_against_J212 at h
            unfold pX8_against_J212
            have jn240 : ∀ (x1 : Int32) (x4 : Int32) (x5 : Int32) (T : mT) (S : qS), tX8_against_J240 Q x1 x4 x5 T → RM S mo ad T → mfr S0 S → pX8_against_J240 post xp (some mo) x1 x4 x5 S := by
              intro x1 x4 x5 T S h hM hF
              unfold tX8_against_J240 at h
              unfold pX8_against_J240
              have jn294 : ∀ (t0 : Int32) (T : mT) (S : qS), tX8_against_J294 Q t0 T → RM S mo ad T → mfr S0 S → pX8_against_J294 post xp t0 S := by
                intro t0 T S h hM hF
                unfold tX8_against_J294 at h
                unfold pX8_against_J294
                exact hp _ _ _ h hM hF
              have jn288 : ∀ (T : mT) (S : qS), tX8_against_J288 Q T → RM S mo ad T → mfr S0 S → pX8_against_J288 post xp S := by
                intro T S h hM hF
                unfold tX8_against_J288 at h
                unfold pX8_against_J288
                exact jn294 _ _ _ h hM hF
              have jn264 : ∀ (x1 : Int32) (x5 : Int32) (T : mT) (S : qS), tX8_against_J264 Q x1 x5 T → RM S mo ad T → mfr S0 S → pX8_against_J264 post xp (some mo) x1 x5 S := by
                intro x1 x5 T S h hM hF
                unfold tX8_against_J264 at h
                unfold pX8_against_J264
                have jn293 : ∀ (T : mT) (S : qS), tX8_against_J293 Q T → RM S mo ad T → mfr S0 S → pX8_against_J293 post xp S := by
                  intro T S h hM hF
                  unfold tX8_against_J293 at h
                  unfold pX8_against_J293
                  exact jn294 _ _ _ h hM hF
                refine ⟨fun c266 => ?_, fun c266 => ?_⟩
                · have h := h.1 c266
                  exact jn293 _ _ h hM hF
                · have h := h.2 c266
                  refine mg_R hM (k := 15) (by decide) ?_
                  refine ml_I hM (by decide) h (fun v275 h => ?_)
                  refine mg_R hM (k := 26) (by decide) ?_
                  refine ml_I hM (by decide) h (fun v284 h => ?_)
                  refine ⟨fun c285 => ?_, fun c285 => ?_⟩
                  · have h := h.1 c285
                    exact jn293 _ _ h hM hF
                  · have h := h.2 c285
                    exact jn288 _ _ h hM hF
              refine ⟨fun c242 => ?_, fun c242 => ?_⟩
              · have h := h.1 c242
                exact jn264 _ _ _ _ h hM hF
              · have h := h.2 c242
                refine mg_R hM (k := 15) (by decide) ?_
                refine ml_I hM (by decide) h (fun v251 h => ?_)
                refine mg_R hM (k := 26) (by decide) ?_
                refine ml_I hM (by decide) h (fun v260 h => ?_)
                refine ⟨fun c261 => ?_, fun c261 => ?_⟩
                · have h := h.1 c261
                  exact jn288 _ _ h hM hF
                · have h := h.2 c261
                  exact jn264 _ _ _ _ h hM hF
            refine ⟨fun c214 => ?_, fun c214 => ?_⟩
            · have h := h.1 c214
              exact jn240 _ _ _ _ _ h hM hF
            · have h := h.2 c214
              refine mg_R hM (k := 19) (by decide) ?_
              refine ml_I hM (by decide) h (fun v223 h => ?_)
              have jn237 : ∀ (T : mT) (S : qS), tX8_against_J237 Q T → RM S mo ad T → mfr S0 S → pX8_against_J237 post xp S := by
                intro T S h hM hF
                unfold tX8_against_J237 at h
                unfold pX8_against_J237
                exact hp _ _ _ h hM hF
              refine ⟨fun c225 => ?_, fun c225 => ?_⟩
              · have h := h.1 c225
                exact jn237 _ _ h hM hF
              · have h := h.2 c225
                refine mg_at hM ?_
                refine rX8_mayGo hM h (fun v231 T S h hM hF1 => ?_)
                have hF := hF.tr hF1
                refine ⟨fun c234 => ?_, fun c234 => ?_⟩
                · have h := h.1 c234
                  exact jn240 _ _ _ _ _ h hM hF
                · have h := h.2 c234
                  exact jn237 _ _ h hM hF
          refine ⟨fun c186 => ?_, fun c186 => ?_⟩
          · have h := h.1 c186
            exact jn212 _ _ _ _ _ _ h hM hF
          · have h := h.2 c186
            refine mg_R hM (k := 19) (by decide) ?_
            refine ml_I hM (by decide) h (fun v195 h => ?_)
            have jn209 : ∀ (T : mT) (S : qS), tX8_against_J209 Q T → RM S mo ad T → mfr S0 S → pX8_against_J209 post xp S := by
              intro T S h hM hF
              unfold tX8_against_J209 at h
              unfold pX8_against_J209
              exact hp _ _ _ h hM hF
            refine ⟨fun c197 => ?_, fun c197 => ?_⟩
            · have h := h.1 c197
              exact jn209 _ _ h hM hF
            · have h := h.2 c197
              refine mg_at hM ?_
              refine rX8_mayGo hM h (fun v203 T S h hM hF1 => ?_)
              have hF := hF.tr hF1
              refine ⟨fun c206 => ?_, fun c206 => ?_⟩
              · have h := h.1 c206
                exact jn212 _ _ _ _ _ _ h hM hF
              · have h := h.2 c206
                exact jn209 _ _ h hM hF
        · have h := h.2 c179
          exact hp _ _ _ h hM hF
      · have h := h.2 c136
        exact hp _ _ _ h hM hF
    · have h := h.2 c93
      exact hp _ _ _ h hM hF
  · have h := h.2 c62
    exact hp _ _ _ h hM hF

def tX8_agree_J258  (Q : Int32 → mT → Prop) (x1 : Int32) (T : mT) : Prop :=
  t_stZ T 27 x1 (0 : Int32) (fun T =>
  Q (0 : Int32) T)
def tX8_agree_J227  (Q : Int32 → mT → Prop) (x1 : Int32) (x2 : Int32) (T : mT) : Prop :=
  t_ldI T 26 (x2 + (7 : Int32)) (fun v235 =>
  ((v235 < 0 →
  tX8_agree_J258 Q x1 T) ∧ (¬ v235 < 0 →
  t_ldI T 26 (x2 + (7 : Int32)) (fun v248 =>
  t_ldI T 26 x2 (fun v254 =>
  tX8_goes v248 v254 T (fun T =>
  tX8_agree_J258 Q x1 T))))))
def tX8_agree_J27  (Q : Int32 → mT → Prop) (x1 : Int32) (t1 : Int32) (T : mT) : Prop :=
  tX8_throwsIf t1 (1 : Int32) T (fun v28 T =>
  ((v28 = 0 →
  t_ldI T 27 x1 (fun v41 =>
  ((¬ v41 = 0 →
  tX8_against ((10 : Int32) * x1) T (fun v54 T =>
  ((v54 ≤ 0 →
  t_ldI T 26 ((10 : Int32) * x1) (fun v70 =>
  t_ldI T 26 (((10 : Int32) * x1) + (1 : Int32)) (fun v82 =>
  t_ldI T 26 (((10 : Int32) * x1) + (3 : Int32)) (fun v99 =>
  t_ldI T 2 (((4 : Int32) * v70) + v99) (fun v102 =>
  t_ldI T 26 (((10 : Int32) * x1) + (2 : Int32)) (fun v110 =>
  t_stI T 2 (((4 : Int32) * v70) + v99) (v102 - v110) (fun T =>
  t_ldI T 26 (((10 : Int32) * x1) + (6 : Int32)) (fun v127 =>
  t_ldI T 2 (((4 : Int32) * v82) + v127) (fun v130 =>
  t_ldI T 26 (((10 : Int32) * x1) + (5 : Int32)) (fun v138 =>
  t_stI T 2 (((4 : Int32) * v82) + v127) (v130 - v138) (fun T =>
  t_ldI T 26 (((10 : Int32) * x1) + (3 : Int32)) (fun v154 =>
  t_ldI T 2 (((4 : Int32) * v82) + v154) (fun v157 =>
  t_ldI T 26 (((10 : Int32) * x1) + (2 : Int32)) (fun v165 =>
  t_stI T 2 (((4 : Int32) * v82) + v154) (v157 + v165) (fun T =>
  t_ldI T 26 (((10 : Int32) * x1) + (6 : Int32)) (fun v182 =>
  t_ldI T 2 (((4 : Int32) * v70) + v182) (fun v185 =>
  t_ldI T 26 (((10 : Int32) * x1) + (5 : Int32)) (fun v193 =>
  t_stI T 2 (((4 : Int32) * v70) + v182) (v185 + v193) (fun T =>
  t_ldI T 26 (((10 : Int32) * x1) + (4 : Int32)) (fun v203 =>
  ((v203 < 0 →
  tX8_agree_J227 Q x1 ((10 : Int32) * x1) T) ∧ (¬ v203 < 0 →
  t_ldI T 26 (((10 : Int32) * x1) + (4 : Int32)) (fun v215 =>
  t_ldI T 26 (((10 : Int32) * x1) + (1 : Int32)) (fun v223 =>
  tX8_goes v215 v223 T (fun T =>
  tX8_agree_J227 Q x1 ((10 : Int32) * x1) T))))))))))))))))))))))))) ∧ (¬ v54 ≤ 0 →
  Q v54 T)))) ∧ (v41 = 0 →
  Q (1 : Int32) T)))) ∧ (¬ v28 = 0 →
  Q (0 : Int32) T)))
def tX8_agree (x1 : Int32) (T : mT) (Q : Int32 → mT → Prop) : Prop :=
  t_putI T 0 (0 : Int32) (fun T =>
  t_getI T 28 (fun v10 =>
  tX8_in x1.toInt64 (0 : Int64) ((v10 - (1 : Int32)).toInt64) T (fun v16 T =>
  ((¬ v16 = 0 →
  tX8_agree_J27 Q x1 (0 : Int32) T) ∧ (v16 = 0 →
  tX8_agree_J27 Q x1 (1 : Int32) T)))))
set_option maxHeartbeats 4000000 in
set_option maxRecDepth 100000 in
theorem rX8_agree {S : qS} {mo : Nat} {ad : Nat → Nat} {T : mT} {x1 : Int32} {Q : Int32 → mT → Prop} {post : Int32 → qS → Prop} {xp : String → qS → Prop} (hM : RM S mo ad T) (h : tX8_agree x1 T Q) (hp : ∀ (v : Int32) (T' : mT) (S' : qS), Q v T' → RM S' mo ad T' → mfr S S' → post v S') : pX8_agree mo x1 S post xp := by
  unfold tX8_agree at h
  unfold pX8_agree
  obtain ⟨S0, hS0⟩ : ∃ S0, S0 = S := ⟨_, rfl⟩
  rw [← hS0] at hp
  have hF : mfr S0 S := by rw [hS0]; exact mfr.rf
  clear hS0
  refine mp_I hM hF (by decide) h (fun T S h hM hF => ?_)
  refine mg_I hM (by decide) h (fun v10 h => ?_)
  refine rX8_in hM h (fun v16 T S h hM hF1 => ?_)
  have hF := hF.tr hF1
  have jn27 : ∀ (x1 : Int32) (t1 : Int32) (T : mT) (S : qS), tX8_agree_J27 Q x1 t1 T → RM S mo ad T → mfr S0 S → pX8_agree_J27 post xp (some mo) x1 (some mo) t1 S := by
    intro x1 t1 T S h hM hF
    unfold tX8_agree_J27 at h
    unfold pX8_agree_J27
    refine mg_at hM ?_
    refine rX8_throwsIf hM h (fun v28 T S h hM hF1 => ?_)
    have hF := hF.tr hF1
    refine ⟨fun c31 => ?_, fun c31 => ?_⟩
    · have h := h.1 c31
      refine mg_R hM (k := 27) (by decide) ?_
      refine ml_I hM (by decide) h (fun v41 h => ?_)
      refine ⟨fun c42 => ?_, fun c42 => ?_⟩
      · have h := h.1 c42
        refine mg_at hM ?_
        refine rX8_against hM h (fun v54 T S h hM hF1 => ?_)
        have hF := hF.tr hF1
        refine ⟨fun c59 => ?_, fun c59 => ?_⟩
        · have h := h.1 c59
          refine mg_R hM (k := 26) (by decide) ?_
          refine ml_I hM (by decide) h (fun v70 h => ?_)
          refine mg_R hM (k := 26) (by decide) ?_
          refine ml_I hM (by decide) h (fun v82 h => ?_)
          refine mg_R hM (k := 2) (by decide) ?_
          refine mg_R hM (k := 26) (by decide) ?_
          refine ml_I hM (by decide) h (fun v99 h => ?_)
          refine ml_I hM (by decide) h (fun v102 h => ?_)
          refine mg_R hM (k := 26) (by decide) ?_
          refine ml_I hM (by decide) h (fun v110 h => ?_)
          refine ms_I hM hF (by decide) h (fun T S h hM hF => ?_)
          refine mg_R hM (k := 2) (by decide) ?_
          refine mg_R hM (k := 26) (by decide) ?_
          refine ml_I hM (by decide) h (fun v127 h => ?_)
          refine ml_I hM (by decide) h (fun v130 h => ?_)
          refine mg_R hM (k := 26) (by decide) ?_
          refine ml_I hM (by decide) h (fun v138 h => ?_)
          refine ms_I hM hF (by decide) h (fun T S h hM hF => ?_)
          refine mg_R hM (k := 2) (by decide) ?_
          refine mg_R hM (k := 26) (by decide) ?_
          refine ml_I hM (by decide) h (fun v154 h => ?_)
          refine ml_I hM (by decide) h (fun v157 h => ?_)
          refine mg_R hM (k := 26) (by decide) ?_
          refine ml_I hM (by decide) h (fun v165 h => ?_)
          refine ms_I hM hF (by decide) h (fun T S h hM hF => ?_)
          refine mg_R hM (k := 2) (by decide) ?_
          refine mg_R hM (k := 26) (by decide) ?_
          refine ml_I hM (by decide) h (fun v182 h => ?_)
          refine ml_I hM (by decide) h (fun v185 h => ?_)
          refine mg_R hM (k := 26) (by decide) ?_
          refine ml_I hM (by decide) h (fun v193 h => ?_)
          refine ms_I hM hF (by decide) h (fun T S h hM hF => ?_)
          refine mg_R hM (k := 26) (by decide) ?_
          refine ml_I hM (by decide) h (fun v203 h => ?_)
          have jn227 : ∀ (x1 : Int32) (x2 : Int32) (T : mT) (S : qS), tX8_agree_J227 Q x1 x2 T → RM S mo ad T → mfr S0 S → pX8_agree_J227 post xp (some mo) x1 x2 S := by
            intro x1 x2 T S h hM hF
            unfold tX8_agree_J227 at h
            unfold pX8_agree_J227
            refine mg_R hM (k := 26) (by decide) ?_
            refine ml_I hM (by decide) h (fun v235 h => ?_)
            have jn258 : ∀ (x1 : Int32) (T : mT) (S : qS), tX8_agree_J258 Q x1 T → RM S mo ad T → mfr S0 S → pX8_agree_J258 post xp (some mo) x1 S := by
              intro x1 T S h hM hF
              unfold tX8_agree_J258 at h
              unfold pX8_agree_J258
              refine mg_R hM (k := 27) (by decide) ?_
              refine ms_Z hM hF (by decide) h (fun T S h hM hF => ?_)
              exact hp _ _ _ h hM hF
            refine ⟨fun c236 => ?_, fun c236 => ?_⟩
            · have h := h.1 c236
              exact jn258 _ _ _ h hM hF
            · have h := h.2 c236
              refine mg_R hM (k := 26) (by decide) ?_
              refine ml_I hM (by decide) h (fun v248 h => ?_)
              refine mg_R hM (k := 26) (by decide) ?_
              refine ml_I hM (by decide) h (fun v254 h => ?_)
              refine mg_at hM ?_
              refine rX8_goes hM h (fun T S h hM hF1 => ?_)
              have hF := hF.tr hF1
              exact jn258 _ _ _ h hM hF
          refine ⟨fun c204 => ?_, fun c204 => ?_⟩
          · have h := h.1 c204
            exact jn227 _ _ _ _ h hM hF
          · have h := h.2 c204
            refine mg_R hM (k := 26) (by decide) ?_
            refine ml_I hM (by decide) h (fun v215 h => ?_)
            refine mg_R hM (k := 26) (by decide) ?_
            refine ml_I hM (by decide) h (fun v223 h => ?_)
            refine mg_at hM ?_
            refine rX8_goes hM h (fun T S h hM hF1 => ?_)
            have hF := hF.tr hF1
            exact jn227 _ _ _ _ h hM hF
        · have h := h.2 c59
          exact hp _ _ _ h hM hF
      · have h := h.2 c42
        exact hp _ _ _ h hM hF
    · have h := h.2 c31
      exact hp _ _ _ h hM hF
  refine ⟨fun c19 => ?_, fun c19 => ?_⟩
  · have h := h.1 c19
    exact jn27 _ _ _ _ h hM hF
  · have h := h.2 c19
    exact jn27 _ _ _ _ h hM hF

def tX8_withdraw_J27  (Q : Int32 → mT → Prop) (x1 : Int32) (t1 : Int32) (T : mT) : Prop :=
  tX8_throwsIf t1 (1 : Int32) T (fun v28 T =>
  ((v28 = 0 →
  t_ldI T 27 x1 (fun v41 =>
  t_stZ T 27 x1 (0 : Int32) (fun T =>
  ((v41 = 0 ∨ v41 = 1) ∧ Q v41 T)))) ∧ (¬ v28 = 0 →
  (((0 : Int32) = 0 ∨ (0 : Int32) = 1) ∧ Q (0 : Int32) T))))
def tX8_withdraw (x1 : Int32) (T : mT) (Q : Int32 → mT → Prop) : Prop :=
  t_putI T 0 (0 : Int32) (fun T =>
  t_getI T 28 (fun v10 =>
  tX8_in x1.toInt64 (0 : Int64) ((v10 - (1 : Int32)).toInt64) T (fun v16 T =>
  ((¬ v16 = 0 →
  tX8_withdraw_J27 Q x1 (0 : Int32) T) ∧ (v16 = 0 →
  tX8_withdraw_J27 Q x1 (1 : Int32) T)))))
set_option maxHeartbeats 4000000 in
set_option maxRecDepth 100000 in
theorem rX8_withdraw {S : qS} {mo : Nat} {ad : Nat → Nat} {T : mT} {x1 : Int32} {Q : Int32 → mT → Prop} {post : Int32 → qS → Prop} {xp : String → qS → Prop} (hM : RM S mo ad T) (h : tX8_withdraw x1 T Q) (hp : ∀ (v : Int32) (T' : mT) (S' : qS), Q v T' → RM S' mo ad T' → mfr S S' → post v S') : pX8_withdraw mo x1 S post xp := by
  unfold tX8_withdraw at h
  unfold pX8_withdraw
  obtain ⟨S0, hS0⟩ : ∃ S0, S0 = S := ⟨_, rfl⟩
  rw [← hS0] at hp
  have hF : mfr S0 S := by rw [hS0]; exact mfr.rf
  clear hS0
  refine mp_I hM hF (by decide) h (fun T S h hM hF => ?_)
  refine mg_I hM (by decide) h (fun v10 h => ?_)
  refine rX8_in hM h (fun v16 T S h hM hF1 => ?_)
  have hF := hF.tr hF1
  have jn27 : ∀ (x1 : Int32) (t1 : Int32) (T : mT) (S : qS), tX8_withdraw_J27 Q x1 t1 T → RM S mo ad T → mfr S0 S → pX8_withdraw_J27 post xp (some mo) x1 (some mo) t1 S := by
    intro x1 t1 T S h hM hF
    unfold tX8_withdraw_J27 at h
    unfold pX8_withdraw_J27
    refine mg_at hM ?_
    refine rX8_throwsIf hM h (fun v28 T S h hM hF1 => ?_)
    have hF := hF.tr hF1
    refine ⟨fun c31 => ?_, fun c31 => ?_⟩
    · have h := h.1 c31
      refine mg_R hM (k := 27) (by decide) ?_
      refine ml_I hM (by decide) h (fun v41 h => ?_)
      refine mg_R hM (k := 27) (by decide) ?_
      refine ms_Z hM hF (by decide) h (fun T S h hM hF => ?_)
      exact ⟨h.1, hp _ _ _ h.2 hM hF⟩
    · have h := h.2 c31
      exact ⟨h.1, hp _ _ _ h.2 hM hF⟩
  refine ⟨fun c19 => ?_, fun c19 => ?_⟩
  · have h := h.1 c19
    exact jn27 _ _ _ _ h hM hF
  · have h := h.2 c19
    exact jn27 _ _ _ _ h hM hF
