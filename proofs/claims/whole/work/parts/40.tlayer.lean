/-! The Model without the heap: T = its int fields, its int rows, its long rows, by the number of the field. -/
abbrev mT : Type := (Nat → Int32) × (Nat → Nat → Int32) × (Nat → Nat → Int64)
/-- 0 an int field, 1 an int row, 2 a long row -/
def m_ty (k : Nat) : Nat := if k ∈ [0, 1, 5, 6, 12, 25, 28, 30] then 0 else if k ∈ [13, 14, 32] then 2 else 1
def m_len (k : Nat) : Nat := if k = 2 ∨ k = 7 ∨ k = 8 then 40 else if k = 3 ∨ k = 4 ∨ k = 9 ∨ k = 10 then 10 else if k = 11 ∨ k = 13 ∨ k = 14 ∨ k = 29 ∨ k = 32 then 4 else if k = 22 ∨ k = 23 then 1200 else if k = 26 then 600 else if k = 27 then 60 else if k = 31 then 32 else 40
def RM (S : qS) (mo : Nat) (ad : Nat → Nat) (T : mT) : Prop := mo ∈ qL S ∧ qK S mo = 9 ∧
  (∀ k, k < 33 → m_ty k = 0 → qI S (360 + k) mo = T.1 k) ∧
  (∀ k, k < 33 → m_ty k ≠ 0 → qR S (360 + k) mo = some (ad k) ∧ ad k ∈ qL S ∧ qK S (ad k) = 30 + k ∧ qN S (ad k) = m_len k) ∧
  (∀ k, k < 33 → m_ty k = 1 → qAI S (30 + k) (ad k) = T.2.1 k) ∧ (∀ k, k < 33 → m_ty k = 2 → qAJ S (30 + k) (ad k) = T.2.2 k)
/-- only the Model's maps have changed -/
def mfr (S S' : qS) : Prop := qL S' = qL S ∧ qK S' = qK S ∧ (∀ f, f < 360 → qI S' f = qI S f) ∧ qJ S' = qJ S ∧ qR S' = qR S ∧ qN S' = qN S ∧ (∀ k, k < 30 → qAI S' k = qAI S k) ∧ (∀ k, k < 30 → qAJ S' k = qAJ S k) ∧ qAO S' = qAO S
theorem mfr.rf {S : qS} : mfr S S := ⟨rfl, rfl, fun _ _ => rfl, rfl, rfl, rfl, fun _ _ => rfl, fun _ _ => rfl, rfl⟩
theorem mfr.tr {A B C : qS} (h : mfr A B) (g : mfr B C) : mfr A C := ⟨g.1.trans h.1, g.2.1.trans h.2.1, fun f q => (g.2.2.1 f q).trans (h.2.2.1 f q), g.2.2.2.1.trans h.2.2.2.1, g.2.2.2.2.1.trans h.2.2.2.2.1, g.2.2.2.2.2.1.trans h.2.2.2.2.2.1, fun f q => (g.2.2.2.2.2.2.1 f q).trans (h.2.2.2.2.2.2.1 f q), fun f q => (g.2.2.2.2.2.2.2.1 f q).trans (h.2.2.2.2.2.2.2.1 f q), g.2.2.2.2.2.2.2.2.trans h.2.2.2.2.2.2.2.2⟩
def m_sI (T : mT) (k : Nat) (v : Int32) : mT := (upd T.1 k v, T.2.1, T.2.2)
def m_sA (T : mT) (k i : Nat) (v : Int32) : mT := (T.1, va_up T.2.1 k (upd (T.2.1 k) i v), T.2.2)
def m_sJ (T : mT) (k i : Nat) (v : Int64) : mT := (T.1, T.2.1, va_up T.2.2 k (vp_updL (T.2.2 k) i v))
def t_getI (T : mT) (k : Nat) (K : Int32 → Prop) : Prop := K (T.1 k)
def t_putI (T : mT) (k : Nat) (v : Int32) (K : mT → Prop) : Prop := K (m_sI T k v)
def t_ldI (T : mT) (k : Nat) (i : Int32) (K : Int32 → Prop) : Prop := vp_in i (m_len k) ∧ K (T.2.1 k i.toNatClampNeg)
def t_ldJ (T : mT) (k : Nat) (i : Int32) (K : Int64 → Prop) : Prop := vp_in i (m_len k) ∧ K (T.2.2 k i.toNatClampNeg)
def t_stI (T : mT) (k : Nat) (i v : Int32) (K : mT → Prop) : Prop := vp_in i (m_len k) ∧ K (m_sA T k i.toNatClampNeg v)
def t_stZ (T : mT) (k : Nat) (i v : Int32) (K : mT → Prop) : Prop := vp_in i (m_len k) ∧ K (m_sA T k i.toNatClampNeg (vp_nar .boolean v))
def t_stJ (T : mT) (k : Nat) (i : Int32) (v : Int64) (K : mT → Prop) : Prop := vp_in i (m_len k) ∧ K (m_sJ T k i.toNatClampNeg v)
section MQ
variable {S S0 : qS} {mo : Nat} {ad : Nat → Nat} {T : mT}
theorem mg_at {Kp : Nat → Prop} (hM : RM S mo ad T) (h : Kp mo) : w_at S (some mo) 9 Kp := ⟨mo, rfl, hM.1, hM.2.1, h⟩
theorem mg_I {k : Nat} {Kt Kp : Int32 → Prop} (hM : RM S mo ad T) (hk : k < 33 ∧ m_ty k = 0) (h : t_getI T k Kt) (kk : ∀ v, Kt v → Kp v) : w_getI S (some mo) 9 k Kp := by
  refine ⟨mo, rfl, hM.1, hM.2.1, ?_⟩
  show Kp (qI S (360 + k) mo)
  rw [hM.2.2.1 k hk.1 hk.2]
  exact kk _ h
theorem mg_R {k : Nat} {Kp : Option Nat → Prop} (hM : RM S mo ad T) (hk : k < 33 ∧ m_ty k ≠ 0) (kk : Kp (some (ad k))) : w_getR S (some mo) 9 k Kp := by
  refine ⟨mo, rfl, hM.1, hM.2.1, ?_⟩
  show Kp (qR S (360 + k) mo)
  rw [(hM.2.2.2.1 k hk.1 hk.2).1]
  exact kk
theorem ml_I {k kk9 : Nat} {i : Int32} {Kt Kp : Int32 → Prop} (hM : RM S mo ad T) (hk : k < 33 ∧ m_ty k = 1 ∧ kk9 = 30 + k) (h : t_ldI T k i Kt) (kk : ∀ v, Kt v → Kp v) : w_ldI S (some (ad k)) kk9 i Kp := by
  obtain ⟨h1, h2, rfl⟩ := hk
  obtain ⟨-, a1, a2, a3⟩ := hM.2.2.2.1 k h1 (by rw [h2]; decide)
  refine ⟨ad k, rfl, a1, a2, by rw [a3]; exact h.1, ?_⟩
  rw [hM.2.2.2.2.1 k h1 h2]
  exact kk _ h.2
theorem ml_J {k kk9 : Nat} {i : Int32} {Kt Kp : Int64 → Prop} (hM : RM S mo ad T) (hk : k < 33 ∧ m_ty k = 2 ∧ kk9 = 30 + k) (h : t_ldJ T k i Kt) (kk : ∀ v, Kt v → Kp v) : w_ldJ S (some (ad k)) kk9 i Kp := by
  obtain ⟨h1, h2, rfl⟩ := hk
  obtain ⟨-, a1, a2, a3⟩ := hM.2.2.2.1 k h1 (by rw [h2]; decide)
  refine ⟨ad k, rfl, a1, a2, by rw [a3]; exact h.1, ?_⟩
  rw [hM.2.2.2.2.2 k h1 h2]
  exact kk _ h.2
theorem mp_I {k : Nat} {v : Int32} {Kt : mT → Prop} {Kp : qS → Prop} (hM : RM S mo ad T) (hF : mfr S0 S) (hk : k < 33 ∧ m_ty k = 0) (h : t_putI T k v Kt) (kk : ∀ T' S', Kt T' → RM S' mo ad T' → mfr S0 S' → Kp S') : w_putI S (some mo) 9 k v Kp := by
  refine ⟨mo, rfl, hM.1, hM.2.1, kk _ _ h ⟨hM.1, hM.2.1, fun j hj ht => ?_, hM.2.2.2.1, hM.2.2.2.2.1, hM.2.2.2.2.2⟩ (hF.tr ⟨rfl, rfl, fun f hf => ?_, rfl, rfl, rfl, fun _ _ => rfl, fun _ _ => rfl, rfl⟩)⟩
  · show q_u2 (qI S) (40 * 9 + k) mo v (360 + j) mo = upd T.1 k v j
    unfold q_u2 upd
    by_cases e : j = k
    · subst e
      simp
    · rw [if_neg (by omega), if_neg e]
      exact hM.2.2.1 j hj ht
  · funext a
    show q_u2 (qI S) (40 * 9 + k) mo v f a = qI S f a
    unfold q_u2
    rw [if_neg (by omega)]
theorem ms_A {k i : Nat} {v : Int32} {Kt : mT → Prop} {Kp : qS → Prop} (hM : RM S mo ad T) (hF : mfr S0 S) (hk : k < 33 ∧ m_ty k = 1) (h : Kt (m_sA T k i v)) (kk : ∀ T' S', Kt T' → RM S' mo ad T' → mfr S0 S' → Kp S') : Kp (qsAI S (30 + k) (ad k) i v) := by
  refine kk _ _ h ⟨hM.1, hM.2.1, hM.2.2.1, hM.2.2.2.1, fun j hj ht => ?_, hM.2.2.2.2.2⟩ (hF.tr ⟨rfl, rfl, fun _ _ => rfl, rfl, rfl, rfl, fun f hf => ?_, fun _ _ => rfl, rfl⟩)
  · show q_u2 (qAI S) (30 + k) (ad k) (upd (qAI S (30 + k) (ad k)) i v) (30 + j) (ad j) = va_up T.2.1 k (upd (T.2.1 k) i v) j
    unfold q_u2 va_up
    by_cases e : j = k
    · subst e
      rw [if_pos ⟨rfl, rfl⟩, if_pos rfl, hM.2.2.2.2.1 j hj ht]
    · rw [if_neg (by omega), if_neg e]
      exact hM.2.2.2.2.1 j hj ht
  · funext a
    show q_u2 (qAI S) (30 + k) (ad k) _ f a = qAI S f a
    unfold q_u2
    rw [if_neg (by omega)]
theorem ms_I {k kk9 : Nat} {i v : Int32} {Kt : mT → Prop} {Kp : qS → Prop} (hM : RM S mo ad T) (hF : mfr S0 S) (hk : k < 33 ∧ m_ty k = 1 ∧ kk9 = 30 + k) (h : t_stI T k i v Kt) (kk : ∀ T' S', Kt T' → RM S' mo ad T' → mfr S0 S' → Kp S') : w_stI S (some (ad k)) kk9 i v Kp := by
  obtain ⟨h1, h2, rfl⟩ := hk
  obtain ⟨-, a1, a2, a3⟩ := hM.2.2.2.1 k h1 (by rw [h2]; decide)
  exact ⟨ad k, rfl, a1, a2, by rw [a3]; exact h.1, ms_A hM hF ⟨h1, h2⟩ h.2 kk⟩
theorem ms_Z {k kk9 : Nat} {i v : Int32} {Kt : mT → Prop} {Kp : qS → Prop} (hM : RM S mo ad T) (hF : mfr S0 S) (hk : k < 33 ∧ m_ty k = 1 ∧ kk9 = 30 + k) (h : t_stZ T k i v Kt) (kk : ∀ T' S', Kt T' → RM S' mo ad T' → mfr S0 S' → Kp S') : w_stZ S (some (ad k)) kk9 i v Kp := by
  obtain ⟨h1, h2, rfl⟩ := hk
  obtain ⟨-, a1, a2, a3⟩ := hM.2.2.2.1 k h1 (by rw [h2]; decide)
  exact ⟨ad k, rfl, a1, a2, by rw [a3]; exact h.1, ms_A hM hF ⟨h1, h2⟩ h.2 kk⟩
theorem ms_J {k kk9 : Nat} {i : Int32} {v : Int64} {Kt : mT → Prop} {Kp : qS → Prop} (hM : RM S mo ad T) (hF : mfr S0 S) (hk : k < 33 ∧ m_ty k = 2 ∧ kk9 = 30 + k) (h : t_stJ T k i v Kt) (kk : ∀ T' S', Kt T' → RM S' mo ad T' → mfr S0 S' → Kp S') : w_stJ S (some (ad k)) kk9 i v Kp := by
  obtain ⟨h1, h2, rfl⟩ := hk
  obtain ⟨-, a1, a2, a3⟩ := hM.2.2.2.1 k h1 (by rw [h2]; decide)
  refine ⟨ad k, rfl, a1, a2, by rw [a3]; exact h.1, kk _ _ h.2 ⟨hM.1, hM.2.1, hM.2.2.1, hM.2.2.2.1, hM.2.2.2.2.1, fun j hj ht => ?_⟩ (hF.tr ⟨rfl, rfl, fun _ _ => rfl, rfl, rfl, rfl, fun _ _ => rfl, fun f hf => ?_, rfl⟩)⟩
  · show q_u2 (qAJ S) (30 + k) (ad k) (vp_updL (qAJ S (30 + k) (ad k)) i.toNatClampNeg v) (30 + j) (ad j) = va_up T.2.2 k (vp_updL (T.2.2 k) i.toNatClampNeg v) j
    unfold q_u2 va_up
    by_cases e : j = k
    · subst e
      rw [if_pos ⟨rfl, rfl⟩, if_pos rfl, hM.2.2.2.2.2 j hj ht]
    · rw [if_neg (by omega), if_neg e]
      exact hM.2.2.2.2.2 j hj ht
  · funext a
    show q_u2 (qAJ S) (30 + k) (ad k) _ f a = qAJ S f a
    unfold q_u2
    rw [if_neg (by omega)]
end MQ
