/-! The layer: one pool of cells, told by maps (a field number and an address; an array's kind and its address). -/
def bg : List Cond := lw_tbl.filter goodWord
theorem bg_in {w : Cond} (n : Nat) (h : tables_1[n]? = some w) (hg : goodWord w = true) : w ∈ bg := List.mem_filter.mpr ⟨List.mem_append_right _ (List.mem_of_getElem? h), hg⟩
theorem bg_sel {w : Cond} (n : Nat) (h : (k2_sels lw_privs)[n]? = some w) (hg : goodWord w = true) : w ∈ bg := List.mem_filter.mpr ⟨List.mem_append_left _ (List.mem_of_getElem? h), hg⟩
theorem bg_good {ws : List Cond} (h : ∀ w ∈ ws, w ∈ bg) : GoodIn bg ws := fun w hw => ⟨h w hw, good_of_word (List.mem_filter.mp (h w hw)).2⟩
def q_refs : List Nat := [1, 40, 41, 42, 80, 81, 121, 161, 162, 200, 203, 243, 244, 248, 249, 250, 280, 320, 321, 322, 323, 324, 325, 326, 327, 362, 363, 364, 367, 368, 369, 370, 371, 373, 374, 375, 376, 377, 378, 379, 380, 381, 382, 383, 384, 386, 387, 389, 391, 392]
def q_aty (k : Nat) : Nat := if k ∈ [18, 19, 20, 29, 43, 44, 62] then 2 else if k ∈ [39, 46, 57] then 1 else if k = 22 then 3 else if k = 21 then 4 else 0
/-- L, K, int fields, long fields, reference fields, lengths, int rows, long rows, reference rows -/
abbrev qS : Type := List Nat × (Nat → Nat) × (Nat → Nat → Int32) × (Nat → Nat → Int64) × (Nat → Nat → Option Nat) × (Nat → Nat) × (Nat → Nat → Nat → Int32) × (Nat → Nat → Nat → Int64) × (Nat → Nat → Nat → Option Nat)
def qL (S : qS) : List Nat := S.1
def qK (S : qS) : Nat → Nat := S.2.1
def qI (S : qS) : Nat → Nat → Int32 := S.2.2.1
def qJ (S : qS) : Nat → Nat → Int64 := S.2.2.2.1
def qR (S : qS) : Nat → Nat → Option Nat := S.2.2.2.2.1
def qN (S : qS) : Nat → Nat := S.2.2.2.2.2.1
def qAI (S : qS) : Nat → Nat → Nat → Int32 := S.2.2.2.2.2.2.1
def qAJ (S : qS) : Nat → Nat → Nat → Int64 := S.2.2.2.2.2.2.2.1
def qAO (S : qS) : Nat → Nat → Nat → Option Nat := S.2.2.2.2.2.2.2.2
def q_u2 {α : Type} (f : Nat → Nat → α) (k a : Nat) (v : α) : Nat → Nat → α := fun k' a' => if k' = k ∧ a' = a then v else f k' a'
def qsI (S : qS) (k a : Nat) (v : Int32) : qS := (qL S, qK S, q_u2 (qI S) k a v, qJ S, qR S, qN S, qAI S, qAJ S, qAO S)
def qsJ (S : qS) (k a : Nat) (v : Int64) : qS := (qL S, qK S, qI S, q_u2 (qJ S) k a v, qR S, qN S, qAI S, qAJ S, qAO S)
def qsR (S : qS) (k a : Nat) (v : Option Nat) : qS := (qL S, qK S, qI S, qJ S, q_u2 (qR S) k a v, qN S, qAI S, qAJ S, qAO S)
def qsAI (S : qS) (k a i : Nat) (v : Int32) : qS := (qL S, qK S, qI S, qJ S, qR S, qN S, q_u2 (qAI S) k a (upd (qAI S k a) i v), qAJ S, qAO S)
def qsAJ (S : qS) (k a i : Nat) (v : Int64) : qS := (qL S, qK S, qI S, qJ S, qR S, qN S, qAI S, q_u2 (qAJ S) k a (vp_updL (qAJ S k a) i v), qAO S)
def qsAO (S : qS) (k a i : Nat) (v : Option Nat) : qS := (qL S, qK S, qI S, qJ S, qR S, qN S, qAI S, qAJ S, q_u2 (qAO S) k a (va_up (qAO S k a) i v))
/-- a new cell q of kind k and length n: all is 0 or null there -/
def q_nw (S : qS) (k q n : Nat) : qS := (qL S ++ [q], va_up (qK S) q k, (fun f a => if a = q then 0 else qI S f a), (fun f a => if a = q then 0 else qJ S f a), (fun f a => if a = q then none else qR S f a), va_up (qN S) q n, (fun f a => if a = q then (fun _ => 0) else qAI S f a), (fun f a => if a = q then (fun _ => 0) else qAJ S f a), (fun f a => if a = q then (fun _ => none) else qAO S f a))
def q_ty (f : Nat) : Nat := if f ∈ q_refs then 2 else if f = 44 then 1 else 0
def q_val (S : qS) (f a : Nat) : Value := if q_ty f = 0 then .int (qI S f a) else if q_ty f = 1 then .long (qJ S f a) else va_rf (qR S f a)
def q_n (ci : Nat) : Nat := ((vwCl[ci]?).map (fun q => q.2.2)).getD 0
def q_fs (S : qS) (ci a : Nat) : List Value := (List.range (q_n ci)).map (fun k => q_val S (40 * ci + k) a)
def q_arr (cy : Nat → ClassId) (S : qS) (k a : Nat) : va_E := if q_aty k < 2 then .inl (cy (q_aty k), qN S a, .inl (qAI S k a)) else if q_aty k = 2 then .inl (cy 2, qN S a, .inr (.inl (qAJ S k a))) else .inl (cy (q_aty k), qN S a, .inr (.inr (.inr (.inr (qAO S k a)))))
def q_F (cy : Nat → ClassId) (S : qS) : Nat → va_E := fun a => if qK S a < 10 then .inr (qK S a, q_fs S (qK S a) a) else q_arr cy S (qK S a) a
def q_w (cy : Nat → ClassId) (S : qS) : va_W := va_pl (qL S) (q_F cy S)
def q_tys (cy : Nat → ClassId) : List (ClassId × FieldType) := [(cy 0, .int), (cy 1, .boolean), (cy 2, .long), (cy 3, .object "java/lang/Object"), (cy 4, .array .long)]
theorem q_F_o {cy : Nat → ClassId} {S : qS} {a ci : Nat} (h : qK S a = ci) (hc : ci < 10) : q_F cy S a = .inr (ci, q_fs S ci a) := by
  unfold q_F
  rw [h, if_pos hc]
theorem q_F_a {cy : Nat → ClassId} {S : qS} {a k : Nat} (h : qK S a = k) (hc : 10 ≤ k) : q_F cy S a = q_arr cy S k a := by
  unfold q_F
  rw [h, if_neg (by omega)]
theorem q_get {cy : Nat → ClassId} {S : qS} {a : Nat} (h : a ∈ qL S) : ∃ k : Nat, (q_w cy S)[k]? = some (a, q_F cy S a) := va_pl_get (X := []) h
theorem q_set {cy : Nat → ClassId} {S : qS} {A : Nat → Prop} {a k : Nat} {e : va_E} (hD : va_D A (q_w cy S)) (h : a ∈ qL S) (hk : (q_w cy S)[k]? = some (a, q_F cy S a)) : (q_w cy S).set k (a, e) = va_pl (qL S) (va_up (q_F cy S) a e) := va_pl_set (X := []) hD h hk
theorem q_fs_get {S : qS} {ci a k : Nat} (hk : k < q_n ci) : (q_fs S ci a)[k]? = some (q_val S (40 * ci + k) a) := by
  unfold q_fs
  rw [List.getElem?_map, List.getElem?_range hk]
  rfl
theorem q_fs_len {S : qS} {ci a : Nat} : (q_fs S ci a).length = q_n ci := by
  unfold q_fs
  rw [List.length_map, List.length_range]
/-- a field's store -/
theorem q_fs_set {S S' : qS} {ci a k : Nat} {v : Value} (hv : q_val S' (40 * ci + k) a = v) (ho : ∀ j, j ≠ k → q_val S' (40 * ci + j) a = q_val S (40 * ci + j) a) : (q_fs S ci a).set k v = q_fs S' ci a := by
  apply List.ext_getElem?
  intro j
  by_cases hj : j < q_n ci
  · by_cases e : j = k
    · subst e
      rw [List.getElem?_set_self (by rw [q_fs_len]; exact hj), q_fs_get hj, hv]
    · rw [List.getElem?_set_ne (Ne.symm e), q_fs_get hj, q_fs_get hj, ho j e]
  · rw [List.getElem?_eq_none (by rw [List.length_set, q_fs_len]; omega), List.getElem?_eq_none (by rw [q_fs_len]; omega)]
theorem q_up_o {cy : Nat → ClassId} {S S' : qS} {ci a k : Nat} {v : Value} (hL : qL S' = qL S) (hK : qK S' = qK S) (hN : qN S' = qN S) (h1 : qAI S' = qAI S) (h2 : qAJ S' = qAJ S) (h3 : qAO S' = qAO S) (ha : qK S a = ci) (hc : ci < 10) (hv : q_val S' (40 * ci + k) a = v) (ho : ∀ j b, (j ≠ 40 * ci + k ∨ b ≠ a) → q_val S' j b = q_val S j b) : va_pl (qL S) (va_up (q_F cy S) a (.inr (ci, (q_fs S ci a).set k v))) = q_w cy S' := by
  unfold q_w
  rw [hL]
  refine va_pl_congr (fun b => ?_)
  by_cases e : b = a
  · subst e
    rw [va_up_self, q_F_o (by rw [hK]; exact ha) hc, q_fs_set hv (fun j hj => ho _ _ (Or.inl (by omega)))]
  · rw [va_up_ne _ _ e]
    by_cases hb : qK S b < 10
    · rw [q_F_o rfl hb, q_F_o (S := S') (by rw [hK]) hb]
      have : q_fs S (qK S b) b = q_fs S' (qK S b) b := by
        unfold q_fs
        apply List.map_congr_left
        intro j _
        exact (ho _ _ (Or.inr e)).symm
      rw [this]
    · rw [q_F_a rfl (by omega), q_F_a (S := S') (by rw [hK]) (by omega)]
      unfold q_arr
      rw [hN, h1, h2, h3]
theorem q_up_I {cy : Nat → ClassId} {S : qS} {ci a k : Nat} {v : Int32} (ha : qK S a = ci) (hc : ci < 10) (ht : q_ty (40 * ci + k) = 0) : va_pl (qL S) (va_up (q_F cy S) a (.inr (ci, (q_fs S ci a).set k (.int v)))) = q_w cy (qsI S (40 * ci + k) a v) := by
  refine q_up_o rfl rfl rfl rfl rfl rfl ha hc ?_ ?_
  · simp [q_val, ht, qsI, qI, q_u2]
  · intro j b h
    have : ¬ (j = 40 * ci + k ∧ b = a) := fun q => h.elim (fun z => z q.1) (fun z => z q.2)
    simp [q_val, qsI, qI, qJ, qR, q_u2, this]
theorem q_up_J {cy : Nat → ClassId} {S : qS} {ci a k : Nat} {v : Int64} (ha : qK S a = ci) (hc : ci < 10) (ht : q_ty (40 * ci + k) = 1) : va_pl (qL S) (va_up (q_F cy S) a (.inr (ci, (q_fs S ci a).set k (.long v)))) = q_w cy (qsJ S (40 * ci + k) a v) := by
  refine q_up_o rfl rfl rfl rfl rfl rfl ha hc ?_ ?_
  · simp [q_val, ht, qsJ, qJ, q_u2]
  · intro j b h
    have : ¬ (j = 40 * ci + k ∧ b = a) := fun q => h.elim (fun z => z q.1) (fun z => z q.2)
    simp [q_val, qsJ, qI, qJ, qR, q_u2, this]
theorem q_up_R {cy : Nat → ClassId} {S : qS} {ci a k : Nat} {v : Option Nat} (ha : qK S a = ci) (hc : ci < 10) (ht : q_ty (40 * ci + k) = 2) : va_pl (qL S) (va_up (q_F cy S) a (.inr (ci, (q_fs S ci a).set k (va_rf v)))) = q_w cy (qsR S (40 * ci + k) a v) := by
  refine q_up_o rfl rfl rfl rfl rfl rfl ha hc ?_ ?_
  · simp [q_val, ht, qsR, qR, q_u2]
  · intro j b h
    have : ¬ (j = 40 * ci + k ∧ b = a) := fun q => h.elim (fun z => z q.1) (fun z => z q.2)
    simp [q_val, qsR, qI, qJ, qR, q_u2, this]
/-- an array's store -/
theorem q_up_a {cy : Nat → ClassId} {S S' : qS} {a k : Nat} {e : va_E} (hL : qL S' = qL S) (hK : qK S' = qK S) (hN : qN S' = qN S) (h1 : qI S' = qI S) (h2 : qJ S' = qJ S) (h3 : qR S' = qR S) (ha : qK S a = k) (hc : 10 ≤ k) (hv : q_arr cy S' k a = e) (ho : ∀ b, b ≠ a → q_arr cy S' (qK S b) b = q_arr cy S (qK S b) b) : va_pl (qL S) (va_up (q_F cy S) a e) = q_w cy S' := by
  unfold q_w
  rw [hL]
  refine va_pl_congr (fun b => ?_)
  by_cases q : b = a
  · subst q
    rw [va_up_self, q_F_a (by rw [hK]; exact ha) hc, hv]
  · rw [va_up_ne _ _ q]
    by_cases hb : qK S b < 10
    · rw [q_F_o rfl hb, q_F_o (S := S') (by rw [hK]) hb]
      have : q_fs S (qK S b) b = q_fs S' (qK S b) b := by
        unfold q_fs q_val
        rw [h1, h2, h3]
      rw [this]
    · rw [q_F_a rfl (by omega), q_F_a (S := S') (by rw [hK]) (by omega), ho b q]
theorem q_up_AI {cy : Nat → ClassId} {S : qS} {a k i : Nat} {v : Int32} (ha : qK S a = k) (hc : 10 ≤ k) (ht : q_aty k < 2) : va_pl (qL S) (va_up (q_F cy S) a (.inl (cy (q_aty k), qN S a, .inl (upd (qAI S k a) i v)))) = q_w cy (qsAI S k a i v) := by
  refine q_up_a rfl rfl rfl rfl rfl rfl ha hc ?_ ?_
  · simp [q_arr, ht, qsAI, qAI, qN, q_u2]
  · intro b h
    simp [q_arr, qsAI, qAI, qAJ, qAO, qN, q_u2, h]
theorem q_up_AJ {cy : Nat → ClassId} {S : qS} {a k i : Nat} {v : Int64} (ha : qK S a = k) (hc : 10 ≤ k) (ht : q_aty k = 2) : va_pl (qL S) (va_up (q_F cy S) a (.inl (cy 2, qN S a, .inr (.inl (vp_updL (qAJ S k a) i v))))) = q_w cy (qsAJ S k a i v) := by
  refine q_up_a rfl rfl rfl rfl rfl rfl ha hc ?_ ?_
  · simp [q_arr, ht, qsAJ, qAJ, qN, q_u2]
  · intro b h
    simp [q_arr, qsAJ, qAI, qAJ, qAO, qN, q_u2, h]
theorem q_up_AO {cy : Nat → ClassId} {S : qS} {a k i : Nat} {v : Option Nat} (ha : qK S a = k) (hc : 10 ≤ k) (ht : 2 < q_aty k) : va_pl (qL S) (va_up (q_F cy S) a (.inl (cy (q_aty k), qN S a, .inr (.inr (.inr (.inr (va_up (qAO S k a) i v))))))) = q_w cy (qsAO S k a i v) := by
  refine q_up_a rfl rfl rfl rfl rfl rfl ha hc ?_ ?_
  · simp [q_arr, show ¬ q_aty k < 2 by omega, show ¬ q_aty k = 2 by omega, qsAO, qAO, qN, q_u2]
  · intro b h
    simp [q_arr, qsAO, qAI, qAJ, qAO, qN, q_u2, h]
/-- a new cell -/
theorem q_push {cy : Nat → ClassId} {S : qS} {k q n : Nat} {e : va_E} (hq : q ∉ qL S) (he : q_F cy (q_nw S k q n) q = e) : q_w cy S ++ [(q, e)] = q_w cy (q_nw S k q n) := by
  unfold q_w
  rw [va_pl_push hq]
  show va_pl (qL S ++ [q]) _ = va_pl (qL S ++ [q]) _
  refine va_pl_congr (fun b => ?_)
  by_cases h : b = q
  · subst h
    rw [va_up_self, he]
  · rw [va_up_ne _ _ h]
    have hKb : qK (q_nw S k q n) b = qK S b := by simp [q_nw, qK, va_up, h]
    by_cases hb : qK S b < 10
    · rw [q_F_o rfl hb, q_F_o hKb hb]
      have : q_fs S (qK S b) b = q_fs (q_nw S k q n) (qK S b) b := by
        unfold q_fs q_val
        simp [q_nw, qI, qJ, qR, h]
      rw [this]
    · rw [q_F_a rfl (by omega), q_F_a hKb (by omega)]
      unfold q_arr
      simp [q_nw, qN, qAI, qAJ, qAO, va_up, h]
