/-! Rows over the pool: stores, arrays, new cells. -/
section QV
variable {p : Program} {l : Launch} {e : Env} {R : Room} {s : State} {m : MethodId} {args : Array Value} {below : List Frame} {meth : Method} {c : Code} {H : Heap} {locs : List Loc} {cells slots : Nat} {Q : State → Prop}
variable {cc : ByteArray} {pc nL : Nat} {ls : Array Slot} {rest : List Value} {own : String} {G : qG} {A : Nat → Prop} {S : qS} {r : Option Nat}
theorem q_put {ci k index a : Nat} {C : String} {T : u_T} {N : Nat} {ty0 : Nat → FieldType} {v : Value} {S' : qS} (X : q_X p l s m args meth c cc own nL G A) (I : q_H G A s H locs S) (hc : vwCl[ci]? = some (C, T, N)) (hin : ∀ w ∈ u_ws C T N, w ∈ bg) (hty : ∀ k, k < N → parseFieldDescriptor (T k).2.2.1 = some (ty0 k)) (hnm : ∀ a, a < N → ∀ b, b < N → a ≠ b → (T a).2.1 ≠ (T b).2.1) (hw : Cond.fieldLink own index (T k).1 (T k).2.1 (T k).2.2.1 ∈ bg) (hk : k < N) (hfin : (T k).2.2.2 = false ∨ ((T k).2.2.2 = true ∧ meth.name = "<init>" ∧ (T k).1 = own)) (hn : narrow (ty0 k) v = v) (hfit : fits (ty0 k) v = true) (hdg : decode cc pc = .ok (.putfield index, 3)) (ha : a ∈ qL S) (hka : qK S a = ci) (hS' : va_pl (qL S) (va_up (q_F G.2.1 S) a (.inr (ci, (q_fs S ci a).set k v))) = q_w G.2.1 S') (kk : ∀ H1 locs1, q_H G A s H1 locs1 S' → W p l e R s m args below meth c H1 locs1 cells slots Q (F0 m (pc + 3) ls rest)) : W p l e R s m args below meth c H locs cells slots Q (F0 m pc ls (v :: .ref a :: rest)) := by
  obtain ⟨k0, h0, h1, hnn, -⟩ := q_at_o (G := G) hc ha hka
  have hset : (q_w G.2.1 S).set k0 (a, .inr (ci, (q_fs S ci a).set k v)) = q_w G.2.1 S' := by rw [q_set I.2.1 ha h0, hS']
  have hl : k < (q_fs S ci a).length := by rw [q_fs_len, hnn]; exact hk
  rcases hfin with hf | ⟨hf1, hf2, hf3⟩
  · refine va_put (D := G.1) (ci := ci) X.1 X.2.1 X.2.2.2.1 hin ty0 hty hnm X.2.2.1 X.2.2.2.2.2.2.2.2.1 I.1 I.2.1 I.2.2 k0 h1 hc k hk (X.2.2.2.1 _ hw) (fun _ h9 => h9) hf (hty k hk) hn hfit hl hdg (fun H1 locs1 a1 a2 a3 => ?_)
    rw [hset] at a1 a2
    exact kk H1 locs1 ⟨a1, a2, a3⟩
  · refine va_putF (D := G.1) (ci := ci) X.1 X.2.1 X.2.2.2.1 hin ty0 hty hnm X.2.2.1 X.2.2.2.2.2.2.2.2.1 I.1 I.2.1 I.2.2 k0 h1 hc k hk (X.2.2.2.1 _ hw) (fun _ h9 => h9) hf1 hf2 hf3 (hty k hk) hn hfit hl hdg (fun H1 locs1 a1 a2 a3 => ?_)
    rw [hset] at a1 a2
    exact kk H1 locs1 ⟨a1, a2, a3⟩
theorem q_nZ {v : Int32} (h : v = 0 ∨ v = 1) : narrow .boolean (.int v) = .int v := by rcases h with rfl | rfl <;> rfl
theorem q_nR {ty : FieldType} (h : (∃ n, ty = .object n) ∨ ∃ t, ty = .array t) (v : Option Nat) : narrow ty (va_rf v) = va_rf v ∧ fits ty (va_rf v) = true := by
  rcases h with ⟨n, rfl⟩ | ⟨t, rfl⟩ <;> cases v <;> exact ⟨rfl, rfl⟩
theorem q_putI {ci k index : Nat} {C : String} {T : u_T} {N : Nat} {ty0 : Nat → FieldType} {v : Int32} {K : qS → Prop} (X : q_X p l s m args meth c cc own nL G A) (I : q_H G A s H locs S) (hc : vwCl[ci]? = some (C, T, N)) (hin : ∀ w ∈ u_ws C T N, w ∈ bg) (hty : ∀ k, k < N → parseFieldDescriptor (T k).2.2.1 = some (ty0 k)) (hnm : ∀ a, a < N → ∀ b, b < N → a ≠ b → (T a).2.1 ≠ (T b).2.1) (hw : Cond.fieldLink own index (T k).1 (T k).2.1 (T k).2.2.1 ∈ bg) (hk : k < N) (hfin : (T k).2.2.2 = false ∨ ((T k).2.2.2 = true ∧ meth.name = "<init>" ∧ (T k).1 = own)) (ht : q_ty (40 * ci + k) = 0) (htk : ty0 k = .int) (hdg : decode cc pc = .ok (.putfield index, 3)) (h : w_putI S r ci k v K) (kk : ∀ S' H1 locs1, q_H G A s H1 locs1 S' → K S' → W p l e R s m args below meth c H1 locs1 cells slots Q (F0 m (pc + 3) ls rest)) : W p l e R s m args below meth c H locs cells slots Q (F0 m pc ls (.int v :: va_rf r :: rest)) := by
  obtain ⟨a, rfl, ha, hka, h⟩ := h
  obtain ⟨-, -, -, -, h10⟩ := q_at_o (G := G) hc ha hka
  exact q_put X I hc hin hty hnm hw hk hfin (by rw [htk]; rfl) (by rw [htk]; rfl) hdg ha hka (q_up_I hka h10 ht) (fun H1 locs1 I1 => kk _ H1 locs1 I1 h)
theorem q_putZ {ci k index : Nat} {C : String} {T : u_T} {N : Nat} {ty0 : Nat → FieldType} {v : Int32} {K : qS → Prop} (X : q_X p l s m args meth c cc own nL G A) (I : q_H G A s H locs S) (hc : vwCl[ci]? = some (C, T, N)) (hin : ∀ w ∈ u_ws C T N, w ∈ bg) (hty : ∀ k, k < N → parseFieldDescriptor (T k).2.2.1 = some (ty0 k)) (hnm : ∀ a, a < N → ∀ b, b < N → a ≠ b → (T a).2.1 ≠ (T b).2.1) (hw : Cond.fieldLink own index (T k).1 (T k).2.1 (T k).2.2.1 ∈ bg) (hk : k < N) (hfin : (T k).2.2.2 = false ∨ ((T k).2.2.2 = true ∧ meth.name = "<init>" ∧ (T k).1 = own)) (ht : q_ty (40 * ci + k) = 0) (htk : ty0 k = .boolean) (hdg : decode cc pc = .ok (.putfield index, 3)) (h : w_putZ S r ci k v K) (kk : ∀ S' H1 locs1, q_H G A s H1 locs1 S' → K S' → W p l e R s m args below meth c H1 locs1 cells slots Q (F0 m (pc + 3) ls rest)) : W p l e R s m args below meth c H locs cells slots Q (F0 m pc ls (.int v :: va_rf r :: rest)) := by
  obtain ⟨a, rfl, ha, hka, hz, h⟩ := h
  obtain ⟨-, -, -, -, h10⟩ := q_at_o (G := G) hc ha hka
  exact q_put X I hc hin hty hnm hw hk hfin (by rw [htk]; exact q_nZ hz) (by rw [htk]; rcases hz with rfl | rfl <;> rfl) hdg ha hka (q_up_I hka h10 ht) (fun H1 locs1 I1 => kk _ H1 locs1 I1 h)
theorem q_putJ {ci k index : Nat} {C : String} {T : u_T} {N : Nat} {ty0 : Nat → FieldType} {v : Int64} {K : qS → Prop} (X : q_X p l s m args meth c cc own nL G A) (I : q_H G A s H locs S) (hc : vwCl[ci]? = some (C, T, N)) (hin : ∀ w ∈ u_ws C T N, w ∈ bg) (hty : ∀ k, k < N → parseFieldDescriptor (T k).2.2.1 = some (ty0 k)) (hnm : ∀ a, a < N → ∀ b, b < N → a ≠ b → (T a).2.1 ≠ (T b).2.1) (hw : Cond.fieldLink own index (T k).1 (T k).2.1 (T k).2.2.1 ∈ bg) (hk : k < N) (hfin : (T k).2.2.2 = false ∨ ((T k).2.2.2 = true ∧ meth.name = "<init>" ∧ (T k).1 = own)) (ht : q_ty (40 * ci + k) = 1) (htk : ty0 k = .long) (hdg : decode cc pc = .ok (.putfield index, 3)) (h : w_putJ S r ci k v K) (kk : ∀ S' H1 locs1, q_H G A s H1 locs1 S' → K S' → W p l e R s m args below meth c H1 locs1 cells slots Q (F0 m (pc + 3) ls rest)) : W p l e R s m args below meth c H locs cells slots Q (F0 m pc ls (.long v :: va_rf r :: rest)) := by
  obtain ⟨a, rfl, ha, hka, h⟩ := h
  obtain ⟨-, -, -, -, h10⟩ := q_at_o (G := G) hc ha hka
  exact q_put X I hc hin hty hnm hw hk hfin (by rw [htk]; rfl) (by rw [htk]; rfl) hdg ha hka (q_up_J hka h10 ht) (fun H1 locs1 I1 => kk _ H1 locs1 I1 h)
theorem q_putR {ci k index : Nat} {C : String} {T : u_T} {N : Nat} {ty0 : Nat → FieldType} {v : Option Nat} {K : qS → Prop} (X : q_X p l s m args meth c cc own nL G A) (I : q_H G A s H locs S) (hc : vwCl[ci]? = some (C, T, N)) (hin : ∀ w ∈ u_ws C T N, w ∈ bg) (hty : ∀ k, k < N → parseFieldDescriptor (T k).2.2.1 = some (ty0 k)) (hnm : ∀ a, a < N → ∀ b, b < N → a ≠ b → (T a).2.1 ≠ (T b).2.1) (hw : Cond.fieldLink own index (T k).1 (T k).2.1 (T k).2.2.1 ∈ bg) (hk : k < N) (hfin : (T k).2.2.2 = false ∨ ((T k).2.2.2 = true ∧ meth.name = "<init>" ∧ (T k).1 = own)) (ht : q_ty (40 * ci + k) = 2) (htk : (∃ n, ty0 k = .object n) ∨ ∃ t, ty0 k = .array t) (hdg : decode cc pc = .ok (.putfield index, 3)) (h : w_putR S r ci k v K) (kk : ∀ S' H1 locs1, q_H G A s H1 locs1 S' → K S' → W p l e R s m args below meth c H1 locs1 cells slots Q (F0 m (pc + 3) ls rest)) : W p l e R s m args below meth c H locs cells slots Q (F0 m pc ls (va_rf v :: va_rf r :: rest)) := by
  obtain ⟨a, rfl, ha, hka, h⟩ := h
  obtain ⟨-, -, -, -, h10⟩ := q_at_o (G := G) hc ha hka
  exact q_put X I hc hin hty hnm hw hk hfin (q_nR htk v).1 (q_nR htk v).2 hdg ha hka (q_up_R hka h10 ht) (fun H1 locs1 I1 => kk _ H1 locs1 I1 h)
/-! arrays -/
theorem q_arr_I {cy : Nat → ClassId} {k a : Nat} (ht : q_aty k < 2) : q_arr cy S k a = .inl (cy (q_aty k), qN S a, .inl (qAI S k a)) := by simp [q_arr, ht]
theorem q_arr_J {cy : Nat → ClassId} {k a : Nat} (ht : q_aty k = 2) : q_arr cy S k a = .inl (cy 2, qN S a, .inr (.inl (qAJ S k a))) := by simp [q_arr, ht]
theorem q_arr_O {cy : Nat → ClassId} {k a : Nat} (ht : 2 < q_aty k) : q_arr cy S k a = .inl (cy (q_aty k), qN S a, .inr (.inr (.inr (.inr (qAO S k a))))) := by simp [q_arr, show ¬ q_aty k < 2 by omega, show ¬ q_aty k = 2 by omega]
theorem q_ldI {k : Nat} {i : Int32} {K : Int32 → Prop} (X : q_X p l s m args meth c cc own nL G A) (I : q_H G A s H locs S) (hk : 10 ≤ k) (ht : q_aty k = 0) (hdg : decode cc pc = .ok (.iaload, 1)) (h : w_ldI S r k i K) (kk : ∀ v, K v → W p l e R s m args below meth c H locs cells slots Q (F0 m (pc + 1) ls (.int v :: rest))) : W p l e R s m args below meth c H locs cells slots Q (F0 m pc ls (.int i :: va_rf r :: rest)) := by
  obtain ⟨a, rfl, ha, hka, hi, h⟩ := h
  obtain ⟨k0, h0, h1⟩ := q_at_a (G := G) hk ha hka
  rw [q_arr_I (by omega)] at h1
  exact va_iald (D := G.1) X.1 X.2.1 X.2.2.2.2.2.2.2.2.1 I.1 k0 0 h1 (by rw [ht]; rfl) hi hdg (kk _ h)
theorem q_ldZ {k : Nat} {i : Int32} {K : Int32 → Prop} (X : q_X p l s m args meth c cc own nL G A) (I : q_H G A s H locs S) (hk : 10 ≤ k) (ht : q_aty k = 1) (hdg : decode cc pc = .ok (.baload, 1)) (h : w_ldI S r k i K) (kk : ∀ v, K v → W p l e R s m args below meth c H locs cells slots Q (F0 m (pc + 1) ls (.int v :: rest))) : W p l e R s m args below meth c H locs cells slots Q (F0 m pc ls (.int i :: va_rf r :: rest)) := by
  obtain ⟨a, rfl, ha, hka, hi, h⟩ := h
  obtain ⟨k0, h0, h1⟩ := q_at_a (G := G) hk ha hka
  rw [q_arr_I (by omega)] at h1
  exact va_zald (D := G.1) X.1 X.2.1 X.2.2.2.2.2.2.2.2.1 I.1 k0 1 h1 (by rw [ht]; rfl) hi hdg (kk _ h)
theorem q_ldJ {k : Nat} {i : Int32} {K : Int64 → Prop} (X : q_X p l s m args meth c cc own nL G A) (I : q_H G A s H locs S) (hk : 10 ≤ k) (ht : q_aty k = 2) (hdg : decode cc pc = .ok (.laload, 1)) (h : w_ldJ S r k i K) (kk : ∀ v, K v → W p l e R s m args below meth c H locs cells slots Q (F0 m (pc + 1) ls (.long v :: rest))) : W p l e R s m args below meth c H locs cells slots Q (F0 m pc ls (.int i :: va_rf r :: rest)) := by
  obtain ⟨a, rfl, ha, hka, hi, h⟩ := h
  obtain ⟨k0, h0, h1⟩ := q_at_a (G := G) hk ha hka
  rw [q_arr_J ht] at h1
  exact va_lald (D := G.1) X.1 X.2.1 X.2.2.2.2.2.2.2.2.1 I.1 k0 2 h1 rfl hi hdg (kk _ h)
theorem q_stI {k : Nat} {i v : Int32} {K : qS → Prop} (X : q_X p l s m args meth c cc own nL G A) (I : q_H G A s H locs S) (hk : 10 ≤ k) (ht : q_aty k = 0) (hdg : decode cc pc = .ok (.iastore, 1)) (h : w_stI S r k i v K) (kk : ∀ S' H1 locs1, q_H G A s H1 locs1 S' → K S' → W p l e R s m args below meth c H1 locs1 cells slots Q (F0 m (pc + 1) ls rest)) : W p l e R s m args below meth c H locs cells slots Q (F0 m pc ls (.int v :: .int i :: va_rf r :: rest)) := by
  obtain ⟨a, rfl, ha, hka, hi, h⟩ := h
  obtain ⟨k0, h0, h1⟩ := q_at_a (G := G) hk ha hka
  rw [q_arr_I (by omega)] at h1
  refine va_iast (D := G.1) X.1 X.2.1 X.2.2.2.2.2.2.2.2.1 I.1 I.2.1 I.2.2 k0 0 h1 (by rw [ht]; rfl) hi hdg (fun H1 locs1 a1 a2 a3 => ?_)
  rw [q_set I.2.1 ha h0, q_up_AI hka hk (by omega)] at a1 a2
  exact kk _ H1 locs1 ⟨a1, a2, a3⟩ h
theorem q_stZ {k : Nat} {i v : Int32} {K : qS → Prop} (X : q_X p l s m args meth c cc own nL G A) (I : q_H G A s H locs S) (hk : 10 ≤ k) (ht : q_aty k = 1) (hdg : decode cc pc = .ok (.bastore, 1)) (h : w_stZ S r k i v K) (kk : ∀ S' H1 locs1, q_H G A s H1 locs1 S' → K S' → W p l e R s m args below meth c H1 locs1 cells slots Q (F0 m (pc + 1) ls rest)) : W p l e R s m args below meth c H locs cells slots Q (F0 m pc ls (.int v :: .int i :: va_rf r :: rest)) := by
  obtain ⟨a, rfl, ha, hka, hi, h⟩ := h
  obtain ⟨k0, h0, h1⟩ := q_at_a (G := G) hk ha hka
  rw [q_arr_I (by omega)] at h1
  refine va_zast (D := G.1) X.1 X.2.1 X.2.2.2.2.2.2.2.2.1 I.1 I.2.1 I.2.2 k0 1 h1 (by rw [ht]; rfl) hi hdg (fun H1 locs1 a1 a2 a3 => ?_)
  rw [q_set I.2.1 ha h0, q_up_AI hka hk (by omega)] at a1 a2
  exact kk _ H1 locs1 ⟨a1, a2, a3⟩ h
theorem q_stJ {k : Nat} {i : Int32} {v : Int64} {K : qS → Prop} (X : q_X p l s m args meth c cc own nL G A) (I : q_H G A s H locs S) (hk : 10 ≤ k) (ht : q_aty k = 2) (hdg : decode cc pc = .ok (.lastore, 1)) (h : w_stJ S r k i v K) (kk : ∀ S' H1 locs1, q_H G A s H1 locs1 S' → K S' → W p l e R s m args below meth c H1 locs1 cells slots Q (F0 m (pc + 1) ls rest)) : W p l e R s m args below meth c H locs cells slots Q (F0 m pc ls (.long v :: .int i :: va_rf r :: rest)) := by
  obtain ⟨a, rfl, ha, hka, hi, h⟩ := h
  obtain ⟨k0, h0, h1⟩ := q_at_a (G := G) hk ha hka
  rw [q_arr_J ht] at h1
  refine va_last (D := G.1) X.1 X.2.1 X.2.2.2.2.2.2.2.2.1 I.1 I.2.1 I.2.2 k0 2 h1 rfl hi hdg (fun H1 locs1 a1 a2 a3 => ?_)
  rw [q_set I.2.1 ha h0, q_up_AJ hka hk ht] at a1 a2
  exact kk _ H1 locs1 ⟨a1, a2, a3⟩ h
end QV
