/-! Rows over the pool: what an instruction asks of the maps (w_..), and its step (q_..). -/
abbrev qG : Type := va_G × (Nat → ClassId) × Nat × Nat
theorem q_cat (r : Option Nat) : (va_rf r).category = 1 := by cases r <;> rfl
def q_A (G : qG) (S : qS) (sz : Nat) : Nat → Prop := va_A (q_w G.2.1 S) sz
def q_strs : List (String × Nat × String) := [("GoodsKeeper", 53, "there are 10 players"), ("GoodsKeeper", 67, "there are 10 rules"), ("GoodsKeeper", 327, "there is no such rule"), ("GoodsKeeper", 331, "there is no such kind"), ("GoodsKeeper", 333, "a number is out of its range"), ("GoodsKeeper", 324, "there is no such player"), ("GoodsKeeper", 117, "there are 40 singles"), ("GoodsKeeper$Things", 26, "there is no such single"), ("GoodsKeeper", 205, "what is not 0 to 8"), ("GoodsKeeper", 220, "the players are one"), ("GoodsKeeper", 224, "there are 60 offers"), ("GoodsKeeper", 329, "there is no such offer")]
def q_casts : List (String × String) := [("java/lang/UnsupportedOperationException", "java/lang/UnsupportedOperationException"), ("java/lang/IndexOutOfBoundsException", "java/lang/IndexOutOfBoundsException"), ("java/lang/IllegalArgumentException", "java/lang/IllegalArgumentException"), ("java/util/NoSuchElementException", "java/util/NoSuchElementException"), ("GoodsKeeper$Player", "java/lang/Object"), ("GoodsKeeper$Rule", "java/lang/Object"), ("GoodsKeeper$Offer", "java/lang/Object"), ("GoodsKeeper$Single", "java/lang/Object")]
def q_ncs : List (String × String) := [("java/lang/UnsupportedOperationException", "java/lang/IndexOutOfBoundsException"), ("java/lang/UnsupportedOperationException", "java/lang/IllegalArgumentException"), ("java/lang/UnsupportedOperationException", "java/util/NoSuchElementException"), ("java/lang/IndexOutOfBoundsException", "java/lang/UnsupportedOperationException"), ("java/lang/IndexOutOfBoundsException", "java/lang/IllegalArgumentException"), ("java/lang/IndexOutOfBoundsException", "java/util/NoSuchElementException"), ("java/lang/IllegalArgumentException", "java/lang/UnsupportedOperationException"), ("java/lang/IllegalArgumentException", "java/lang/IndexOutOfBoundsException"), ("java/lang/IllegalArgumentException", "java/util/NoSuchElementException"), ("java/util/NoSuchElementException", "java/lang/UnsupportedOperationException"), ("java/util/NoSuchElementException", "java/lang/IndexOutOfBoundsException"), ("java/util/NoSuchElementException", "java/lang/IllegalArgumentException")]
def q_nests : List (String × Nat × MethodName) := [("GoodsKeeper", 24, yX6_init), ("GoodsKeeper", 31, yX0_init)]
def q_decls : List MethodName := [⟨"java/lang/RuntimeException", "<init>", "()V"⟩, ⟨"java/lang/RuntimeException", "<init>", "(Ljava/lang/String;)V"⟩, ⟨"java/lang/Exception", "<init>", "()V"⟩, ⟨"java/lang/Exception", "<init>", "(Ljava/lang/String;)V"⟩, ⟨"java/lang/Throwable", "<init>", "()V"⟩, ⟨"java/lang/Throwable", "<init>", "(Ljava/lang/String;)V"⟩]
/-- what the tables hold that is no word of bg -/
def q_V (G : qG) (U : State) : Prop :=
  (U.vm.findClass "[I" = some (G.2.1 0) ∧ U.vm.findClass "[Z" = some (G.2.1 1) ∧ U.vm.findClass "[J" = some (G.2.1 2) ∧ U.vm.findClass "[Ljava/lang/Object;" = some (G.2.1 3) ∧ U.vm.findClass "[[J" = some (G.2.1 4)) ∧
  (va_AO "java/lang/Object" U ∧ va_AOA .long U ∧ va_Dc U ∧ va_Mi "[Ljava/lang/Object;" G.2.2.2 U) ∧
  (∀ q ∈ q_strs, ∃ a, vk_R q.1 q.2.1 q.2.2 a U) ∧ (∀ q ∈ q_casts, va_Nw (.castable q.1 q.2) U) ∧ (∀ q ∈ q_ncs, va_Nc q.1 q.2 U) ∧ (∀ q ∈ q_nests, va_Nw (.methodLinkNest q.1 q.2.1 q.2.2 "GoodsKeeper") U) ∧ (∀ q ∈ q_decls, va_Nw (.declares q) U)
def q_Z (G : qG) (A : Nat → Prop) (U : State) (H : Heap) : Prop :=
  vx_Zq Bundle.tN "UNASSIGNED_STACK" Bundle.steD A U H ∧ vx_Zq Bundle.tN "SUPPRESSED_SENTINEL" Bundle.listD A U H ∧ va_Z RJx4a65c "DEFAULTCAPACITY_EMPTY_ELEMENTDATA" "[Ljava/lang/Object;" (.ref G.2.2.1) A U H ∧ va_T (.object "java/lang/Object") G.2.2.1 0 (fun _ => .null) A U H
def q_E (G : qG) (A : Nat → Prop) (U : State) (H : Heap) : Prop := va_K G.1 vwCl (q_tys G.2.1) U ∧ q_V G U ∧ q_Z G A U H
theorem q_AOA_moved {t : FieldType} {u U : State} (hvm : u.vm.Alike U.vm) (h : va_AOA t u) : va_AOA t U := over_moved hvm h
theorem q_find {u U : State} (hvm : u.vm.Alike U.vm) {n : String} {c : ClassId} (h : u.vm.findClass n = some c) : U.vm.findClass n = some c := by
  rw [hvm.findClass]
  exact h
theorem q_V.warm {G : qG} {s U : State} (hW : s.WarmedH U.vm) (h : q_V G s) : q_V G U := by
  obtain ⟨⟨a1, a2, a3, a4, a5⟩, ⟨b1, b2, b3, b4⟩, c1, c2, c3, c4, c5⟩ := h
  have hv := hW.alike
  refine ⟨⟨q_find hv a1, q_find hv a2, q_find hv a3, q_find hv a4, q_find hv a5⟩, ⟨b1.moved hv, q_AOA_moved hv b2, b3.moved hv, b4.moved hv⟩, fun q hq => ?_, fun q hq => (c2 q hq).warmC hW, fun q hq => (c3 q hq).moved hv, fun q hq => (c4 q hq).warmM hW, fun q hq => (c5 q hq).warmD hW⟩
  obtain ⟨a, ha⟩ := c1 q hq
  exact ⟨a, ha.warm hW⟩
theorem q_V.same {G : qG} {u U : State} (hv : u.vm = U.vm) (h : q_V G u) : q_V G U := by
  obtain ⟨⟨a1, a2, a3, a4, a5⟩, ⟨b1, b2, b3, b4⟩, c1, c2, c3, c4, c5⟩ := h
  have hA : u.vm.Alike U.vm := by rw [hv]; exact Vm.Alike.refl _
  refine ⟨⟨q_find hA a1, q_find hA a2, q_find hA a3, q_find hA a4, q_find hA a5⟩, ⟨b1.moved hA, q_AOA_moved hA b2, b3.moved hA, b4.moved hA⟩, fun q hq => ?_, fun q hq => (c2 q hq).same rfl hv, fun q hq => (c3 q hq).moved hA, fun q hq => (c4 q hq).same rfl hv, fun q hq => (c5 q hq).same rfl hv⟩
  obtain ⟨a, ha⟩ := c1 q hq
  exact ⟨a, ha.same hv.symm⟩
theorem q_Z.step {G : qG} {A B : Nat → Prop} {u U : State} {H H1 : Heap} (hv : u.vm.Alike U.vm) (hq : ∀ a : Nat, a < H.size → ¬ A a → H1[a]? = H[a]?) (hB : ∀ q, B q → A q) (h : q_Z G A u H) : q_Z G B U H1 := by
  obtain ⟨h1, h2, h3, h4⟩ := h
  exact ⟨((h1.moved hv).kept hq).narrow hB, ((h2.moved hv).kept hq).narrow hB, ((h3.moved hv).kept hq).narrow hB, ((h4.moved hv).kept hq).narrow hB⟩
theorem q_E.warm {G : qG} {A B : Nat → Prop} {s U : State} {H : Heap} (hW : s.WarmedH U.vm) (hq : ∀ a : Nat, a < s.heap.size → ¬ A a → H[a]? = s.heap[a]?) (hB : ∀ q, B q → A q) (hU : U.heap = H) (h : q_E G A s s.heap) : q_E G B U U.heap := by
  rw [hU]
  exact ⟨h.1.moved hW.alike, h.2.1.warm hW, h.2.2.step hW.alike hq hB⟩
def q_X (p : Program) (l : Launch) (s : State) (m : MethodId) (args : Array Value) (meth : Method) (c : Code) (cc : ByteArray) (own : String) (nL : Nat) (G : qG) (A : Nat → Prop) : Prop :=
  p.tables.exec = Jvm.exec ∧ c.code = cc ∧ s.vm.findClass own = some m.cls ∧ (∀ w ∈ bg, w.before args s = true) ∧ c.maxLocals = nL ∧ meth.locks = false ∧ l.stackTraces = false ∧ (∀ q, s.heap.size ≤ q → A q) ∧ q_E G A s s.heap
def q_H (G : qG) (A : Nat → Prop) (s : State) (H : Heap) (locs : List Loc) (S : qS) : Prop := va_P G.1 vwCl (q_w G.2.1 S) H ∧ va_D A (q_w G.2.1 S) ∧ va_S A s.heap H locs
def w_at (S : qS) (r : Option Nat) (k : Nat) (K : Nat → Prop) : Prop := ∃ a, r = some a ∧ a ∈ qL S ∧ qK S a = k ∧ K a
def w_getI (S : qS) (r : Option Nat) (ci k : Nat) (K : Int32 → Prop) : Prop := w_at S r ci (fun a => K (qI S (40 * ci + k) a))
def w_getJ (S : qS) (r : Option Nat) (ci k : Nat) (K : Int64 → Prop) : Prop := w_at S r ci (fun a => K (qJ S (40 * ci + k) a))
def w_getR (S : qS) (r : Option Nat) (ci k : Nat) (K : Option Nat → Prop) : Prop := w_at S r ci (fun a => K (qR S (40 * ci + k) a))
def w_putI (S : qS) (r : Option Nat) (ci k : Nat) (v : Int32) (K : qS → Prop) : Prop := w_at S r ci (fun a => K (qsI S (40 * ci + k) a v))
def w_putZ (S : qS) (r : Option Nat) (ci k : Nat) (v : Int32) (K : qS → Prop) : Prop := w_at S r ci (fun a => (v = 0 ∨ v = 1) ∧ K (qsI S (40 * ci + k) a v))
def w_putJ (S : qS) (r : Option Nat) (ci k : Nat) (v : Int64) (K : qS → Prop) : Prop := w_at S r ci (fun a => K (qsJ S (40 * ci + k) a v))
def w_putR (S : qS) (r : Option Nat) (ci k : Nat) (v : Option Nat) (K : qS → Prop) : Prop := w_at S r ci (fun a => K (qsR S (40 * ci + k) a v))
def w_ldI (S : qS) (r : Option Nat) (k : Nat) (i : Int32) (K : Int32 → Prop) : Prop := w_at S r k (fun a => vp_in i (qN S a) ∧ K (qAI S k a i.toNatClampNeg))
def w_ldJ (S : qS) (r : Option Nat) (k : Nat) (i : Int32) (K : Int64 → Prop) : Prop := w_at S r k (fun a => vp_in i (qN S a) ∧ K (qAJ S k a i.toNatClampNeg))
def w_ldO (S : qS) (r : Option Nat) (k : Nat) (i : Int32) (K : Option Nat → Prop) : Prop := w_at S r k (fun a => vp_in i (qN S a) ∧ K (qAO S k a i.toNatClampNeg))
def w_stI (S : qS) (r : Option Nat) (k : Nat) (i v : Int32) (K : qS → Prop) : Prop := w_at S r k (fun a => vp_in i (qN S a) ∧ K (qsAI S k a i.toNatClampNeg v))
def w_stZ (S : qS) (r : Option Nat) (k : Nat) (i v : Int32) (K : qS → Prop) : Prop := w_at S r k (fun a => vp_in i (qN S a) ∧ K (qsAI S k a i.toNatClampNeg (vp_nar .boolean v)))
def w_stJ (S : qS) (r : Option Nat) (k : Nat) (i : Int32) (v : Int64) (K : qS → Prop) : Prop := w_at S r k (fun a => vp_in i (qN S a) ∧ K (qsAJ S k a i.toNatClampNeg v))
def w_len (S : qS) (r : Option Nat) (k : Nat) (K : Int32 → Prop) : Prop := w_at S r k (fun a => K (nI (qN S a)))
section QV
variable {p : Program} {l : Launch} {e : Env} {R : Room} {s : State} {m : MethodId} {args : Array Value} {below : List Frame} {meth : Method} {c : Code} {H : Heap} {locs : List Loc} {cells slots : Nat} {Q : State → Prop}
variable {cc : ByteArray} {pc nL : Nat} {ls : Array Slot} {rest : List Value} {own : String} {G : qG} {A : Nat → Prop} {S : qS} {r : Option Nat}
theorem q_aload_n {k : Fin 4} {i : Nat} (X : q_X p l s m args meth c cc own nL G A) (hdg : decode cc pc = .ok (.aload_n k, 1)) (hi : (k : Nat) = i) (hl : ls[i]? = some (.val (va_rf r))) (kk : W p l e R s m args below meth c H locs cells slots Q (F0 m (pc + 1) ls (va_rf r :: rest))) : W p l e R s m args below meth c H locs cells slots Q (F0 m pc ls rest) := by
  cases r with
  | none => exact lv_aload_nN X.1 X.2.1 hdg hi hl kk
  | some a => exact lv_aload_n X.1 X.2.1 hdg hi hl kk
theorem q_aload {i : Nat} (X : q_X p l s m args meth c cc own nL G A) (hdg : decode cc pc = .ok (.aload i, 2)) (hl : ls[i]? = some (.val (va_rf r))) (kk : W p l e R s m args below meth c H locs cells slots Q (F0 m (pc + 2) ls (va_rf r :: rest))) : W p l e R s m args below meth c H locs cells slots Q (F0 m pc ls rest) := by
  cases r with
  | none => exact lv_aloadN X.1 X.2.1 hdg hl kk
  | some a => exact lv_aload X.1 X.2.1 hdg hl kk
theorem q_astore_n {k : Fin 4} {i : Nat} {lv lv' : List (Nat × Value)} (X : q_X p l s m args meth c cc own nL G A) (hdg : decode cc pc = .ok (.astore_n k, 1)) (hi : (k : Nat) = i) (h : lv_has ls nL lv) (hn : i < nL) (hl : (i, va_rf r) :: lv.filter (fun q => !(q.1 == i) && !(q.1 + 1 == i && q.2.category == 2)) = lv') (kk : ∀ ls' : Array Slot, lv_has ls' nL lv' → W p l e R s m args below meth c H locs cells slots Q (F0 m (pc + 1) ls' rest)) : W p l e R s m args below meth c H locs cells slots Q (F0 m pc ls (va_rf r :: rest)) := by
  cases r with
  | none => exact lv_astore_nN X.1 X.2.1 hdg hi h hn hl kk
  | some a => exact lv_astore_n X.1 X.2.1 hdg hi h hn hl kk
theorem q_astore {i : Nat} {lv lv' : List (Nat × Value)} (X : q_X p l s m args meth c cc own nL G A) (hdg : decode cc pc = .ok (.astore i, 2)) (h : lv_has ls nL lv) (hn : i < nL) (hl : (i, va_rf r) :: lv.filter (fun q => !(q.1 == i) && !(q.1 + 1 == i && q.2.category == 2)) = lv') (kk : ∀ ls' : Array Slot, lv_has ls' nL lv' → W p l e R s m args below meth c H locs cells slots Q (F0 m (pc + 2) ls' rest)) : W p l e R s m args below meth c H locs cells slots Q (F0 m pc ls (va_rf r :: rest)) := by
  cases r with
  | none => exact lv_astoreN X.1 X.2.1 hdg h hn hl kk
  | some a => exact lv_astore X.1 X.2.1 hdg h hn hl kk
theorem q_ifnull {off : Int} {tgt : Nat} (X : q_X p l s m args meth c cc own nL G A) (hdg : decode cc pc = .ok (.ifnull off, 3)) (ht : (pc : Int) + off = (tgt : Int)) (kt : r = none → W p l e R s m args below meth c H locs cells slots Q (F0 m tgt ls rest)) (kf : ¬ r = none → W p l e R s m args below meth c H locs cells slots Q (F0 m (pc + 3) ls rest)) : W p l e R s m args below meth c H locs cells slots Q (F0 m pc ls (va_rf r :: rest)) := by
  cases r with
  | none => exact lv_ifnullN X.1 X.2.1 hdg ht (kt rfl)
  | some a => exact lv_ifnull X.1 X.2.1 hdg (kf (by simp))
theorem q_ifnonnull {off : Int} {tgt : Nat} (X : q_X p l s m args meth c cc own nL G A) (hdg : decode cc pc = .ok (.ifnonnull off, 3)) (ht : (pc : Int) + off = (tgt : Int)) (kt : ¬ r = none → W p l e R s m args below meth c H locs cells slots Q (F0 m tgt ls rest)) (kf : r = none → W p l e R s m args below meth c H locs cells slots Q (F0 m (pc + 3) ls rest)) : W p l e R s m args below meth c H locs cells slots Q (F0 m pc ls (va_rf r :: rest)) := by
  cases r with
  | none => exact lv_ifnonnullN X.1 X.2.1 hdg (kf rfl)
  | some a => exact lv_ifnonnull X.1 X.2.1 hdg ht (kt (by simp))
/-- the cell of an object, and its place -/
theorem q_at_o {ci a : Nat} {q : vw_C} (hc : vwCl[ci]? = some q) (ha : a ∈ qL S) (hk : qK S a = ci) : ∃ k0 : Nat, (q_w G.2.1 S)[k0]? = some (a, q_F G.2.1 S a) ∧ (q_w G.2.1 S)[k0]? = some (a, .inr (ci, q_fs S ci a)) ∧ q_n ci = q.2.2 ∧ ci < 10 := by
  obtain ⟨k0, h0⟩ := q_get (cy := G.2.1) ha
  have h10 : ci < 10 := (List.getElem?_eq_some_iff.mp hc).1
  refine ⟨k0, h0, ?_, ?_, h10⟩
  · rw [h0, q_F_o hk h10]
  · unfold q_n
    rw [hc]
    rfl
theorem q_at_a {k a : Nat} (hk10 : 10 ≤ k) (ha : a ∈ qL S) (hk : qK S a = k) : ∃ k0 : Nat, (q_w G.2.1 S)[k0]? = some (a, q_F G.2.1 S a) ∧ (q_w G.2.1 S)[k0]? = some (a, q_arr G.2.1 S k a) := by
  obtain ⟨k0, h0⟩ := q_get (cy := G.2.1) ha
  exact ⟨k0, h0, by rw [h0, q_F_a hk hk10]⟩
theorem q_getI {ci k index : Nat} {C : String} {T : u_T} {N : Nat} {K : Int32 → Prop} (X : q_X p l s m args meth c cc own nL G A) (I : q_H G A s H locs S) (hc : vwCl[ci]? = some (C, T, N)) (hin : ∀ w ∈ u_ws C T N, w ∈ bg) (hw : Cond.fieldLink own index (T k).1 (T k).2.1 (T k).2.2.1 ∈ bg) (hk : k < N) (ht : q_ty (40 * ci + k) = 0) (hdg : decode cc pc = .ok (.getfield index, 3)) (h : w_getI S r ci k K) (kk : ∀ v, K v → W p l e R s m args below meth c H locs cells slots Q (F0 m (pc + 3) ls (.int v :: rest))) : W p l e R s m args below meth c H locs cells slots Q (F0 m pc ls (va_rf r :: rest)) := by
  obtain ⟨a, rfl, ha, hka, h⟩ := h
  obtain ⟨k0, h0, h1, hn, -⟩ := q_at_o (G := G) hc ha hka
  refine va_get (D := G.1) (ci := ci) X.1 X.2.1 X.2.2.2.1 hin X.2.2.1 X.2.2.2.2.2.2.2.2.1 I.1 k0 h1 hc k hk (X.2.2.2.1 _ hw) (fun _ h9 => h9) (q_fs_get (by rw [hn]; exact hk)) hdg ?_
  rw [show q_val S (40 * ci + k) a = .int (qI S (40 * ci + k) a) by simp [q_val, ht]]
  exact kk _ h
theorem q_getJ {ci k index : Nat} {C : String} {T : u_T} {N : Nat} {K : Int64 → Prop} (X : q_X p l s m args meth c cc own nL G A) (I : q_H G A s H locs S) (hc : vwCl[ci]? = some (C, T, N)) (hin : ∀ w ∈ u_ws C T N, w ∈ bg) (hw : Cond.fieldLink own index (T k).1 (T k).2.1 (T k).2.2.1 ∈ bg) (hk : k < N) (ht : q_ty (40 * ci + k) = 1) (hdg : decode cc pc = .ok (.getfield index, 3)) (h : w_getJ S r ci k K) (kk : ∀ v, K v → W p l e R s m args below meth c H locs cells slots Q (F0 m (pc + 3) ls (.long v :: rest))) : W p l e R s m args below meth c H locs cells slots Q (F0 m pc ls (va_rf r :: rest)) := by
  obtain ⟨a, rfl, ha, hka, h⟩ := h
  obtain ⟨k0, h0, h1, hn, -⟩ := q_at_o (G := G) hc ha hka
  refine va_get (D := G.1) (ci := ci) X.1 X.2.1 X.2.2.2.1 hin X.2.2.1 X.2.2.2.2.2.2.2.2.1 I.1 k0 h1 hc k hk (X.2.2.2.1 _ hw) (fun _ h9 => h9) (q_fs_get (by rw [hn]; exact hk)) hdg ?_
  rw [show q_val S (40 * ci + k) a = .long (qJ S (40 * ci + k) a) by simp [q_val, ht]]
  exact kk _ h
theorem q_getR {ci k index : Nat} {C : String} {T : u_T} {N : Nat} {K : Option Nat → Prop} (X : q_X p l s m args meth c cc own nL G A) (I : q_H G A s H locs S) (hc : vwCl[ci]? = some (C, T, N)) (hin : ∀ w ∈ u_ws C T N, w ∈ bg) (hw : Cond.fieldLink own index (T k).1 (T k).2.1 (T k).2.2.1 ∈ bg) (hk : k < N) (ht : q_ty (40 * ci + k) = 2) (hdg : decode cc pc = .ok (.getfield index, 3)) (h : w_getR S r ci k K) (kk : ∀ v, K v → W p l e R s m args below meth c H locs cells slots Q (F0 m (pc + 3) ls (va_rf v :: rest))) : W p l e R s m args below meth c H locs cells slots Q (F0 m pc ls (va_rf r :: rest)) := by
  obtain ⟨a, rfl, ha, hka, h⟩ := h
  obtain ⟨k0, h0, h1, hn, -⟩ := q_at_o (G := G) hc ha hka
  refine va_get (D := G.1) (ci := ci) X.1 X.2.1 X.2.2.2.1 hin X.2.2.1 X.2.2.2.2.2.2.2.2.1 I.1 k0 h1 hc k hk (X.2.2.2.1 _ hw) (fun _ h9 => h9) (q_fs_get (by rw [hn]; exact hk)) hdg ?_
  rw [show q_val S (40 * ci + k) a = va_rf (qR S (40 * ci + k) a) by simp [q_val, ht]]
  exact kk _ h
end QV
