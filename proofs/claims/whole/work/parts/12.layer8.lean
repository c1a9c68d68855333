/-! Rows for lists: the empty array that a new list has, Object[] rows, copies. g = (that array's address, the mirror of Object[]). -/
def w_lenE (S : qS) (g : Nat × Nat) (r : Option Nat) (K : Int32 → Prop) : Prop := (r = some g.1 ∧ K 0) ∨ w_len S r 22 K
def w_newO (S : qS) (nn : Int32) (K : Nat → qS → Prop) : Prop := ¬ nn < 0 ∧ nn.toNatClampNeg ≤ 100 ∧ ∀ q, q ∉ qL S → K q (q_nw S 22 q nn.toNatClampNeg)
def q_lk (k : Nat) : Prop := k = 2 ∨ k = 3 ∨ k = 4 ∨ k = 6
def w_stO (S : qS) (r : Option Nat) (i : Int32) (v : Option Nat) (K : qS → Prop) : Prop := w_at S r 22 (fun a => vp_in i (qN S a) ∧ ∃ b, v = some b ∧ b ∈ qL S ∧ q_lk (qK S b) ∧ K (qsAO S 22 a i.toNatClampNeg v))
def qsAOf (S : qS) (k a : Nat) (f : Nat → Option Nat) : qS := (qL S, qK S, qI S, qJ S, qR S, qN S, qAI S, qAJ S, q_u2 (qAO S) k a f)
def w_copy (S : qS) (src dst : Option Nat) (nn : Int32) (K : qS → Prop) : Prop := w_at S src 22 (fun a => w_at S dst 22 (fun b => ¬ nn < 0 ∧ nn.toNatClampNeg ≤ qN S a ∧ nn.toNatClampNeg ≤ qN S b ∧ (∃ ci, q_lk ci ∧ ∀ i, i < nn.toNatClampNeg → ∀ y, qAO S 22 a i = some y → y ∈ qL S ∧ qK S y = ci) ∧ K (qsAOf S 22 b (va_cpy (qAO S 22 a) (qAO S 22 b) 0 0 nn.toNatClampNeg))))
theorem q_lk_cast {k : Nat} (h : q_lk k) : ∃ C T N, vwCl[k]? = some (C, T, N) ∧ (C, "java/lang/Object") ∈ q_casts := by
  rcases h with rfl | rfl | rfl | rfl
  · exact ⟨RX1, TX1, 3, rfl, by decide +kernel⟩
  · exact ⟨RX2, TX2, 4, rfl, by decide +kernel⟩
  · exact ⟨RX3, TX3, 4, rfl, by decide +kernel⟩
  · exact ⟨RX5, TX5, 11, rfl, by decide +kernel⟩
theorem q_up_AOf {cy : Nat → ClassId} {S : qS} {a k : Nat} {f : Nat → Option Nat} (ha : qK S a = k) (hc : 10 ≤ k) (ht : 2 < q_aty k) : va_pl (qL S) (va_up (q_F cy S) a (.inl (cy (q_aty k), qN S a, .inr (.inr (.inr (.inr f)))))) = q_w cy (qsAOf S k a f) := by
  refine q_up_a rfl rfl rfl rfl rfl rfl ha hc ?_ ?_
  · simp [q_arr, show ¬ q_aty k < 2 by omega, show ¬ q_aty k = 2 by omega, qsAOf, qAO, qN, q_u2]
  · intro b h
    simp [q_arr, qsAOf, qAI, qAJ, qAO, qN, q_u2, h]
section QV
variable {p : Program} {l : Launch} {e : Env} {R : Room} {s : State} {m : MethodId} {args : Array Value} {below : List Frame} {meth : Method} {c : Code} {H : Heap} {locs : List Loc} {cells slots : Nat} {Q : State → Prop}
variable {cc : ByteArray} {pc nL : Nat} {ls : Array Slot} {rest : List Value} {own : String} {G : qG} {A : Nat → Prop} {S : qS} {r : Option Nat} {g : Nat × Nat}
variable {index c1 s1 : Nat}
theorem q_gets (X : q_X p l s m args meth c cc own nL G A) (he : G.2.2 = g) (I : q_H G A s H locs S) (hw : Cond.fieldLink own index RJx4a65c "DEFAULTCAPACITY_EMPTY_ELEMENTDATA" "[Ljava/lang/Object;" ∈ bg) (hdg : decode cc pc = .ok (.getstatic index, 3)) (kk : W p l e R s m args below meth c H locs cells slots Q (F0 m (pc + 3) ls (va_rf (some g.1) :: rest))) : W p l e R s m args below meth c H locs cells slots Q (F0 m pc ls rest) := by
  subst he
  exact va_gets X.1 X.2.1 X.2.2.2.2.2.2.2.2.2.2.2.2.1 I.2.2 X.2.2.1 (X.2.2.2.1 _ hw) (fun _ h => h) hdg kk
theorem q_alen {K : Int32 → Prop} (X : q_X p l s m args meth c cc own nL G A) (he : G.2.2 = g) (I : q_H G A s H locs S) (hdg : decode cc pc = .ok (.arraylength, 1)) (h : w_lenE S g r K) (kk : ∀ v, K v → W p l e R s m args below meth c H locs cells slots Q (F0 m (pc + 1) ls (.int v :: rest))) : W p l e R s m args below meth c H locs cells slots Q (F0 m pc ls (va_rf r :: rest)) := by
  subst he
  rcases h with ⟨rfl, h⟩ | h
  · exact va_tlen X.1 X.2.1 X.2.2.2.2.2.2.2.2.2.2.2.2.2 I.2.2 rfl hdg (kk 0 h)
  · obtain ⟨a, rfl, ha, hka, h⟩ := h
    obtain ⟨k0, h0, h1⟩ := q_at_a (G := G) (by decide) ha hka
    rw [q_arr_O (by decide)] at h1
    exact va_alen (D := G.1) X.1 X.2.1 X.2.2.2.2.2.2.2.2.1 I.1 k0 3 h1 (ty := .object "java/lang/Object") rfl rfl hdg (kk _ h)
theorem q_newO {nn : Int32} {K : Nat → qS → Prop} (X : q_X p l s m args meth c cc own nL G A) (I : q_H G A s H locs S) (hcl : Cond.classLink own index "java/lang/Object" ∈ bg) (hf : cells + 1 ≤ R.cells ∧ slots + 100 ≤ R.slots) (h1 : cells + 1 = c1) (h2 : slots + 100 = s1) (hdg : decode cc pc = .ok (.anewarray index, 3)) (h : w_newO S nn K) (kk : ∀ q S1 H1, q_H G A s H1 locs S1 → K q S1 → W p l e R s m args below meth c H1 locs c1 s1 Q (F0 m (pc + 3) ls (va_rf (some q) :: rest))) : W p l e R s m args below meth c H locs cells slots Q (F0 m pc ls (.int nn :: rest)) := by
  subst h1
  subst h2
  obtain ⟨hn, hb, h⟩ := h
  refine va_newq (D := G.1) X.1 X.2.1 X.2.2.1 (X.2.2.2.1 _ hcl) X.2.2.2.2.2.2.2.2.2.1.2.1.1 X.2.2.2.2.2.2.2.2.1 I.1 I.2.1 I.2.2 X.2.2.2.2.2.2.2.1 hn rfl (by omega) hf.1 (by omega) hdg (fun q cA H1 aK a1 a2 a3 => ?_)
  have hcA : cA = G.2.1 3 := Option.some.inj ((va_nmO (nm := "[Ljava/lang/Object;") (aK.2 5 (cA, .object "java/lang/Object") rfl).2 (by decide +kernel)).symm.trans X.2.2.2.2.2.2.2.2.2.1.1.2.2.2.1)
  subst hcA
  have hq := q_fresh a2
  have hF : q_F G.2.1 (q_nw S 22 q nn.toNatClampNeg) q = .inl (G.2.1 3, nn.toNatClampNeg, .inr (.inr (.inr (.inr (fun _ => none))))) := by
    rw [q_F_a (k := 22) (by simp [q_nw, qK, va_up]) (by decide), q_arr_O (by decide)]
    simp [q_nw, qN, qAO, va_up, show q_aty 22 = 3 from rfl]
  rw [q_push hq hF] at a1 a2
  exact W.widen (Nat.le_refl _) (by omega) (kk q _ H1 ⟨a1, a2, a3⟩ (h q hq))
theorem q_stO {i : Int32} {v : Option Nat} {K : qS → Prop} (X : q_X p l s m args meth c cc own nL G A) (I : q_H G A s H locs S) (hdg : decode cc pc = .ok (.aastore, 1)) (h : w_stO S r i v K) (kk : ∀ S' H1 locs1, q_H G A s H1 locs1 S' → K S' → W p l e R s m args below meth c H1 locs1 cells slots Q (F0 m (pc + 1) ls rest)) : W p l e R s m args below meth c H locs cells slots Q (F0 m pc ls (va_rf v :: .int i :: va_rf r :: rest)) := by
  obtain ⟨a, rfl, ha, hka, hi, b, rfl, hb, hlk, h⟩ := h
  obtain ⟨C, T, N, hc, hca⟩ := q_lk_cast hlk
  obtain ⟨k0, h0, h1⟩ := q_at_a (G := G) (by decide) ha hka
  rw [q_arr_O (by decide)] at h1
  obtain ⟨kb, g0, g1, -, -⟩ := q_at_o (G := G) hc hb rfl
  refine va_astqO (D := G.1) (E := "java/lang/Object") (r := (C, T, N)) X.1 X.2.1 X.2.2.2.2.2.2.2.2.1 I.1 I.2.1 I.2.2 k0 3 kb (qK S b) h1 rfl (X.2.2.2.2.2.2.2.2.2.1.2.2.2.1 _ hca) g1 hc hi hdg (fun H1 locs1 a1 a2 a3 => ?_)
  have e0 := q_set (e := (.inl (G.2.1 (q_aty 22), qN S a, .inr (.inr (.inr (.inr (va_up (qAO S 22 a) i.toNatClampNeg (some b)))))) : va_E)) I.2.1 ha h0
  rw [q_up_AO hka (by decide) (by decide)] at e0
  rw [e0] at a1 a2
  exact kk _ H1 locs1 ⟨a1, a2, a3⟩ h
theorem q_getC {K : Prop} (X : q_X p l s m args meth c cc own nL G A) (he : G.2.2 = g) (I : q_H G A s H locs S) (hls : ls.size = nL) (hl : Cond.methodLink own index ⟨"java/lang/Object", "getClass", "()Ljava/lang/Class;"⟩ ∈ bg) (hse : Cond.selects "[Ljava/lang/Object;" ⟨"java/lang/Object", "getClass", "()Ljava/lang/Class;"⟩ ⟨"java/lang/Object", "getClass", "()Ljava/lang/Class;"⟩ ∈ bg) (hi : Cond.instanceMethod ⟨"java/lang/Object", "getClass", "()Ljava/lang/Class;"⟩ ∈ bg) (hn : Cond.native ⟨"java/lang/Object", "getClass", "()Ljava/lang/Class;"⟩ ∈ bg) (hf : 1 ≤ R.frames) (hloc : (rest.map fun v => v.category).sum + 14 ≤ R.locals) (hdg : decode cc pc = .ok (.invokevirtual index, 3)) (h : w_at S r 22 (fun _ => K)) (kk : K → W p l e R s m args below meth c H locs cells slots Q (F0 m (pc + 3) ls (va_rf (some g.2) :: rest))) : W p l e R s m args below meth c H locs cells slots Q (F0 m pc ls (va_rf r :: rest)) := by
  subst he
  obtain ⟨a, rfl, ha, hka, h⟩ := h
  have hts := X.2.2.2.1
  obtain ⟨k0, h0, h1⟩ := q_at_a (G := G) (by decide) ha hka
  rw [q_arr_O (by decide)] at h1
  have hV := X.2.2.2.2.2.2.2.2.2.1
  exact va_getC X.1 X.2.1 (X.2.2.2.2.1.trans hls.symm) X.2.2.1 (hts _ hl) (va_Dc.use hV.2.1.2.2.1) (hts _ hse) (hts _ hi) (hts _ hn) hV.2.1.2.2.2 ⟨_, I.1 k0 _ h1, rfl, hV.1.2.2.2.1⟩ hf hloc hdg (kk h)
theorem q_ldcM (X : q_X p l s m args meth c cc own nL G A) (he : G.2.2 = g) (hl : Cond.classLink own index "[Ljava/lang/Object;" ∈ bg) (hdg : decode cc pc = .ok (.ldc index, 2)) (kk : W p l e R s m args below meth c H locs cells slots Q (F0 m (pc + 2) ls (va_rf (some g.2) :: rest))) : W p l e R s m args below meth c H locs cells slots Q (F0 m pc ls rest) := by
  subst he
  exact va_ldcM X.1 X.2.1 X.2.2.1 (X.2.2.2.1 _ hl) X.2.2.2.2.2.2.2.2.2.1.2.1.2.2.2 hdg kk
theorem q_copy {nn : Int32} {dst : Option Nat} {K : qS → Prop} (X : q_X p l s m args meth c cc own nL G A) (I : q_H G A s H locs S) (hls : ls.size = nL) (hl : Cond.methodLink own index arraycopyName ∈ bg) (hnat : Cond.native arraycopyName ∈ bg) (hst : Cond.static arraycopyName ∈ bg) (hini : Cond.initialized "java/lang/System" ∈ bg) (hf : 1 ≤ R.frames) (hloc : (rest.map fun v => v.category).sum + (nativeFrameWords "java/lang/System" "arraycopy" 5 + 11) ≤ R.locals) (hdg : decode cc pc = .ok (.invokestatic index, 3)) (h : w_copy S r dst nn K) (kk : ∀ S' H1 locs1, q_H G A s H1 locs1 S' → K S' → W p l e R s m args below meth c H1 locs1 cells slots Q (F0 m (pc + 3) ls rest)) : W p l e R s m args below meth c H locs cells slots Q (F0 m pc ls (.int nn :: .int 0 :: va_rf dst :: .int 0 :: va_rf r :: rest)) := by
  obtain ⟨a, rfl, ha, hka, b, rfl, hb, hkb, hn, ha2, hb2, ⟨ci, hlk, hel⟩, h⟩ := h
  have hts := X.2.2.2.1
  obtain ⟨C, T, N, hc, hca⟩ := q_lk_cast hlk
  obtain ⟨k0, h0, h1⟩ := q_at_a (G := G) (by decide) ha hka
  rw [q_arr_O (by decide)] at h1
  obtain ⟨k1, g0, g1⟩ := q_at_a (G := G) (by decide) hb hkb
  rw [q_arr_O (by decide)] at g1
  have hK := X.2.2.2.2.2.2.2.2.1
  refine va_copyq (D := G.1) (C := C) (E0 := "java/lang/Object") (E1 := "java/lang/Object") X.1 X.2.1 (X.2.2.2.2.1.trans hls.symm) X.2.2.1 (hts _ hl) (hts _ hnat) (hts _ hst) (hts _ hini) hK I.1 I.2.1 I.2.2 k0 k1 3 3 h1 g1 rfl rfl (by decide) (by decide) hn (by simpa using ha2) (by simpa using hb2) ?_ ?_ hf hloc hdg (fun H1 locs1 a1 a2 a3 => ?_)
  · intro i hi y hy
    have hy' : qAO S 22 a i = some y := by simpa using hy
    obtain ⟨hyL, hyK⟩ := hel i hi y hy'
    obtain ⟨ky, -, z1, -, -⟩ := q_at_o (G := G) hc hyL hyK
    exact va_recv (q := (C, T, N)) hK I.1 hc z1
  · intro comp c0 f1 f2
    obtain ⟨c3, t3, w1, w2, w3⟩ := Cond.castable_spec (va_Nw.use (A := args) rfl (X.2.2.2.2.2.2.2.2.2.1.2.2.2.1 _ hca))
    cases w1.symm.trans f2
    cases w2.symm.trans f1
    exact w3
  · have e0 := q_set (e := (.inl (G.2.1 (q_aty 22), qN S b, .inr (.inr (.inr (.inr (va_cpy (qAO S 22 a) (qAO S 22 b) 0 0 nn.toNatClampNeg))))) : va_E)) I.2.1 hb g0
    rw [q_up_AOf hkb (by decide) (by decide)] at e0
    have e1 : (0 : Int32).toNatClampNeg = 0 := by decide
    rw [e1] at a1 a2
    rw [e0] at a1 a2
    exact kk _ H1 locs1 ⟨a1, a2, a3⟩ h
/-- a field that the superclass declares -/
theorem q_getIs {ci k : Nat} {C ref : String} {T : u_T} {N : Nat} {K : Int32 → Prop} (X : q_X p l s m args meth c cc own nL G A) (I : q_H G A s H locs S) (hc : vwCl[ci]? = some (C, T, N)) (hin : ∀ w ∈ u_ws C T N, w ∈ bg) (hw : Cond.fieldLink own index ref (T k).2.1 (T k).2.2.1 ∈ bg) (hsm : Cond.sameField ref (T k).1 (T k).2.1 (T k).2.2.1 ∈ bg) (hk : k < N) (ht : q_ty (40 * ci + k) = 0) (hdg : decode cc pc = .ok (.getfield index, 3)) (h : w_getI S r ci k K) (kk : ∀ v, K v → W p l e R s m args below meth c H locs cells slots Q (F0 m (pc + 3) ls (.int v :: rest))) : W p l e R s m args below meth c H locs cells slots Q (F0 m pc ls (va_rf r :: rest)) := by
  obtain ⟨a, rfl, ha, hka, h⟩ := h
  obtain ⟨k0, h0, h1, hn, -⟩ := q_at_o (G := G) hc ha hka
  refine va_get (D := G.1) (ci := ci) X.1 X.2.1 X.2.2.2.1 hin X.2.2.1 X.2.2.2.2.2.2.2.2.1 I.1 k0 h1 hc k hk (X.2.2.2.1 _ hw) (fun x hx => u_same (X.2.2.2.1 _ hsm) x hx) (q_fs_get (by rw [hn]; exact hk)) hdg ?_
  rw [show q_val S (40 * ci + k) a = .int (qI S (40 * ci + k) a) by simp [q_val, ht]]
  exact kk _ h
theorem q_putIs {ci k : Nat} {C ref : String} {T : u_T} {N : Nat} {ty0 : Nat → FieldType} {v : Int32} {K : qS → Prop} (X : q_X p l s m args meth c cc own nL G A) (I : q_H G A s H locs S) (hc : vwCl[ci]? = some (C, T, N)) (hin : ∀ w ∈ u_ws C T N, w ∈ bg) (hty : ∀ k, k < N → parseFieldDescriptor (T k).2.2.1 = some (ty0 k)) (hnm : ∀ a, a < N → ∀ b, b < N → a ≠ b → (T a).2.1 ≠ (T b).2.1) (hw : Cond.fieldLink own index ref (T k).2.1 (T k).2.2.1 ∈ bg) (hsm : Cond.sameField ref (T k).1 (T k).2.1 (T k).2.2.1 ∈ bg) (hk : k < N) (hfin : (T k).2.2.2 = false) (ht : q_ty (40 * ci + k) = 0) (htk : ty0 k = .int) (hdg : decode cc pc = .ok (.putfield index, 3)) (h : w_putI S r ci k v K) (kk : ∀ S' H1 locs1, q_H G A s H1 locs1 S' → K S' → W p l e R s m args below meth c H1 locs1 cells slots Q (F0 m (pc + 3) ls rest)) : W p l e R s m args below meth c H locs cells slots Q (F0 m pc ls (.int v :: va_rf r :: rest)) := by
  obtain ⟨a, rfl, ha, hka, h⟩ := h
  obtain ⟨k0, h0, h1, hnn, h10⟩ := q_at_o (G := G) hc ha hka
  have hset : (q_w G.2.1 S).set k0 (a, .inr (ci, (q_fs S ci a).set k (.int v))) = q_w G.2.1 (qsI S (40 * ci + k) a v) := by rw [q_set I.2.1 ha h0, q_up_I hka h10 ht]
  have hl : k < (q_fs S ci a).length := by rw [q_fs_len, hnn]; exact hk
  refine va_put (D := G.1) (ci := ci) X.1 X.2.1 X.2.2.2.1 hin ty0 hty hnm X.2.2.1 X.2.2.2.2.2.2.2.2.1 I.1 I.2.1 I.2.2 k0 h1 hc k hk (X.2.2.2.1 _ hw) (fun x hx => u_same (X.2.2.2.1 _ hsm) x hx) hfin (hty k hk) (by rw [htk]; rfl) (by rw [htk]; rfl) hl hdg (fun H1 locs1 a1 a2 a3 => ?_)
  rw [hset] at a1 a2
  exact kk _ H1 locs1 ⟨a1, a2, a3⟩ h
end QV
