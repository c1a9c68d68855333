/-! New cells, constructors, casts, throws. -/
def q_dv (f : Nat) : Value := if q_ty f = 0 then .int 0 else if q_ty f = 1 then .long 0 else .null
def w_new (S : qS) (k n : Nat) (K : Nat → qS → Prop) : Prop := ∀ q, q ∉ qL S → K q (q_nw S k q n)
def w_cast (S : qS) (r : Option Nat) (ci : Nat) (K : Prop) : Prop := (r = none ∨ ∃ a, r = some a ∧ a ∈ qL S ∧ qK S a = ci) ∧ K
def q_N (l : Launch) (y : MethodName) (cc : ByteArray) (maxL : Nat) (d mc ms : Nat) (G : qG) (S : qS) (sz : Nat) (av : List Value) (post : qS → Prop) : Prop :=
  Met l y (Cond.code y cc maxL none :: bg) (q_rm d mc ms) (q_Pc G S sz av) (q_Qv G post (q_A G S sz)) mc ms (q_A G S sz)
section QV
variable {p : Program} {l : Launch} {e : Env} {R : Room} {s : State} {m : MethodId} {args : Array Value} {below : List Frame} {meth : Method} {c : Code} {H : Heap} {locs : List Loc} {cells slots : Nat} {Q : State → Prop}
variable {cc : ByteArray} {pc nL : Nat} {ls : Array Slot} {rest : List Value} {own : String} {G : qG} {A : Nat → Prop} {S : qS} {r : Option Nat}
variable {index maxL d mc ms n ci mcQ msQ c1 s1 : Nat} {y : MethodName} {bytes : ByteArray} {As st0 : List Value} {Qc : Array Value → State → Outcome → State → Prop} {xp : String → qS → Prop}
theorem q_fresh {cy : Nat → ClassId} {q : Nat} {x : va_E} (hD : va_D A (q_w cy S ++ [(q, x)])) : q ∉ qL S := va_pl_fresh2 (X := []) hD
theorem q_new {C : String} {T : u_T} {N : Nat} {ty0 : Nat → FieldType} {K : Nat → qS → Prop} (X : q_X p l s m args meth c cc own nL G A) (I : q_H G A s H locs S) (hc : vwCl[ci]? = some (C, T, N)) (hin : ∀ w ∈ u_ws C T N, w ∈ bg) (hty : ∀ k, k < N → parseFieldDescriptor (T k).2.2.1 = some (ty0 k)) (hdv : ∀ j, j < N → defaultValue (ty0 j) = q_dv (40 * ci + j)) (hcl : Cond.classLink own index C ∈ bg) (hinst : Cond.instantiable C N ∈ bg) (hini : Cond.initialized C ∈ bg) (hf : cells + 1 ≤ R.cells ∧ slots + N ≤ R.slots) (h1 : cells + 1 = c1) (h2 : slots + N = s1) (hdg : decode cc pc = .ok (.new index, 3)) (h : w_new S ci 0 K) (kk : ∀ q S1 H1, q_H G A s H1 locs S1 → K q S1 → W p l e R s m args below meth c H1 locs c1 s1 Q (F0 m (pc + 3) ls (va_rf (some q) :: rest))) : W p l e R s m args below meth c H locs cells slots Q (F0 m pc ls rest) := by
  subst h1
  subst h2
  have hts := X.2.2.2.1
  have h10 : ci < 10 := (List.getElem?_eq_some_iff.mp hc).1
  have hn : q_n ci = N := by
    unfold q_n
    rw [hc]
    rfl
  refine va_new (D := G.1) (ci := ci) (fs := (List.range N).map (fun j => q_dv (40 * ci + j))) X.1 X.2.1 hts hin ty0 hty X.2.2.1 (hts _ hcl) (hts _ hinst) (hts _ hini) X.2.2.2.2.2.2.2.2.1 I.1 I.2.1 I.2.2 X.2.2.2.2.2.2.2.1 hc (fun j hj => ?_) hf.1 hf.2 hdg (fun q H1 a1 a2 a3 => ?_)
  · rw [hdv j hj]
    simp [vp_V, List.getD, List.getElem?_map, List.getElem?_range hj]
  · have hq := q_fresh a2
    have he : q_F G.2.1 (q_nw S ci q 0) q = .inr (ci, (List.range N).map (fun j => q_dv (40 * ci + j))) := by
      rw [q_F_o (ci := ci) (by simp [q_nw, qK, va_up]) h10]
      unfold q_fs
      rw [hn]
      have : (fun k => q_val (q_nw S ci q 0) (40 * ci + k) q) = fun j => q_dv (40 * ci + j) := by
        funext j
        simp [q_val, q_dv, q_nw, qI, qJ, qR, va_rf]
      rw [this]
    rw [q_push hq he] at a1 a2
    exact kk q _ H1 ⟨a1, a2, a3⟩ (h q hq)
theorem q_newI {k N : Nat} {nn : Int32} {K : Nat → qS → Prop} (X : q_X p l s m args meth c cc own nL G A) (I : q_H G A s H locs S) (hk : 10 ≤ k) (ht : q_aty k = 0) (harr : Cond.arrayClass .int ∈ bg) (hn : ¬ nn < 0 ∧ nn.toNatClampNeg = N ∧ N * 4 ≤ 536870912) (hf : cells + 1 ≤ R.cells ∧ slots + N ≤ R.slots) (h1 : cells + 1 = c1) (h2 : slots + N = s1) (hdg : decode cc pc = .ok (.newarray .int, 2)) (h : w_new S k N K) (kk : ∀ q S1 H1, q_H G A s H1 locs S1 → K q S1 → W p l e R s m args below meth c H1 locs c1 s1 Q (F0 m (pc + 2) ls (va_rf (some q) :: rest))) : W p l e R s m args below meth c H locs cells slots Q (F0 m pc ls (.int nn :: rest)) := by
  subst h1
  subst h2
  refine va_newa (D := G.1) (atype := .int) (ty := .int) (a0 := (N, .inl (fun _ => 0))) X.1 X.2.1 (X.2.2.2.1 _ harr) rfl X.2.2.2.2.2.2.2.2.1 I.1 I.2.1 I.2.2 X.2.2.2.2.2.2.2.1 (fun cA => rfl) hn.1 hn.2.1 hn.2.2 hf.1 hf.2 hdg (fun q cA H1 aK a1 a2 a3 => ?_)
  have hcA : cA = G.2.1 0 := Option.some.inj ((aK.2 5 (cA, .int) rfl).2.symm.trans X.2.2.2.2.2.2.2.2.2.1.1.1)
  subst hcA
  have hq := q_fresh a2
  have he : q_F G.2.1 (q_nw S k q N) q = .inl (G.2.1 0, N, .inl (fun _ => 0)) := by
    rw [q_F_a (k := k) (by simp [q_nw, qK, va_up]) hk, q_arr_I (by omega), ht]
    simp [q_nw, qN, qAI, va_up]
  rw [q_push hq he] at a1 a2
  exact kk q _ H1 ⟨a1, a2, a3⟩ (h q hq)
theorem q_newZ {k N : Nat} {nn : Int32} {K : Nat → qS → Prop} (X : q_X p l s m args meth c cc own nL G A) (I : q_H G A s H locs S) (hk : 10 ≤ k) (ht : q_aty k = 1) (harr : Cond.arrayClass .boolean ∈ bg) (hn : ¬ nn < 0 ∧ nn.toNatClampNeg = N ∧ N * 1 ≤ 536870912) (hf : cells + 1 ≤ R.cells ∧ slots + N ≤ R.slots) (h1 : cells + 1 = c1) (h2 : slots + N = s1) (hdg : decode cc pc = .ok (.newarray .boolean, 2)) (h : w_new S k N K) (kk : ∀ q S1 H1, q_H G A s H1 locs S1 → K q S1 → W p l e R s m args below meth c H1 locs c1 s1 Q (F0 m (pc + 2) ls (va_rf (some q) :: rest))) : W p l e R s m args below meth c H locs cells slots Q (F0 m pc ls (.int nn :: rest)) := by
  subst h1
  subst h2
  refine va_newa (D := G.1) (atype := .boolean) (ty := .boolean) (a0 := (N, .inl (fun _ => 0))) X.1 X.2.1 (X.2.2.2.1 _ harr) rfl X.2.2.2.2.2.2.2.2.1 I.1 I.2.1 I.2.2 X.2.2.2.2.2.2.2.1 (fun cA => rfl) hn.1 hn.2.1 hn.2.2 hf.1 hf.2 hdg (fun q cA H1 aK a1 a2 a3 => ?_)
  have hcA : cA = G.2.1 1 := Option.some.inj ((aK.2 5 (cA, .boolean) rfl).2.symm.trans X.2.2.2.2.2.2.2.2.2.1.1.2.1)
  subst hcA
  have hq := q_fresh a2
  have he : q_F G.2.1 (q_nw S k q N) q = .inl (G.2.1 1, N, .inl (fun _ => 0)) := by
    rw [q_F_a (k := k) (by simp [q_nw, qK, va_up]) hk, q_arr_I (by omega), ht]
    simp [q_nw, qN, qAI, va_up]
  rw [q_push hq he] at a1 a2
  exact kk q _ H1 ⟨a1, a2, a3⟩ (h q hq)
theorem q_newJ {k N : Nat} {nn : Int32} {K : Nat → qS → Prop} (X : q_X p l s m args meth c cc own nL G A) (I : q_H G A s H locs S) (hk : 10 ≤ k) (ht : q_aty k = 2) (harr : Cond.arrayClass .long ∈ bg) (hn : ¬ nn < 0 ∧ nn.toNatClampNeg = N ∧ N * 8 ≤ 536870912) (hf : cells + 1 ≤ R.cells ∧ slots + N ≤ R.slots) (h1 : cells + 1 = c1) (h2 : slots + N = s1) (hdg : decode cc pc = .ok (.newarray .long, 2)) (h : w_new S k N K) (kk : ∀ q S1 H1, q_H G A s H1 locs S1 → K q S1 → W p l e R s m args below meth c H1 locs c1 s1 Q (F0 m (pc + 2) ls (va_rf (some q) :: rest))) : W p l e R s m args below meth c H locs cells slots Q (F0 m pc ls (.int nn :: rest)) := by
  subst h1
  subst h2
  refine va_newa (D := G.1) (atype := .long) (ty := .long) (a0 := (N, .inr (.inl (fun _ => 0)))) X.1 X.2.1 (X.2.2.2.1 _ harr) rfl X.2.2.2.2.2.2.2.2.1 I.1 I.2.1 I.2.2 X.2.2.2.2.2.2.2.1 (fun cA => rfl) hn.1 hn.2.1 hn.2.2 hf.1 hf.2 hdg (fun q cA H1 aK a1 a2 a3 => ?_)
  have hcA : cA = G.2.1 2 := Option.some.inj ((aK.2 5 (cA, .long) rfl).2.symm.trans X.2.2.2.2.2.2.2.2.2.1.1.2.2.1)
  subst hcA
  have hq := q_fresh a2
  have he : q_F G.2.1 (q_nw S k q N) q = .inl (G.2.1 2, N, .inr (.inl (fun _ => 0))) := by
    rw [q_F_a (k := k) (by simp [q_nw, qK, va_up]) hk, q_arr_J ht]
    simp [q_nw, qN, qAJ, va_up]
  rw [q_push hq he] at a1 a2
  exact kk q _ H1 ⟨a1, a2, a3⟩ (h q hq)
theorem q_cast {C : String} {T : u_T} {N : Nat} {K : Prop} (X : q_X p l s m args meth c cc own nL G A) (I : q_H G A s H locs S) (hc : vwCl[ci]? = some (C, T, N)) (hcl : Cond.classLink own index C ∈ bg) (hdg : decode cc pc = .ok (.checkcast index, 3)) (h : w_cast S r ci K) (kk : K → W p l e R s m args below meth c H locs cells slots Q (F0 m (pc + 3) ls (va_rf r :: rest))) : W p l e R s m args below meth c H locs cells slots Q (F0 m pc ls (va_rf r :: rest)) := by
  obtain ⟨h, hK⟩ := h
  rcases h with rfl | ⟨a, rfl, ha, hka⟩
  · exact lv_castN X.1 X.2.1 hdg (kk hK)
  · obtain ⟨k0, h0, h1, -, -⟩ := q_at_o (G := G) hc ha hka
    have hKn := X.2.2.2.2.2.2.2.2.1
    exact va_castS X.1 X.2.1 X.2.2.1 (X.2.2.2.1 _ hcl) (hKn.1 ci _ hc).2 (va_recv hKn I.1 hc h1) hdg (kk hK)
theorem q_objInit {a : Nat} (X : q_X p l s m args meth c cc own nL G A) (hls : ls.size = nL) (hl : Cond.methodLink own index objectInit ∈ bg) (hi : Cond.instanceMethod objectInit ∈ bg) (hco : Cond.code objectInit ⟨#[0xb1]⟩ 1 none ∈ bg) (hdg : decode cc pc = .ok (.invokespecial index, 3)) (hf : 1 ≤ R.frames) (hloc : (rest.map fun v => v.category).sum + 12 ≤ R.locals) (kk : W p l e R s m args below meth c H locs cells slots Q (F0 m (pc + 3) ls rest)) : W p l e R s m args below meth c H locs cells slots Q (F0 m pc ls (va_rf (some a) :: rest)) := by
  have hts := X.2.2.2.1
  refine W.objInit X.1 X.2.1 X.2.2.1 (hts _ hl) (hts _ hi) (hts _ hco) rfl (by rw [X.2.2.2.2.1]; exact hls) rfl hdg hf ?_ ?_
  · show 2 * 0 + _ + 12 ≤ _
    omega
  · exact kk
/-- a constructor's call -/
theorem q_cI {b : Nat} {K : qS → Prop} (X : q_X p l s m args meth c cc own nL G A) (I : q_H G A s H locs S) (hls : ls.size = nL) (mt : q_mt y bytes maxL none n) (hi : Cond.instanceMethod y ∈ bg) (hy : y.name = "<init>") (hl : Cond.methodLink own index y ∈ bg) (hdg : decode cc pc = .ok (.invokespecial index, 3)) (hst : st0 = As.reverse ++ va_rf (some b) :: rest) (hM : q_N l y bytes maxL d mc ms G S H.size (va_rf (some b) :: As) K) (hn : As.length = n) (hW : (rest.map fun v => v.category).sum ≤ 8) (hR : d + 1 ≤ R.frames ∧ 8 + (maxL + 11) + 48 * d ≤ R.locals) (hf : cells + mc ≤ R.cells ∧ slots + ms ≤ R.slots) (h1 : cells + mc = c1) (h2 : slots + ms = s1) (kk : ∀ (S1 : qS) (H1 : Heap) (locs1 : List Loc), q_H G A s H1 locs1 S1 → K S1 → W p l e R s m args below meth c H1 locs1 c1 s1 Q (F0 m (pc + 3) ls rest)) : W p l e R s m args below meth c H locs cells slots Q (F0 m pc ls st0) := by
  subst h1
  subst h2
  have hts := X.2.2.2.1
  have hsub := q_sub X I
  refine va_callv (va_runI (Ts := bg) ⟨X.1, X.2.1, X.2.2.2.2.1, X.2.2.1, hts⟩ hM ⟨q_callB X mt hl hR, hy, hts _ hi⟩ ⟨q_blind, q_pre X I⟩ rfl hn hls hst (lv_room hW) hdg hf) I.2.2 (fun q _ h => hsub q h) hsub (fun u t H1 locs1 ht hvm hp hB hz hk hS => ?_)
  exact kk _ H1 locs1 (q_after X I ht hB hS) hp
theorem q_ofN {l : Launch} {y : MethodName} {cc : ByteArray} {maxL : Nat} {d mc ms : Nat} {G : qG} {S : qS} {sz : Nat} {av : List Value} {post : qS → Prop} {lv : List (Nat × Value)} (hl0 : l.stackTraces = false) (hy : plainName y.cls = true) (hlv : lv_args 0 av = lv) (hlen : (lg_sl av).length ≤ maxL)
    (body : ∀ (p : Program) (e : Env) (s : State) (m : MethodId) (below : List Frame) (meth : Method) (c : Code) (A : Nat → Prop) (ls : Array Slot), q_X p l s m av.toArray meth c cc y.cls maxL G A → meth.sig.returnType = none → meth.name = y.name → q_H G A s s.heap [] S → lv_has ls maxL lv → W p l e (q_rm d mc ms) s m av.toArray below meth c s.heap [] 0 0 (MQ below (q_Qv G post A) av.toArray s mc ms A) (F0 m 0 ls [])) : q_N l y cc maxL d mc ms G S sz av post := by
  refine Met.ofW (cc := cc) (maxL := maxL) (ret := none) hy rfl ?_
  intro p e s m args below meth c s₁ B hml hv
  obtain ⟨rfl, hsz, hP, hD0, hE⟩ := hv
  have hts := atoms_spec (ws := Cond.code y cc maxL none :: bg) B.pre
  have hown : s.vm.findClass y.cls = some m.cls := findClass_of_methodNamed B.named
  have hnm : meth.name = y.name := (name_of_methodNamed B.named B.method).1
  subst hsz
  have hA : ∀ q : Nat, s.heap.size ≤ q → q_A G S s.heap.size q := fun q h => Or.inr h
  have hl := lv_entry av (n := maxL) hlen
  rw [lg_entry_eq]
  rw [hlv] at hl
  exact body p e s m below meth c (q_A G S s.heap.size) _ ⟨B.exec, B.bytes, hown, fun w hw => hts w (List.mem_cons_of_mem _ hw), hml, B.notSynchronized, hl0, hA, hE⟩ B.returns hnm ⟨hP, hD0.self, va_S.rf⟩ hl
theorem q_vretN {post : qS → Prop} (X : q_X p l s m args meth c cc own nL G A) (I : q_H G A s H locs S) (hr : meth.sig.returnType = none) (hdg : decode cc pc = .ok (.return_, 1)) (h : post S) (hc : cells ≤ mcQ) (hs : slots ≤ msQ) : W p l e R s m args below meth c H locs cells slots (MQ below (q_Qv G post A) args s mcQ msQ A) (F0 m pc ls []) :=
  W.widen hc hs (W.vret X.1 X.2.1 hr (fun t ht hW => ⟨⟨S, rfl, h, by rw [ht]; exact I.1, I.2.1⟩, I.2.2.F ht⟩) I.2.2.2.2 hdg X.2.2.2.2.2.1)
/-- throw new E("text") -/
theorem q_throw {cls text : String} {names : List String} {ik is ic : Nat} (X : q_X p l s m args meth c cc own nL G A) (N : ∀ x ∈ c.exceptionTable.toList, False) (I : q_H G A s H locs S) (hls : ls.size = nL) (hcls : Bundle.fit cls = true) (hnames : ∀ n ∈ names, Bundle.fit n = true) (hk : Cond.classLink own ik cls ∈ bg) (hini : Cond.initialized cls ∈ bg) (hstr : (own, is, text) ∈ q_strs) (hg : ∀ w ∈ (vx_atS own ic cls names).filter goodWord, w ∈ bg) (hng : ∀ w ∈ (vx_atS own ic cls names).filter (fun w => !goodWord w), w ∈ q_casts.map (fun q => Cond.castable q.1 q.2) ++ q_decls.map Cond.declares) (hgood : ∀ w ∈ Cond.classLink own ik cls :: Cond.initialized cls :: vx_atS own ic cls names, vx_ot w = true)
    (d0 : decode cc pc = .ok (.new ik, 3)) (d3 : decode cc (pc + 3) = .ok (.dup, 1)) (d4 : decode cc (pc + 4) = .ok (.ldc is, 2)) (d6 : decode cc (pc + 6) = .ok (.invokespecial ic, 3)) (d9 : decode cc (pc + 9) = .ok (.athrow, 1)) (hRf : names.length + 3 < R.frames) (hRl : (rest.map fun v => v.category).sum + (13 * (names.length + 1) + 43) ≤ R.locals) (hf : cells + 1 ≤ R.cells ∧ slots + 6 ≤ R.slots) (hm : cells + 1 ≤ mcQ ∧ slots + 6 ≤ msQ) (h : xp cls S) : W p l e R s m args below meth c H locs cells slots (vx_MQ below Qc (q_XC G A xp) args s mcQ msQ A) (F0 m pc ls rest) := by
  have hts := X.2.2.2.1
  have hE := X.2.2.2.2.2.2.2.2
  obtain ⟨sa, hsa⟩ := hE.2.1.2.2.1 _ hstr
  have hat : ∀ w ∈ vx_atS own ic cls names, w.before args s = true := by
    refine vx_hat (fun w hw => hts w (hg w hw)) hng (fun w hw => ?_)
    rcases List.mem_append.mp hw with h | h
    · obtain ⟨q, hq, rfl⟩ := List.mem_map.mp h
      exact va_Nw.use rfl (hE.2.1.2.2.2.1 q hq)
    · obtain ⟨q, hq, rfl⟩ := List.mem_map.mp h
      exact va_Nw.use rfl (hE.2.1.2.2.2.2.2.2 q hq)
  refine vx_throwS X.1 X.2.1 X.2.2.2.2.2.2.1 X.2.2.1 hcls hnames (hts _ hk) (hts _ hini) hsa hat hgood hE.2.2.1 hE.2.2.2.1 I.2.2 (by rw [X.2.2.2.2.1]; exact hls) d0 d3 d4 d6 d9 (fun x hx => (N x hx).elim) hRf hRl hf.1 hf.2 X.2.2.2.2.2.1 (fun t hvm hz hk => ?_) I.2.2.2.2 hm.1 hm.2
  refine ⟨S, trivial, ⟨h, I.1.kept (fun k q hq => hk q.1 ((I.1 k q hq).lt)), I.2.1⟩, Nat.le_trans I.2.2.1 hz, fun q h1 h2 => ?_⟩
  rw [hk q (Nat.lt_of_lt_of_le h1 I.2.2.1)]
  exact I.2.2.2.1 q h1 h2
end QV
