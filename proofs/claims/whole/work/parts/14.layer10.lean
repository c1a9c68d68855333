/-! Methods with an exception table (the law's own), and calls of them. -/
def q_MT (l : Launch) (y : MethodName) (cc : ByteArray) (maxL : Nat) (ret : Option FieldType) (hh : List (Nat × Nat × Nat × Nat)) (d mc ms : Nat) (G : qG) (S : qS) (sz : Nat) (av : List Value) (post : Int32 → qS → Prop) : Prop :=
  Met l y (Cond.codeWith y cc maxL ret hh :: bg) (q_rm d mc ms) (q_Pc G S sz av) (q_Qi G post (q_A G S sz)) mc ms (q_A G S sz)
theorem q_ofT {l : Launch} {y : MethodName} {cc : ByteArray} {maxL : Nat} {hh : List (Nat × Nat × Nat × Nat)} {d mc ms : Nat} {G : qG} {S : qS} {sz : Nat} {av : List Value} {post : Int32 → qS → Prop} {lv : List (Nat × Value)} (hl0 : l.stackTraces = false) (hy : plainName y.cls = true) (hlv : lv_args 0 av = lv) (hlen : (lg_sl av).length ≤ maxL)
    (body : ∀ (p : Program) (e : Env) (s : State) (m : MethodId) (below : List Frame) (meth : Method) (c : Code) (A : Nat → Prop) (ls : Array Slot), q_X p l s m av.toArray meth c cc y.cls maxL G A → c.exceptionTable.toList = tableOf hh → meth.sig.returnType = some .int → q_H G A s s.heap [] S → lv_has ls maxL lv → W p l e (q_rm d mc ms) s m av.toArray below meth c s.heap [] 0 0 (MQ below (q_Qi G post A) av.toArray s mc ms A) (F0 m 0 ls [])) : q_MT l y cc maxL (some .int) hh d mc ms G S sz av post := by
  refine va_MetW (cc := cc) (maxL := maxL) (ret := some .int) (hh := hh) hy rfl ?_
  intro p e s m args below meth c s₁ B hml hv
  obtain ⟨rfl, hsz, hP, hD0, hE⟩ := hv
  have hts := atoms_spec (ws := Cond.codeWith y cc maxL (some .int) hh :: bg) B.pre
  have hown : s.vm.findClass y.cls = some m.cls := findClass_of_methodNamed B.named
  have htab : c.exceptionTable.toList = tableOf hh := vx_table (x := y) B (hts _ List.mem_cons_self)
  subst hsz
  have hA : ∀ q : Nat, s.heap.size ≤ q → q_A G S s.heap.size q := fun q h => Or.inr h
  have hl := lv_entry av (n := maxL) hlen
  rw [lg_entry_eq]
  rw [hlv] at hl
  exact body p e s m below meth c (q_A G S s.heap.size) _ ⟨B.exec, B.bytes, hown, fun w hw => hts w (List.mem_cons_of_mem _ hw), hml, B.notSynchronized, hl0, hA, hE⟩ htab B.returns ⟨hP, hD0.self, va_S.rf⟩ hl
section QV
variable {p : Program} {l : Launch} {e : Env} {R : Room} {s : State} {m : MethodId} {args : Array Value} {below : List Frame} {meth : Method} {c : Code} {H : Heap} {locs : List Loc} {cells slots : Nat} {Q : State → Prop}
variable {cc : ByteArray} {pc nL : Nat} {ls : Array Slot} {rest : List Value} {own : String} {G : qG} {A : Nat → Prop} {S : qS} {r : Option Nat}
variable {index maxL d mc ms n ci mcQ msQ c1 s1 : Nat} {y : MethodName} {bytes : ByteArray} {ret : Option FieldType} {As st0 : List Value} {Kb : Nat → Prop} {xk : String → qS → Prop}
theorem q_iretN {v : Int32} {post : Int32 → qS → Prop} (X : q_X p l s m args meth c cc own nL G A) (I : q_H G A s H locs S) (hr : meth.sig.returnType = some .int) (hdg : decode cc pc = .ok (.ireturn, 1)) (h : post v S) (hc : cells ≤ mcQ) (hs : slots ≤ msQ) : W p l e R s m args below meth c H locs cells slots (MQ below (q_Qi G post A) args s mcQ msQ A) (F0 m pc ls [.int v]) :=
  W.widen hc hs (W.iret X.1 X.2.1 hr (fun t ht hW => ⟨⟨v, S, rfl, h, by rw [ht]; exact I.1, I.2.1⟩, I.2.2.F ht⟩) I.2.2.2.2 hdg X.2.2.2.2.2.1)
theorem q_catch {E name : String} {ce : Cell} {q : Addr} {hh : List (Nat × Nat × Nat × Nat)} {pre suf : List (Nat × Nat × Nat × Nat)} {st en hd ct : Nat} (X : q_X p l s m args meth c cc own nL G A) (htab : c.exceptionTable.toList = tableOf hh) (hsp : hh = pre ++ (st, en, hd, ct) :: suf) (hpre : ∀ z ∈ pre, z.2.2.2 ≠ 0 ∧ ∃ nm : String, Cond.classLink own z.2.2.2 nm ∈ bg ∧ (E, nm) ∈ q_ncs) (hcov : covers ⟨st, en, hd, ct⟩ pc = true) (h0 : ct ≠ 0) (hlink : Cond.classLink own ct name ∈ bg) (hcast : (E, name) ∈ q_casts) (hcell : H[q]? = some ce) (hv : ce.vm = .none) (hcl : s.vm.findClass E = some ce.cls) (kk : W p l e R s m args below meth c H locs cells slots Q (F0 m hd ls [va_rf (some q)])) : vx_W p l e R s m args below meth c H locs cells slots Q (F0 m pc ls rest) q := by
  have hts := X.2.2.2.1
  have hV := X.2.2.2.2.2.2.2.2.2.1
  refine vx_catch (own := own) (name := name) (E := E) X.2.2.1 (tableOf pre) ⟨st, en, hd, ct⟩ (tableOf suf) (by rw [htab, hsp]; simp [tableOf]) (fun z hz => ?_) hcov h0 (hts _ hlink) (va_Nw.use rfl (hV.2.2.2.1 _ hcast)) hcell hv hcl kk
  obtain ⟨w, hw, rfl⟩ := List.mem_map.mp hz
  obtain ⟨a1, nm, a2, a3⟩ := hpre w hw
  exact Or.inr ⟨a1, nm, hts _ a2, hV.2.2.2.2.1 _ a3⟩
theorem q_cXi {K : Int32 → qS → Prop} (X : q_X p l s m args meth c cc own nL G A) (I : q_H G A s H locs S) (hls : ls.size = nL) (mv : q_mv y bytes maxL ret n ci) (hl : Cond.methodLink own index y ∈ bg) (hdg : decode cc pc = .ok (.invokevirtual index, 3)) (hst : st0 = As.reverse ++ va_rf r :: rest) (h : w_at S r ci Kb) (hM : ∀ b, Kb b → q_M l y bytes maxL ret d mc ms G S H.size (va_rf (some b) :: As) (q_Qi G K) xk) (hn : As.length = n) (hW : (rest.map fun v => v.category).sum ≤ 8) (hR : d + 1 ≤ R.frames ∧ 8 + (maxL + 11) + 48 * d ≤ R.locals) (hf : cells + mc ≤ R.cells ∧ slots + ms ≤ R.slots) (h1 : cells + mc = c1) (h2 : slots + ms = s1)
    (kx : ∀ (E : String) (ce : Cell) (q9 : Addr) (S1 : qS) (H1 : Heap) (locs1 : List Loc), q_H G A s H1 locs1 S1 → xk E S1 → H1[q9]? = some ce → ce.vm = .none → s.vm.findClass E = some ce.cls → vx_W p l e R s m args below meth c H1 locs1 c1 s1 Q (F0 m pc ls rest) q9)
    (kk : ∀ (v : Int32) (S1 : qS) (H1 : Heap) (locs1 : List Loc), q_H G A s H1 locs1 S1 → K v S1 → W p l e R s m args below meth c H1 locs1 c1 s1 Q (F0 m (pc + 3) ls (.int v :: rest))) : W p l e R s m args below meth c H locs cells slots Q (F0 m pc ls st0) := by
  obtain ⟨b, rfl, hb, hkb, h⟩ := h
  obtain ⟨mt, hi, hse, T, Nn, hc⟩ := mv
  subst h1
  subst h2
  have hsub := q_sub X I
  refine vx_calli (q_runV (Qc := q_Qi G K) X I hls mt hi hse hl hc hb hkb (hM b h) hn hst hW hR hf hdg) I.2.2 (fun q _ h => hsub q h) hsub (fun q _ h => hsub q h) (fun E ce q9 u t H1 locs1 ht hvm _ hB hz hk hS hce hcv hcl => ?_) (fun v u t H1 locs1 ht hvm hp hB hz hk hS => ?_)
  · exact kx E ce q9 u H1 locs1 (q_after X I ht hB.2 hS) hB.1 hce hcv hcl
  · exact kk v _ H1 locs1 (q_after X I ht hB hS) hp
theorem q_cXj {K : Int64 → qS → Prop} (X : q_X p l s m args meth c cc own nL G A) (I : q_H G A s H locs S) (hls : ls.size = nL) (mv : q_mv y bytes maxL ret n ci) (hl : Cond.methodLink own index y ∈ bg) (hdg : decode cc pc = .ok (.invokevirtual index, 3)) (hst : st0 = As.reverse ++ va_rf r :: rest) (h : w_at S r ci Kb) (hM : ∀ b, Kb b → q_M l y bytes maxL ret d mc ms G S H.size (va_rf (some b) :: As) (q_Qj G K) xk) (hn : As.length = n) (hW : (rest.map fun v => v.category).sum ≤ 8) (hR : d + 1 ≤ R.frames ∧ 8 + (maxL + 11) + 48 * d ≤ R.locals) (hf : cells + mc ≤ R.cells ∧ slots + ms ≤ R.slots) (h1 : cells + mc = c1) (h2 : slots + ms = s1)
    (kx : ∀ (E : String) (ce : Cell) (q9 : Addr) (S1 : qS) (H1 : Heap) (locs1 : List Loc), q_H G A s H1 locs1 S1 → xk E S1 → H1[q9]? = some ce → ce.vm = .none → s.vm.findClass E = some ce.cls → vx_W p l e R s m args below meth c H1 locs1 c1 s1 Q (F0 m pc ls rest) q9)
    (kk : ∀ (v : Int64) (S1 : qS) (H1 : Heap) (locs1 : List Loc), q_H G A s H1 locs1 S1 → K v S1 → W p l e R s m args below meth c H1 locs1 c1 s1 Q (F0 m (pc + 3) ls (.long v :: rest))) : W p l e R s m args below meth c H locs cells slots Q (F0 m pc ls st0) := by
  obtain ⟨b, rfl, hb, hkb, h⟩ := h
  obtain ⟨mt, hi, hse, T, Nn, hc⟩ := mv
  subst h1
  subst h2
  have hsub := q_sub X I
  refine vx_calll (q_runV (Qc := q_Qj G K) X I hls mt hi hse hl hc hb hkb (hM b h) hn hst hW hR hf hdg) I.2.2 (fun q _ h => hsub q h) hsub (fun q _ h => hsub q h) (fun E ce q9 u t H1 locs1 ht hvm _ hB hz hk hS hce hcv hcl => ?_) (fun v u t H1 locs1 ht hvm hp hB hz hk hS => ?_)
  · exact kx E ce q9 u H1 locs1 (q_after X I ht hB.2 hS) hB.1 hce hcv hcl
  · exact kk v _ H1 locs1 (q_after X I ht hB hS) hp
theorem q_cXv {K : qS → Prop} (X : q_X p l s m args meth c cc own nL G A) (I : q_H G A s H locs S) (hls : ls.size = nL) (mv : q_mv y bytes maxL ret n ci) (hl : Cond.methodLink own index y ∈ bg) (hdg : decode cc pc = .ok (.invokevirtual index, 3)) (hst : st0 = As.reverse ++ va_rf r :: rest) (h : w_at S r ci Kb) (hM : ∀ b, Kb b → q_M l y bytes maxL ret d mc ms G S H.size (va_rf (some b) :: As) (q_Qv G K) xk) (hn : As.length = n) (hW : (rest.map fun v => v.category).sum ≤ 8) (hR : d + 1 ≤ R.frames ∧ 8 + (maxL + 11) + 48 * d ≤ R.locals) (hf : cells + mc ≤ R.cells ∧ slots + ms ≤ R.slots) (h1 : cells + mc = c1) (h2 : slots + ms = s1)
    (kx : ∀ (E : String) (ce : Cell) (q9 : Addr) (S1 : qS) (H1 : Heap) (locs1 : List Loc), q_H G A s H1 locs1 S1 → xk E S1 → H1[q9]? = some ce → ce.vm = .none → s.vm.findClass E = some ce.cls → vx_W p l e R s m args below meth c H1 locs1 c1 s1 Q (F0 m pc ls rest) q9)
    (kk : ∀ (S1 : qS) (H1 : Heap) (locs1 : List Loc), q_H G A s H1 locs1 S1 → K S1 → W p l e R s m args below meth c H1 locs1 c1 s1 Q (F0 m (pc + 3) ls rest)) : W p l e R s m args below meth c H locs cells slots Q (F0 m pc ls st0) := by
  obtain ⟨b, rfl, hb, hkb, h⟩ := h
  obtain ⟨mt, hi, hse, T, Nn, hc⟩ := mv
  subst h1
  subst h2
  have hsub := q_sub X I
  refine vx_callv (q_runV (Qc := q_Qv G K) X I hls mt hi hse hl hc hb hkb (hM b h) hn hst hW hR hf hdg) I.2.2 (fun q _ h => hsub q h) hsub (fun q _ h => hsub q h) (fun E ce q9 u t H1 locs1 ht hvm _ hB hz hk hS hce hcv hcl => ?_) (fun u t H1 locs1 ht hvm hp hB hz hk hS => ?_)
  · exact kx E ce q9 u H1 locs1 (q_after X I ht hB.2 hS) hB.1 hce hcv hcl
  · exact kk  _ H1 locs1 (q_after X I ht hB hS) hp
/-- the law's call of one of its own -/
theorem q_cT {hh : List (Nat × Nat × Nat × Nat)} {K : Int32 → qS → Prop} (X : q_X p l s m args meth c cc own nL G A) (I : q_H G A s H locs S) (hls : ls.size = nL) (hcode : Cond.codeWith y bytes maxL ret hh ∈ bg) (hini : Cond.initialized y.cls ∈ bg) (hy : y.cls ≠ "java/lang/invoke/MethodHandle" ∧ y.cls ≠ "java/lang/invoke/VarHandle") (hlen : (parseMethodDescriptor y.desc).map (fun d => d.parameters.length) = some n) (hstat : Cond.static y ∈ bg) (hl : Cond.methodLink own index y ∈ bg) (hdg : decode cc pc = .ok (.invokestatic index, 3)) (hst : st0 = As.reverse ++ rest) (hM : q_MT l y bytes maxL ret hh d mc ms G S H.size As K) (hn : As.length = n) (hW : (rest.map fun v => v.category).sum ≤ 8) (hR : d + 1 ≤ R.frames ∧ 8 + (maxL + 11) + 48 * d ≤ R.locals) (hf : cells + mc ≤ R.cells ∧ slots + ms ≤ R.slots) (h1 : cells + mc = c1) (h2 : slots + ms = s1) (kk : ∀ (v : Int32) (S1 : qS) (H1 : Heap) (locs1 : List Loc), q_H G A s H1 locs1 S1 → K v S1 → W p l e R s m args below meth c H1 locs1 c1 s1 Q (F0 m (pc + 3) ls (.int v :: rest))) : W p l e R s m args below meth c H locs cells slots Q (F0 m pc ls st0) := by
  subst h1
  subst h2
  have hts := X.2.2.2.1
  have hsub := q_sub X I
  have hall : ∀ w ∈ Cond.codeWith y bytes maxL ret hh :: bg, w ∈ bg := fun w hw => by
    rcases List.mem_cons.mp hw with rfl | h
    · exact hcode
    · exact h
  have cw : vx_CSW R s args own index y bytes maxL ret hh (Cond.codeWith y bytes maxL ret hh :: bg) (q_rm d mc ms) mc ms n := by
    refine vx_cwSW n hts (bg_good ?_) rfl rfl rfl ⟨hy.1, hy.2, hlen⟩ hR
    intro w hw
    unfold va_wsS at hw
    rcases List.mem_append.mp hw with h | h
    · simp only [List.mem_cons, List.not_mem_nil, or_false] at h
      rcases h with rfl | rfl | rfl
      · exact hl
      · exact hstat
      · exact hini
    · exact hall w h
  refine va_calli (vx_runSW (Ts := bg) (hh := hh) ⟨X.1, X.2.1, X.2.2.2.2.1, X.2.2.1, hts⟩ hM cw ⟨q_blind, q_pre X I⟩ rfl hn hls hst (lv_room hW) hdg hf) I.2.2 (fun q _ h => hsub q h) hsub (fun v u t H1 locs1 ht hvm hp hB hz hk hS => ?_)
  exact kk v _ H1 locs1 (q_after X I ht hB hS) hp
end QV
