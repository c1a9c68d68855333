/-! Call rows, entries, returns, throws. -/
def q_mv (y : MethodName) (cc : ByteArray) (maxL : Nat) (ret : Option FieldType) (n ci : Nat) : Prop := q_mt y cc maxL ret n ∧ Cond.instanceMethod y ∈ bg ∧ Cond.selects y.cls y y ∈ bg ∧ ∃ (T : u_T) (N : Nat), vwCl[ci]? = some (y.cls, T, N)
def q_ms (y : MethodName) (cc : ByteArray) (maxL : Nat) (ret : Option FieldType) (n : Nat) : Prop := q_mt y cc maxL ret n ∧ Cond.static y ∈ bg
section QV
variable {p : Program} {l : Launch} {e : Env} {R : Room} {s : State} {m : MethodId} {args : Array Value} {below : List Frame} {meth : Method} {c : Code} {H : Heap} {locs : List Loc} {cells slots : Nat} {Q : State → Prop}
variable {cc : ByteArray} {pc nL : Nat} {ls : Array Slot} {rest : List Value} {own : String} {G : qG} {A : Nat → Prop} {S : qS} {r : Option Nat}
variable {index maxL d mc ms n ci mcQ msQ c1 s1 : Nat} {y : MethodName} {bytes : ByteArray} {ret : Option FieldType} {As st0 : List Value} {Qc : Array Value → State → Outcome → State → Prop} {xp : String → qS → Prop} {Kb : Nat → Prop}
theorem q_cVi {K : Int32 → qS → Prop} (X : q_X p l s m args meth c cc own nL G A) (N : ∀ x ∈ c.exceptionTable.toList, False) (I : q_H G A s H locs S) (hls : ls.size = nL) (mv : q_mv y bytes maxL ret n ci) (hl : Cond.methodLink own index y ∈ bg) (hdg : decode cc pc = .ok (.invokevirtual index, 3)) (hst : st0 = As.reverse ++ va_rf r :: rest) (h : w_at S r ci Kb) (hM : ∀ b, Kb b → q_M l y bytes maxL ret d mc ms G S H.size (va_rf (some b) :: As) (q_Qi G K) xp) (hn : As.length = n) (hW : (rest.map fun v => v.category).sum ≤ 8) (hR : d + 1 ≤ R.frames ∧ 8 + (maxL + 11) + 48 * d ≤ R.locals) (hf : cells + mc ≤ R.cells ∧ slots + ms ≤ R.slots) (hm : c1 ≤ mcQ ∧ s1 ≤ msQ) (h1 : cells + mc = c1) (h2 : slots + ms = s1) (kk : ∀ (v : Int32) (S1 : qS) (H1 : Heap) (locs1 : List Loc), q_H G A s H1 locs1 S1 → K v S1 → W p l e R s m args below meth c H1 locs1 c1 s1 (vx_MQ below Qc (q_XC G A xp) args s mcQ msQ A) (F0 m (pc + 3) ls (.int v :: rest))) : W p l e R s m args below meth c H locs cells slots (vx_MQ below Qc (q_XC G A xp) args s mcQ msQ A) (F0 m pc ls st0) := by
  obtain ⟨b, rfl, hb, hkb, h⟩ := h
  obtain ⟨mt, hi, hse, T, Nn, hc⟩ := mv
  subst h1
  subst h2
  have hsub := q_sub X I
  refine vx_calli (q_runV (Qc := q_Qi G K) X I hls mt hi hse hl hc hb hkb (hM b h) hn hst hW hR hf hdg) I.2.2 (fun q _ h => hsub q h) hsub (fun q _ h => hsub q h) (fun E ce q9 u t H1 locs1 ht hvm _ hB hz hk hS hce hcv hcl => ?_) (fun v u t H1 locs1 ht hvm hp hB hz hk hS => ?_)
  · exact q_xout X N (q_after X I ht hB.2 hS) hB.1 hce hcv hcl hm.1 hm.2
  · exact kk v _ H1 locs1 (q_after X I ht hB hS) hp
theorem q_cSi {K : Int32 → qS → Prop} (X : q_X p l s m args meth c cc own nL G A) (N : ∀ x ∈ c.exceptionTable.toList, False) (I : q_H G A s H locs S) (hls : ls.size = nL) (mv : q_ms y bytes maxL ret n) (hl : Cond.methodLink own index y ∈ bg) (hdg : decode cc pc = .ok (.invokestatic index, 3)) (hst : st0 = As.reverse ++ rest) (hM : q_M l y bytes maxL ret d mc ms G S H.size As (q_Qi G K) xp) (hn : As.length = n) (hW : (rest.map fun v => v.category).sum ≤ 8) (hR : d + 1 ≤ R.frames ∧ 8 + (maxL + 11) + 48 * d ≤ R.locals) (hf : cells + mc ≤ R.cells ∧ slots + ms ≤ R.slots) (hm : c1 ≤ mcQ ∧ s1 ≤ msQ) (h1 : cells + mc = c1) (h2 : slots + ms = s1) (kk : ∀ (v : Int32) (S1 : qS) (H1 : Heap) (locs1 : List Loc), q_H G A s H1 locs1 S1 → K v S1 → W p l e R s m args below meth c H1 locs1 c1 s1 (vx_MQ below Qc (q_XC G A xp) args s mcQ msQ A) (F0 m (pc + 3) ls (.int v :: rest))) : W p l e R s m args below meth c H locs cells slots (vx_MQ below Qc (q_XC G A xp) args s mcQ msQ A) (F0 m pc ls st0) := by
  obtain ⟨mt, hi⟩ := mv
  subst h1
  subst h2
  have hsub := q_sub X I
  refine vx_calli (q_runS (Qc := q_Qi G K) X I hls mt hi hl hM hn hst hW hR hf hdg) I.2.2 (fun q _ h => hsub q h) hsub (fun q _ h => hsub q h) (fun E ce q9 u t H1 locs1 ht hvm _ hB hz hk hS hce hcv hcl => ?_) (fun v u t H1 locs1 ht hvm hp hB hz hk hS => ?_)
  · exact q_xout X N (q_after X I ht hB.2 hS) hB.1 hce hcv hcl hm.1 hm.2
  · exact kk v _ H1 locs1 (q_after X I ht hB hS) hp
theorem q_cVj {K : Int64 → qS → Prop} (X : q_X p l s m args meth c cc own nL G A) (N : ∀ x ∈ c.exceptionTable.toList, False) (I : q_H G A s H locs S) (hls : ls.size = nL) (mv : q_mv y bytes maxL ret n ci) (hl : Cond.methodLink own index y ∈ bg) (hdg : decode cc pc = .ok (.invokevirtual index, 3)) (hst : st0 = As.reverse ++ va_rf r :: rest) (h : w_at S r ci Kb) (hM : ∀ b, Kb b → q_M l y bytes maxL ret d mc ms G S H.size (va_rf (some b) :: As) (q_Qj G K) xp) (hn : As.length = n) (hW : (rest.map fun v => v.category).sum ≤ 8) (hR : d + 1 ≤ R.frames ∧ 8 + (maxL + 11) + 48 * d ≤ R.locals) (hf : cells + mc ≤ R.cells ∧ slots + ms ≤ R.slots) (hm : c1 ≤ mcQ ∧ s1 ≤ msQ) (h1 : cells + mc = c1) (h2 : slots + ms = s1) (kk : ∀ (v : Int64) (S1 : qS) (H1 : Heap) (locs1 : List Loc), q_H G A s H1 locs1 S1 → K v S1 → W p l e R s m args below meth c H1 locs1 c1 s1 (vx_MQ below Qc (q_XC G A xp) args s mcQ msQ A) (F0 m (pc + 3) ls (.long v :: rest))) : W p l e R s m args below meth c H locs cells slots (vx_MQ below Qc (q_XC G A xp) args s mcQ msQ A) (F0 m pc ls st0) := by
  obtain ⟨b, rfl, hb, hkb, h⟩ := h
  obtain ⟨mt, hi, hse, T, Nn, hc⟩ := mv
  subst h1
  subst h2
  have hsub := q_sub X I
  refine vx_calll (q_runV (Qc := q_Qj G K) X I hls mt hi hse hl hc hb hkb (hM b h) hn hst hW hR hf hdg) I.2.2 (fun q _ h => hsub q h) hsub (fun q _ h => hsub q h) (fun E ce q9 u t H1 locs1 ht hvm _ hB hz hk hS hce hcv hcl => ?_) (fun v u t H1 locs1 ht hvm hp hB hz hk hS => ?_)
  · exact q_xout X N (q_after X I ht hB.2 hS) hB.1 hce hcv hcl hm.1 hm.2
  · exact kk v _ H1 locs1 (q_after X I ht hB hS) hp
theorem q_cSj {K : Int64 → qS → Prop} (X : q_X p l s m args meth c cc own nL G A) (N : ∀ x ∈ c.exceptionTable.toList, False) (I : q_H G A s H locs S) (hls : ls.size = nL) (mv : q_ms y bytes maxL ret n) (hl : Cond.methodLink own index y ∈ bg) (hdg : decode cc pc = .ok (.invokestatic index, 3)) (hst : st0 = As.reverse ++ rest) (hM : q_M l y bytes maxL ret d mc ms G S H.size As (q_Qj G K) xp) (hn : As.length = n) (hW : (rest.map fun v => v.category).sum ≤ 8) (hR : d + 1 ≤ R.frames ∧ 8 + (maxL + 11) + 48 * d ≤ R.locals) (hf : cells + mc ≤ R.cells ∧ slots + ms ≤ R.slots) (hm : c1 ≤ mcQ ∧ s1 ≤ msQ) (h1 : cells + mc = c1) (h2 : slots + ms = s1) (kk : ∀ (v : Int64) (S1 : qS) (H1 : Heap) (locs1 : List Loc), q_H G A s H1 locs1 S1 → K v S1 → W p l e R s m args below meth c H1 locs1 c1 s1 (vx_MQ below Qc (q_XC G A xp) args s mcQ msQ A) (F0 m (pc + 3) ls (.long v :: rest))) : W p l e R s m args below meth c H locs cells slots (vx_MQ below Qc (q_XC G A xp) args s mcQ msQ A) (F0 m pc ls st0) := by
  obtain ⟨mt, hi⟩ := mv
  subst h1
  subst h2
  have hsub := q_sub X I
  refine vx_calll (q_runS (Qc := q_Qj G K) X I hls mt hi hl hM hn hst hW hR hf hdg) I.2.2 (fun q _ h => hsub q h) hsub (fun q _ h => hsub q h) (fun E ce q9 u t H1 locs1 ht hvm _ hB hz hk hS hce hcv hcl => ?_) (fun v u t H1 locs1 ht hvm hp hB hz hk hS => ?_)
  · exact q_xout X N (q_after X I ht hB.2 hS) hB.1 hce hcv hcl hm.1 hm.2
  · exact kk v _ H1 locs1 (q_after X I ht hB hS) hp
theorem q_cVr {K : Option Nat → qS → Prop} (X : q_X p l s m args meth c cc own nL G A) (N : ∀ x ∈ c.exceptionTable.toList, False) (I : q_H G A s H locs S) (hls : ls.size = nL) (mv : q_mv y bytes maxL ret n ci) (hl : Cond.methodLink own index y ∈ bg) (hdg : decode cc pc = .ok (.invokevirtual index, 3)) (hst : st0 = As.reverse ++ va_rf r :: rest) (h : w_at S r ci Kb) (hM : ∀ b, Kb b → q_M l y bytes maxL ret d mc ms G S H.size (va_rf (some b) :: As) (q_Qr G K) xp) (hn : As.length = n) (hW : (rest.map fun v => v.category).sum ≤ 8) (hR : d + 1 ≤ R.frames ∧ 8 + (maxL + 11) + 48 * d ≤ R.locals) (hf : cells + mc ≤ R.cells ∧ slots + ms ≤ R.slots) (hm : c1 ≤ mcQ ∧ s1 ≤ msQ) (h1 : cells + mc = c1) (h2 : slots + ms = s1) (kk : ∀ (v : Option Nat) (S1 : qS) (H1 : Heap) (locs1 : List Loc), q_H G A s H1 locs1 S1 → K v S1 → W p l e R s m args below meth c H1 locs1 c1 s1 (vx_MQ below Qc (q_XC G A xp) args s mcQ msQ A) (F0 m (pc + 3) ls (va_rf v :: rest))) : W p l e R s m args below meth c H locs cells slots (vx_MQ below Qc (q_XC G A xp) args s mcQ msQ A) (F0 m pc ls st0) := by
  obtain ⟨b, rfl, hb, hkb, h⟩ := h
  obtain ⟨mt, hi, hse, T, Nn, hc⟩ := mv
  subst h1
  subst h2
  have hsub := q_sub X I
  refine vx_callq (q_runV (Qc := q_Qr G K) X I hls mt hi hse hl hc hb hkb (hM b h) hn hst hW hR hf hdg) I.2.2 (fun q _ h => hsub q h) hsub (fun q _ h => hsub q h) (fun E ce q9 u t H1 locs1 ht hvm _ hB hz hk hS hce hcv hcl => ?_) (fun v u t H1 locs1 ht hvm hp hB hz hk hS => ?_)
  · exact q_xout X N (q_after X I ht hB.2 hS) hB.1 hce hcv hcl hm.1 hm.2
  · exact kk v _ H1 locs1 (q_after X I ht hB hS) hp
theorem q_cSr {K : Option Nat → qS → Prop} (X : q_X p l s m args meth c cc own nL G A) (N : ∀ x ∈ c.exceptionTable.toList, False) (I : q_H G A s H locs S) (hls : ls.size = nL) (mv : q_ms y bytes maxL ret n) (hl : Cond.methodLink own index y ∈ bg) (hdg : decode cc pc = .ok (.invokestatic index, 3)) (hst : st0 = As.reverse ++ rest) (hM : q_M l y bytes maxL ret d mc ms G S H.size As (q_Qr G K) xp) (hn : As.length = n) (hW : (rest.map fun v => v.category).sum ≤ 8) (hR : d + 1 ≤ R.frames ∧ 8 + (maxL + 11) + 48 * d ≤ R.locals) (hf : cells + mc ≤ R.cells ∧ slots + ms ≤ R.slots) (hm : c1 ≤ mcQ ∧ s1 ≤ msQ) (h1 : cells + mc = c1) (h2 : slots + ms = s1) (kk : ∀ (v : Option Nat) (S1 : qS) (H1 : Heap) (locs1 : List Loc), q_H G A s H1 locs1 S1 → K v S1 → W p l e R s m args below meth c H1 locs1 c1 s1 (vx_MQ below Qc (q_XC G A xp) args s mcQ msQ A) (F0 m (pc + 3) ls (va_rf v :: rest))) : W p l e R s m args below meth c H locs cells slots (vx_MQ below Qc (q_XC G A xp) args s mcQ msQ A) (F0 m pc ls st0) := by
  obtain ⟨mt, hi⟩ := mv
  subst h1
  subst h2
  have hsub := q_sub X I
  refine vx_callq (q_runS (Qc := q_Qr G K) X I hls mt hi hl hM hn hst hW hR hf hdg) I.2.2 (fun q _ h => hsub q h) hsub (fun q _ h => hsub q h) (fun E ce q9 u t H1 locs1 ht hvm _ hB hz hk hS hce hcv hcl => ?_) (fun v u t H1 locs1 ht hvm hp hB hz hk hS => ?_)
  · exact q_xout X N (q_after X I ht hB.2 hS) hB.1 hce hcv hcl hm.1 hm.2
  · exact kk v _ H1 locs1 (q_after X I ht hB hS) hp
theorem q_cVv {K : qS → Prop} (X : q_X p l s m args meth c cc own nL G A) (N : ∀ x ∈ c.exceptionTable.toList, False) (I : q_H G A s H locs S) (hls : ls.size = nL) (mv : q_mv y bytes maxL ret n ci) (hl : Cond.methodLink own index y ∈ bg) (hdg : decode cc pc = .ok (.invokevirtual index, 3)) (hst : st0 = As.reverse ++ va_rf r :: rest) (h : w_at S r ci Kb) (hM : ∀ b, Kb b → q_M l y bytes maxL ret d mc ms G S H.size (va_rf (some b) :: As) (q_Qv G K) xp) (hn : As.length = n) (hW : (rest.map fun v => v.category).sum ≤ 8) (hR : d + 1 ≤ R.frames ∧ 8 + (maxL + 11) + 48 * d ≤ R.locals) (hf : cells + mc ≤ R.cells ∧ slots + ms ≤ R.slots) (hm : c1 ≤ mcQ ∧ s1 ≤ msQ) (h1 : cells + mc = c1) (h2 : slots + ms = s1) (kk : ∀ (S1 : qS) (H1 : Heap) (locs1 : List Loc), q_H G A s H1 locs1 S1 → K S1 → W p l e R s m args below meth c H1 locs1 c1 s1 (vx_MQ below Qc (q_XC G A xp) args s mcQ msQ A) (F0 m (pc + 3) ls rest)) : W p l e R s m args below meth c H locs cells slots (vx_MQ below Qc (q_XC G A xp) args s mcQ msQ A) (F0 m pc ls st0) := by
  obtain ⟨b, rfl, hb, hkb, h⟩ := h
  obtain ⟨mt, hi, hse, T, Nn, hc⟩ := mv
  subst h1
  subst h2
  have hsub := q_sub X I
  refine vx_callv (q_runV (Qc := q_Qv G K) X I hls mt hi hse hl hc hb hkb (hM b h) hn hst hW hR hf hdg) I.2.2 (fun q _ h => hsub q h) hsub (fun q _ h => hsub q h) (fun E ce q9 u t H1 locs1 ht hvm _ hB hz hk hS hce hcv hcl => ?_) (fun u t H1 locs1 ht hvm hp hB hz hk hS => ?_)
  · exact q_xout X N (q_after X I ht hB.2 hS) hB.1 hce hcv hcl hm.1 hm.2
  · exact kk  _ H1 locs1 (q_after X I ht hB hS) hp
theorem q_cSv {K : qS → Prop} (X : q_X p l s m args meth c cc own nL G A) (N : ∀ x ∈ c.exceptionTable.toList, False) (I : q_H G A s H locs S) (hls : ls.size = nL) (mv : q_ms y bytes maxL ret n) (hl : Cond.methodLink own index y ∈ bg) (hdg : decode cc pc = .ok (.invokestatic index, 3)) (hst : st0 = As.reverse ++ rest) (hM : q_M l y bytes maxL ret d mc ms G S H.size As (q_Qv G K) xp) (hn : As.length = n) (hW : (rest.map fun v => v.category).sum ≤ 8) (hR : d + 1 ≤ R.frames ∧ 8 + (maxL + 11) + 48 * d ≤ R.locals) (hf : cells + mc ≤ R.cells ∧ slots + ms ≤ R.slots) (hm : c1 ≤ mcQ ∧ s1 ≤ msQ) (h1 : cells + mc = c1) (h2 : slots + ms = s1) (kk : ∀ (S1 : qS) (H1 : Heap) (locs1 : List Loc), q_H G A s H1 locs1 S1 → K S1 → W p l e R s m args below meth c H1 locs1 c1 s1 (vx_MQ below Qc (q_XC G A xp) args s mcQ msQ A) (F0 m (pc + 3) ls rest)) : W p l e R s m args below meth c H locs cells slots (vx_MQ below Qc (q_XC G A xp) args s mcQ msQ A) (F0 m pc ls st0) := by
  obtain ⟨mt, hi⟩ := mv
  subst h1
  subst h2
  have hsub := q_sub X I
  refine vx_callv (q_runS (Qc := q_Qv G K) X I hls mt hi hl hM hn hst hW hR hf hdg) I.2.2 (fun q _ h => hsub q h) hsub (fun q _ h => hsub q h) (fun E ce q9 u t H1 locs1 ht hvm _ hB hz hk hS hce hcv hcl => ?_) (fun u t H1 locs1 ht hvm hp hB hz hk hS => ?_)
  · exact q_xout X N (q_after X I ht hB.2 hS) hB.1 hce hcv hcl hm.1 hm.2
  · exact kk  _ H1 locs1 (q_after X I ht hB hS) hp

theorem q_iret {v : Int32} {post : Int32 → qS → Prop} (X : q_X p l s m args meth c cc own nL G A) (I : q_H G A s H locs S) (hr : meth.sig.returnType = some .int) (hdg : decode cc pc = .ok (.ireturn, 1)) (h : post v S) (hc : cells ≤ mcQ) (hs : slots ≤ msQ) : W p l e R s m args below meth c H locs cells slots (vx_MQ below (q_Qi G post A) (q_XC G A xp) args s mcQ msQ A) (F0 m pc ls [.int v]) :=
  W.widen hc hs (vx_ret (W.iret X.1 X.2.1 hr (fun t ht hW => ⟨⟨v, S, rfl, h, by rw [ht]; exact I.1, I.2.1⟩, I.2.2.F ht⟩) I.2.2.2.2 hdg X.2.2.2.2.2.1))
theorem q_zret {v : Int32} {post : Int32 → qS → Prop} (X : q_X p l s m args meth c cc own nL G A) (I : q_H G A s H locs S) (hr : meth.sig.returnType = some .boolean) (hdg : decode cc pc = .ok (.ireturn, 1)) (h : (v = 0 ∨ v = 1) ∧ post v S) (hc : cells ≤ mcQ) (hs : slots ≤ msQ) : W p l e R s m args below meth c H locs cells slots (vx_MQ below (q_Qi G post A) (q_XC G A xp) args s mcQ msQ A) (F0 m pc ls [.int v]) :=
  W.widen hc hs (vx_ret (W.zret X.1 X.2.1 hr (q_nZ h.1) (fun t ht hW => ⟨⟨v, S, rfl, h.2, by rw [ht]; exact I.1, I.2.1⟩, I.2.2.F ht⟩) I.2.2.2.2 hdg X.2.2.2.2.2.1))
theorem q_lret {v : Int64} {post : Int64 → qS → Prop} (X : q_X p l s m args meth c cc own nL G A) (I : q_H G A s H locs S) (hr : meth.sig.returnType = some .long) (hdg : decode cc pc = .ok (.lreturn, 1)) (h : post v S) (hc : cells ≤ mcQ) (hs : slots ≤ msQ) : W p l e R s m args below meth c H locs cells slots (vx_MQ below (q_Qj G post A) (q_XC G A xp) args s mcQ msQ A) (F0 m pc ls [.long v]) :=
  W.widen hc hs (vx_ret (W.lret X.1 X.2.1 hr (fun t ht hW => ⟨⟨v, S, rfl, h, by rw [ht]; exact I.1, I.2.1⟩, I.2.2.F ht⟩) I.2.2.2.2 hdg X.2.2.2.2.2.1))
theorem q_vret {post : qS → Prop} (X : q_X p l s m args meth c cc own nL G A) (I : q_H G A s H locs S) (hr : meth.sig.returnType = none) (hdg : decode cc pc = .ok (.return_, 1)) (h : post S) (hc : cells ≤ mcQ) (hs : slots ≤ msQ) : W p l e R s m args below meth c H locs cells slots (vx_MQ below (q_Qv G post A) (q_XC G A xp) args s mcQ msQ A) (F0 m pc ls []) :=
  W.widen hc hs (vx_ret (W.vret X.1 X.2.1 hr (fun t ht hW => ⟨⟨S, rfl, h, by rw [ht]; exact I.1, I.2.1⟩, I.2.2.F ht⟩) I.2.2.2.2 hdg X.2.2.2.2.2.1))
theorem q_aret {rt : FieldType} {post : Option Nat → qS → Prop} (X : q_X p l s m args meth c cc own nL G A) (I : q_H G A s H locs S) (hr : meth.sig.returnType = some rt) (hrt : (∃ n, rt = .object n) ∨ ∃ t, rt = .array t) (hdg : decode cc pc = .ok (.areturn, 1)) (h : post r S) (hc : cells ≤ mcQ) (hs : slots ≤ msQ) : W p l e R s m args below meth c H locs cells slots (vx_MQ below (q_Qr G post A) (q_XC G A xp) args s mcQ msQ A) (F0 m pc ls [va_rf r]) :=
  W.widen hc hs (vx_ret (W.aret X.1 X.2.1 hr hrt (va_rf_or r) (fun t ht hW => ⟨⟨r, S, rfl, h, by rw [ht]; exact I.1, I.2.1⟩, I.2.2.F ht⟩) I.2.2.2.2 hdg X.2.2.2.2.2.1))
end QV
theorem q_of {l : Launch} {y : MethodName} {cc : ByteArray} {maxL : Nat} {ret : Option FieldType} {d mc ms : Nat} {G : qG} {S : qS} {sz : Nat} {av : List Value} {Qc : (Nat → Prop) → Array Value → State → Outcome → State → Prop} {xp : String → qS → Prop} {lv : List (Nat × Value)} (hl0 : l.stackTraces = false) (hy : plainName y.cls = true) (hlv : lv_args 0 av = lv) (hlen : (lg_sl av).length ≤ maxL)
    (body : ∀ (p : Program) (e : Env) (s : State) (m : MethodId) (below : List Frame) (meth : Method) (c : Code) (A : Nat → Prop) (ls : Array Slot), q_X p l s m av.toArray meth c cc y.cls maxL G A → (∀ x ∈ c.exceptionTable.toList, False) → meth.sig.returnType = ret → meth.name = y.name → q_H G A s s.heap [] S → lv_has ls maxL lv → W p l e (q_rm d mc ms) s m av.toArray below meth c s.heap [] 0 0 (vx_MQ below (Qc A) (q_XC G A xp) av.toArray s mc ms A) (F0 m 0 ls [])) : q_M l y cc maxL ret d mc ms G S sz av Qc xp := by
  refine vx_ofW (cc := cc) (maxL := maxL) (ret := ret) hy rfl ?_
  intro p e s m args below meth c s₁ B hml hnx hv
  obtain ⟨rfl, hsz, hP, hD0, hE⟩ := hv
  have hts := atoms_spec (ws := Cond.code y cc maxL ret :: bg) B.pre
  have hown : s.vm.findClass y.cls = some m.cls := findClass_of_methodNamed B.named
  have hnm : meth.name = y.name := (name_of_methodNamed B.named B.method).1
  subst hsz
  have hA : ∀ q : Nat, s.heap.size ≤ q → q_A G S s.heap.size q := fun q h => Or.inr h
  have hl := lv_entry av (n := maxL) hlen
  rw [lg_entry_eq]
  rw [hlv] at hl
  exact body p e s m below meth c (q_A G S s.heap.size) _ ⟨B.exec, B.bytes, hown, fun w hw => hts w (List.mem_cons_of_mem _ hw), hml, B.notSynchronized, hl0, hA, hE⟩ hnx B.returns hnm ⟨hP, hD0.self, va_S.rf⟩ hl
