/-! Contracts over the pool, calls, returns, throws, new cells. -/
def q_rm (d mc ms : Nat) : Room := { frames := d, cells := mc, slots := ms, locals := 48 * d }
def q_Pc (G : qG) (S : qS) (sz : Nat) (av : List Value) : Array Value → State → Prop := va_Pc av (fun U => U.heap.size = sz ∧ va_P G.1 vwCl (q_w G.2.1 S) U.heap ∧ va_D (fun _ => True) (q_w G.2.1 S) ∧ q_E G (q_A G S sz) U U.heap)
def q_B (G : qG) (A : Nat → Prop) (S : qS) (t : State) : Prop := va_P G.1 vwCl (q_w G.2.1 S) t.heap ∧ va_D A (q_w G.2.1 S)
def q_XC (G : qG) (A : Nat → Prop) (xp : String → qS → Prop) : String → State → State → Prop := vx_X (fun _ : qS => True) (fun E u t => xp E u ∧ q_B G A u t) A
def q_M (l : Launch) (y : MethodName) (cc : ByteArray) (maxL : Nat) (ret : Option FieldType) (d mc ms : Nat) (G : qG) (S : qS) (sz : Nat) (av : List Value) (Qc : (Nat → Prop) → Array Value → State → Outcome → State → Prop) (xp : String → qS → Prop) : Prop :=
  vx_Met l y (Cond.code y cc maxL ret :: bg) (q_rm d mc ms) (q_Pc G S sz av) (Qc (q_A G S sz)) (q_XC G (q_A G S sz) xp) mc ms (q_A G S sz)
def q_Qi (G : qG) (post : Int32 → qS → Prop) (A : Nat → Prop) : Array Value → State → Outcome → State → Prop := va_Qi post (q_B G A) A
def q_Qj (G : qG) (post : Int64 → qS → Prop) (A : Nat → Prop) : Array Value → State → Outcome → State → Prop := va_Ql post (q_B G A) A
def q_Qv (G : qG) (post : qS → Prop) (A : Nat → Prop) : Array Value → State → Outcome → State → Prop := va_Qv post (q_B G A) A
def q_Qr (G : qG) (post : Option Nat → qS → Prop) (A : Nat → Prop) : Array Value → State → Outcome → State → Prop := va_Qq post (q_B G A) A
theorem q_E.blind {G : qG} {A : Nat → Prop} {U : State} (g : JFrame) (mk : MethodId) (a : Array Value) (h : q_E G A U U.heap) : q_E G A (U.calling g mk a) (U.calling g mk a).heap :=
  ⟨va_K.moved (u := U) (U := U.calling g mk a) (Vm.Alike.refl U.vm) h.1, q_V.same (u := U) (U := U.calling g mk a) rfl h.2.1, q_Z.step (u := U) (U := U.calling g mk a) (Vm.Alike.refl U.vm) (fun _ _ _ => rfl) (fun _ h => h) h.2.2⟩
theorem q_blind {G : qG} {S : qS} {sz : Nat} {av : List Value} : FrameBlind (q_Pc G S sz av) := fun a U g mk h => ⟨h.1, h.2.1, h.2.2.1, h.2.2.2.1, q_E.blind g mk a h.2.2.2.2⟩
section QV
variable {p : Program} {l : Launch} {e : Env} {R : Room} {s : State} {m : MethodId} {args : Array Value} {below : List Frame} {meth : Method} {c : Code} {H : Heap} {locs : List Loc} {cells slots : Nat} {Q : State → Prop}
variable {cc : ByteArray} {pc nL : Nat} {ls : Array Slot} {rest : List Value} {own : String} {G : qG} {A : Nat → Prop} {S : qS} {r : Option Nat}
theorem q_sub (X : q_X p l s m args meth c cc own nL G A) (I : q_H G A s H locs S) : ∀ q, q_A G S H.size q → A q := by
  intro q h
  rcases h with ⟨k, e, h⟩ | h
  · exact I.2.1.2 k _ h
  · exact X.2.2.2.2.2.2.2.1 q (Nat.le_trans I.2.2.1 h)
theorem q_pre (X : q_X p l s m args meth c cc own nL G A) (I : q_H G A s H locs S) {av : List Value} : ∀ U : State, U.heap = H → s.WarmedH U.vm → q_Pc G S H.size av av.toArray U := by
  intro U hU hW
  refine ⟨rfl, by rw [hU], by rw [hU]; exact I.1, I.2.1.weaken (fun _ _ _ _ => trivial), ?_⟩
  exact q_E.warm hW I.2.2.2.1 (q_sub X I) hU X.2.2.2.2.2.2.2.2
/-- a method's own facts -/
def q_mt (y : MethodName) (cc : ByteArray) (maxL : Nat) (ret : Option FieldType) (n : Nat) : Prop := Cond.code y cc maxL ret ∈ bg ∧ Cond.initialized y.cls ∈ bg ∧ (y.cls ≠ "java/lang/invoke/MethodHandle" ∧ y.cls ≠ "java/lang/invoke/VarHandle") ∧ (parseMethodDescriptor y.desc).map (fun d => d.parameters.length) = some n
theorem q_callB {index maxL d mc ms n : Nat} {y : MethodName} {bytes : ByteArray} {ret : Option FieldType} (X : q_X p l s m args meth c cc own nL G A) (mt : q_mt y bytes maxL ret n) (hl : Cond.methodLink own index y ∈ bg) (hR : d + 1 ≤ R.frames ∧ 8 + (maxL + 11) + 48 * d ≤ R.locals) : CallB R s args own index y bytes maxL ret (Cond.code y bytes maxL ret :: bg) (q_rm d mc ms) mc ms n := by
  have hts := X.2.2.2.1
  refine ⟨rfl, rfl, hR.1, hR.2, ?_, List.mem_cons_self, hts _ mt.1, hts _ mt.2.1, mt.2.2.1, ?_, hts _ hl⟩
  · intro w hw a' U hU
    have hb : w ∈ bg := by
      rcases List.mem_cons.mp hw with rfl | h
      · exact mt.1
      · exact h
    exact (callB_of (own := own) (index := index) (y := y) (bytes := bytes) (maxL := maxL) (ret := ret) (mc := mc) (ms := ms) (R := R) (rm := q_rm d mc ms) n hts (bg_good (ws := Cond.code y bytes maxL ret :: bg) (fun w hw => by rcases List.mem_cons.mp hw with rfl | h; exact mt.1; exact h)) rfl rfl rfl (hts _ mt.2.1) (hts _ hl) ⟨mt.2.2.1.1, mt.2.2.1.2, mt.2.2.2⟩ hR).2.2.2.2.1 w hw a' U hU
  · intro sig hs
    have := mt.2.2.2
    rw [hs] at this
    exact (Option.some.inj this).symm
theorem q_xout {mc ms : Nat} {Qc : Array Value → State → Outcome → State → Prop} {xp : String → qS → Prop} (X : q_X p l s m args meth c cc own nL G A) (N : ∀ x ∈ c.exceptionTable.toList, False) {E : String} {ce : Cell} {q : Addr} {u : qS} {H1 : Heap} {locs1 : List Loc} {k n : Nat} (I : q_H G A s H1 locs1 u) (hx : xp E u) (hce : H1[q]? = some ce) (hcv : ce.vm = .none) (hcl : s.vm.findClass E = some ce.cls) (h1 : k ≤ mc) (h2 : n ≤ ms) : vx_W p l e R s m args below meth c H1 locs1 k n (vx_MQ below Qc (q_XC G A xp) args s mc ms A) (F0 m pc ls rest) q :=
  vx_out (fun x hx => (N x hx).elim) X.2.2.2.2.2.1 hce hcv hcl (fun t ht _ => ⟨u, trivial, ⟨hx, by rw [ht]; exact I.1, I.2.1⟩, I.2.2.F ht⟩) I.2.2.2.2 h1 h2
theorem q_after (X : q_X p l s m args meth c cc own nL G A) (I : q_H G A s H locs S) {u : qS} {t : State} {H1 : Heap} {locs1 : List Loc} (ht : t.heap = H1) (hB : q_B G (q_A G S H.size) u t) (hS : va_S A s.heap H1 locs1) : q_H G A s H1 locs1 u := ⟨by rw [← ht]; exact hB.1, hB.2.weaken (fun _ q _ h => q_sub X I q.1 h), hS⟩
theorem q_runV {index maxL d mc ms n ci b : Nat} {y : MethodName} {bytes : ByteArray} {ret : Option FieldType} {T : u_T} {Nn : Nat} {As st0 : List Value} {Qc : (Nat → Prop) → Array Value → State → Outcome → State → Prop} {xp : String → qS → Prop} (X : q_X p l s m args meth c cc own nL G A) (I : q_H G A s H locs S) (hls : ls.size = nL) (mt : q_mt y bytes maxL ret n) (hi : Cond.instanceMethod y ∈ bg) (hse : Cond.selects y.cls y y ∈ bg) (hl : Cond.methodLink own index y ∈ bg) (hc : vwCl[ci]? = some (y.cls, T, Nn)) (hb : b ∈ qL S) (hkb : qK S b = ci) (hM : q_M l y bytes maxL ret d mc ms G S H.size (va_rf (some b) :: As) Qc xp) (hn : As.length = n) (hst : st0 = As.reverse ++ va_rf (some b) :: rest) (hW : (rest.map fun v => v.category).sum ≤ 8) (hR : d + 1 ≤ R.frames ∧ 8 + (maxL + 11) + 48 * d ≤ R.locals) (hf : cells + mc ≤ R.cells ∧ slots + ms ≤ R.slots) (hdg : decode cc pc = .ok (.invokevirtual index, 3)) : vx_Run p l e R s m args below meth c H locs cells slots mc ms (F0 m pc ls st0) rest (Qc (q_A G S H.size) (va_rf (some b) :: As).toArray) (q_XC G (q_A G S H.size) xp) (q_A G S H.size) := by
  have hts := X.2.2.2.1
  obtain ⟨k0, h0, h1, -, -⟩ := q_at_o (G := G) hc hb hkb
  exact vx_runV (Ts := bg) ⟨X.1, X.2.1, X.2.2.2.2.1, X.2.2.1, hts⟩ hM ⟨q_callB X mt hl hR, hts _ hi, hts _ hse⟩ ⟨q_blind, va_recv (q := (y.cls, T, Nn)) X.2.2.2.2.2.2.2.2.1 I.1 hc h1, q_pre X I⟩ rfl hn hls hst (lv_room hW) hdg hf
theorem q_runS {index maxL d mc ms n : Nat} {y : MethodName} {bytes : ByteArray} {ret : Option FieldType} {As st0 : List Value} {Qc : (Nat → Prop) → Array Value → State → Outcome → State → Prop} {xp : String → qS → Prop} (X : q_X p l s m args meth c cc own nL G A) (I : q_H G A s H locs S) (hls : ls.size = nL) (mt : q_mt y bytes maxL ret n) (hi : Cond.static y ∈ bg) (hl : Cond.methodLink own index y ∈ bg) (hM : q_M l y bytes maxL ret d mc ms G S H.size As Qc xp) (hn : As.length = n) (hst : st0 = As.reverse ++ rest) (hW : (rest.map fun v => v.category).sum ≤ 8) (hR : d + 1 ≤ R.frames ∧ 8 + (maxL + 11) + 48 * d ≤ R.locals) (hf : cells + mc ≤ R.cells ∧ slots + ms ≤ R.slots) (hdg : decode cc pc = .ok (.invokestatic index, 3)) : vx_Run p l e R s m args below meth c H locs cells slots mc ms (F0 m pc ls st0) rest (Qc (q_A G S H.size) As.toArray) (q_XC G (q_A G S H.size) xp) (q_A G S H.size) := by
  have hts := X.2.2.2.1
  exact vx_runS (Ts := bg) ⟨X.1, X.2.1, X.2.2.2.2.1, X.2.2.1, hts⟩ hM ⟨q_callB X mt hl hR, hts _ hi⟩ ⟨q_blind, q_pre X I⟩ rfl hn hls hst (lv_room hW) hdg hf
theorem vx_callq {S SX : Type} {post : Option Nat → S → Prop} {px : SX → Prop} {B : S → State → Prop} {BX : String → SX → State → Prop} {AX A0 A1 : Nat → Prop} {H0 : Heap} {mc ms : Nat} {free : Addr → Prop} {st0 : List Value} {a : Array Value} (hr : vx_Run p l e R s m args below meth c H locs cells slots mc ms (F0 m pc ls st0) rest (va_Qq post B A1 a) (vx_X px BX AX) free) (hS : va_S A0 H0 H locs) (hA : ∀ q, q < H.size → A1 q → A0 q) (hf : ∀ q, free q → A0 q) (hAX : ∀ q, q < H.size → AX q → A0 q)
    (kx : ∀ (E : String) (ce : Cell) (q9 : Addr) (u : SX) (t : State) (H1 : Heap) (locs1 : List Loc), t.heap = H1 → s.vm.Alike t.vm → px u → BX E u t → H.size ≤ H1.size → (∀ q : Nat, q < H.size → ¬ AX q → H1[q]? = H[q]?) → va_S A0 H0 H1 locs1 → H1[q9]? = some ce → ce.vm = .none → s.vm.findClass E = some ce.cls → vx_W p l e R s m args below meth c H1 locs1 (cells + mc) (slots + ms) Q (F0 m pc ls rest) q9)
    (kk : ∀ (r : Option Nat) (u : S) (t : State) (H1 : Heap) (locs1 : List Loc), t.heap = H1 → s.vm.Alike t.vm → post r u → B u t → H.size ≤ H1.size → (∀ q : Nat, q < H.size → ¬ A1 q → H1[q]? = H[q]?) → va_S A0 H0 H1 locs1 → W p l e R s m args below meth c H1 locs1 (cells + mc) (slots + ms) Q (F0 m (pc + 3) ls (va_rf r :: rest))) : W p l e R s m args below meth c H locs cells slots Q (F0 m pc ls st0) := by
  intro T hT X
  rcases hr T hT X with ⟨v, st₀, t, T', L, h0, X', hL, e1, e2, ⟨⟨r, u, hv, hp, hb⟩, hF⟩, st⟩ | ⟨q, st₀, t, T', L, E, ce, h0, X', hL, e1, e2, ⟨u, hp, hb, hF⟩, hce, hcv, hcl, st⟩
  · cases hv
    obtain ⟨k1, k2, k3⟩ := vx_keep h0 e1 hS hA hf hL hF
    obtain ⟨t2, a1, b1⟩ := kk r u t T'.heap (locs ++ L) e1.symm (by rw [← e2]; exact X'.warmed.alike) hp hb k1 k2 k3 T' rfl X'
    exact ⟨t2, st t2 a1, b1⟩
  · obtain ⟨k1, k2, k3⟩ := vx_keep h0 e1 hS hAX hf hL hF
    obtain ⟨t2, a1, b1⟩ := kx E ce q u t T'.heap (locs ++ L) e1.symm (by rw [← e2]; exact X'.warmed.alike) hp hb k1 k2 k3 (by rw [e1]; exact hce) hcv hcl T' rfl X'
    exact ⟨t2, st.trans a1, b1⟩
end QV
