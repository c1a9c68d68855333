/-! Further rows: rows of rows, lists' arrays, wide constants. -/
section QV
variable {p : Program} {l : Launch} {e : Env} {R : Room} {s : State} {m : MethodId} {args : Array Value} {below : List Frame} {meth : Method} {c : Code} {H : Heap} {locs : List Loc} {cells slots : Nat} {Q : State → Prop}
variable {cc : ByteArray} {pc nL : Nat} {ls : Array Slot} {rest : List Value} {own : String} {G : qG} {A : Nat → Prop} {S : qS} {r : Option Nat}
variable {index maxL d mc ms n ci mcQ msQ c1 s1 : Nat} {y : MethodName} {bytes : ByteArray} {As st0 : List Value} {Qc : Array Value → State → Outcome → State → Prop} {xp : String → qS → Prop}
theorem q_throwW {cls text : String} {names : List String} {ik is ic : Nat} (X : q_X p l s m args meth c cc own nL G A) (N : ∀ x ∈ c.exceptionTable.toList, False) (I : q_H G A s H locs S) (hls : ls.size = nL) (hcls : Bundle.fit cls = true) (hnames : ∀ n ∈ names, Bundle.fit n = true) (hk : Cond.classLink own ik cls ∈ bg) (hini : Cond.initialized cls ∈ bg) (hstr : (own, is, text) ∈ q_strs) (hg : ∀ w ∈ (vx_atS own ic cls names).filter goodWord, w ∈ bg) (hng : ∀ w ∈ (vx_atS own ic cls names).filter (fun w => !goodWord w), w ∈ q_casts.map (fun q => Cond.castable q.1 q.2) ++ q_decls.map Cond.declares) (hgood : ∀ w ∈ Cond.classLink own ik cls :: Cond.initialized cls :: vx_atS own ic cls names, vx_ot w = true)
    (d0 : decode cc pc = .ok (.new ik, 3)) (d3 : decode cc (pc + 3) = .ok (.dup, 1)) (d4 : decode cc (pc + 4) = .ok (.ldc_w is, 3)) (d6 : decode cc (pc + 7) = .ok (.invokespecial ic, 3)) (d9 : decode cc (pc + 10) = .ok (.athrow, 1)) (hRf : names.length + 3 < R.frames) (hRl : (rest.map fun v => v.category).sum + (13 * (names.length + 1) + 43) ≤ R.locals) (hf : cells + 1 ≤ R.cells ∧ slots + 6 ≤ R.slots) (hm : cells + 1 ≤ mcQ ∧ slots + 6 ≤ msQ) (h : xp cls S) : W p l e R s m args below meth c H locs cells slots (vx_MQ below Qc (q_XC G A xp) args s mcQ msQ A) (F0 m pc ls rest) := by
  have hts := X.2.2.2.1
  have hE := X.2.2.2.2.2.2.2.2
  obtain ⟨sa, hsa⟩ := hE.2.1.2.2.1 _ hstr
  have hat : ∀ w ∈ vx_atS own ic cls names, w.before args s = true := by
    refine vx_hat (fun w hw => hts w (hg w hw)) hng (fun w hw => ?_)
    rcases List.mem_append.mp hw with h | h
    · obtain ⟨q, hq, rfl⟩ := List.mem_map.mp h
      exact va_Nw.use rfl (hE.2.1.2.2.2.1 q hq)
    · obtain ⟨q, hq, rfl⟩ := List.mem_map.mp h
      exact va_Nw.use rfl (hE.2.1.2.2.2.2.2.2 q hq)
  refine vx_throwSW X.1 X.2.1 X.2.2.2.2.2.2.1 X.2.2.1 hcls hnames (hts _ hk) (hts _ hini) hsa hat hgood hE.2.2.1 hE.2.2.2.1 I.2.2 (by rw [X.2.2.2.2.1]; exact hls) d0 d3 d4 d6 d9 (fun x hx => (N x hx).elim) hRf hRl hf.1 hf.2 X.2.2.2.2.2.1 (fun t hvm hz hk => ?_) I.2.2.2.2 hm.1 hm.2
  refine ⟨S, trivial, ⟨h, I.1.kept (fun k q hq => hk q.1 ((I.1 k q hq).lt)), I.2.1⟩, Nat.le_trans I.2.2.1 hz, fun q h1 h2 => ?_⟩
  rw [hk q (Nat.lt_of_lt_of_le h1 I.2.2.1)]
  exact I.2.2.2.1 q h1 h2
theorem q_ldO22 {i : Int32} {K : Option Nat → Prop} (X : q_X p l s m args meth c cc own nL G A) (I : q_H G A s H locs S) (hdg : decode cc pc = .ok (.aaload, 1)) (h : w_ldO S r 22 i K) (kk : ∀ v, K v → W p l e R s m args below meth c H locs cells slots Q (F0 m (pc + 1) ls (va_rf v :: rest))) : W p l e R s m args below meth c H locs cells slots Q (F0 m pc ls (.int i :: va_rf r :: rest)) := by
  obtain ⟨a, rfl, ha, hka, hi, h⟩ := h
  obtain ⟨k0, h0, h1⟩ := q_at_a (G := G) (by decide) ha hka
  rw [q_arr_O (by decide)] at h1
  exact va_aldq (D := G.1) (C := "java/lang/Object") X.1 X.2.1 X.2.2.2.2.2.2.2.2.1 I.1 k0 3 h1 rfl hi hdg (kk _ h)
theorem q_ldO21 {i : Int32} {K : Option Nat → Prop} (X : q_X p l s m args meth c cc own nL G A) (I : q_H G A s H locs S) (hdg : decode cc pc = .ok (.aaload, 1)) (h : w_ldO S r 21 i K) (kk : ∀ v, K v → W p l e R s m args below meth c H locs cells slots Q (F0 m (pc + 1) ls (va_rf v :: rest))) : W p l e R s m args below meth c H locs cells slots Q (F0 m pc ls (.int i :: va_rf r :: rest)) := by
  obtain ⟨a, rfl, ha, hka, hi, h⟩ := h
  obtain ⟨k0, h0, h1⟩ := q_at_a (G := G) (by decide) ha hka
  rw [q_arr_O (by decide)] at h1
  have hlt : i.toNatClampNeg < qN S a := Nat.not_le.mp fun q => hi (Or.inr q)
  have hK := X.2.2.2.2.2.2.2.2.1
  exact W.aald (v := va_rf (qAO S 21 a i.toNatClampNeg)) (ty := .array .long) X.1 X.2.1 (I.1 k0 _ h1) ((hK.2 4 _ rfl).1 (qN S a) (fun j => va_rf (qAO S 21 a j))) rfl (fun q => by cases q) (by show ¬ (i < 0 ∨ (arrV _ _ _).slots.size ≤ _); rw [arrV_size]; exact hi) (by show (arrV _ _ _).slots[_]? = _; rw [arrV_read _ _ hlt]) rfl rfl hdg (kk _ h)
end QV
