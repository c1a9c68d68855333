/-! THE CLAIM OUT OF ONE WALK OF THE LAW'S BODY. Your part is whole_start (and what it stands on); all else here is the same for every law, but numbers. -/
def R_law : String := "GoodsKeeperLaw"
def lw_P (b : Addr) (xs : List Int32) (args : Array Value) (s : State) : Prop := args = #[.ref b] ∧ s.IntsAt b xs ∧ xs.length ≤ 4608 ∧ (Jvm.Cond.and given_1 narrow_1).before args s = true
def lw_Q (_ : Array Value) (s : State) (o : Outcome) (t : State) : Prop := o = .returned (some (.int 1)) ∧ Framed s o t [] 601024 7293034
def lw_Z (below : List Frame) (a : Array Value) (s : State) : State → Prop := fun t => ∃ o, t.status = .running ∧ Ended t below o ∧ lw_Q a s o t
/-- the law's own end, with 1 on the stack, nothing written that was there before, its room as the claim has it -/
theorem lw_ret {p : Program} {l : Launch} {e : Env} {s : State} {m : MethodId} {below : List Frame} {meth : Method} {c : Code} {b : Nat} (hx : p.tables.exec = Jvm.exec) (hb : c.code = code) (hr : meth.sig.returnType = ret) (hlocks : meth.locks = false) {pc : Nat} {H : Heap} {ls : Array Slot} (hdg : decode code pc = .ok (.ireturn, 1)) : W p l e room_1 s m #[Value.ref b] below meth c H [] 601024 7293034 (lw_Z below #[Value.ref b] s) (F0 m pc ls [.int 1]) := by
  intro T hT X
  obtain ⟨fs, hret, hrun, hended, hW, hframe⟩ := X.leave (v := some (.int 1)) (hlocks := hlocks) (fun h => by rw [hr] at h; cases h)
  have hmeth' : T.vm.method? m = some meth := X.method'
  refine ⟨T.setFrames fs, ?_, .returned (some (.int 1)), hrun, hended, rfl, ⟨_, rfl⟩, hW, hframe⟩
  jvm_step X.here [X.here.top, hx, hb, hdg, hmeth', hr, ret, narrow_b1]
  (try refine ⟨rfl, ?_⟩); (try refine ⟨rfl, ?_⟩)
  first | (intro acts; rw [hret _ acts rfl rfl rfl]) | rw [hret _ _ rfl rfl rfl]
  exact Steps.refl _
/-- what holds at the law's entry: the machine, the code, the tables' words (any of lw_tbl by 'hts w (by decide +kernel)'), the script of L ints xs at the cell b, what the Statement gives of the start (any of its parts by flat_of_before) -/
def lw_At (p : Program) (s : State) (m : MethodId) (meth : Method) (c : Code) (b L : Nat) (xs : Nat → Int32) : Prop :=
  p.tables.exec = Jvm.exec ∧ c.code = code ∧ meth.sig.returnType = ret ∧ c.maxLocals = 8 ∧ s.vm.findClass R_law = some m.cls ∧ (∀ w ∈ lw_tbl, w.before #[Value.ref b] s = true) ∧ va_X b L xs s s.heap ∧ b < s.heap.size ∧ meth.locks = false ∧ (Jvm.Cond.and given_1 narrow_1).before #[Value.ref b] s = true
theorem lw_over {L n : Nat} {x4 : Int32} (hL : L ≤ 4608) (h : L < 9 * n + 9) (hx : x4 = nI (9 * n)) (hn : n ≤ 512) : Int32.ofNat L - 9 < x4 := by
  rw [hx]
  show nI L - nI 9 < nI (9 * n)
  rw [Int32.lt_iff_toInt_lt, pk_sub_toInt (by omega) (by decide), nI_toInt (by omega)]
  omega
/-- what an invariant V of the calls must give: it holds behind the constructors, every case keeps it, and it may be counted on -/
def lw_V (V : Nat × Nat → Nat → Nat → Nat → Nat → qS → Prop) : Prop := ∀ g : Nat × Nat,
  (∀ S : qS, qL S = [] → w_new S 8 0 (fun q S => pX7_init q S g (fun S => w_new S 9 0 (fun q2 S => pX8_init q2 S (fun S => w_new S 29 1 (fun q3 S => V g 0 q q2 q3 S)))))) ∧
  (∀ n x1 x2 x3 S, V g n x1 x2 x3 S → V g (n + 1) x1 x2 x3 S) ∧
  (∀ (n x1 x2 x3 : Nat) (xs : Nat → Int32) (L : Nat) (S : qS), n < 512 → 9 * n + 9 ≤ L → L ≤ 4608 → V g n x1 x2 x3 S → pL_c0 xs L g x1 x2 x3 (fun x S => x = nI (9 * n) ∧ V g (n + 1) x1 x2 x3 S) (nI (9 * n)) S) ∧
  (∀ (n x1 x2 x3 : Nat) (xs : Nat → Int32) (L : Nat) (S : qS), n < 512 → 9 * n + 9 ≤ L → L ≤ 4608 → V g n x1 x2 x3 S → pL_c1 xs L g x1 x2 x3 (fun x S => x = nI (9 * n) ∧ V g (n + 1) x1 x2 x3 S) (nI (9 * n)) S) ∧
  (∀ (n x1 x2 x3 : Nat) (xs : Nat → Int32) (L : Nat) (S : qS), n < 512 → 9 * n + 9 ≤ L → L ≤ 4608 → V g n x1 x2 x3 S → pL_c2 xs L g x1 x2 x3 (fun x S => x = nI (9 * n) ∧ V g (n + 1) x1 x2 x3 S) (nI (9 * n)) S) ∧
  (∀ (n x1 x2 x3 : Nat) (xs : Nat → Int32) (L : Nat) (S : qS), n < 512 → 9 * n + 9 ≤ L → L ≤ 4608 → V g n x1 x2 x3 S → pL_c3 xs L g x1 x2 x3 (fun x S => x = nI (9 * n) ∧ V g (n + 1) x1 x2 x3 S) (nI (9 * n)) S) ∧
  (∀ (n x1 x2 x3 : Nat) (xs : Nat → Int32) (L : Nat) (S : qS), n < 512 → 9 * n + 9 ≤ L → L ≤ 4608 → V g n x1 x2 x3 S → pL_c4 xs L g x1 x2 x3 (fun x S => x = nI (9 * n) ∧ V g (n + 1) x1 x2 x3 S) (nI (9 * n)) S) ∧
  (∀ (n x1 x2 x3 : Nat) (xs : Nat → Int32) (L : Nat) (S : qS), n < 512 → 9 * n + 9 ≤ L → L ≤ 4608 → V g n x1 x2 x3 S → pL_c5 xs L g x1 x2 x3 (fun x S => x = nI (9 * n) ∧ V g (n + 1) x1 x2 x3 S) (nI (9 * n)) S) ∧
  (∀ (n x1 x2 x3 : Nat) (xs : Nat → Int32) (L : Nat) (S : qS), n < 512 → 9 * n + 9 ≤ L → L ≤ 4608 → V g n x1 x2 x3 S → pL_c6 xs L g x1 x2 x3 (fun x S => x = nI (9 * n) ∧ V g (n + 1) x1 x2 x3 S) (nI (9 * n)) S) ∧
  (∀ (n x1 x2 x3 : Nat) (xs : Nat → Int32) (L : Nat) (S : qS), n < 512 → 9 * n + 9 ≤ L → L ≤ 4608 → V g n x1 x2 x3 S → pL_c7 xs L g x1 x2 x3 (fun x S => x = nI (9 * n) ∧ V g (n + 1) x1 x2 x3 S) (nI (9 * n)) S) ∧
  (∀ (n x1 x2 x3 : Nat) (xs : Nat → Int32) (L : Nat) (S : qS), n < 512 → 9 * n + 9 ≤ L → L ≤ 4608 → V g n x1 x2 x3 S → pL_c8 xs L g x1 x2 x3 (fun x S => x = nI (9 * n) ∧ V g (n + 1) x1 x2 x3 S) (nI (9 * n)) S) ∧
  (∀ (n x1 x2 x3 : Nat) (xs : Nat → Int32) (L : Nat) (S : qS), n < 512 → 9 * n + 9 ≤ L → L ≤ 4608 → V g n x1 x2 x3 S → pL_c9 xs L g x1 x2 x3 (fun x S => x = nI (9 * n) ∧ V g (n + 1) x1 x2 x3 S) (nI (9 * n)) S) ∧
  (∀ (n x1 x2 x3 : Nat) (xs : Nat → Int32) (L : Nat) (S : qS), n < 512 → 9 * n + 9 ≤ L → L ≤ 4608 → V g n x1 x2 x3 S → pL_c10 xs L g x1 x2 x3 (fun x S => x = nI (9 * n) ∧ V g (n + 1) x1 x2 x3 S) (nI (9 * n)) S) ∧
  (∀ (n x1 x2 x3 : Nat) (xs : Nat → Int32) (L : Nat) (S : qS), n < 512 → 9 * n + 9 ≤ L → L ≤ 4608 → V g n x1 x2 x3 S → pL_c11 xs L g x1 x2 x3 (fun x S => x = nI (9 * n) ∧ V g (n + 1) x1 x2 x3 S) (nI (9 * n)) S) ∧
  (∀ (n x1 x2 x3 : Nat) (xs : Nat → Int32) (L : Nat) (S : qS), n < 512 → 9 * n + 9 ≤ L → L ≤ 4608 → V g n x1 x2 x3 S → pL_c12 xs L g x1 x2 x3 (fun x S => x = nI (9 * n) ∧ V g (n + 1) x1 x2 x3 S) (nI (9 * n)) S) ∧
  (∀ (n x1 x2 x3 : Nat) (xs : Nat → Int32) (L : Nat) (S : qS), n < 512 → 9 * n + 9 ≤ L → L ≤ 4608 → V g n x1 x2 x3 S → pL_c13 xs L g x1 x2 x3 (fun x S => x = nI (9 * n) ∧ V g (n + 1) x1 x2 x3 S) (nI (9 * n)) S) ∧
  (∀ (n x1 x2 x3 : Nat) (xs : Nat → Int32) (L : Nat) (S : qS), n < 512 → 9 * n + 9 ≤ L → L ≤ 4608 → V g n x1 x2 x3 S → pL_c14 xs L g x1 x2 x3 (fun x S => x = nI (9 * n) ∧ V g (n + 1) x1 x2 x3 S) (nI (9 * n)) S) ∧
  (∀ (n x1 x2 x3 : Nat) (xs : Nat → Int32) (L : Nat) (S : qS), n < 512 → 9 * n + 9 ≤ L → L ≤ 4608 → V g n x1 x2 x3 S → pL_c15 xs L g x1 x2 x3 (fun x S => x = nI (9 * n) ∧ V g (n + 1) x1 x2 x3 S) (nI (9 * n)) S) ∧
  (∀ (n x1 x2 x3 : Nat) (xs : Nat → Int32) (L : Nat) (S : qS), n < 512 → 9 * n + 9 ≤ L → L ≤ 4608 → V g n x1 x2 x3 S → pL_c16 xs L g x1 x2 x3 (fun x S => x = nI (9 * n) ∧ V g (n + 1) x1 x2 x3 S) (nI (9 * n)) S) ∧
  (∀ (n x1 x2 x3 : Nat) (xs : Nat → Int32) (L : Nat) (S : qS), n < 512 → 9 * n + 9 ≤ L → L ≤ 4608 → V g n x1 x2 x3 S → pL_c17 xs L g x1 x2 x3 (fun x S => x = nI (9 * n) ∧ V g (n + 1) x1 x2 x3 S) (nI (9 * n)) S) ∧
  (∀ (n x1 x2 x3 : Nat) (xs : Nat → Int32) (L : Nat) (S : qS), n < 512 → 9 * n + 9 ≤ L → L ≤ 4608 → V g n x1 x2 x3 S → pL_c18 xs L g x1 x2 x3 (fun x S => x = nI (9 * n) ∧ V g (n + 1) x1 x2 x3 S) (nI (9 * n)) S) ∧
  (∀ (n x1 x2 x3 : Nat) (xs : Nat → Int32) (L : Nat) (S : qS), n < 512 → 9 * n + 9 ≤ L → L ≤ 4608 → V g n x1 x2 x3 S → pL_c19 xs L g x1 x2 x3 (fun x S => x = nI (9 * n) ∧ V g (n + 1) x1 x2 x3 S) (nI (9 * n)) S) ∧
  (∀ (n x1 x2 x3 : Nat) (xs : Nat → Int32) (L : Nat) (S : qS), n < 512 → 9 * n + 9 ≤ L → L ≤ 4608 → V g n x1 x2 x3 S → pL_c20 xs L g x1 x2 x3 (fun x S => x = nI (9 * n) ∧ V g (n + 1) x1 x2 x3 S) (nI (9 * n)) S) ∧
  (∀ (n x1 x2 x3 : Nat) (xs : Nat → Int32) (L : Nat) (S : qS), n < 512 → 9 * n + 9 ≤ L → L ≤ 4608 → V g n x1 x2 x3 S → pL_c21 xs L g x1 x2 x3 (fun x S => x = nI (9 * n) ∧ V g (n + 1) x1 x2 x3 S) (nI (9 * n)) S) ∧
  (∀ (n x1 x2 x3 : Nat) (xs : Nat → Int32) (L : Nat) (S : qS), n < 512 → 9 * n + 9 ≤ L → L ≤ 4608 → V g n x1 x2 x3 S → pL_c22 xs L g x1 x2 x3 (fun x S => x = nI (9 * n) ∧ V g (n + 1) x1 x2 x3 S) (nI (9 * n)) S) ∧
  (∀ (n x1 x2 x3 : Nat) (xs : Nat → Int32) (L : Nat) (S : qS), n < 512 → 9 * n + 9 ≤ L → L ≤ 4608 → V g n x1 x2 x3 S → pL_c23 xs L g x1 x2 x3 (fun x S => x = nI (9 * n) ∧ V g (n + 1) x1 x2 x3 S) (nI (9 * n)) S)
set_option maxHeartbeats 4000000 in
set_option maxRecDepth 100000 in
theorem lw_loop {V : Nat × Nat → Nat → Nat → Nat → Nat → qS → Prop} (hV : lw_V V) {p : Program} {l : Launch} {e : Env} {s : State} {m : MethodId} {below : List Frame} {meth : Method} {c : Code} {G : qG} {b L : Nat} {xs : Nat → Int32} (hl0 : l.stackTraces = false) (hL : L ≤ 4608) (X : q_X p l s m #[Value.ref b] meth c cL_law RL 8 G (fun q => s.heap.size ≤ q)) (hr : meth.sig.returnType = ret) (hX : va_X b L xs s s.heap) (hbl : b < s.heap.size) :
    ∀ (k n : Nat) (x1 x2 x3 : Nat) (x4 : Int32) (S : qS) (H : Heap) (locs : List Loc) (ls : Array Slot), 512 ≤ n + k → n ≤ 512 → x4 = nI (9 * n) → V G.2.2 n x1 x2 x3 S → q_H G (fun q => s.heap.size ≤ q) s H locs S → lv_has ls 8 [(0, va_rf (some b)), (1, va_rf (some x1)), (2, va_rf (some x2)), (3, va_rf (some x3)), (4, .int x4)] → W p l e room_1 s m #[Value.ref b] below meth c H locs (100 + 12 * n) (5000 + 183 * n) (lw_Z below #[Value.ref b] s) (F0 m 23 ls []) := by
  have hbA : ¬ (fun q : Nat => s.heap.size ≤ q) b := Nat.not_le.mpr hbl
  obtain ⟨-, hup, h0, h1, h2, h3, h4, h5, h6, h7, h8, h9, h10, h11, h12, h13, h14, h15, h16, h17, h18, h19, h20, h21, h22, h23⟩ := hV G.2.2
  intro k
  induction k with
  | zero =>
    intro n x1 x2 x3 x4 S H locs ls hk hn ex4 hI I hl
    have hn5 : n = 512 := by omega
    refine lv_iload X.1 X.2.1 dL_law_23 (lv_at hl 4 rfl) ?_
    refine q_aload_n X dL_law_25 rfl (lv_at hl 0 rfl) ?_
    refine va_slen X.1 X.2.1 hX hbl hbA I.2.2 dL_law_26 ?_
    refine lv_bipush (v := 9) X.1 X.2.1 dL_law_27 (by decide) ?_
    refine lv_isub X.1 X.2.1 dL_law_29 ?_
    refine lv_icmp_gt (tgt := 1714) X.1 X.2.1 dL_law_30 (by decide) (fun c30 => ?_) (fun c30 => ?_)
    · refine lv_iconst (v := 1) X.1 X.2.1 dL_law_1714 (by decide) ?_
      refine va_forget (fun q hq => I.2.2.2.2 q hq) ?_
      refine W.widen (k := 601024) (n := 7293034) (by omega) (by omega) ?_
      exact lw_ret X.1 X.2.1 hr X.2.2.2.2.2.1 dL_law_1715
    · exact absurd (lw_over hL (by omega : L < 9 * n + 9) ex4 (by omega)) c30
  | succ k ih =>
    intro n x1 x2 x3 x4 S H locs ls hk hn ex4 hI I hl
    refine lv_iload X.1 X.2.1 dL_law_23 (lv_at hl 4 rfl) ?_
    refine q_aload_n X dL_law_25 rfl (lv_at hl 0 rfl) ?_
    refine va_slen X.1 X.2.1 hX hbl hbA I.2.2 dL_law_26 ?_
    refine lv_bipush (v := 9) X.1 X.2.1 dL_law_27 (by decide) ?_
    refine lv_isub X.1 X.2.1 dL_law_29 ?_
    refine lv_icmp_gt (tgt := 1714) X.1 X.2.1 dL_law_30 (by decide) (fun c30 => ?_) (fun c30 => ?_)
    · refine lv_iconst (v := 1) X.1 X.2.1 dL_law_1714 (by decide) ?_
      refine va_forget (fun q hq => I.2.2.2.2 q hq) ?_
      refine W.widen (k := 601024) (n := 7293034) (by omega) (by omega) ?_
      exact lw_ret X.1 X.2.1 hr X.2.2.2.2.2.1 dL_law_1715
    · have hlt : 9 * n + 9 ≤ L := by
        rcases Nat.lt_or_ge L (9 * n + 9) with q | q
        · exact absurd (lw_over hL q ex4 hn) c30
        · exact q
      have hn1 : n < 512 := by omega
      have hcs : (100 + 12 * n) + 12 ≤ 601024 ∧ (5000 + 183 * n) + 183 ≤ 7293034 := ⟨by omega, by omega⟩
      have hin : vp_in x4 L := by rw [ex4]; exact vp_in_nI (by omega) (by omega)
      have fin : ∀ (y4 : Int32) (S : qS) (H : Heap) (locs : List Loc) (ls : Array Slot), (y4 = nI (9 * n) ∧ V G.2.2 (n + 1) x1 x2 x3 S) → q_H G (fun q => s.heap.size ≤ q) s H locs S → lv_has ls 8 [(0, va_rf (some b)), (1, va_rf (some x1)), (2, va_rf (some x2)), (3, va_rf (some x3)), (4, .int y4)] → W p l e room_1 s m #[Value.ref b] below meth c H locs (100 + 12 * n + 12) (5000 + 183 * n + 183) (lw_Z below #[Value.ref b] s) (F0 m 1708 ls []) := by
        intro y4 S H locs ls hI I hl
        refine lv_iinc (v := y4 + 9) (lv' := [(4, .int (y4 + 9)), (0, va_rf (some b)), (1, va_rf (some x1)), (2, va_rf (some x2)), (3, va_rf (some x3))]) (k := 4) X.1 X.2.1 dL_law_1708 hl rfl rfl (by decide) rfl (fun ls hl => ?_)
        refine lv_goto (tgt := 23) X.1 X.2.1 dL_law_1711 (by decide) ?_
        refine W.widen (k := 100 + 12 * (n + 1)) (n := 5000 + 183 * (n + 1)) (by omega) (by omega) ?_
        exact ih (n + 1) x1 x2 x3 _ S H locs ls (by omega) (by omega) (by rw [hI.1]; exact nI_add (9 * n) 9) hI.2 I (lv_sub hl [1, 2, 3, 4, 0] rfl)
      refine q_aload_n X dL_law_33 rfl (lv_at hl 0 rfl) ?_
      refine lv_iload X.1 X.2.1 dL_law_34 (lv_at hl 4 rfl) ?_
      refine va_sld X.1 X.2.1 hX hbl hbA I.2.2 hin dL_law_36 ?_
      refine lv_bipush (v := 31) X.1 X.2.1 dL_law_37 (by decide) ?_
      refine lv_iand X.1 X.2.1 dL_law_39 ?_
      generalize (xs x4.toNatClampNeg &&& 31) = op
      by_cases o0 : op = 0
      · refine lv_tableIn (tgt := 152) X.1 X.2.1 dL_law_40 (by rw [o0]; decide) (by rw [o0]; decide) (by rw [o0]; rfl) (by decide) ?_
        exact kL_c0 hl0 rfl X hX hbl hbA hcs I hl (by rw [ex4]; exact h0 n x1 x2 x3 xs L S hn1 hlt hL hI) fin
      by_cases o1 : op = 1
      · refine lv_tableIn (tgt := 196) X.1 X.2.1 dL_law_40 (by rw [o1]; decide) (by rw [o1]; decide) (by rw [o1]; rfl) (by decide) ?_
        exact kL_c1 hl0 rfl X hX hbl hbA hcs I hl (by rw [ex4]; exact h1 n x1 x2 x3 xs L S hn1 hlt hL hI) fin
      by_cases o2 : op = 2
      · refine lv_tableIn (tgt := 268) X.1 X.2.1 dL_law_40 (by rw [o2]; decide) (by rw [o2]; decide) (by rw [o2]; rfl) (by decide) ?_
        exact kL_c2 hl0 rfl X hX hbl hbA hcs I hl (by rw [ex4]; exact h2 n x1 x2 x3 xs L S hn1 hlt hL hI) fin
      by_cases o3 : op = 3
      · refine lv_tableIn (tgt := 356) X.1 X.2.1 dL_law_40 (by rw [o3]; decide) (by rw [o3]; decide) (by rw [o3]; rfl) (by decide) ?_
        exact kL_c3 hl0 rfl X hX hbl hbA hcs I hl (by rw [ex4]; exact h3 n x1 x2 x3 xs L S hn1 hlt hL hI) fin
      by_cases o4 : op = 4
      · refine lv_tableIn (tgt := 448) X.1 X.2.1 dL_law_40 (by rw [o4]; decide) (by rw [o4]; decide) (by rw [o4]; rfl) (by decide) ?_
        exact kL_c4 hl0 rfl X hX hbl hbA hcs I hl (by rw [ex4]; exact h4 n x1 x2 x3 xs L S hn1 hlt hL hI) fin
      by_cases o5 : op = 5
      · refine lv_tableIn (tgt := 516) X.1 X.2.1 dL_law_40 (by rw [o5]; decide) (by rw [o5]; decide) (by rw [o5]; rfl) (by decide) ?_
        exact kL_c5 hl0 rfl X hX hbl hbA hcs I hl (by rw [ex4]; exact h5 n x1 x2 x3 xs L S hn1 hlt hL hI) fin
      by_cases o6 : op = 6
      · refine lv_tableIn (tgt := 599) X.1 X.2.1 dL_law_40 (by rw [o6]; decide) (by rw [o6]; decide) (by rw [o6]; rfl) (by decide) ?_
        exact kL_c6 hl0 rfl X hX hbl hbA hcs I hl (by rw [ex4]; exact h6 n x1 x2 x3 xs L S hn1 hlt hL hI) fin
      by_cases o7 : op = 7
      · refine lv_tableIn (tgt := 695) X.1 X.2.1 dL_law_40 (by rw [o7]; decide) (by rw [o7]; decide) (by rw [o7]; rfl) (by decide) ?_
        exact kL_c7 hl0 rfl X hX hbl hbA hcs I hl (by rw [ex4]; exact h7 n x1 x2 x3 xs L S hn1 hlt hL hI) fin
      by_cases o8 : op = 8
      · refine lv_tableIn (tgt := 770) X.1 X.2.1 dL_law_40 (by rw [o8]; decide) (by rw [o8]; decide) (by rw [o8]; rfl) (by decide) ?_
        exact kL_c8 hl0 rfl X hX hbl hbA hcs I hl (by rw [ex4]; exact h8 n x1 x2 x3 xs L S hn1 hlt hL hI) fin
      by_cases o9 : op = 9
      · refine lv_tableIn (tgt := 833) X.1 X.2.1 dL_law_40 (by rw [o9]; decide) (by rw [o9]; decide) (by rw [o9]; rfl) (by decide) ?_
        exact kL_c9 hl0 rfl X hX hbl hbA hcs I hl (by rw [ex4]; exact h9 n x1 x2 x3 xs L S hn1 hlt hL hI) fin
      by_cases o10 : op = 10
      · refine lv_tableIn (tgt := 908) X.1 X.2.1 dL_law_40 (by rw [o10]; decide) (by rw [o10]; decide) (by rw [o10]; rfl) (by decide) ?_
        exact kL_c10 hl0 rfl X hX hbl hbA hcs I hl (by rw [ex4]; exact h10 n x1 x2 x3 xs L S hn1 hlt hL hI) fin
      by_cases o11 : op = 11
      · refine lv_tableIn (tgt := 995) X.1 X.2.1 dL_law_40 (by rw [o11]; decide) (by rw [o11]; decide) (by rw [o11]; rfl) (by decide) ?_
        exact kL_c11 hl0 rfl X hX hbl hbA hcs I hl (by rw [ex4]; exact h11 n x1 x2 x3 xs L S hn1 hlt hL hI) fin
      by_cases o12 : op = 12
      · refine lv_tableIn (tgt := 1063) X.1 X.2.1 dL_law_40 (by rw [o12]; decide) (by rw [o12]; decide) (by rw [o12]; rfl) (by decide) ?_
        exact kL_c12 hl0 rfl X hX hbl hbA hcs I hl (by rw [ex4]; exact h12 n x1 x2 x3 xs L S hn1 hlt hL hI) fin
      by_cases o13 : op = 13
      · refine lv_tableIn (tgt := 1119) X.1 X.2.1 dL_law_40 (by rw [o13]; decide) (by rw [o13]; decide) (by rw [o13]; rfl) (by decide) ?_
        exact kL_c13 hl0 rfl X hX hbl hbA hcs I hl (by rw [ex4]; exact h13 n x1 x2 x3 xs L S hn1 hlt hL hI) fin
      by_cases o14 : op = 14
      · refine lv_tableIn (tgt := 1187) X.1 X.2.1 dL_law_40 (by rw [o14]; decide) (by rw [o14]; decide) (by rw [o14]; rfl) (by decide) ?_
        exact kL_c14 hl0 rfl X hX hbl hbA hcs I hl (by rw [ex4]; exact h14 n x1 x2 x3 xs L S hn1 hlt hL hI) fin
      by_cases o15 : op = 15
      · refine lv_tableIn (tgt := 1283) X.1 X.2.1 dL_law_40 (by rw [o15]; decide) (by rw [o15]; decide) (by rw [o15]; rfl) (by decide) ?_
        exact kL_c15 hl0 rfl X hX hbl hbA hcs I hl (by rw [ex4]; exact h15 n x1 x2 x3 xs L S hn1 hlt hL hI) fin
      by_cases o16 : op = 16
      · refine lv_tableIn (tgt := 1429) X.1 X.2.1 dL_law_40 (by rw [o16]; decide) (by rw [o16]; decide) (by rw [o16]; rfl) (by decide) ?_
        exact kL_c16 hl0 rfl X hX hbl hbA hcs I hl (by rw [ex4]; exact h16 n x1 x2 x3 xs L S hn1 hlt hL hI) fin
      by_cases o17 : op = 17
      · refine lv_tableIn (tgt := 1485) X.1 X.2.1 dL_law_40 (by rw [o17]; decide) (by rw [o17]; decide) (by rw [o17]; rfl) (by decide) ?_
        exact kL_c17 hl0 rfl X hX hbl hbA hcs I hl (by rw [ex4]; exact h17 n x1 x2 x3 xs L S hn1 hlt hL hI) fin
      by_cases o18 : op = 18
      · refine lv_tableIn (tgt := 1548) X.1 X.2.1 dL_law_40 (by rw [o18]; decide) (by rw [o18]; decide) (by rw [o18]; rfl) (by decide) ?_
        exact kL_c18 hl0 rfl X hX hbl hbA hcs I hl (by rw [ex4]; exact h18 n x1 x2 x3 xs L S hn1 hlt hL hI) fin
      by_cases o19 : op = 19
      · refine lv_tableIn (tgt := 1561) X.1 X.2.1 dL_law_40 (by rw [o19]; decide) (by rw [o19]; decide) (by rw [o19]; rfl) (by decide) ?_
        exact kL_c19 hl0 rfl X hX hbl hbA hcs I hl (by rw [ex4]; exact h19 n x1 x2 x3 xs L S hn1 hlt hL hI) fin
      by_cases o20 : op = 20
      · refine lv_tableIn (tgt := 1609) X.1 X.2.1 dL_law_40 (by rw [o20]; decide) (by rw [o20]; decide) (by rw [o20]; rfl) (by decide) ?_
        exact kL_c20 hl0 rfl X hX hbl hbA hcs I hl (by rw [ex4]; exact h20 n x1 x2 x3 xs L S hn1 hlt hL hI) fin
      by_cases o21 : op = 21
      · refine lv_tableIn (tgt := 1622) X.1 X.2.1 dL_law_40 (by rw [o21]; decide) (by rw [o21]; decide) (by rw [o21]; rfl) (by decide) ?_
        exact kL_c21 hl0 rfl X hX hbl hbA hcs I hl (by rw [ex4]; exact h21 n x1 x2 x3 xs L S hn1 hlt hL hI) fin
      by_cases o22 : op = 22
      · refine lv_tableIn (tgt := 1670) X.1 X.2.1 dL_law_40 (by rw [o22]; decide) (by rw [o22]; decide) (by rw [o22]; rfl) (by decide) ?_
        exact kL_c22 hl0 rfl X hX hbl hbA hcs I hl (by rw [ex4]; exact h22 n x1 x2 x3 xs L S hn1 hlt hL hI) fin
      by_cases o23 : op = 23
      · refine lv_tableIn (tgt := 1683) X.1 X.2.1 dL_law_40 (by rw [o23]; decide) (by rw [o23]; decide) (by rw [o23]; rfl) (by decide) ?_
        exact kL_c23 hl0 rfl X hX hbl hbA hcs I hl (by rw [ex4]; exact h23 n x1 x2 x3 xs L S hn1 hlt hL hI) fin
      have co : op.toInt < 0 ∨ 23 < op.toInt := by
        have e0 := q_ne o0 (z := 0) (by decide)
        have e1 := q_ne o1 (z := 1) (by decide)
        have e2 := q_ne o2 (z := 2) (by decide)
        have e3 := q_ne o3 (z := 3) (by decide)
        have e4 := q_ne o4 (z := 4) (by decide)
        have e5 := q_ne o5 (z := 5) (by decide)
        have e6 := q_ne o6 (z := 6) (by decide)
        have e7 := q_ne o7 (z := 7) (by decide)
        have e8 := q_ne o8 (z := 8) (by decide)
        have e9 := q_ne o9 (z := 9) (by decide)
        have e10 := q_ne o10 (z := 10) (by decide)
        have e11 := q_ne o11 (z := 11) (by decide)
        have e12 := q_ne o12 (z := 12) (by decide)
        have e13 := q_ne o13 (z := 13) (by decide)
        have e14 := q_ne o14 (z := 14) (by decide)
        have e15 := q_ne o15 (z := 15) (by decide)
        have e16 := q_ne o16 (z := 16) (by decide)
        have e17 := q_ne o17 (z := 17) (by decide)
        have e18 := q_ne o18 (z := 18) (by decide)
        have e19 := q_ne o19 (z := 19) (by decide)
        have e20 := q_ne o20 (z := 20) (by decide)
        have e21 := q_ne o21 (z := 21) (by decide)
        have e22 := q_ne o22 (z := 22) (by decide)
        have e23 := q_ne o23 (z := 23) (by decide)
        omega
      refine lv_tableOut (tgt := 1708) X.1 X.2.1 dL_law_40 co (by decide) ?_
      refine W.widen (k := 100 + 12 * n + 12) (n := 5000 + 183 * n + 183) (by omega) (by omega) ?_
      exact fin x4 S H locs ls ⟨ex4, hup _ _ _ _ _ hI⟩ I hl
