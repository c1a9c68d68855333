def pX3_won (x0 : Nat) (x1 : Int32) (S : qS) (post : Int32 → qS → Prop) (xp : String → qS → Prop) : Prop :=
  w_getR S (some x0) 4 2 (fun v1 =>
  w_ldI S v1 12 x1 (fun v5 =>
  w_getR S (some x0) 4 1 (fun v7 =>
  w_ldI S v7 11 x1 (fun v11 =>
  post (v5 - v11) S))))
set_option maxHeartbeats 4000000 in
set_option maxRecDepth 100000 in
theorem kX3_won {l : Launch} (hl0 : l.stackTraces = false) {G : qG} {S : qS} {sz : Nat} {x0 : Nat} {x1 : Int32} {post : Int32 → qS → Prop} {xp : String → qS → Prop} (h : pX3_won x0 x1 S post xp) : q_M l yX3_won cX3_won 2 (some .int) 1 0 0 G S sz [va_rf (some x0), .int x1] (q_Qi G post) xp := by
  refine q_of (lv := [(0, va_rf (some x0)), (1, .int x1)]) hl0 (by decide) rfl (Nat.le_of_ble_eq_true rfl) (fun p e s m below meth c A ls X N hr hnm I hl => ?_)
  generalize ([va_rf (some x0), .int x1] : List Value).toArray = av at X ⊢
  unfold pX3_won at h
  refine q_aload_n X dX3_won_0 rfl (lv_at hl 0 rfl) ?_
  refine q_getR (ci := 4) (k := 2) X I rfl inb_TX3 wd_412 (by decide) qt_162 dX3_won_1 h (fun v1 h => ?_)
  refine lv_iload_n X.1 X.2.1 dX3_won_4 rfl (lv_at hl 1 rfl) ?_
  refine q_ldI X I (by decide) (by decide) dX3_won_5 h (fun v5 h => ?_)
  refine q_aload_n X dX3_won_6 rfl (lv_at hl 0 rfl) ?_
  refine q_getR (ci := 4) (k := 1) X I rfl inb_TX3 wd_409 (by decide) qt_161 dX3_won_7 h (fun v7 h => ?_)
  refine lv_iload_n X.1 X.2.1 dX3_won_10 rfl (lv_at hl 1 rfl) ?_
  refine q_ldI X I (by decide) (by decide) dX3_won_11 h (fun v11 h => ?_)
  refine lv_isub X.1 X.2.1 dX3_won_12 ?_
  exact q_iret X I hr dX3_won_13 h (by decide) (by decide)

def pX2_answerTo_L34  (post : Int32 → qS → Prop) (xp : String → qS → Prop) : Nat → Option Nat → Option Nat → Int32 → Int32 → qS → Prop
  | 0, _, _, _, _, _ => False
  | n34 + 1, x0, x1, x2, x3, S =>
  (((4 : Int32) ≤ x3 →
  post (0 : Int32) S) ∧ (¬ (4 : Int32) ≤ x3 →
  w_getR S x0 3 1 (fun v40 =>
  w_ldI S v40 10 x3 (fun v44 =>
  w_at S x1 4 (fun b47 => pX3_won b47 x3 S (fun v47 S =>
  (((v44 + (v47 * x2)) ≤ (1000000000 : Int32) →
  (pX2_answerTo_L34 post xp n34) x0 x1 x2 (x3 + 1) S) ∧ (¬ (v44 + (v47 * x2)) ≤ (1000000000 : Int32) →
  post (2 : Int32) S))) xp)))))
def pX2_answerTo_J32  (post : Int32 → qS → Prop) (xp : String → qS → Prop) (x0 : Option Nat) (x1 : Option Nat) (x2 : Int32) (S : qS) : Prop :=
  ∃ n34, pX2_answerTo_L34 post xp n34 x0 x1 x2 (0 : Int32) S
def pX2_answerTo_L2 (k32 : Option Nat → Option Nat → Int32 → qS → Prop) (post : Int32 → qS → Prop) (xp : String → qS → Prop) : Nat → Option Nat → Option Nat → Int32 → Int32 → qS → Prop
  | 0, _, _, _, _, _ => False
  | n2 + 1, x0, x1, x2, x3, S =>
  (((4 : Int32) ≤ x3 →
  k32 x0 x1 x2 S) ∧ (¬ (4 : Int32) ≤ x3 →
  w_getR S x0 3 1 (fun v8 =>
  w_ldI S v8 10 x3 (fun v12 =>
  w_getR S x1 4 1 (fun v14 =>
  w_ldI S v14 11 x3 (fun v18 =>
  (((v18 * x2) ≤ v12 →
  (pX2_answerTo_L2 k32 post xp n2) x0 x1 x2 (x3 + 1) S) ∧ (¬ (v18 * x2) ≤ v12 →
  post (1 : Int32) S))))))))
def pX2_answerTo (x0 : Nat) (x1 : Option Nat) (x2 : Int32) (S : qS) (post : Int32 → qS → Prop) (xp : String → qS → Prop) : Prop :=
  ∃ n2, pX2_answerTo_L2 (pX2_answerTo_J32 post xp) post xp n2 (some x0) x1 x2 (0 : Int32) S
set_option maxHeartbeats 4000000 in
set_option maxRecDepth 100000 in
theorem kX2_answerTo {l : Launch} (hl0 : l.stackTraces = false) {G : qG} {S : qS} {sz : Nat} {x0 : Nat} {x1 : Option Nat} {x2 : Int32} {post : Int32 → qS → Prop} {xp : String → qS → Prop} (h : pX2_answerTo x0 x1 x2 S post xp) : q_M l yX2_answerTo cX2_answerTo 4 (some .int) 2 0 0 G S sz [va_rf (some x0), va_rf x1, .int x2] (q_Qi G post) xp := by
  refine q_of (lv := [(0, va_rf (some x0)), (1, va_rf x1), (2, .int x2)]) hl0 (by decide) (by cases x1 <;> rfl) (by cases x1 <;> exact Nat.le_of_ble_eq_true rfl) (fun p e s m below meth c A ls X N hr hnm I hl => ?_)
  generalize ([va_rf (some x0), va_rf x1, .int x2] : List Value).toArray = av at X ⊢
  unfold pX2_answerTo at h
  refine lv_iconst (v := 0) X.1 X.2.1 dX2_answerTo_0 (by decide) ?_
  refine lv_istore_n (i := 3) (lv' := [(3, .int (0 : Int32)), (0, va_rf (some x0)), (1, va_rf x1), (2, .int x2)]) X.1 X.2.1 dX2_answerTo_1 rfl hl (by decide) rfl (fun ls hl => ?_)
  have jn32 : ∀ (x0 : Option Nat) (x1 : Option Nat) (x2 : Int32) (S : qS) (H : Heap) (locs : List Loc) (ls : Array Slot), pX2_answerTo_J32 post xp x0 x1 x2 S → q_H G A s H locs S → lv_has ls 4 [(0, va_rf x0), (1, va_rf x1), (2, .int x2)] → W p l e (q_rm 2 0 0) s m av below meth c H locs 0 0 (vx_MQ below (q_Qi G post A) (q_XC G A xp) av s 0 0 A) (F0 m 32 ls []) := by
    intro x0 x1 x2 S H locs ls h I hl
    unfold pX2_answerTo_J32 at h
    refine lv_iconst (v := 0) X.1 X.2.1 dX2_answerTo_32 (by decide) ?_
    refine lv_istore_n (i := 3) (lv' := [(3, .int (0 : Int32)), (0, va_rf x0), (1, va_rf x1), (2, .int x2)]) X.1 X.2.1 dX2_answerTo_33 rfl hl (by decide) rfl (fun ls hl => ?_)
    obtain ⟨n34, h⟩ := h
    have lp34 : ∀ (n34 : Nat) (x0 : Option Nat) (x1 : Option Nat) (x2 : Int32) (x3 : Int32) (S : qS) (H : Heap) (locs : List Loc) (ls : Array Slot), pX2_answerTo_L34 post xp n34 x0 x1 x2 x3 S → q_H G A s H locs S → lv_has ls 4 [(0, va_rf x0), (1, va_rf x1), (2, .int x2), (3, .int x3)] → W p l e (q_rm 2 0 0) s m av below meth c H locs 0 0 (vx_MQ below (q_Qi G post A) (q_XC G A xp) av s 0 0 A) (F0 m 34 ls []) := by
      intro n34
      induction n34 with
      | zero => intro x0 x1 x2 x3 S H locs ls h I hl; exact h.elim
      | succ n34 ih34 =>
        intro x0 x1 x2 x3 S H locs ls h I hl
        unfold pX2_answerTo_L34 at h
        refine lv_iload_n X.1 X.2.1 dX2_answerTo_34 rfl (lv_at hl 3 rfl) ?_
        refine lv_iconst (v := 4) X.1 X.2.1 dX2_answerTo_35 (by decide) ?_
        refine lv_icmp_ge (tgt := 66) X.1 X.2.1 dX2_answerTo_36 (by decide) (fun c36 => ?_) (fun c36 => ?_)
        · have h := h.1 c36
          refine lv_iconst (v := 0) X.1 X.2.1 dX2_answerTo_66 (by decide) ?_
          exact q_iret X I hr dX2_answerTo_67 h (by decide) (by decide)
        · have h := h.2 c36
          refine q_aload_n X dX2_answerTo_39 rfl (lv_at hl 0 rfl) ?_
          refine q_getR (ci := 3) (k := 1) X I rfl inb_TX2 wd_319 (by decide) qt_121 dX2_answerTo_40 h (fun v40 h => ?_)
          refine lv_iload_n X.1 X.2.1 dX2_answerTo_43 rfl (lv_at hl 3 rfl) ?_
          refine q_ldI X I (by decide) (by decide) dX2_answerTo_44 h (fun v44 h => ?_)
          refine q_aload_n X dX2_answerTo_45 rfl (lv_at hl 1 rfl) ?_
          refine lv_iload_n X.1 X.2.1 dX2_answerTo_46 rfl (lv_at hl 3 rfl) ?_
          refine q_cVi (As := [.int x3]) (rest := [.int v44]) (c1 := 0) (s1 := 0) (d := 1) (mc := 0) (ms := 0) X N I hl.1 mX3_won wd_492 dX2_answerTo_47 rfl h (fun b h => kX3_won hl0 h) rfl (Nat.le_of_ble_eq_true rfl) ⟨by decide, by decide⟩ ⟨by decide, by decide⟩ ⟨by decide, by decide⟩ rfl rfl (fun v47 S H locs I h => ?_)
          refine lv_iload_n X.1 X.2.1 dX2_answerTo_50 rfl (lv_at hl 2 rfl) ?_
          refine lv_imul X.1 X.2.1 dX2_answerTo_51 ?_
          refine lv_iadd X.1 X.2.1 dX2_answerTo_52 ?_
          refine lv_ldc X.1 X.2.1 X.2.2.1 (X.2.2.2.1 _ wd_493) dX2_answerTo_53 ?_
          refine lv_icmp_le (tgt := 60) X.1 X.2.1 dX2_answerTo_55 (by decide) (fun c55 => ?_) (fun c55 => ?_)
          · have h := h.1 c55
            refine lv_iinc (v := (x3 + 1)) (lv' := [(3, .int (x3 + 1)), (0, va_rf x0), (1, va_rf x1), (2, .int x2)]) (k := 3) X.1 X.2.1 dX2_answerTo_60 hl rfl rfl (by decide) rfl (fun ls hl => ?_)
            refine lv_goto (tgt := 34) X.1 X.2.1 dX2_answerTo_63 (by decide) ?_
            exact ih34 _ _ _ _ _ _ _ _ h I (lv_sub hl [1, 2, 3, 0] rfl)
          · have h := h.2 c55
            refine lv_iconst (v := 2) X.1 X.2.1 dX2_answerTo_58 (by decide) ?_
            exact q_iret X I hr dX2_answerTo_59 h (by decide) (by decide)
    exact lp34 n34 _ _ _ _ _ _ _ _ h I (lv_sub hl [1, 2, 3, 0] rfl)
  obtain ⟨n2, h⟩ := h
  have lp2 : ∀ (n2 : Nat) (x0 : Option Nat) (x1 : Option Nat) (x2 : Int32) (x3 : Int32) (S : qS) (H : Heap) (locs : List Loc) (ls : Array Slot), pX2_answerTo_L2 (pX2_answerTo_J32 post xp) post xp n2 x0 x1 x2 x3 S → q_H G A s H locs S → lv_has ls 4 [(0, va_rf x0), (1, va_rf x1), (2, .int x2), (3, .int x3)] → W p l e (q_rm 2 0 0) s m av below meth c H locs 0 0 (vx_MQ below (q_Qi G post A) (q_XC G A xp) av s 0 0 A) (F0 m 2 ls []) := by
    intro n2
    induction n2 with
    | zero => intro x0 x1 x2 x3 S H locs ls h I hl; exact h.elim
    | succ n2 ih2 =>
      intro x0 x1 x2 x3 S H locs ls h I hl
      unfold pX2_answerTo_L2 at h
      refine lv_iload_n X.1 X.2.1 dX2_answerTo_2 rfl (lv_at hl 3 rfl) ?_
      refine lv_iconst (v := 4) X.1 X.2.1 dX2_answerTo_3 (by decide) ?_
      refine lv_icmp_ge (tgt := 32) X.1 X.2.1 dX2_answerTo_4 (by decide) (fun c4 => ?_) (fun c4 => ?_)
      · have h := h.1 c4
        exact jn32 _ _ _ _ _ _ _ h I (lv_sub hl [0, 1, 2] rfl)
      · have h := h.2 c4
        refine q_aload_n X dX2_answerTo_7 rfl (lv_at hl 0 rfl) ?_
        refine q_getR (ci := 3) (k := 1) X I rfl inb_TX2 wd_319 (by decide) qt_121 dX2_answerTo_8 h (fun v8 h => ?_)
        refine lv_iload_n X.1 X.2.1 dX2_answerTo_11 rfl (lv_at hl 3 rfl) ?_
        refine q_ldI X I (by decide) (by decide) dX2_answerTo_12 h (fun v12 h => ?_)
        refine q_aload_n X dX2_answerTo_13 rfl (lv_at hl 1 rfl) ?_
        refine q_getR (ci := 4) (k := 1) X I rfl inb_TX3 wd_410 (by decide) qt_161 dX2_answerTo_14 h (fun v14 h => ?_)
        refine lv_iload_n X.1 X.2.1 dX2_answerTo_17 rfl (lv_at hl 3 rfl) ?_
        refine q_ldI X I (by decide) (by decide) dX2_answerTo_18 h (fun v18 h => ?_)
        refine lv_iload_n X.1 X.2.1 dX2_answerTo_19 rfl (lv_at hl 2 rfl) ?_
        refine lv_imul X.1 X.2.1 dX2_answerTo_20 ?_
        refine lv_icmp_ge (tgt := 26) X.1 X.2.1 dX2_answerTo_21 (by decide) (fun c21 => ?_) (fun c21 => ?_)
        · have h := h.1 c21
          refine lv_iinc (v := (x3 + 1)) (lv' := [(3, .int (x3 + 1)), (0, va_rf x0), (1, va_rf x1), (2, .int x2)]) (k := 3) X.1 X.2.1 dX2_answerTo_26 hl rfl rfl (by decide) rfl (fun ls hl => ?_)
          refine lv_goto (tgt := 2) X.1 X.2.1 dX2_answerTo_29 (by decide) ?_
          exact ih2 _ _ _ _ _ _ _ _ h I (lv_sub hl [1, 2, 3, 0] rfl)
        · have h := h.2 c21
          refine lv_iconst (v := 1) X.1 X.2.1 dX2_answerTo_24 (by decide) ?_
          exact q_iret X I hr dX2_answerTo_25 h (by decide) (by decide)
  exact lp2 n2 _ _ _ _ _ _ _ _ h I (lv_sub hl [1, 2, 3, 0] rfl)

def pX4_hasTooFew_J24  (post : Int32 → qS → Prop) (xp : String → qS → Prop) (t0 : Int32) (S : qS) : Prop :=
  ((t0 = 0 ∨ t0 = 1) ∧ post t0 S)
def pX4_hasTooFew (x0 : Nat) (S : qS) (post : Int32 → qS → Prop) (xp : String → qS → Prop) : Prop :=
  w_getR S (some x0) 5 0 (fun v1 =>
  w_getR S v1 3 1 (fun v4 =>
  w_getI S (some x0) 5 2 (fun v8 =>
  w_ldI S v4 10 v8 (fun v11 =>
  w_getI S (some x0) 5 1 (fun v13 =>
  ((v13 ≤ v11 →
  pX4_hasTooFew_J24 post xp (0 : Int32) S) ∧ (¬ v13 ≤ v11 →
  pX4_hasTooFew_J24 post xp (1 : Int32) S)))))))
set_option maxHeartbeats 4000000 in
set_option maxRecDepth 100000 in
theorem kX4_hasTooFew {l : Launch} (hl0 : l.stackTraces = false) {G : qG} {S : qS} {sz : Nat} {x0 : Nat} {post : Int32 → qS → Prop} {xp : String → qS → Prop} (h : pX4_hasTooFew x0 S post xp) : q_M l yX4_hasTooFew cX4_hasTooFew 1 (some .boolean) 1 0 0 G S sz [va_rf (some x0)] (q_Qi G post) xp := by
  refine q_of (lv := [(0, va_rf (some x0))]) hl0 (by decide) rfl (Nat.le_of_ble_eq_true rfl) (fun p e s m below meth c A ls X N hr hnm I hl => ?_)
  generalize ([va_rf (some x0)] : List Value).toArray = av at X ⊢
  unfold pX4_hasTooFew at h
  refine q_aload_n X dX4_hasTooFew_0 rfl (lv_at hl 0 rfl) ?_
  refine q_getR (ci := 5) (k := 0) X I rfl inb_TX4 wd_733 (by decide) qt_200 dX4_hasTooFew_1 h (fun v1 h => ?_)
  refine q_getR (ci := 3) (k := 1) X I rfl inb_TX2 wd_320 (by decide) qt_121 dX4_hasTooFew_4 h (fun v4 h => ?_)
  refine q_aload_n X dX4_hasTooFew_7 rfl (lv_at hl 0 rfl) ?_
  refine q_getI (ci := 5) (k := 2) X I rfl inb_TX4 wd_737 (by decide) qt_202 dX4_hasTooFew_8 h (fun v8 h => ?_)
  refine q_ldI X I (by decide) (by decide) dX4_hasTooFew_11 h (fun v11 h => ?_)
  refine q_aload_n X dX4_hasTooFew_12 rfl (lv_at hl 0 rfl) ?_
  refine q_getI (ci := 5) (k := 1) X I rfl inb_TX4 wd_735 (by decide) qt_201 dX4_hasTooFew_13 h (fun v13 h => ?_)
  have jn24 : ∀ (t0 : Int32) (S : qS) (H : Heap) (locs : List Loc) (ls : Array Slot), pX4_hasTooFew_J24 post xp t0 S → q_H G A s H locs S → lv_has ls 1 [] → W p l e (q_rm 1 0 0) s m av below meth c H locs 0 0 (vx_MQ below (q_Qi G post A) (q_XC G A xp) av s 0 0 A) (F0 m 24 ls [.int t0]) := by
    intro t0 S H locs ls h I hl
    unfold pX4_hasTooFew_J24 at h
    exact q_zret X I hr dX4_hasTooFew_24 h (by decide) (by decide)
  refine lv_icmp_ge (tgt := 23) X.1 X.2.1 dX4_hasTooFew_16 (by decide) (fun c16 => ?_) (fun c16 => ?_)
  · have h := h.1 c16
    refine lv_iconst (v := 0) X.1 X.2.1 dX4_hasTooFew_23 (by decide) ?_
    exact jn24 _ _ _ _ _ h I (lv_sub hl [] rfl)
  · have h := h.2 c16
    refine lv_iconst (v := 1) X.1 X.2.1 dX4_hasTooFew_19 (by decide) ?_
    refine lv_goto (tgt := 24) X.1 X.2.1 dX4_hasTooFew_20 (by decide) ?_
    exact jn24 _ _ _ _ _ h I (lv_sub hl [] rfl)

def pX4_wouldHaveTooMany_J49  (post : Int32 → qS → Prop) (xp : String → qS → Prop) (t0 : Int32) (S : qS) : Prop :=
  ((t0 = 0 ∨ t0 = 1) ∧ post t0 S)
def pX4_wouldHaveTooMany_J31  (post : Int32 → qS → Prop) (xp : String → qS → Prop) (x1 : Option Nat) (t0 : Int32) (t1 : Int32) (S : qS) : Prop :=
  w_getI S x1 5 1 (fun v35 =>
  ((((t0 - t1) + v35) ≤ (1000000000 : Int32) →
  pX4_wouldHaveTooMany_J49 post xp (0 : Int32) S) ∧ (¬ ((t0 - t1) + v35) ≤ (1000000000 : Int32) →
  pX4_wouldHaveTooMany_J49 post xp (1 : Int32) S)))
def pX4_wouldHaveTooMany (x0 : Nat) (x1 : Option Nat) (S : qS) (post : Int32 → qS → Prop) (xp : String → qS → Prop) : Prop :=
  w_getR S (some x0) 5 0 (fun v1 =>
  w_getR S v1 3 1 (fun v4 =>
  w_getI S x1 5 2 (fun v8 =>
  w_ldI S v4 10 v8 (fun v11 =>
  w_getI S (some x0) 5 2 (fun v13 =>
  w_getI S x1 5 2 (fun v17 =>
  ((¬ v13 = v17 →
  pX4_wouldHaveTooMany_J31 post xp x1 v11 (0 : Int32) S) ∧ (v13 = v17 →
  w_getI S (some x0) 5 1 (fun v24 =>
  pX4_wouldHaveTooMany_J31 post xp x1 v11 v24 S)))))))))
set_option maxHeartbeats 4000000 in
set_option maxRecDepth 100000 in
theorem kX4_wouldHaveTooMany {l : Launch} (hl0 : l.stackTraces = false) {G : qG} {S : qS} {sz : Nat} {x0 : Nat} {x1 : Option Nat} {post : Int32 → qS → Prop} {xp : String → qS → Prop} (h : pX4_wouldHaveTooMany x0 x1 S post xp) : q_M l yX4_wouldHaveTooMany cX4_wouldHaveTooMany 3 (some .boolean) 1 0 0 G S sz [va_rf (some x0), va_rf x1] (q_Qi G post) xp := by
  refine q_of (lv := [(0, va_rf (some x0)), (1, va_rf x1)]) hl0 (by decide) (by cases x1 <;> rfl) (by cases x1 <;> exact Nat.le_of_ble_eq_true rfl) (fun p e s m below meth c A ls X N hr hnm I hl => ?_)
  generalize ([va_rf (some x0), va_rf x1] : List Value).toArray = av at X ⊢
  unfold pX4_wouldHaveTooMany at h
  refine q_aload_n X dX4_wouldHaveTooMany_0 rfl (lv_at hl 0 rfl) ?_
  refine q_getR (ci := 5) (k := 0) X I rfl inb_TX4 wd_733 (by decide) qt_200 dX4_wouldHaveTooMany_1 h (fun v1 h => ?_)
  refine q_getR (ci := 3) (k := 1) X I rfl inb_TX2 wd_320 (by decide) qt_121 dX4_wouldHaveTooMany_4 h (fun v4 h => ?_)
  refine q_aload_n X dX4_wouldHaveTooMany_7 rfl (lv_at hl 1 rfl) ?_
  refine q_getI (ci := 5) (k := 2) X I rfl inb_TX4 wd_737 (by decide) qt_202 dX4_wouldHaveTooMany_8 h (fun v8 h => ?_)
  refine q_ldI X I (by decide) (by decide) dX4_wouldHaveTooMany_11 h (fun v11 h => ?_)
  refine q_aload_n X dX4_wouldHaveTooMany_12 rfl (lv_at hl 0 rfl) ?_
  refine q_getI (ci := 5) (k := 2) X I rfl inb_TX4 wd_737 (by decide) qt_202 dX4_wouldHaveTooMany_13 h (fun v13 h => ?_)
  refine q_aload_n X dX4_wouldHaveTooMany_16 rfl (lv_at hl 1 rfl) ?_
  refine q_getI (ci := 5) (k := 2) X I rfl inb_TX4 wd_737 (by decide) qt_202 dX4_wouldHaveTooMany_17 h (fun v17 h => ?_)
  have jn31 : ∀ (x1 : Option Nat) (t0 : Int32) (t1 : Int32) (S : qS) (H : Heap) (locs : List Loc) (ls : Array Slot), pX4_wouldHaveTooMany_J31 post xp x1 t0 t1 S → q_H G A s H locs S → lv_has ls 3 [(1, va_rf x1)] → W p l e (q_rm 1 0 0) s m av below meth c H locs 0 0 (vx_MQ below (q_Qi G post A) (q_XC G A xp) av s 0 0 A) (F0 m 31 ls [.int t1, .int t0]) := by
    intro x1 t0 t1 S H locs ls h I hl
    unfold pX4_wouldHaveTooMany_J31 at h
    refine lv_isub X.1 X.2.1 dX4_wouldHaveTooMany_31 ?_
    refine lv_istore_n (i := 2) (lv' := [(2, .int (t0 - t1)), (1, va_rf x1)]) X.1 X.2.1 dX4_wouldHaveTooMany_32 rfl hl (by decide) (by simp [q_cat, q_catI, q_catJ]) (fun ls hl => ?_)
    refine lv_iload_n X.1 X.2.1 dX4_wouldHaveTooMany_33 rfl (lv_at hl 0 rfl) ?_
    refine q_aload_n X dX4_wouldHaveTooMany_34 rfl (lv_at hl 1 rfl) ?_
    refine q_getI (ci := 5) (k := 1) X I rfl inb_TX4 wd_735 (by decide) qt_201 dX4_wouldHaveTooMany_35 h (fun v35 h => ?_)
    refine lv_iadd X.1 X.2.1 dX4_wouldHaveTooMany_38 ?_
    refine lv_ldc X.1 X.2.1 X.2.2.1 (X.2.2.2.1 _ wd_798) dX4_wouldHaveTooMany_39 ?_
    have jn49 : ∀ (t0 : Int32) (S : qS) (H : Heap) (locs : List Loc) (ls : Array Slot), pX4_wouldHaveTooMany_J49 post xp t0 S → q_H G A s H locs S → lv_has ls 3 [] → W p l e (q_rm 1 0 0) s m av below meth c H locs 0 0 (vx_MQ below (q_Qi G post A) (q_XC G A xp) av s 0 0 A) (F0 m 49 ls [.int t0]) := by
      intro t0 S H locs ls h I hl
      unfold pX4_wouldHaveTooMany_J49 at h
      exact q_zret X I hr dX4_wouldHaveTooMany_49 h (by decide) (by decide)
    refine lv_icmp_le (tgt := 48) X.1 X.2.1 dX4_wouldHaveTooMany_41 (by decide) (fun c41 => ?_) (fun c41 => ?_)
    · have h := h.1 c41
      refine lv_iconst (v := 0) X.1 X.2.1 dX4_wouldHaveTooMany_48 (by decide) ?_
      exact jn49 _ _ _ _ _ h I (lv_sub hl [] rfl)
    · have h := h.2 c41
      refine lv_iconst (v := 1) X.1 X.2.1 dX4_wouldHaveTooMany_44 (by decide) ?_
      refine lv_goto (tgt := 49) X.1 X.2.1 dX4_wouldHaveTooMany_45 (by decide) ?_
      exact jn49 _ _ _ _ _ h I (lv_sub hl [] rfl)
  refine lv_icmp_ne (tgt := 30) X.1 X.2.1 dX4_wouldHaveTooMany_20 (by decide) (fun c20 => ?_) (fun c20 => ?_)
  · have h := h.1 c20
    refine lv_iconst (v := 0) X.1 X.2.1 dX4_wouldHaveTooMany_30 (by decide) ?_
    exact jn31 _ _ _ _ _ _ _ h I (lv_sub hl [1] rfl)
  · have h := h.2 c20
    refine q_aload_n X dX4_wouldHaveTooMany_23 rfl (lv_at hl 0 rfl) ?_
    refine q_getI (ci := 5) (k := 1) X I rfl inb_TX4 wd_735 (by decide) qt_201 dX4_wouldHaveTooMany_24 h (fun v24 h => ?_)
    refine lv_goto (tgt := 31) X.1 X.2.1 dX4_wouldHaveTooMany_27 (by decide) ?_
    exact jn31 _ _ _ _ _ _ _ h I (lv_sub hl [1] rfl)

def pX4_isWornSince_J26  (post : Int32 → qS → Prop) (xp : String → qS → Prop) (t0 : Int32) (S : qS) : Prop :=
  ((t0 = 0 ∨ t0 = 1) ∧ post t0 S)
def pX4_isWornSince_J25  (post : Int32 → qS → Prop) (xp : String → qS → Prop)  (S : qS) : Prop :=
  pX4_isWornSince_J26 post xp (0 : Int32) S
def pX4_isWornSince (x0 : Nat) (S : qS) (post : Int32 → qS → Prop) (xp : String → qS → Prop) : Prop :=
  w_getR S (some x0) 5 3 (fun v1 =>
  ((v1 = none →
  pX4_isWornSince_J25 post xp S) ∧ (¬ v1 = none →
  w_getR S (some x0) 5 3 (fun v8 =>
  w_getI S v8 6 6 (fun v11 =>
  w_getI S (some x0) 5 4 (fun v15 =>
  ((v11 = v15 →
  pX4_isWornSince_J25 post xp S) ∧ (¬ v11 = v15 →
  pX4_isWornSince_J26 post xp (1 : Int32) S))))))))
set_option maxHeartbeats 4000000 in
set_option maxRecDepth 100000 in
theorem kX4_isWornSince {l : Launch} (hl0 : l.stackTraces = false) {G : qG} {S : qS} {sz : Nat} {x0 : Nat} {post : Int32 → qS → Prop} {xp : String → qS → Prop} (h : pX4_isWornSince x0 S post xp) : q_M l yX4_isWornSince cX4_isWornSince 1 (some .boolean) 1 0 0 G S sz [va_rf (some x0)] (q_Qi G post) xp := by
  refine q_of (lv := [(0, va_rf (some x0))]) hl0 (by decide) rfl (Nat.le_of_ble_eq_true rfl) (fun p e s m below meth c A ls X N hr hnm I hl => ?_)
  generalize ([va_rf (some x0)] : List Value).toArray = av at X ⊢
  unfold pX4_isWornSince at h
  refine q_aload_n X dX4_isWornSince_0 rfl (lv_at hl 0 rfl) ?_
  refine q_getR (ci := 5) (k := 3) X I rfl inb_TX4 wd_739 (by decide) qt_203 dX4_isWornSince_1 h (fun v1 h => ?_)
  have jn26 : ∀ (t0 : Int32) (S : qS) (H : Heap) (locs : List Loc) (ls : Array Slot), pX4_isWornSince_J26 post xp t0 S → q_H G A s H locs S → lv_has ls 1 [] → W p l e (q_rm 1 0 0) s m av below meth c H locs 0 0 (vx_MQ below (q_Qi G post A) (q_XC G A xp) av s 0 0 A) (F0 m 26 ls [.int t0]) := by
    intro t0 S H locs ls h I hl
    unfold pX4_isWornSince_J26 at h
    exact q_zret X I hr dX4_isWornSince_26 h (by decide) (by decide)
  have jn25 : ∀ (S : qS) (H : Heap) (locs : List Loc) (ls : Array Slot), pX4_isWornSince_J25 post xp S → q_H G A s H locs S → lv_has ls 1 [] → W p l e (q_rm 1 0 0) s m av below meth c H locs 0 0 (vx_MQ below (q_Qi G post A) (q_XC G A xp) av s 0 0 A) (F0 m 25 ls []) := by
    intro S H locs ls h I hl
    unfold pX4_isWornSince_J25 at h
    refine lv_iconst (v := 0) X.1 X.2.1 dX4_isWornSince_25 (by decide) ?_
    exact jn26 _ _ _ _ _ h I (lv_sub hl [] rfl)
  refine q_ifnull (tgt := 25) X dX4_isWornSince_4 (by decide) (fun c4 => ?_) (fun c4 => ?_)
  · have h := h.1 c4
    exact jn25 _ _ _ _ h I (lv_sub hl [] rfl)
  · have h := h.2 c4
    refine q_aload_n X dX4_isWornSince_7 rfl (lv_at hl 0 rfl) ?_
    refine q_getR (ci := 5) (k := 3) X I rfl inb_TX4 wd_739 (by decide) qt_203 dX4_isWornSince_8 h (fun v8 h => ?_)
    refine q_getI (ci := 6) (k := 6) X I rfl inb_TX5 wd_538 (by decide) qt_246 dX4_isWornSince_11 h (fun v11 h => ?_)
    refine q_aload_n X dX4_isWornSince_14 rfl (lv_at hl 0 rfl) ?_
    refine q_getI (ci := 5) (k := 4) X I rfl inb_TX4 wd_741 (by decide) qt_204 dX4_isWornSince_15 h (fun v15 h => ?_)
    refine lv_icmp_eq (tgt := 25) X.1 X.2.1 dX4_isWornSince_18 (by decide) (fun c18 => ?_) (fun c18 => ?_)
    · have h := h.1 c18
      exact jn25 _ _ _ _ h I (lv_sub hl [] rfl)
    · have h := h.2 c18
      refine lv_iconst (v := 1) X.1 X.2.1 dX4_isWornSince_21 (by decide) ?_
      refine lv_goto (tgt := 26) X.1 X.2.1 dX4_isWornSince_22 (by decide) ?_
      exact jn26 _ _ _ _ _ h I (lv_sub hl [] rfl)

def pX5_isBroken_J12  (post : Int32 → qS → Prop) (xp : String → qS → Prop) (t0 : Int32) (S : qS) : Prop :=
  ((t0 = 0 ∨ t0 = 1) ∧ post t0 S)
def pX5_isBroken (x0 : Nat) (S : qS) (post : Int32 → qS → Prop) (xp : String → qS → Prop) : Prop :=
  w_getR S (some x0) 6 9 (fun v1 =>
  ((¬ v1 = none →
  pX5_isBroken_J12 post xp (0 : Int32) S) ∧ (v1 = none →
  pX5_isBroken_J12 post xp (1 : Int32) S)))
set_option maxHeartbeats 4000000 in
set_option maxRecDepth 100000 in
theorem kX5_isBroken {l : Launch} (hl0 : l.stackTraces = false) {G : qG} {S : qS} {sz : Nat} {x0 : Nat} {post : Int32 → qS → Prop} {xp : String → qS → Prop} (h : pX5_isBroken x0 S post xp) : q_M l yX5_isBroken cX5_isBroken 1 (some .boolean) 1 0 0 G S sz [va_rf (some x0)] (q_Qi G post) xp := by
  refine q_of (lv := [(0, va_rf (some x0))]) hl0 (by decide) rfl (Nat.le_of_ble_eq_true rfl) (fun p e s m below meth c A ls X N hr hnm I hl => ?_)
  generalize ([va_rf (some x0)] : List Value).toArray = av at X ⊢
  unfold pX5_isBroken at h
  refine q_aload_n X dX5_isBroken_0 rfl (lv_at hl 0 rfl) ?_
  refine q_getR (ci := 6) (k := 9) X I rfl inb_TX5 wd_546 (by decide) qt_249 dX5_isBroken_1 h (fun v1 h => ?_)
  have jn12 : ∀ (t0 : Int32) (S : qS) (H : Heap) (locs : List Loc) (ls : Array Slot), pX5_isBroken_J12 post xp t0 S → q_H G A s H locs S → lv_has ls 1 [] → W p l e (q_rm 1 0 0) s m av below meth c H locs 0 0 (vx_MQ below (q_Qi G post A) (q_XC G A xp) av s 0 0 A) (F0 m 12 ls [.int t0]) := by
    intro t0 S H locs ls h I hl
    unfold pX5_isBroken_J12 at h
    exact q_zret X I hr dX5_isBroken_12 h (by decide) (by decide)
  refine q_ifnonnull (tgt := 11) X dX5_isBroken_4 (by decide) (fun c4 => ?_) (fun c4 => ?_)
  · have h := h.1 c4
    refine lv_iconst (v := 0) X.1 X.2.1 dX5_isBroken_11 (by decide) ?_
    exact jn12 _ _ _ _ _ h I (lv_sub hl [] rfl)
  · have h := h.2 c4
    refine lv_iconst (v := 1) X.1 X.2.1 dX5_isBroken_7 (by decide) ?_
    refine lv_goto (tgt := 12) X.1 X.2.1 dX5_isBroken_8 (by decide) ?_
    exact jn12 _ _ _ _ _ h I (lv_sub hl [] rfl)

def pX5_isLent_J12  (post : Int32 → qS → Prop) (xp : String → qS → Prop) (t0 : Int32) (S : qS) : Prop :=
  ((t0 = 0 ∨ t0 = 1) ∧ post t0 S)
def pX5_isLent (x0 : Nat) (S : qS) (post : Int32 → qS → Prop) (xp : String → qS → Prop) : Prop :=
  w_getR S (some x0) 6 8 (fun v1 =>
  ((v1 = none →
  pX5_isLent_J12 post xp (0 : Int32) S) ∧ (¬ v1 = none →
  pX5_isLent_J12 post xp (1 : Int32) S)))
set_option maxHeartbeats 4000000 in
set_option maxRecDepth 100000 in
theorem kX5_isLent {l : Launch} (hl0 : l.stackTraces = false) {G : qG} {S : qS} {sz : Nat} {x0 : Nat} {post : Int32 → qS → Prop} {xp : String → qS → Prop} (h : pX5_isLent x0 S post xp) : q_M l yX5_isLent cX5_isLent 1 (some .boolean) 1 0 0 G S sz [va_rf (some x0)] (q_Qi G post) xp := by
  refine q_of (lv := [(0, va_rf (some x0))]) hl0 (by decide) rfl (Nat.le_of_ble_eq_true rfl) (fun p e s m below meth c A ls X N hr hnm I hl => ?_)
  generalize ([va_rf (some x0)] : List Value).toArray = av at X ⊢
  unfold pX5_isLent at h
  refine q_aload_n X dX5_isLent_0 rfl (lv_at hl 0 rfl) ?_
  refine q_getR (ci := 6) (k := 8) X I rfl inb_TX5 wd_543 (by decide) qt_248 dX5_isLent_1 h (fun v1 h => ?_)
  have jn12 : ∀ (t0 : Int32) (S : qS) (H : Heap) (locs : List Loc) (ls : Array Slot), pX5_isLent_J12 post xp t0 S → q_H G A s H locs S → lv_has ls 1 [] → W p l e (q_rm 1 0 0) s m av below meth c H locs 0 0 (vx_MQ below (q_Qi G post A) (q_XC G A xp) av s 0 0 A) (F0 m 12 ls [.int t0]) := by
    intro t0 S H locs ls h I hl
    unfold pX5_isLent_J12 at h
    exact q_zret X I hr dX5_isLent_12 h (by decide) (by decide)
  refine q_ifnull (tgt := 11) X dX5_isLent_4 (by decide) (fun c4 => ?_) (fun c4 => ?_)
  · have h := h.1 c4
    refine lv_iconst (v := 0) X.1 X.2.1 dX5_isLent_11 (by decide) ?_
    exact jn12 _ _ _ _ _ h I (lv_sub hl [] rfl)
  · have h := h.2 c4
    refine lv_iconst (v := 1) X.1 X.2.1 dX5_isLent_7 (by decide) ?_
    refine lv_goto (tgt := 12) X.1 X.2.1 dX5_isLent_8 (by decide) ?_
    exact jn12 _ _ _ _ _ h I (lv_sub hl [] rfl)

def pX5_passTo_J37  (post : qS → Prop) (xp : String → qS → Prop) (x0 : Option Nat) (S : qS) : Prop :=
  w_getI S x0 6 5 (fun v39 =>
  w_putI S x0 6 5 (v39 + (1 : Int32)) (fun S =>
  post S))
def pX5_passTo (x0 : Nat) (x1 : Option Nat) (x2 : Int32) (S : qS) (post : qS → Prop) (xp : String → qS → Prop) : Prop :=
  w_putR S (some x0) 6 9 x1 (fun S =>
  w_getI S (some x0) 6 5 (fun v6 =>
  (((30 : Int32) ≤ v6 →
  pX5_passTo_J37 post xp (some x0) S) ∧ (¬ (30 : Int32) ≤ v6 →
  w_getR S (some x0) 6 3 (fun v15 =>
  w_getI S (some x0) 6 5 (fun v19 =>
  w_getI S x1 3 0 (fun v23 =>
  w_stI S v15 13 v19 v23 (fun S =>
  w_getR S (some x0) 6 4 (fun v28 =>
  w_getI S (some x0) 6 5 (fun v32 =>
  w_stI S v28 14 v32 x2 (fun S =>
  pX5_passTo_J37 post xp (some x0) S)))))))))))
set_option maxHeartbeats 4000000 in
set_option maxRecDepth 100000 in
theorem kX5_passTo {l : Launch} (hl0 : l.stackTraces = false) {G : qG} {S : qS} {sz : Nat} {x0 : Nat} {x1 : Option Nat} {x2 : Int32} {post : qS → Prop} {xp : String → qS → Prop} (h : pX5_passTo x0 x1 x2 S post xp) : q_M l yX5_passTo cX5_passTo 3 none 1 0 0 G S sz [va_rf (some x0), va_rf x1, .int x2] (q_Qv G post) xp := by
  refine q_of (lv := [(0, va_rf (some x0)), (1, va_rf x1), (2, .int x2)]) hl0 (by decide) (by cases x1 <;> rfl) (by cases x1 <;> exact Nat.le_of_ble_eq_true rfl) (fun p e s m below meth c A ls X N hr hnm I hl => ?_)
  generalize ([va_rf (some x0), va_rf x1, .int x2] : List Value).toArray = av at X ⊢
  unfold pX5_passTo at h
  refine q_aload_n X dX5_passTo_0 rfl (lv_at hl 0 rfl) ?_
  refine q_aload_n X dX5_passTo_1 rfl (lv_at hl 1 rfl) ?_
  refine q_putR (ci := 6) (k := 9) X I rfl inb_TX5 tyX5_ok nmX5 wd_546 (by decide) (Or.inl rfl) qt_249 (Or.inl ⟨_, rfl⟩) dX5_passTo_2 h (fun S H locs I h => ?_)
  refine q_aload_n X dX5_passTo_5 rfl (lv_at hl 0 rfl) ?_
  refine q_getI (ci := 6) (k := 5) X I rfl inb_TX5 wd_536 (by decide) qt_245 dX5_passTo_6 h (fun v6 h => ?_)
  refine lv_bipush (v := 30) X.1 X.2.1 dX5_passTo_9 (by decide) ?_
  have jn37 : ∀ (x0 : Option Nat) (S : qS) (H : Heap) (locs : List Loc) (ls : Array Slot), pX5_passTo_J37 post xp x0 S → q_H G A s H locs S → lv_has ls 3 [(0, va_rf x0)] → W p l e (q_rm 1 0 0) s m av below meth c H locs 0 0 (vx_MQ below (q_Qv G post A) (q_XC G A xp) av s 0 0 A) (F0 m 37 ls []) := by
    intro x0 S H locs ls h I hl
    unfold pX5_passTo_J37 at h
    refine q_aload_n X dX5_passTo_37 rfl (lv_at hl 0 rfl) ?_
    refine lv_dup X.1 X.2.1 dX5_passTo_38 (q_cat _) ?_
    refine q_getI (ci := 6) (k := 5) X I rfl inb_TX5 wd_536 (by decide) qt_245 dX5_passTo_39 h (fun v39 h => ?_)
    refine lv_iconst (v := 1) X.1 X.2.1 dX5_passTo_42 (by decide) ?_
    refine lv_iadd X.1 X.2.1 dX5_passTo_43 ?_
    refine q_putI (ci := 6) (k := 5) X I rfl inb_TX5 tyX5_ok nmX5 wd_536 (by decide) (Or.inl rfl) qt_245 rfl dX5_passTo_44 h (fun S H locs I h => ?_)
    exact q_vret X I hr dX5_passTo_47 h (by decide) (by decide)
  refine lv_icmp_ge (tgt := 37) X.1 X.2.1 dX5_passTo_11 (by decide) (fun c11 => ?_) (fun c11 => ?_)
  · have h := h.1 c11
    exact jn37 _ _ _ _ _ h I (lv_sub hl [0] rfl)
  · have h := h.2 c11
    refine q_aload_n X dX5_passTo_14 rfl (lv_at hl 0 rfl) ?_
    refine q_getR (ci := 6) (k := 3) X I rfl inb_TX5 wd_532 (by decide) qt_243 dX5_passTo_15 h (fun v15 h => ?_)
    refine q_aload_n X dX5_passTo_18 rfl (lv_at hl 0 rfl) ?_
    refine q_getI (ci := 6) (k := 5) X I rfl inb_TX5 wd_536 (by decide) qt_245 dX5_passTo_19 h (fun v19 h => ?_)
    refine q_aload_n X dX5_passTo_22 rfl (lv_at hl 1 rfl) ?_
    refine q_getI (ci := 3) (k := 0) X I rfl inb_TX2 wd_317 (by decide) qt_120 dX5_passTo_23 h (fun v23 h => ?_)
    refine q_stI X I (by decide) (by decide) dX5_passTo_26 h (fun S H locs I h => ?_)
    refine q_aload_n X dX5_passTo_27 rfl (lv_at hl 0 rfl) ?_
    refine q_getR (ci := 6) (k := 4) X I rfl inb_TX5 wd_534 (by decide) qt_244 dX5_passTo_28 h (fun v28 h => ?_)
    refine q_aload_n X dX5_passTo_31 rfl (lv_at hl 0 rfl) ?_
    refine q_getI (ci := 6) (k := 5) X I rfl inb_TX5 wd_536 (by decide) qt_245 dX5_passTo_32 h (fun v32 h => ?_)
    refine lv_iload_n X.1 X.2.1 dX5_passTo_35 rfl (lv_at hl 2 rfl) ?_
    refine q_stI X I (by decide) (by decide) dX5_passTo_36 h (fun S H locs I h => ?_)
    exact jn37 _ _ _ _ _ h I (lv_sub hl [0] rfl)

def pX5_endLoan (x0 : Nat) (S : qS) (post : qS → Prop) (xp : String → qS → Prop) : Prop :=
  w_putR S (some x0) 6 8 (none : Option Nat) (fun S =>
  w_putI S (some x0) 6 7 (-1 : Int32) (fun S =>
  post S))
set_option maxHeartbeats 4000000 in
set_option maxRecDepth 100000 in
theorem kX5_endLoan {l : Launch} (hl0 : l.stackTraces = false) {G : qG} {S : qS} {sz : Nat} {x0 : Nat} {post : qS → Prop} {xp : String → qS → Prop} (h : pX5_endLoan x0 S post xp) : q_M l yX5_endLoan cX5_endLoan 1 none 1 0 0 G S sz [va_rf (some x0)] (q_Qv G post) xp := by
  refine q_of (lv := [(0, va_rf (some x0))]) hl0 (by decide) rfl (Nat.le_of_ble_eq_true rfl) (fun p e s m below meth c A ls X N hr hnm I hl => ?_)
  generalize ([va_rf (some x0)] : List Value).toArray = av at X ⊢
  unfold pX5_endLoan at h
  refine q_aload_n X dX5_endLoan_0 rfl (lv_at hl 0 rfl) ?_
  refine lv_null X.1 X.2.1 dX5_endLoan_1 ?_
  refine W.eq (g2 := F0 m 2 ls [va_rf (none : Option Nat), va_rf (some x0)]) rfl ?_
  refine q_putR (ci := 6) (k := 8) X I rfl inb_TX5 tyX5_ok nmX5 wd_543 (by decide) (Or.inl rfl) qt_248 (Or.inl ⟨_, rfl⟩) dX5_endLoan_2 h (fun S H locs I h => ?_)
  refine q_aload_n X dX5_endLoan_5 rfl (lv_at hl 0 rfl) ?_
  refine lv_iconst (v := -1) X.1 X.2.1 dX5_endLoan_6 (by decide) ?_
  refine q_putI (ci := 6) (k := 7) X I rfl inb_TX5 tyX5_ok nmX5 wd_540 (by decide) (Or.inl rfl) qt_247 rfl dX5_endLoan_7 h (fun S H locs I h => ?_)
  exact q_vret X I hr dX5_endLoan_10 h (by decide) (by decide)

def pX5_liesWithin_L5  (post : Int32 → qS → Prop) (xp : String → qS → Prop) : Nat → Option Nat → Option Nat → qS → Prop
  | 0, _, _, _ => False
  | n5 + 1, x1, x2, S =>
  ((x2 = none →
  (((0 : Int32) = 0 ∨ (0 : Int32) = 1) ∧ post (0 : Int32) S)) ∧ (¬ x2 = none →
  ((¬ x2 = x1 →
  w_getR S x2 6 10 (fun v17 =>
  (pX5_liesWithin_L5 post xp n5) x1 v17 S)) ∧ (x2 = x1 →
  (((1 : Int32) = 0 ∨ (1 : Int32) = 1) ∧ post (1 : Int32) S)))))
def pX5_liesWithin (x0 : Nat) (x1 : Option Nat) (S : qS) (post : Int32 → qS → Prop) (xp : String → qS → Prop) : Prop :=
  w_getR S (some x0) 6 10 (fun v1 =>
  ∃ n5, pX5_liesWithin_L5 post xp n5 x1 v1 S)
set_option maxHeartbeats 4000000 in
set_option maxRecDepth 100000 in
theorem kX5_liesWithin {l : Launch} (hl0 : l.stackTraces = false) {G : qG} {S : qS} {sz : Nat} {x0 : Nat} {x1 : Option Nat} {post : Int32 → qS → Prop} {xp : String → qS → Prop} (h : pX5_liesWithin x0 x1 S post xp) : q_M l yX5_liesWithin cX5_liesWithin 3 (some .boolean) 1 0 0 G S sz [va_rf (some x0), va_rf x1] (q_Qi G post) xp := by
  refine q_of (lv := [(0, va_rf (some x0)), (1, va_rf x1)]) hl0 (by decide) (by cases x1 <;> rfl) (by cases x1 <;> exact Nat.le_of_ble_eq_true rfl) (fun p e s m below meth c A ls X N hr hnm I hl => ?_)
  generalize ([va_rf (some x0), va_rf x1] : List Value).toArray = av at X ⊢
  unfold pX5_liesWithin at h
  refine q_aload_n X dX5_liesWithin_0 rfl (lv_at hl 0 rfl) ?_
  refine q_getR (ci := 6) (k := 10) X I rfl inb_TX5 wd_550 (by decide) qt_250 dX5_liesWithin_1 h (fun v1 h => ?_)
  refine q_astore_n (i := 2) (lv' := [(2, va_rf v1), (0, va_rf (some x0)), (1, va_rf x1)]) X dX5_liesWithin_4 rfl hl (by decide) (by simp [q_cat, q_catI, q_catJ]) (fun ls hl => ?_)
  obtain ⟨n5, h⟩ := h
  have lp5 : ∀ (n5 : Nat) (x1 : Option Nat) (x2 : Option Nat) (S : qS) (H : Heap) (locs : List Loc) (ls : Array Slot), pX5_liesWithin_L5 post xp n5 x1 x2 S → q_H G A s H locs S → lv_has ls 3 [(1, va_rf x1), (2, va_rf x2)] → W p l e (q_rm 1 0 0) s m av below meth c H locs 0 0 (vx_MQ below (q_Qi G post A) (q_XC G A xp) av s 0 0 A) (F0 m 5 ls []) := by
    intro n5
    induction n5 with
    | zero => intro x1 x2 S H locs ls h I hl; exact h.elim
    | succ n5 ih5 =>
      intro x1 x2 S H locs ls h I hl
      unfold pX5_liesWithin_L5 at h
      refine q_aload_n X dX5_liesWithin_5 rfl (lv_at hl 1 rfl) ?_
      refine q_ifnull (tgt := 24) X dX5_liesWithin_6 (by decide) (fun c6 => ?_) (fun c6 => ?_)
      · have h := h.1 c6
        refine lv_iconst (v := 0) X.1 X.2.1 dX5_liesWithin_24 (by decide) ?_
        exact q_zret X I hr dX5_liesWithin_25 h (by decide) (by decide)
      · have h := h.2 c6
        refine q_aload_n X dX5_liesWithin_9 rfl (lv_at hl 1 rfl) ?_
        refine q_aload_n X dX5_liesWithin_10 rfl (lv_at hl 0 rfl) ?_
        refine lv_acmp_ne (tgt := 16) X.1 X.2.1 dX5_liesWithin_11 (by decide) (fun c11 => ?_) (fun c11 => ?_)
        · have h := h.1 c11
          refine q_aload_n X dX5_liesWithin_16 rfl (lv_at hl 1 rfl) ?_
          refine q_getR (ci := 6) (k := 10) X I rfl inb_TX5 wd_550 (by decide) qt_250 dX5_liesWithin_17 h (fun v17 h => ?_)
          refine q_astore_n (i := 2) (lv' := [(2, va_rf v17), (1, va_rf x1)]) X dX5_liesWithin_20 rfl hl (by decide) (by simp [q_cat, q_catI, q_catJ]) (fun ls hl => ?_)
          refine lv_goto (tgt := 5) X.1 X.2.1 dX5_liesWithin_21 (by decide) ?_
          exact ih5 _ _ _ _ _ _ h I (lv_sub hl [1, 0] rfl)
        · have h := h.2 c11
          refine lv_iconst (v := 1) X.1 X.2.1 dX5_liesWithin_14 (by decide) ?_
          exact q_zret X I hr dX5_liesWithin_15 h (by decide) (by decide)
  exact lp5 n5 _ _ _ _ _ _ h I (lv_sub hl [2, 0] rfl)

def pX0_begin_L12  (post : qS → Prop) (xp : String → qS → Prop) : Nat → Option Nat → Int32 → qS → Prop
  | 0, _, _, _ => False
  | n12 + 1, x0, x1, S =>
  (((4 : Int32) ≤ x1 →
  post S) ∧ (¬ (4 : Int32) ≤ x1 →
  w_getR S x0 1 1 (fun v18 =>
  w_stI S v18 16 x1 ((10 : Int32) + x1) (fun S =>
  (pX0_begin_L12 post xp n12) x0 (x1 + 1) S))))
def pX0_begin (x0 : Nat) (S : qS) (post : qS → Prop) (xp : String → qS → Prop) : Prop :=
  w_putI S (some x0) 1 3 (0 : Int32) (fun S =>
  w_putJ S (some x0) 1 4 (1 : Int64) (fun S =>
  ∃ n12, pX0_begin_L12 post xp n12 (some x0) (0 : Int32) S))
set_option maxHeartbeats 4000000 in
set_option maxRecDepth 100000 in
theorem kX0_begin {l : Launch} (hl0 : l.stackTraces = false) {G : qG} {S : qS} {sz : Nat} {x0 : Nat} {post : qS → Prop} {xp : String → qS → Prop} (h : pX0_begin x0 S post xp) : q_M l yX0_begin cX0_begin 2 none 1 0 0 G S sz [va_rf (some x0)] (q_Qv G post) xp := by
  refine q_of (lv := [(0, va_rf (some x0))]) hl0 (by decide) rfl (Nat.le_of_ble_eq_true rfl) (fun p e s m below meth c A ls X N hr hnm I hl => ?_)
  generalize ([va_rf (some x0)] : List Value).toArray = av at X ⊢
  unfold pX0_begin at h
  refine q_aload_n X dX0_begin_0 rfl (lv_at hl 0 rfl) ?_
  refine lv_iconst (v := 0) X.1 X.2.1 dX0_begin_1 (by decide) ?_
  refine q_putI (ci := 1) (k := 3) X I rfl inb_TX0 tyX0_ok nmX0 wd_83 (by decide) (Or.inl rfl) qt_43 rfl dX0_begin_2 h (fun S H locs I h => ?_)
  refine q_aload_n X dX0_begin_5 rfl (lv_at hl 0 rfl) ?_
  refine lv_lconst (v := 1) X.1 X.2.1 dX0_begin_6 (by decide) ?_
  refine q_putJ (ci := 1) (k := 4) X I rfl inb_TX0 tyX0_ok nmX0 wd_84 (by decide) (Or.inl rfl) qt_44 rfl dX0_begin_7 h (fun S H locs I h => ?_)
  refine lv_iconst (v := 0) X.1 X.2.1 dX0_begin_10 (by decide) ?_
  refine lv_istore_n (i := 1) (lv' := [(1, .int (0 : Int32)), (0, va_rf (some x0))]) X.1 X.2.1 dX0_begin_11 rfl hl (by decide) rfl (fun ls hl => ?_)
  obtain ⟨n12, h⟩ := h
  have lp12 : ∀ (n12 : Nat) (x0 : Option Nat) (x1 : Int32) (S : qS) (H : Heap) (locs : List Loc) (ls : Array Slot), pX0_begin_L12 post xp n12 x0 x1 S → q_H G A s H locs S → lv_has ls 2 [(0, va_rf x0), (1, .int x1)] → W p l e (q_rm 1 0 0) s m av below meth c H locs 0 0 (vx_MQ below (q_Qv G post A) (q_XC G A xp) av s 0 0 A) (F0 m 12 ls []) := by
    intro n12
    induction n12 with
    | zero => intro x0 x1 S H locs ls h I hl; exact h.elim
    | succ n12 ih12 =>
      intro x0 x1 S H locs ls h I hl
      unfold pX0_begin_L12 at h
      refine lv_iload_n X.1 X.2.1 dX0_begin_12 rfl (lv_at hl 1 rfl) ?_
      refine lv_iconst (v := 4) X.1 X.2.1 dX0_begin_13 (by decide) ?_
      refine lv_icmp_ge (tgt := 33) X.1 X.2.1 dX0_begin_14 (by decide) (fun c14 => ?_) (fun c14 => ?_)
      · have h := h.1 c14
        exact q_vret X I hr dX0_begin_33 h (by decide) (by decide)
      · have h := h.2 c14
        refine q_aload_n X dX0_begin_17 rfl (lv_at hl 0 rfl) ?_
        refine q_getR (ci := 1) (k := 1) X I rfl inb_TX0 wd_81 (by decide) qt_41 dX0_begin_18 h (fun v18 h => ?_)
        refine lv_iload_n X.1 X.2.1 dX0_begin_21 rfl (lv_at hl 1 rfl) ?_
        refine lv_bipush (v := 10) X.1 X.2.1 dX0_begin_22 (by decide) ?_
        refine lv_iload_n X.1 X.2.1 dX0_begin_24 rfl (lv_at hl 1 rfl) ?_
        refine lv_iadd X.1 X.2.1 dX0_begin_25 ?_
        refine q_stI X I (by decide) (by decide) dX0_begin_26 h (fun S H locs I h => ?_)
        refine lv_iinc (v := (x1 + 1)) (lv' := [(1, .int (x1 + 1)), (0, va_rf x0)]) (k := 1) X.1 X.2.1 dX0_begin_27 hl rfl rfl (by decide) (by simp [q_cat, q_catI, q_catJ]) (fun ls hl => ?_)
        refine lv_goto (tgt := 12) X.1 X.2.1 dX0_begin_30 (by decide) ?_
        exact ih12 _ _ _ _ _ _ h I (lv_sub hl [1, 0] rfl)
  exact lp12 n12 _ _ _ _ _ _ h I (lv_sub hl [1, 0] rfl)

def pX0_enter_J56  (post : qS → Prop) (xp : String → qS → Prop) (x0 : Option Nat) (x2 : Int64) (S : qS) : Prop :=
  w_getR S x0 1 0 (fun v57 =>
  w_ldO S v57 21 (4 : Int32) (fun v61 =>
  w_getI S x0 1 3 (fun v63 =>
  w_stJ S v61 20 v63 x2 (fun S =>
  w_getR S x0 1 2 (fun v69 =>
  w_getI S x0 1 3 (fun v73 =>
  w_getI S x0 1 3 (fun v77 =>
  w_stI S v69 17 v73 v77 (fun S =>
  w_getI S x0 1 3 (fun v83 =>
  w_putI S x0 1 3 (v83 + (1 : Int32)) (fun S =>
  post S))))))))))
def pX0_enter_L15 (k56 : Option Nat → Int64 → qS → Prop) (post : qS → Prop) (xp : String → qS → Prop) : Nat → Option Nat → Option Nat → Int64 → Int32 → qS → Prop
  | 0, _, _, _, _, _ => False
  | n15 + 1, x0, x1, x2, x4, S =>
  (((4 : Int32) ≤ x4 →
  k56 x0 x2 S) ∧ (¬ (4 : Int32) ≤ x4 →
  w_at S x1 4 (fun b24 => pX3_won b24 x4 S (fun v24 S =>
  w_getR S x0 1 0 (fun v30 =>
  w_ldO S v30 21 x4 (fun v35 =>
  w_getI S x0 1 3 (fun v37 =>
  w_stJ S v35 20 v37 v24.toInt64 (fun S =>
  (pX0_enter_L15 k56 post xp n15) x0 x1 (x2 + v24.toInt64) (x4 + 1) S))))) xp)))
def pX0_enter (x0 : Nat) (x1 : Option Nat) (S : qS) (post : qS → Prop) (xp : String → qS → Prop) : Prop :=
  w_getI S (some x0) 1 3 (fun v1 =>
  ((v1 < (10 : Int32) →
  ∃ n15, pX0_enter_L15 (pX0_enter_J56 post xp) post xp n15 (some x0) x1 (0 : Int64) (0 : Int32) S) ∧ (¬ v1 < (10 : Int32) →
  post S)))
set_option maxHeartbeats 4000000 in
set_option maxRecDepth 100000 in
theorem kX0_enter {l : Launch} (hl0 : l.stackTraces = false) {G : qG} {S : qS} {sz : Nat} {x0 : Nat} {x1 : Option Nat} {post : qS → Prop} {xp : String → qS → Prop} (h : pX0_enter x0 x1 S post xp) : q_M l yX0_enter cX0_enter 6 none 2 0 0 G S sz [va_rf (some x0), va_rf x1] (q_Qv G post) xp := by
  refine q_of (lv := [(0, va_rf (some x0)), (1, va_rf x1)]) hl0 (by decide) (by cases x1 <;> rfl) (by cases x1 <;> exact Nat.le_of_ble_eq_true rfl) (fun p e s m below meth c A ls X N hr hnm I hl => ?_)
  generalize ([va_rf (some x0), va_rf x1] : List Value).toArray = av at X ⊢
  unfold pX0_enter at h
  refine q_aload_n X dX0_enter_0 rfl (lv_at hl 0 rfl) ?_
  refine q_getI (ci := 1) (k := 3) X I rfl inb_TX0 wd_83 (by decide) qt_43 dX0_enter_1 h (fun v1 h => ?_)
  refine lv_bipush (v := 10) X.1 X.2.1 dX0_enter_4 (by decide) ?_
  refine lv_icmp_lt (tgt := 10) X.1 X.2.1 dX0_enter_6 (by decide) (fun c6 => ?_) (fun c6 => ?_)
  · have h := h.1 c6
    refine lv_lconst (v := 0) X.1 X.2.1 dX0_enter_10 (by decide) ?_
    refine lv_lstore_n (i := 2) (lv' := [(2, .long (0 : Int64)), (0, va_rf (some x0)), (1, va_rf x1)]) X.1 X.2.1 dX0_enter_11 rfl hl (by decide) (by simp [q_cat, q_catI, q_catJ]) (fun ls hl => ?_)
    refine lv_iconst (v := 0) X.1 X.2.1 dX0_enter_12 (by decide) ?_
    refine lv_istore (i := 4) (lv' := [(4, .int (0 : Int32)), (2, .long (0 : Int64)), (0, va_rf (some x0)), (1, va_rf x1)]) X.1 X.2.1 dX0_enter_13 hl (by decide) rfl (fun ls hl => ?_)
    have jn56 : ∀ (x0 : Option Nat) (x2 : Int64) (S : qS) (H : Heap) (locs : List Loc) (ls : Array Slot), pX0_enter_J56 post xp x0 x2 S → q_H G A s H locs S → lv_has ls 6 [(0, va_rf x0), (2, .long x2)] → W p l e (q_rm 2 0 0) s m av below meth c H locs 0 0 (vx_MQ below (q_Qv G post A) (q_XC G A xp) av s 0 0 A) (F0 m 56 ls []) := by
      intro x0 x2 S H locs ls h I hl
      unfold pX0_enter_J56 at h
      refine q_aload_n X dX0_enter_56 rfl (lv_at hl 0 rfl) ?_
      refine q_getR (ci := 1) (k := 0) X I rfl inb_TX0 wd_80 (by decide) qt_40 dX0_enter_57 h (fun v57 h => ?_)
      refine lv_iconst (v := 4) X.1 X.2.1 dX0_enter_60 (by decide) ?_
      refine q_ldO21 X I dX0_enter_61 h (fun v61 h => ?_)
      refine q_aload_n X dX0_enter_62 rfl (lv_at hl 0 rfl) ?_
      refine q_getI (ci := 1) (k := 3) X I rfl inb_TX0 wd_83 (by decide) qt_43 dX0_enter_63 h (fun v63 h => ?_)
      refine lv_lload_n X.1 X.2.1 dX0_enter_66 rfl (lv_at hl 1 rfl) ?_
      refine q_stJ X I (by decide) (by decide) dX0_enter_67 h (fun S H locs I h => ?_)
      refine q_aload_n X dX0_enter_68 rfl (lv_at hl 0 rfl) ?_
      refine q_getR (ci := 1) (k := 2) X I rfl inb_TX0 wd_82 (by decide) qt_42 dX0_enter_69 h (fun v69 h => ?_)
      refine q_aload_n X dX0_enter_72 rfl (lv_at hl 0 rfl) ?_
      refine q_getI (ci := 1) (k := 3) X I rfl inb_TX0 wd_83 (by decide) qt_43 dX0_enter_73 h (fun v73 h => ?_)
      refine q_aload_n X dX0_enter_76 rfl (lv_at hl 0 rfl) ?_
      refine q_getI (ci := 1) (k := 3) X I rfl inb_TX0 wd_83 (by decide) qt_43 dX0_enter_77 h (fun v77 h => ?_)
      refine q_stI X I (by decide) (by decide) dX0_enter_80 h (fun S H locs I h => ?_)
      refine q_aload_n X dX0_enter_81 rfl (lv_at hl 0 rfl) ?_
      refine lv_dup X.1 X.2.1 dX0_enter_82 (q_cat _) ?_
      refine q_getI (ci := 1) (k := 3) X I rfl inb_TX0 wd_83 (by decide) qt_43 dX0_enter_83 h (fun v83 h => ?_)
      refine lv_iconst (v := 1) X.1 X.2.1 dX0_enter_86 (by decide) ?_
      refine lv_iadd X.1 X.2.1 dX0_enter_87 ?_
      refine q_putI (ci := 1) (k := 3) X I rfl inb_TX0 tyX0_ok nmX0 wd_83 (by decide) (Or.inl rfl) qt_43 rfl dX0_enter_88 h (fun S H locs I h => ?_)
      exact q_vret X I hr dX0_enter_91 h (by decide) (by decide)
    obtain ⟨n15, h⟩ := h
    have lp15 : ∀ (n15 : Nat) (x0 : Option Nat) (x1 : Option Nat) (x2 : Int64) (x4 : Int32) (S : qS) (H : Heap) (locs : List Loc) (ls : Array Slot), pX0_enter_L15 (pX0_enter_J56 post xp) post xp n15 x0 x1 x2 x4 S → q_H G A s H locs S → lv_has ls 6 [(0, va_rf x0), (1, va_rf x1), (2, .long x2), (4, .int x4)] → W p l e (q_rm 2 0 0) s m av below meth c H locs 0 0 (vx_MQ below (q_Qv G post A) (q_XC G A xp) av s 0 0 A) (F0 m 15 ls []) := by
      intro n15
      induction n15 with
      | zero => intro x0 x1 x2 x4 S H locs ls h I hl; exact h.elim
      | succ n15 ih15 =>
        intro x0 x1 x2 x4 S H locs ls h I hl
        unfold pX0_enter_L15 at h
        refine lv_iload X.1 X.2.1 dX0_enter_15 (lv_at hl 3 rfl) ?_
        refine lv_iconst (v := 4) X.1 X.2.1 dX0_enter_17 (by decide) ?_
        refine lv_icmp_ge (tgt := 56) X.1 X.2.1 dX0_enter_18 (by decide) (fun c18 => ?_) (fun c18 => ?_)
        · have h := h.1 c18
          exact jn56 _ _ _ _ _ _ h I (lv_sub hl [0, 2] rfl)
        · have h := h.2 c18
          refine q_aload_n X dX0_enter_21 rfl (lv_at hl 1 rfl) ?_
          refine lv_iload X.1 X.2.1 dX0_enter_22 (lv_at hl 3 rfl) ?_
          refine q_cVi (As := [.int x4]) (rest := []) (c1 := 0) (s1 := 0) (d := 1) (mc := 0) (ms := 0) X N I hl.1 mX3_won wd_160 dX0_enter_24 rfl h (fun b h => kX3_won hl0 h) rfl (Nat.le_of_ble_eq_true rfl) ⟨by decide, by decide⟩ ⟨by decide, by decide⟩ ⟨by decide, by decide⟩ rfl rfl (fun v24 S H locs I h => ?_)
          refine lv_istore (i := 5) (lv' := [(5, .int v24), (0, va_rf x0), (1, va_rf x1), (2, .long x2), (4, .int x4)]) X.1 X.2.1 dX0_enter_27 hl (by decide) rfl (fun ls hl => ?_)
          refine q_aload_n X dX0_enter_29 rfl (lv_at hl 1 rfl) ?_
          refine q_getR (ci := 1) (k := 0) X I rfl inb_TX0 wd_80 (by decide) qt_40 dX0_enter_30 h (fun v30 h => ?_)
          refine lv_iload X.1 X.2.1 dX0_enter_33 (lv_at hl 4 rfl) ?_
          refine q_ldO21 X I dX0_enter_35 h (fun v35 h => ?_)
          refine q_aload_n X dX0_enter_36 rfl (lv_at hl 1 rfl) ?_
          refine q_getI (ci := 1) (k := 3) X I rfl inb_TX0 wd_83 (by decide) qt_43 dX0_enter_37 h (fun v37 h => ?_)
          refine lv_iload X.1 X.2.1 dX0_enter_40 (lv_at hl 0 rfl) ?_
          refine lv_i2l X.1 X.2.1 dX0_enter_42 rfl ?_
          refine q_stJ X I (by decide) (by decide) dX0_enter_43 h (fun S H locs I h => ?_)
          refine lv_lload_n X.1 X.2.1 dX0_enter_44 rfl (lv_at hl 3 rfl) ?_
          refine lv_iload X.1 X.2.1 dX0_enter_45 (lv_at hl 0 rfl) ?_
          refine lv_i2l X.1 X.2.1 dX0_enter_47 rfl ?_
          refine lv_ladd X.1 X.2.1 dX0_enter_48 ?_
          refine lv_lstore_n (i := 2) (lv' := [(2, .long (x2 + v24.toInt64)), (5, .int v24), (0, va_rf x0), (1, va_rf x1), (4, .int x4)]) X.1 X.2.1 dX0_enter_49 rfl hl (by decide) (by simp [q_cat, q_catI, q_catJ]) (fun ls hl => ?_)
          refine lv_iinc (v := (x4 + 1)) (lv' := [(4, .int (x4 + 1)), (2, .long (x2 + v24.toInt64)), (5, .int v24), (0, va_rf x0), (1, va_rf x1)]) (k := 4) X.1 X.2.1 dX0_enter_50 hl rfl rfl (by decide) rfl (fun ls hl => ?_)
          refine lv_goto (tgt := 15) X.1 X.2.1 dX0_enter_53 (by decide) ?_
          exact ih15 _ _ _ _ _ _ _ _ h I (lv_sub hl [3, 4, 1, 0] rfl)
    exact lp15 n15 _ _ _ _ _ _ _ _ h I (lv_sub hl [2, 3, 1, 0] rfl)
  · have h := h.2 c6
    exact q_vret X I hr dX0_enter_9 h (by decide) (by decide)

def pX0_risingColumn_J47 (k4 : Option Nat → Int32 → Int32 → qS → Prop) (post : Int32 → qS → Prop) (xp : String → qS → Prop) (x0 : Option Nat) (x1 : Int32) (x2 : Int32) (S : qS) : Prop :=
  k4 x0 x1 (x2 + 1) S
def pX0_risingColumn_J45 (k4 : Option Nat → Int32 → Int32 → qS → Prop) (post : Int32 → qS → Prop) (xp : String → qS → Prop) (x0 : Option Nat) (x2 : Int32) (S : qS) : Prop :=
  pX0_risingColumn_J47 k4 post xp x0 x2 x2 S
def pX0_risingColumn_L4  (post : Int32 → qS → Prop) (xp : String → qS → Prop) : Nat → Option Nat → Int32 → Int32 → qS → Prop
  | 0, _, _, _, _ => False
  | n4 + 1, x0, x1, x2, S =>
  w_getI S x0 1 3 (fun v6 =>
  ((v6 ≤ x2 →
  post x1 S) ∧ (¬ v6 ≤ x2 →
  w_getR S x0 1 0 (fun v13 =>
  w_ldO S v13 21 (4 : Int32) (fun v17 =>
  w_ldJ S v17 20 x2 (fun v19 =>
  (((lg_cmp v19 (0 : Int64)) ≤ 0 →
  pX0_risingColumn_J47 (pX0_risingColumn_L4 post xp n4) post xp x0 x1 x2 S) ∧ (¬ (lg_cmp v19 (0 : Int64)) ≤ 0 →
  ((x1 = (-1 : Int32) →
  pX0_risingColumn_J45 (pX0_risingColumn_L4 post xp n4) post xp x0 x2 S) ∧ (¬ x1 = (-1 : Int32) →
  w_getR S x0 1 2 (fun v31 =>
  w_ldI S v31 17 x2 (fun v35 =>
  w_getR S x0 1 2 (fun v37 =>
  w_ldI S v37 17 x1 (fun v41 =>
  ((v41 ≤ v35 →
  pX0_risingColumn_J47 (pX0_risingColumn_L4 post xp n4) post xp x0 x1 x2 S) ∧ (¬ v41 ≤ v35 →
  pX0_risingColumn_J45 (pX0_risingColumn_L4 post xp n4) post xp x0 x2 S))))))))))))))))
def pX0_risingColumn (x0 : Nat) (S : qS) (post : Int32 → qS → Prop) (xp : String → qS → Prop) : Prop :=
  ∃ n4, pX0_risingColumn_L4 post xp n4 (some x0) (-1 : Int32) (0 : Int32) S
set_option maxHeartbeats 4000000 in
set_option maxRecDepth 100000 in
theorem kX0_risingColumn {l : Launch} (hl0 : l.stackTraces = false) {G : qG} {S : qS} {sz : Nat} {x0 : Nat} {post : Int32 → qS → Prop} {xp : String → qS → Prop} (h : pX0_risingColumn x0 S post xp) : q_M l yX0_risingColumn cX0_risingColumn 3 (some .int) 1 0 0 G S sz [va_rf (some x0)] (q_Qi G post) xp := by
  refine q_of (lv := [(0, va_rf (some x0))]) hl0 (by decide) rfl (Nat.le_of_ble_eq_true rfl) (fun p e s m below meth c A ls X N hr hnm I hl => ?_)
  generalize ([va_rf (some x0)] : List Value).toArray = av at X ⊢
  unfold pX0_risingColumn at h
  refine lv_iconst (v := -1) X.1 X.2.1 dX0_risingColumn_0 (by decide) ?_
  refine lv_istore_n (i := 1) (lv' := [(1, .int (-1 : Int32)), (0, va_rf (some x0))]) X.1 X.2.1 dX0_risingColumn_1 rfl hl (by decide) rfl (fun ls hl => ?_)
  refine lv_iconst (v := 0) X.1 X.2.1 dX0_risingColumn_2 (by decide) ?_
  refine lv_istore_n (i := 2) (lv' := [(2, .int (0 : Int32)), (1, .int (-1 : Int32)), (0, va_rf (some x0))]) X.1 X.2.1 dX0_risingColumn_3 rfl hl (by decide) rfl (fun ls hl => ?_)
  obtain ⟨n4, h⟩ := h
  have lp4 : ∀ (n4 : Nat) (x0 : Option Nat) (x1 : Int32) (x2 : Int32) (S : qS) (H : Heap) (locs : List Loc) (ls : Array Slot), pX0_risingColumn_L4 post xp n4 x0 x1 x2 S → q_H G A s H locs S → lv_has ls 3 [(0, va_rf x0), (1, .int x1), (2, .int x2)] → W p l e (q_rm 1 0 0) s m av below meth c H locs 0 0 (vx_MQ below (q_Qi G post A) (q_XC G A xp) av s 0 0 A) (F0 m 4 ls []) := by
    intro n4
    induction n4 with
    | zero => intro x0 x1 x2 S H locs ls h I hl; exact h.elim
    | succ n4 ih4 =>
      intro x0 x1 x2 S H locs ls h I hl
      unfold pX0_risingColumn_L4 at h
      refine lv_iload_n X.1 X.2.1 dX0_risingColumn_4 rfl (lv_at hl 2 rfl) ?_
      refine q_aload_n X dX0_risingColumn_5 rfl (lv_at hl 0 rfl) ?_
      refine q_getI (ci := 1) (k := 3) X I rfl inb_TX0 wd_83 (by decide) qt_43 dX0_risingColumn_6 h (fun v6 h => ?_)
      refine lv_icmp_ge (tgt := 53) X.1 X.2.1 dX0_risingColumn_9 (by decide) (fun c9 => ?_) (fun c9 => ?_)
      · have h := h.1 c9
        refine lv_iload_n X.1 X.2.1 dX0_risingColumn_53 rfl (lv_at hl 1 rfl) ?_
        exact q_iret X I hr dX0_risingColumn_54 h (by decide) (by decide)
      · have h := h.2 c9
        refine q_aload_n X dX0_risingColumn_12 rfl (lv_at hl 0 rfl) ?_
        refine q_getR (ci := 1) (k := 0) X I rfl inb_TX0 wd_80 (by decide) qt_40 dX0_risingColumn_13 h (fun v13 h => ?_)
        refine lv_iconst (v := 4) X.1 X.2.1 dX0_risingColumn_16 (by decide) ?_
        refine q_ldO21 X I dX0_risingColumn_17 h (fun v17 h => ?_)
        refine lv_iload_n X.1 X.2.1 dX0_risingColumn_18 rfl (lv_at hl 2 rfl) ?_
        refine q_ldJ X I (by decide) (by decide) dX0_risingColumn_19 h (fun v19 h => ?_)
        refine lv_lconst (v := 0) X.1 X.2.1 dX0_risingColumn_20 (by decide) ?_
        refine W.lcmp X.1 X.2.1 dX0_risingColumn_21 ?_
        have jn47 : ∀ (x0 : Option Nat) (x1 : Int32) (x2 : Int32) (S : qS) (H : Heap) (locs : List Loc) (ls : Array Slot), pX0_risingColumn_J47 (pX0_risingColumn_L4 post xp n4) post xp x0 x1 x2 S → q_H G A s H locs S → lv_has ls 3 [(0, va_rf x0), (1, .int x1), (2, .int x2)] → W p l e (q_rm 1 0 0) s m av below meth c H locs 0 0 (vx_MQ below (q_Qi G post A) (q_XC G A xp) av s 0 0 A) (F0 m 47 ls []) := by
          intro x0 x1 x2 S H locs ls h I hl
          unfold pX0_risingColumn_J47 at h
          refine lv_iinc (v := (x2 + 1)) (lv' := [(2, .int (x2 + 1)), (0, va_rf x0), (1, .int x1)]) (k := 2) X.1 X.2.1 dX0_risingColumn_47 hl rfl rfl (by decide) rfl (fun ls hl => ?_)
          refine lv_goto (tgt := 4) X.1 X.2.1 dX0_risingColumn_50 (by decide) ?_
          exact ih4 _ _ _ _ _ _ _ h I (lv_sub hl [1, 2, 0] rfl)
        refine lv_if_le (tgt := 47) X.1 X.2.1 dX0_risingColumn_22 (by decide) (fun c22 => ?_) (fun c22 => ?_)
        · have h := h.1 c22
          exact jn47 _ _ _ _ _ _ _ h I (lv_sub hl [0, 1, 2] rfl)
        · have h := h.2 c22
          refine lv_iload_n X.1 X.2.1 dX0_risingColumn_25 rfl (lv_at hl 1 rfl) ?_
          refine lv_iconst (v := -1) X.1 X.2.1 dX0_risingColumn_26 (by decide) ?_
          have jn45 : ∀ (x0 : Option Nat) (x2 : Int32) (S : qS) (H : Heap) (locs : List Loc) (ls : Array Slot), pX0_risingColumn_J45 (pX0_risingColumn_L4 post xp n4) post xp x0 x2 S → q_H G A s H locs S → lv_has ls 3 [(0, va_rf x0), (2, .int x2)] → W p l e (q_rm 1 0 0) s m av below meth c H locs 0 0 (vx_MQ below (q_Qi G post A) (q_XC G A xp) av s 0 0 A) (F0 m 45 ls []) := by
            intro x0 x2 S H locs ls h I hl
            unfold pX0_risingColumn_J45 at h
            refine lv_iload_n X.1 X.2.1 dX0_risingColumn_45 rfl (lv_at hl 1 rfl) ?_
            refine lv_istore_n (i := 1) (lv' := [(1, .int x2), (0, va_rf x0), (2, .int x2)]) X.1 X.2.1 dX0_risingColumn_46 rfl hl (by decide) (by simp [q_cat, q_catI, q_catJ]) (fun ls hl => ?_)
            exact jn47 _ _ _ _ _ _ _ h I (lv_sub hl [1, 0, 2] rfl)
          refine lv_icmp_eq (tgt := 45) X.1 X.2.1 dX0_risingColumn_27 (by decide) (fun c27 => ?_) (fun c27 => ?_)
          · have h := h.1 c27
            exact jn45 _ _ _ _ _ _ h I (lv_sub hl [0, 2] rfl)
          · have h := h.2 c27
            refine q_aload_n X dX0_risingColumn_30 rfl (lv_at hl 0 rfl) ?_
            refine q_getR (ci := 1) (k := 2) X I rfl inb_TX0 wd_82 (by decide) qt_42 dX0_risingColumn_31 h (fun v31 h => ?_)
            refine lv_iload_n X.1 X.2.1 dX0_risingColumn_34 rfl (lv_at hl 2 rfl) ?_
            refine q_ldI X I (by decide) (by decide) dX0_risingColumn_35 h (fun v35 h => ?_)
            refine q_aload_n X dX0_risingColumn_36 rfl (lv_at hl 0 rfl) ?_
            refine q_getR (ci := 1) (k := 2) X I rfl inb_TX0 wd_82 (by decide) qt_42 dX0_risingColumn_37 h (fun v37 h => ?_)
            refine lv_iload_n X.1 X.2.1 dX0_risingColumn_40 rfl (lv_at hl 1 rfl) ?_
            refine q_ldI X I (by decide) (by decide) dX0_risingColumn_41 h (fun v41 h => ?_)
            refine lv_icmp_ge (tgt := 47) X.1 X.2.1 dX0_risingColumn_42 (by decide) (fun c42 => ?_) (fun c42 => ?_)
            · have h := h.1 c42
              exact jn47 _ _ _ _ _ _ _ h I (lv_sub hl [0, 1, 2] rfl)
            · have h := h.2 c42
              exact jn45 _ _ _ _ _ _ h I (lv_sub hl [0, 2] rfl)
  exact lp4 n4 _ _ _ _ _ _ _ h I (lv_sub hl [2, 1, 0] rfl)

def pX0_hinderingRow_J44 (k4 : Option Nat → Int32 → Int32 → Int32 → qS → Prop) (post : Int32 → qS → Prop) (xp : String → qS → Prop) (x0 : Option Nat) (x1 : Int32) (x2 : Int32) (x3 : Int32) (S : qS) : Prop :=
  k4 x0 x1 x2 (x3 + 1) S
def pX0_hinderingRow_J42 (k4 : Option Nat → Int32 → Int32 → Int32 → qS → Prop) (post : Int32 → qS → Prop) (xp : String → qS → Prop) (x0 : Option Nat) (x1 : Int32) (x3 : Int32) (S : qS) : Prop :=
  pX0_hinderingRow_J44 k4 post xp x0 x1 x3 x3 S
def pX0_hinderingRow_L4  (post : Int32 → qS → Prop) (xp : String → qS → Prop) : Nat → Option Nat → Int32 → Int32 → Int32 → qS → Prop
  | 0, _, _, _, _, _ => False
  | n4 + 1, x0, x1, x2, x3, S =>
  (((4 : Int32) ≤ x3 →
  post x2 S) ∧ (¬ (4 : Int32) ≤ x3 →
  w_getR S x0 1 0 (fun v10 =>
  w_ldO S v10 21 x3 (fun v14 =>
  w_ldJ S v14 20 x1 (fun v16 =>
  ((0 ≤ (lg_cmp v16 (0 : Int64)) →
  pX0_hinderingRow_J44 (pX0_hinderingRow_L4 post xp n4) post xp x0 x1 x2 x3 S) ∧ (¬ 0 ≤ (lg_cmp v16 (0 : Int64)) →
  ((x2 = (-1 : Int32) →
  pX0_hinderingRow_J42 (pX0_hinderingRow_L4 post xp n4) post xp x0 x1 x3 S) ∧ (¬ x2 = (-1 : Int32) →
  w_getR S x0 1 1 (fun v28 =>
  w_ldI S v28 16 x3 (fun v32 =>
  w_getR S x0 1 1 (fun v34 =>
  w_ldI S v34 16 x2 (fun v38 =>
  ((v38 ≤ v32 →
  pX0_hinderingRow_J44 (pX0_hinderingRow_L4 post xp n4) post xp x0 x1 x2 x3 S) ∧ (¬ v38 ≤ v32 →
  pX0_hinderingRow_J42 (pX0_hinderingRow_L4 post xp n4) post xp x0 x1 x3 S)))))))))))))))
def pX0_hinderingRow (x0 : Nat) (x1 : Int32) (S : qS) (post : Int32 → qS → Prop) (xp : String → qS → Prop) : Prop :=
  ∃ n4, pX0_hinderingRow_L4 post xp n4 (some x0) x1 (-1 : Int32) (0 : Int32) S
set_option maxHeartbeats 4000000 in
set_option maxRecDepth 100000 in
theorem kX0_hinderingRow {l : Launch} (hl0 : l.stackTraces = false) {G : qG} {S : qS} {sz : Nat} {x0 : Nat} {x1 : Int32} {post : Int32 → qS → Prop} {xp : String → qS → Prop} (h : pX0_hinderingRow x0 x1 S post xp) : q_M l yX0_hinderingRow cX0_hinderingRow 4 (some .int) 1 0 0 G S sz [va_rf (some x0), .int x1] (q_Qi G post) xp := by
  refine q_of (lv := [(0, va_rf (some x0)), (1, .int x1)]) hl0 (by decide) rfl (Nat.le_of_ble_eq_true rfl) (fun p e s m below meth c A ls X N hr hnm I hl => ?_)
  generalize ([va_rf (some x0), .int x1] : List Value).toArray = av at X ⊢
  unfold pX0_hinderingRow at h
  refine lv_iconst (v := -1) X.1 X.2.1 dX0_hinderingRow_0 (by decide) ?_
  refine lv_istore_n (i := 2) (lv' := [(2, .int (-1 : Int32)), (0, va_rf (some x0)), (1, .int x1)]) X.1 X.2.1 dX0_hinderingRow_1 rfl hl (by decide) rfl (fun ls hl => ?_)
  refine lv_iconst (v := 0) X.1 X.2.1 dX0_hinderingRow_2 (by decide) ?_
  refine lv_istore_n (i := 3) (lv' := [(3, .int (0 : Int32)), (2, .int (-1 : Int32)), (0, va_rf (some x0)), (1, .int x1)]) X.1 X.2.1 dX0_hinderingRow_3 rfl hl (by decide) rfl (fun ls hl => ?_)
  obtain ⟨n4, h⟩ := h
  have lp4 : ∀ (n4 : Nat) (x0 : Option Nat) (x1 : Int32) (x2 : Int32) (x3 : Int32) (S : qS) (H : Heap) (locs : List Loc) (ls : Array Slot), pX0_hinderingRow_L4 post xp n4 x0 x1 x2 x3 S → q_H G A s H locs S → lv_has ls 4 [(0, va_rf x0), (1, .int x1), (2, .int x2), (3, .int x3)] → W p l e (q_rm 1 0 0) s m av below meth c H locs 0 0 (vx_MQ below (q_Qi G post A) (q_XC G A xp) av s 0 0 A) (F0 m 4 ls []) := by
    intro n4
    induction n4 with
    | zero => intro x0 x1 x2 x3 S H locs ls h I hl; exact h.elim
    | succ n4 ih4 =>
      intro x0 x1 x2 x3 S H locs ls h I hl
      unfold pX0_hinderingRow_L4 at h
      refine lv_iload_n X.1 X.2.1 dX0_hinderingRow_4 rfl (lv_at hl 3 rfl) ?_
      refine lv_iconst (v := 4) X.1 X.2.1 dX0_hinderingRow_5 (by decide) ?_
      refine lv_icmp_ge (tgt := 50) X.1 X.2.1 dX0_hinderingRow_6 (by decide) (fun c6 => ?_) (fun c6 => ?_)
      · have h := h.1 c6
        refine lv_iload_n X.1 X.2.1 dX0_hinderingRow_50 rfl (lv_at hl 2 rfl) ?_
        exact q_iret X I hr dX0_hinderingRow_51 h (by decide) (by decide)
      · have h := h.2 c6
        refine q_aload_n X dX0_hinderingRow_9 rfl (lv_at hl 0 rfl) ?_
        refine q_getR (ci := 1) (k := 0) X I rfl inb_TX0 wd_80 (by decide) qt_40 dX0_hinderingRow_10 h (fun v10 h => ?_)
        refine lv_iload_n X.1 X.2.1 dX0_hinderingRow_13 rfl (lv_at hl 3 rfl) ?_
        refine q_ldO21 X I dX0_hinderingRow_14 h (fun v14 h => ?_)
        refine lv_iload_n X.1 X.2.1 dX0_hinderingRow_15 rfl (lv_at hl 1 rfl) ?_
        refine q_ldJ X I (by decide) (by decide) dX0_hinderingRow_16 h (fun v16 h => ?_)
        refine lv_lconst (v := 0) X.1 X.2.1 dX0_hinderingRow_17 (by decide) ?_
        refine W.lcmp X.1 X.2.1 dX0_hinderingRow_18 ?_
        have jn44 : ∀ (x0 : Option Nat) (x1 : Int32) (x2 : Int32) (x3 : Int32) (S : qS) (H : Heap) (locs : List Loc) (ls : Array Slot), pX0_hinderingRow_J44 (pX0_hinderingRow_L4 post xp n4) post xp x0 x1 x2 x3 S → q_H G A s H locs S → lv_has ls 4 [(0, va_rf x0), (1, .int x1), (2, .int x2), (3, .int x3)] → W p l e (q_rm 1 0 0) s m av below meth c H locs 0 0 (vx_MQ below (q_Qi G post A) (q_XC G A xp) av s 0 0 A) (F0 m 44 ls []) := by
          intro x0 x1 x2 x3 S H locs ls h I hl
          unfold pX0_hinderingRow_J44 at h
          refine lv_iinc (v := (x3 + 1)) (lv' := [(3, .int (x3 + 1)), (0, va_rf x0), (1, .int x1), (2, .int x2)]) (k := 3) X.1 X.2.1 dX0_hinderingRow_44 hl rfl rfl (by decide) rfl (fun ls hl => ?_)
          refine lv_goto (tgt := 4) X.1 X.2.1 dX0_hinderingRow_47 (by decide) ?_
          exact ih4 _ _ _ _ _ _ _ _ h I (lv_sub hl [1, 2, 3, 0] rfl)
        refine lv_if_ge (tgt := 44) X.1 X.2.1 dX0_hinderingRow_19 (by decide) (fun c19 => ?_) (fun c19 => ?_)
        · have h := h.1 c19
          exact jn44 _ _ _ _ _ _ _ _ h I (lv_sub hl [0, 1, 2, 3] rfl)
        · have h := h.2 c19
          refine lv_iload_n X.1 X.2.1 dX0_hinderingRow_22 rfl (lv_at hl 2 rfl) ?_
          refine lv_iconst (v := -1) X.1 X.2.1 dX0_hinderingRow_23 (by decide) ?_
          have jn42 : ∀ (x0 : Option Nat) (x1 : Int32) (x3 : Int32) (S : qS) (H : Heap) (locs : List Loc) (ls : Array Slot), pX0_hinderingRow_J42 (pX0_hinderingRow_L4 post xp n4) post xp x0 x1 x3 S → q_H G A s H locs S → lv_has ls 4 [(0, va_rf x0), (1, .int x1), (3, .int x3)] → W p l e (q_rm 1 0 0) s m av below meth c H locs 0 0 (vx_MQ below (q_Qi G post A) (q_XC G A xp) av s 0 0 A) (F0 m 42 ls []) := by
            intro x0 x1 x3 S H locs ls h I hl
            unfold pX0_hinderingRow_J42 at h
            refine lv_iload_n X.1 X.2.1 dX0_hinderingRow_42 rfl (lv_at hl 2 rfl) ?_
            refine lv_istore_n (i := 2) (lv' := [(2, .int x3), (0, va_rf x0), (1, .int x1), (3, .int x3)]) X.1 X.2.1 dX0_hinderingRow_43 rfl hl (by decide) rfl (fun ls hl => ?_)
            exact jn44 _ _ _ _ _ _ _ _ h I (lv_sub hl [1, 2, 0, 3] rfl)
          refine lv_icmp_eq (tgt := 42) X.1 X.2.1 dX0_hinderingRow_24 (by decide) (fun c24 => ?_) (fun c24 => ?_)
          · have h := h.1 c24
            exact jn42 _ _ _ _ _ _ _ h I (lv_sub hl [0, 1, 3] rfl)
          · have h := h.2 c24
            refine q_aload_n X dX0_hinderingRow_27 rfl (lv_at hl 0 rfl) ?_
            refine q_getR (ci := 1) (k := 1) X I rfl inb_TX0 wd_81 (by decide) qt_41 dX0_hinderingRow_28 h (fun v28 h => ?_)
            refine lv_iload_n X.1 X.2.1 dX0_hinderingRow_31 rfl (lv_at hl 3 rfl) ?_
            refine q_ldI X I (by decide) (by decide) dX0_hinderingRow_32 h (fun v32 h => ?_)
            refine q_aload_n X dX0_hinderingRow_33 rfl (lv_at hl 0 rfl) ?_
            refine q_getR (ci := 1) (k := 1) X I rfl inb_TX0 wd_81 (by decide) qt_41 dX0_hinderingRow_34 h (fun v34 h => ?_)
            refine lv_iload_n X.1 X.2.1 dX0_hinderingRow_37 rfl (lv_at hl 2 rfl) ?_
            refine q_ldI X I (by decide) (by decide) dX0_hinderingRow_38 h (fun v38 h => ?_)
            refine lv_icmp_ge (tgt := 44) X.1 X.2.1 dX0_hinderingRow_39 (by decide) (fun c39 => ?_) (fun c39 => ?_)
            · have h := h.1 c39
              exact jn44 _ _ _ _ _ _ _ _ h I (lv_sub hl [0, 1, 2, 3] rfl)
            · have h := h.2 c39
              exact jn42 _ _ _ _ _ _ _ h I (lv_sub hl [0, 1, 3] rfl)
  exact lp4 n4 _ _ _ _ _ _ _ _ h I (lv_sub hl [2, 3, 1, 0] rfl)

def pX0_replaceIn_J83  (post : qS → Prop) (xp : String → qS → Prop) (x0 : Option Nat) (x1 : Int32) (x3 : Int32) (x6 : Int64) (S : qS) : Prop :=
  w_getR S x0 1 0 (fun v84 =>
  w_ldO S v84 21 x1 (fun v88 =>
  w_stJ S v88 20 x3 (-x6) (fun S =>
  post S)))
def pX0_replaceIn_J77 (k23 : Option Nat → Int32 → Int32 → Int32 → Int64 → Int64 → Int32 → qS → Prop) (post : qS → Prop) (xp : String → qS → Prop) (x0 : Option Nat) (x1 : Int32) (x2 : Int32) (x3 : Int32) (x4 : Int64) (x6 : Int64) (x8 : Int32) (S : qS) : Prop :=
  k23 x0 x1 x2 x3 x4 x6 (x8 + 1) S
def pX0_replaceIn_L23 (k83 : Option Nat → Int32 → Int32 → Int64 → qS → Prop) (post : qS → Prop) (xp : String → qS → Prop) : Nat → Option Nat → Int32 → Int32 → Int32 → Int64 → Int64 → Int32 → qS → Prop
  | 0, _, _, _, _, _, _, _, _ => False
  | n23 + 1, x0, x1, x2, x3, x4, x6, x8, S =>
  w_getI S x0 1 3 (fun v26 =>
  ((v26 ≤ x8 →
  k83 x0 x1 x3 x6 S) ∧ (¬ v26 ≤ x8 →
  ((x8 = x3 →
  pX0_replaceIn_J77 (pX0_replaceIn_L23 k83 post xp n23) post xp x0 x1 x2 x3 x4 x6 x8 S) ∧ (¬ x8 = x3 →
  w_getR S x0 1 0 (fun v39 =>
  w_ldO S v39 21 x1 (fun v43 =>
  w_getR S x0 1 0 (fun v49 =>
  w_ldO S v49 21 x2 (fun v53 =>
  w_ldJ S v53 20 x8 (fun v56 =>
  w_getR S x0 1 0 (fun v61 =>
  w_ldO S v61 21 x1 (fun v65 =>
  w_ldJ S v65 20 x8 (fun v68 =>
  w_getJ S x0 1 4 (fun v72 =>
  (¬ v72 = 0 ∧
  w_stJ S v43 20 x8 (((x6 * v56) + (x4 * v68)) / v72) (fun S =>
  pX0_replaceIn_J77 (pX0_replaceIn_L23 k83 post xp n23) post xp x0 x1 x2 x3 x4 x6 x8 S))))))))))))))))
def pX0_replaceIn (x0 : Nat) (x1 : Int32) (x2 : Int32) (x3 : Int32) (x4 : Int64) (S : qS) (post : qS → Prop) (xp : String → qS → Prop) : Prop :=
  w_getJ S (some x0) 1 4 (fun v1 =>
  ((¬ (lg_cmp v1 (0 : Int64)) = 0 →
  w_getR S (some x0) 1 0 (fun v11 =>
  w_ldO S v11 21 x1 (fun v15 =>
  w_ldJ S v15 20 x3 (fun v17 =>
  ∃ n23, pX0_replaceIn_L23 (pX0_replaceIn_J83 post xp) post xp n23 (some x0) x1 x2 x3 x4 v17 (0 : Int32) S)))) ∧ ((lg_cmp v1 (0 : Int64)) = 0 →
  post S)))
set_option maxHeartbeats 4000000 in
set_option maxRecDepth 100000 in
theorem kX0_replaceIn {l : Launch} (hl0 : l.stackTraces = false) {G : qG} {S : qS} {sz : Nat} {x0 : Nat} {x1 : Int32} {x2 : Int32} {x3 : Int32} {x4 : Int64} {post : qS → Prop} {xp : String → qS → Prop} (h : pX0_replaceIn x0 x1 x2 x3 x4 S post xp) : q_M l yX0_replaceIn cX0_replaceIn 9 none 1 0 0 G S sz [va_rf (some x0), .int x1, .int x2, .int x3, .long x4] (q_Qv G post) xp := by
  refine q_of (lv := [(0, va_rf (some x0)), (1, .int x1), (2, .int x2), (3, .int x3), (4, .long x4)]) hl0 (by decide) rfl (Nat.le_of_ble_eq_true rfl) (fun p e s m below meth c A ls X N hr hnm I hl => ?_)
  generalize ([va_rf (some x0), .int x1, .int x2, .int x3, .long x4] : List Value).toArray = av at X ⊢
  unfold pX0_replaceIn at h
  refine q_aload_n X dX0_replaceIn_0 rfl (lv_at hl 0 rfl) ?_
  refine q_getJ (ci := 1) (k := 4) X I rfl inb_TX0 wd_84 (by decide) qt_44 dX0_replaceIn_1 h (fun v1 h => ?_)
  refine lv_lconst (v := 0) X.1 X.2.1 dX0_replaceIn_4 (by decide) ?_
  refine W.lcmp X.1 X.2.1 dX0_replaceIn_5 ?_
  refine lv_if_ne (tgt := 10) X.1 X.2.1 dX0_replaceIn_6 (by decide) (fun c6 => ?_) (fun c6 => ?_)
  · have h := h.1 c6
    refine q_aload_n X dX0_replaceIn_10 rfl (lv_at hl 0 rfl) ?_
    refine q_getR (ci := 1) (k := 0) X I rfl inb_TX0 wd_80 (by decide) qt_40 dX0_replaceIn_11 h (fun v11 h => ?_)
    refine lv_iload_n X.1 X.2.1 dX0_replaceIn_14 rfl (lv_at hl 1 rfl) ?_
    refine q_ldO21 X I dX0_replaceIn_15 h (fun v15 h => ?_)
    refine lv_iload_n X.1 X.2.1 dX0_replaceIn_16 rfl (lv_at hl 3 rfl) ?_
    refine q_ldJ X I (by decide) (by decide) dX0_replaceIn_17 h (fun v17 h => ?_)
    refine lv_lstore (i := 6) (lv' := [(6, .long v17), (0, va_rf (some x0)), (1, .int x1), (2, .int x2), (3, .int x3), (4, .long x4)]) X.1 X.2.1 dX0_replaceIn_18 hl (by decide) rfl (fun ls hl => ?_)
    refine lv_iconst (v := 0) X.1 X.2.1 dX0_replaceIn_20 (by decide) ?_
    refine lv_istore (i := 8) (lv' := [(8, .int (0 : Int32)), (6, .long v17), (0, va_rf (some x0)), (1, .int x1), (2, .int x2), (3, .int x3), (4, .long x4)]) X.1 X.2.1 dX0_replaceIn_21 hl (by decide) rfl (fun ls hl => ?_)
    have jn83 : ∀ (x0 : Option Nat) (x1 : Int32) (x3 : Int32) (x6 : Int64) (S : qS) (H : Heap) (locs : List Loc) (ls : Array Slot), pX0_replaceIn_J83 post xp x0 x1 x3 x6 S → q_H G A s H locs S → lv_has ls 9 [(0, va_rf x0), (1, .int x1), (3, .int x3), (6, .long x6)] → W p l e (q_rm 1 0 0) s m av below meth c H locs 0 0 (vx_MQ below (q_Qv G post A) (q_XC G A xp) av s 0 0 A) (F0 m 83 ls []) := by
      intro x0 x1 x3 x6 S H locs ls h I hl
      unfold pX0_replaceIn_J83 at h
      refine q_aload_n X dX0_replaceIn_83 rfl (lv_at hl 0 rfl) ?_
      refine q_getR (ci := 1) (k := 0) X I rfl inb_TX0 wd_80 (by decide) qt_40 dX0_replaceIn_84 h (fun v84 h => ?_)
      refine lv_iload_n X.1 X.2.1 dX0_replaceIn_87 rfl (lv_at hl 1 rfl) ?_
      refine q_ldO21 X I dX0_replaceIn_88 h (fun v88 h => ?_)
      refine lv_iload_n X.1 X.2.1 dX0_replaceIn_89 rfl (lv_at hl 2 rfl) ?_
      refine lv_lload X.1 X.2.1 dX0_replaceIn_90 (lv_at hl 3 rfl) ?_
      refine lv_lneg X.1 X.2.1 dX0_replaceIn_92 ?_
      refine q_stJ X I (by decide) (by decide) dX0_replaceIn_93 h (fun S H locs I h => ?_)
      exact q_vret X I hr dX0_replaceIn_94 h (by decide) (by decide)
    obtain ⟨n23, h⟩ := h
    have lp23 : ∀ (n23 : Nat) (x0 : Option Nat) (x1 : Int32) (x2 : Int32) (x3 : Int32) (x4 : Int64) (x6 : Int64) (x8 : Int32) (S : qS) (H : Heap) (locs : List Loc) (ls : Array Slot), pX0_replaceIn_L23 (pX0_replaceIn_J83 post xp) post xp n23 x0 x1 x2 x3 x4 x6 x8 S → q_H G A s H locs S → lv_has ls 9 [(0, va_rf x0), (1, .int x1), (2, .int x2), (3, .int x3), (4, .long x4), (6, .long x6), (8, .int x8)] → W p l e (q_rm 1 0 0) s m av below meth c H locs 0 0 (vx_MQ below (q_Qv G post A) (q_XC G A xp) av s 0 0 A) (F0 m 23 ls []) := by
      intro n23
      induction n23 with
      | zero => intro x0 x1 x2 x3 x4 x6 x8 S H locs ls h I hl; exact h.elim
      | succ n23 ih23 =>
        intro x0 x1 x2 x3 x4 x6 x8 S H locs ls h I hl
        unfold pX0_replaceIn_L23 at h
        refine lv_iload X.1 X.2.1 dX0_replaceIn_23 (lv_at hl 6 rfl) ?_
        refine q_aload_n X dX0_replaceIn_25 rfl (lv_at hl 0 rfl) ?_
        refine q_getI (ci := 1) (k := 3) X I rfl inb_TX0 wd_83 (by decide) qt_43 dX0_replaceIn_26 h (fun v26 h => ?_)
        refine lv_icmp_ge (tgt := 83) X.1 X.2.1 dX0_replaceIn_29 (by decide) (fun c29 => ?_) (fun c29 => ?_)
        · have h := h.1 c29
          exact jn83 _ _ _ _ _ _ _ _ h I (lv_sub hl [0, 1, 3, 5] rfl)
        · have h := h.2 c29
          refine lv_iload X.1 X.2.1 dX0_replaceIn_32 (lv_at hl 6 rfl) ?_
          refine lv_iload_n X.1 X.2.1 dX0_replaceIn_34 rfl (lv_at hl 3 rfl) ?_
          have jn77 : ∀ (x0 : Option Nat) (x1 : Int32) (x2 : Int32) (x3 : Int32) (x4 : Int64) (x6 : Int64) (x8 : Int32) (S : qS) (H : Heap) (locs : List Loc) (ls : Array Slot), pX0_replaceIn_J77 (pX0_replaceIn_L23 (pX0_replaceIn_J83 post xp) post xp n23) post xp x0 x1 x2 x3 x4 x6 x8 S → q_H G A s H locs S → lv_has ls 9 [(0, va_rf x0), (1, .int x1), (2, .int x2), (3, .int x3), (4, .long x4), (6, .long x6), (8, .int x8)] → W p l e (q_rm 1 0 0) s m av below meth c H locs 0 0 (vx_MQ below (q_Qv G post A) (q_XC G A xp) av s 0 0 A) (F0 m 77 ls []) := by
            intro x0 x1 x2 x3 x4 x6 x8 S H locs ls h I hl
            unfold pX0_replaceIn_J77 at h
            refine lv_iinc (v := (x8 + 1)) (lv' := [(8, .int (x8 + 1)), (0, va_rf x0), (1, .int x1), (2, .int x2), (3, .int x3), (4, .long x4), (6, .long x6)]) (k := 6) X.1 X.2.1 dX0_replaceIn_77 hl rfl rfl (by decide) rfl (fun ls hl => ?_)
            refine lv_goto (tgt := 23) X.1 X.2.1 dX0_replaceIn_80 (by decide) ?_
            exact ih23 _ _ _ _ _ _ _ _ _ _ _ h I (lv_sub hl [1, 2, 3, 4, 5, 6, 0] rfl)
          refine lv_icmp_eq (tgt := 77) X.1 X.2.1 dX0_replaceIn_35 (by decide) (fun c35 => ?_) (fun c35 => ?_)
          · have h := h.1 c35
            exact jn77 _ _ _ _ _ _ _ _ _ _ _ h I (lv_sub hl [0, 1, 2, 3, 4, 5, 6] rfl)
          · have h := h.2 c35
            refine q_aload_n X dX0_replaceIn_38 rfl (lv_at hl 0 rfl) ?_
            refine q_getR (ci := 1) (k := 0) X I rfl inb_TX0 wd_80 (by decide) qt_40 dX0_replaceIn_39 h (fun v39 h => ?_)
            refine lv_iload_n X.1 X.2.1 dX0_replaceIn_42 rfl (lv_at hl 1 rfl) ?_
            refine q_ldO21 X I dX0_replaceIn_43 h (fun v43 h => ?_)
            refine lv_iload X.1 X.2.1 dX0_replaceIn_44 (lv_at hl 6 rfl) ?_
            refine lv_lload X.1 X.2.1 dX0_replaceIn_46 (lv_at hl 5 rfl) ?_
            refine q_aload_n X dX0_replaceIn_48 rfl (lv_at hl 0 rfl) ?_
            refine q_getR (ci := 1) (k := 0) X I rfl inb_TX0 wd_80 (by decide) qt_40 dX0_replaceIn_49 h (fun v49 h => ?_)
            refine lv_iload_n X.1 X.2.1 dX0_replaceIn_52 rfl (lv_at hl 2 rfl) ?_
            refine q_ldO21 X I dX0_replaceIn_53 h (fun v53 h => ?_)
            refine lv_iload X.1 X.2.1 dX0_replaceIn_54 (lv_at hl 6 rfl) ?_
            refine q_ldJ X I (by decide) (by decide) dX0_replaceIn_56 h (fun v56 h => ?_)
            refine lv_lmul X.1 X.2.1 dX0_replaceIn_57 ?_
            refine lv_lload X.1 X.2.1 dX0_replaceIn_58 (lv_at hl 4 rfl) ?_
            refine q_aload_n X dX0_replaceIn_60 rfl (lv_at hl 0 rfl) ?_
            refine q_getR (ci := 1) (k := 0) X I rfl inb_TX0 wd_80 (by decide) qt_40 dX0_replaceIn_61 h (fun v61 h => ?_)
            refine lv_iload_n X.1 X.2.1 dX0_replaceIn_64 rfl (lv_at hl 1 rfl) ?_
            refine q_ldO21 X I dX0_replaceIn_65 h (fun v65 h => ?_)
            refine lv_iload X.1 X.2.1 dX0_replaceIn_66 (lv_at hl 6 rfl) ?_
            refine q_ldJ X I (by decide) (by decide) dX0_replaceIn_68 h (fun v68 h => ?_)
            refine lv_lmul X.1 X.2.1 dX0_replaceIn_69 ?_
            refine lv_ladd X.1 X.2.1 dX0_replaceIn_70 ?_
            refine q_aload_n X dX0_replaceIn_71 rfl (lv_at hl 0 rfl) ?_
            refine q_getJ (ci := 1) (k := 4) X I rfl inb_TX0 wd_84 (by decide) qt_44 dX0_replaceIn_72 h (fun v72 h => ?_)
            refine lv_ldiv X.1 X.2.1 dX0_replaceIn_75 h.1 ?_
            have h := h.2
            refine q_stJ X I (by decide) (by decide) dX0_replaceIn_76 h (fun S H locs I h => ?_)
            exact jn77 _ _ _ _ _ _ _ _ _ _ _ h I (lv_sub hl [0, 1, 2, 3, 4, 5, 6] rfl)
    exact lp23 n23 _ _ _ _ _ _ _ _ _ _ _ h I (lv_sub hl [2, 3, 4, 5, 6, 1, 0] rfl)
  · have h := h.2 c6
    exact q_vret X I hr dX0_replaceIn_9 h (by decide) (by decide)

def pX0_exchange_J40  (post : qS → Prop) (xp : String → qS → Prop) (x0 : Option Nat) (x1 : Int32) (x2 : Int32) (x3 : Int64) (S : qS) : Prop :=
  w_getR S x0 1 0 (fun v41 =>
  w_ldO S v41 21 x1 (fun v45 =>
  w_getJ S x0 1 4 (fun v48 =>
  w_stJ S v45 20 x2 (-v48) (fun S =>
  w_putJ S x0 1 4 x3 (fun S =>
  w_getR S x0 1 1 (fun v59 =>
  w_ldI S v59 16 x1 (fun v63 =>
  w_getR S x0 1 1 (fun v67 =>
  w_getR S x0 1 2 (fun v72 =>
  w_ldI S v72 17 x2 (fun v76 =>
  w_stI S v67 16 x1 v76 (fun S =>
  w_getR S x0 1 2 (fun v79 =>
  w_stI S v79 17 x2 v63 (fun S =>
  post S)))))))))))))
def pX0_exchange_J34 (k13 : Option Nat → Int32 → Int32 → Int64 → Int32 → qS → Prop) (post : qS → Prop) (xp : String → qS → Prop) (x0 : Option Nat) (x1 : Int32) (x2 : Int32) (x3 : Int64) (x5 : Int32) (S : qS) : Prop :=
  k13 x0 x1 x2 x3 (x5 + 1) S
def pX0_exchange_L13 (k40 : Option Nat → Int32 → Int32 → Int64 → qS → Prop) (post : qS → Prop) (xp : String → qS → Prop) : Nat → Option Nat → Int32 → Int32 → Int64 → Int32 → qS → Prop
  | 0, _, _, _, _, _, _ => False
  | n13 + 1, x0, x1, x2, x3, x5, S =>
  (((4 : Int32) < x5 →
  k40 x0 x1 x2 x3 S) ∧ (¬ (4 : Int32) < x5 →
  ((x5 = x1 →
  pX0_exchange_J34 (pX0_exchange_L13 k40 post xp n13) post xp x0 x1 x2 x3 x5 S) ∧ (¬ x5 = x1 →
  w_at S x0 1 (fun b31 => pX0_replaceIn b31 x5 x1 x2 x3 S (fun S =>
  pX0_exchange_J34 (pX0_exchange_L13 k40 post xp n13) post xp x0 x1 x2 x3 x5 S) xp)))))
def pX0_exchange (x0 : Nat) (x1 : Int32) (x2 : Int32) (S : qS) (post : qS → Prop) (xp : String → qS → Prop) : Prop :=
  w_getR S (some x0) 1 0 (fun v1 =>
  w_ldO S v1 21 x1 (fun v5 =>
  w_ldJ S v5 20 x2 (fun v7 =>
  ∃ n13, pX0_exchange_L13 (pX0_exchange_J40 post xp) post xp n13 (some x0) x1 x2 (-v7) (0 : Int32) S)))
set_option maxHeartbeats 4000000 in
set_option maxRecDepth 100000 in
theorem kX0_exchange {l : Launch} (hl0 : l.stackTraces = false) {G : qG} {S : qS} {sz : Nat} {x0 : Nat} {x1 : Int32} {x2 : Int32} {post : qS → Prop} {xp : String → qS → Prop} (h : pX0_exchange x0 x1 x2 S post xp) : q_M l yX0_exchange cX0_exchange 6 none 2 0 0 G S sz [va_rf (some x0), .int x1, .int x2] (q_Qv G post) xp := by
  refine q_of (lv := [(0, va_rf (some x0)), (1, .int x1), (2, .int x2)]) hl0 (by decide) rfl (Nat.le_of_ble_eq_true rfl) (fun p e s m below meth c A ls X N hr hnm I hl => ?_)
  generalize ([va_rf (some x0), .int x1, .int x2] : List Value).toArray = av at X ⊢
  unfold pX0_exchange at h
  refine q_aload_n X dX0_exchange_0 rfl (lv_at hl 0 rfl) ?_
  refine q_getR (ci := 1) (k := 0) X I rfl inb_TX0 wd_80 (by decide) qt_40 dX0_exchange_1 h (fun v1 h => ?_)
  refine lv_iload_n X.1 X.2.1 dX0_exchange_4 rfl (lv_at hl 1 rfl) ?_
  refine q_ldO21 X I dX0_exchange_5 h (fun v5 h => ?_)
  refine lv_iload_n X.1 X.2.1 dX0_exchange_6 rfl (lv_at hl 2 rfl) ?_
  refine q_ldJ X I (by decide) (by decide) dX0_exchange_7 h (fun v7 h => ?_)
  refine lv_lneg X.1 X.2.1 dX0_exchange_8 ?_
  refine lv_lstore_n (i := 3) (lv' := [(3, .long (-v7)), (0, va_rf (some x0)), (1, .int x1), (2, .int x2)]) X.1 X.2.1 dX0_exchange_9 rfl hl (by decide) rfl (fun ls hl => ?_)
  refine lv_iconst (v := 0) X.1 X.2.1 dX0_exchange_10 (by decide) ?_
  refine lv_istore (i := 5) (lv' := [(5, .int (0 : Int32)), (3, .long (-v7)), (0, va_rf (some x0)), (1, .int x1), (2, .int x2)]) X.1 X.2.1 dX0_exchange_11 hl (by decide) rfl (fun ls hl => ?_)
  have jn40 : ∀ (x0 : Option Nat) (x1 : Int32) (x2 : Int32) (x3 : Int64) (S : qS) (H : Heap) (locs : List Loc) (ls : Array Slot), pX0_exchange_J40 post xp x0 x1 x2 x3 S → q_H G A s H locs S → lv_has ls 6 [(0, va_rf x0), (1, .int x1), (2, .int x2), (3, .long x3)] → W p l e (q_rm 2 0 0) s m av below meth c H locs 0 0 (vx_MQ below (q_Qv G post A) (q_XC G A xp) av s 0 0 A) (F0 m 40 ls []) := by
    intro x0 x1 x2 x3 S H locs ls h I hl
    unfold pX0_exchange_J40 at h
    refine q_aload_n X dX0_exchange_40 rfl (lv_at hl 0 rfl) ?_
    refine q_getR (ci := 1) (k := 0) X I rfl inb_TX0 wd_80 (by decide) qt_40 dX0_exchange_41 h (fun v41 h => ?_)
    refine lv_iload_n X.1 X.2.1 dX0_exchange_44 rfl (lv_at hl 1 rfl) ?_
    refine q_ldO21 X I dX0_exchange_45 h (fun v45 h => ?_)
    refine lv_iload_n X.1 X.2.1 dX0_exchange_46 rfl (lv_at hl 2 rfl) ?_
    refine q_aload_n X dX0_exchange_47 rfl (lv_at hl 0 rfl) ?_
    refine q_getJ (ci := 1) (k := 4) X I rfl inb_TX0 wd_84 (by decide) qt_44 dX0_exchange_48 h (fun v48 h => ?_)
    refine lv_lneg X.1 X.2.1 dX0_exchange_51 ?_
    refine q_stJ X I (by decide) (by decide) dX0_exchange_52 h (fun S H locs I h => ?_)
    refine q_aload_n X dX0_exchange_53 rfl (lv_at hl 0 rfl) ?_
    refine lv_lload_n X.1 X.2.1 dX0_exchange_54 rfl (lv_at hl 3 rfl) ?_
    refine q_putJ (ci := 1) (k := 4) X I rfl inb_TX0 tyX0_ok nmX0 wd_84 (by decide) (Or.inl rfl) qt_44 rfl dX0_exchange_55 h (fun S H locs I h => ?_)
    refine q_aload_n X dX0_exchange_58 rfl (lv_at hl 0 rfl) ?_
    refine q_getR (ci := 1) (k := 1) X I rfl inb_TX0 wd_81 (by decide) qt_41 dX0_exchange_59 h (fun v59 h => ?_)
    refine lv_iload_n X.1 X.2.1 dX0_exchange_62 rfl (lv_at hl 1 rfl) ?_
    refine q_ldI X I (by decide) (by decide) dX0_exchange_63 h (fun v63 h => ?_)
    refine lv_istore (i := 5) (lv' := [(5, .int v63), (0, va_rf x0), (1, .int x1), (2, .int x2), (3, .long x3)]) X.1 X.2.1 dX0_exchange_64 hl (by decide) rfl (fun ls hl => ?_)
    refine q_aload_n X dX0_exchange_66 rfl (lv_at hl 1 rfl) ?_
    refine q_getR (ci := 1) (k := 1) X I rfl inb_TX0 wd_81 (by decide) qt_41 dX0_exchange_67 h (fun v67 h => ?_)
    refine lv_iload_n X.1 X.2.1 dX0_exchange_70 rfl (lv_at hl 2 rfl) ?_
    refine q_aload_n X dX0_exchange_71 rfl (lv_at hl 1 rfl) ?_
    refine q_getR (ci := 1) (k := 2) X I rfl inb_TX0 wd_82 (by decide) qt_42 dX0_exchange_72 h (fun v72 h => ?_)
    refine lv_iload_n X.1 X.2.1 dX0_exchange_75 rfl (lv_at hl 3 rfl) ?_
    refine q_ldI X I (by decide) (by decide) dX0_exchange_76 h (fun v76 h => ?_)
    refine q_stI X I (by decide) (by decide) dX0_exchange_77 h (fun S H locs I h => ?_)
    refine q_aload_n X dX0_exchange_78 rfl (lv_at hl 1 rfl) ?_
    refine q_getR (ci := 1) (k := 2) X I rfl inb_TX0 wd_82 (by decide) qt_42 dX0_exchange_79 h (fun v79 h => ?_)
    refine lv_iload_n X.1 X.2.1 dX0_exchange_82 rfl (lv_at hl 3 rfl) ?_
    refine lv_iload X.1 X.2.1 dX0_exchange_83 (lv_at hl 0 rfl) ?_
    refine q_stI X I (by decide) (by decide) dX0_exchange_85 h (fun S H locs I h => ?_)
    exact q_vret X I hr dX0_exchange_86 h (by decide) (by decide)
  obtain ⟨n13, h⟩ := h
  have lp13 : ∀ (n13 : Nat) (x0 : Option Nat) (x1 : Int32) (x2 : Int32) (x3 : Int64) (x5 : Int32) (S : qS) (H : Heap) (locs : List Loc) (ls : Array Slot), pX0_exchange_L13 (pX0_exchange_J40 post xp) post xp n13 x0 x1 x2 x3 x5 S → q_H G A s H locs S → lv_has ls 6 [(0, va_rf x0), (1, .int x1), (2, .int x2), (3, .long x3), (5, .int x5)] → W p l e (q_rm 2 0 0) s m av below meth c H locs 0 0 (vx_MQ below (q_Qv G post A) (q_XC G A xp) av s 0 0 A) (F0 m 13 ls []) := by
    intro n13
    induction n13 with
    | zero => intro x0 x1 x2 x3 x5 S H locs ls h I hl; exact h.elim
    | succ n13 ih13 =>
      intro x0 x1 x2 x3 x5 S H locs ls h I hl
      unfold pX0_exchange_L13 at h
      refine lv_iload X.1 X.2.1 dX0_exchange_13 (lv_at hl 4 rfl) ?_
      refine lv_iconst (v := 4) X.1 X.2.1 dX0_exchange_15 (by decide) ?_
      refine lv_icmp_gt (tgt := 40) X.1 X.2.1 dX0_exchange_16 (by decide) (fun c16 => ?_) (fun c16 => ?_)
      · have h := h.1 c16
        exact jn40 _ _ _ _ _ _ _ _ h I (lv_sub hl [0, 1, 2, 3] rfl)
      · have h := h.2 c16
        refine lv_iload X.1 X.2.1 dX0_exchange_19 (lv_at hl 4 rfl) ?_
        refine lv_iload_n X.1 X.2.1 dX0_exchange_21 rfl (lv_at hl 1 rfl) ?_
        have jn34 : ∀ (x0 : Option Nat) (x1 : Int32) (x2 : Int32) (x3 : Int64) (x5 : Int32) (S : qS) (H : Heap) (locs : List Loc) (ls : Array Slot), pX0_exchange_J34 (pX0_exchange_L13 (pX0_exchange_J40 post xp) post xp n13) post xp x0 x1 x2 x3 x5 S → q_H G A s H locs S → lv_has ls 6 [(0, va_rf x0), (1, .int x1), (2, .int x2), (3, .long x3), (5, .int x5)] → W p l e (q_rm 2 0 0) s m av below meth c H locs 0 0 (vx_MQ below (q_Qv G post A) (q_XC G A xp) av s 0 0 A) (F0 m 34 ls []) := by
          intro x0 x1 x2 x3 x5 S H locs ls h I hl
          unfold pX0_exchange_J34 at h
          refine lv_iinc (v := (x5 + 1)) (lv' := [(5, .int (x5 + 1)), (0, va_rf x0), (1, .int x1), (2, .int x2), (3, .long x3)]) (k := 4) X.1 X.2.1 dX0_exchange_34 hl rfl rfl (by decide) rfl (fun ls hl => ?_)
          refine lv_goto (tgt := 13) X.1 X.2.1 dX0_exchange_37 (by decide) ?_
          exact ih13 _ _ _ _ _ _ _ _ _ h I (lv_sub hl [1, 2, 3, 4, 0] rfl)
        refine lv_icmp_eq (tgt := 34) X.1 X.2.1 dX0_exchange_22 (by decide) (fun c22 => ?_) (fun c22 => ?_)
        · have h := h.1 c22
          exact jn34 _ _ _ _ _ _ _ _ _ h I (lv_sub hl [0, 1, 2, 3, 4] rfl)
        · have h := h.2 c22
          refine q_aload_n X dX0_exchange_25 rfl (lv_at hl 0 rfl) ?_
          refine lv_iload X.1 X.2.1 dX0_exchange_26 (lv_at hl 4 rfl) ?_
          refine lv_iload_n X.1 X.2.1 dX0_exchange_28 rfl (lv_at hl 1 rfl) ?_
          refine lv_iload_n X.1 X.2.1 dX0_exchange_29 rfl (lv_at hl 2 rfl) ?_
          refine lv_lload_n X.1 X.2.1 dX0_exchange_30 rfl (lv_at hl 3 rfl) ?_
          refine q_cVv (As := [.int x5, .int x1, .int x2, .long x3]) (rest := []) (c1 := 0) (s1 := 0) (d := 1) (mc := 0) (ms := 0) X N I hl.1 mX0_replaceIn wd_180 dX0_exchange_31 rfl h (fun b h => kX0_replaceIn hl0 h) rfl (Nat.le_of_ble_eq_true rfl) ⟨by decide, by decide⟩ ⟨by decide, by decide⟩ ⟨by decide, by decide⟩ rfl rfl (fun S H locs I h => ?_)
          exact jn34 _ _ _ _ _ _ _ _ _ h I (lv_sub hl [0, 1, 2, 3, 4] rfl)
  exact lp13 n13 _ _ _ _ _ _ _ _ _ h I (lv_sub hl [2, 3, 4, 1, 0] rfl)

def pX0_findsGain_L2  (post : Int32 → qS → Prop) (xp : String → qS → Prop) : Nat → Option Nat → Int32 → qS → Prop
  | 0, _, _, _ => False
  | n2 + 1, x0, x1, S =>
  (((1001 : Int32) ≤ x1 →
  (((0 : Int32) = 0 ∨ (0 : Int32) = 1) ∧ post (0 : Int32) S)) ∧ (¬ (1001 : Int32) ≤ x1 →
  w_at S x0 1 (fun b10 => pX0_risingColumn b10  S (fun v10 S =>
  ((¬ v10 = (-1 : Int32) →
  w_at S x0 1 (fun b23 => pX0_hinderingRow b23 v10 S (fun v23 S =>
  ((¬ v23 = (-1 : Int32) →
  w_at S x0 1 (fun b37 => pX0_exchange b37 v23 v10 S (fun S =>
  (pX0_findsGain_L2 post xp n2) x0 (x1 + 1) S) xp)) ∧ (v23 = (-1 : Int32) →
  (((1 : Int32) = 0 ∨ (1 : Int32) = 1) ∧ post (1 : Int32) S)))) xp)) ∧ (v10 = (-1 : Int32) →
  (((0 : Int32) = 0 ∨ (0 : Int32) = 1) ∧ post (0 : Int32) S)))) xp)))
def pX0_findsGain (x0 : Nat) (S : qS) (post : Int32 → qS → Prop) (xp : String → qS → Prop) : Prop :=
  ∃ n2, pX0_findsGain_L2 post xp n2 (some x0) (0 : Int32) S
set_option maxHeartbeats 4000000 in
set_option maxRecDepth 100000 in
theorem kX0_findsGain {l : Launch} (hl0 : l.stackTraces = false) {G : qG} {S : qS} {sz : Nat} {x0 : Nat} {post : Int32 → qS → Prop} {xp : String → qS → Prop} (h : pX0_findsGain x0 S post xp) : q_M l yX0_findsGain cX0_findsGain 4 (some .boolean) 3 0 0 G S sz [va_rf (some x0)] (q_Qi G post) xp := by
  refine q_of (lv := [(0, va_rf (some x0))]) hl0 (by decide) rfl (Nat.le_of_ble_eq_true rfl) (fun p e s m below meth c A ls X N hr hnm I hl => ?_)
  generalize ([va_rf (some x0)] : List Value).toArray = av at X ⊢
  unfold pX0_findsGain at h
  refine lv_iconst (v := 0) X.1 X.2.1 dX0_findsGain_0 (by decide) ?_
  refine lv_istore_n (i := 1) (lv' := [(1, .int (0 : Int32)), (0, va_rf (some x0))]) X.1 X.2.1 dX0_findsGain_1 rfl hl (by decide) rfl (fun ls hl => ?_)
  obtain ⟨n2, h⟩ := h
  have lp2 : ∀ (n2 : Nat) (x0 : Option Nat) (x1 : Int32) (S : qS) (H : Heap) (locs : List Loc) (ls : Array Slot), pX0_findsGain_L2 post xp n2 x0 x1 S → q_H G A s H locs S → lv_has ls 4 [(0, va_rf x0), (1, .int x1)] → W p l e (q_rm 3 0 0) s m av below meth c H locs 0 0 (vx_MQ below (q_Qi G post A) (q_XC G A xp) av s 0 0 A) (F0 m 2 ls []) := by
    intro n2
    induction n2 with
    | zero => intro x0 x1 S H locs ls h I hl; exact h.elim
    | succ n2 ih2 =>
      intro x0 x1 S H locs ls h I hl
      unfold pX0_findsGain_L2 at h
      refine lv_iload_n X.1 X.2.1 dX0_findsGain_2 rfl (lv_at hl 1 rfl) ?_
      refine lv_sipush (v := 1001) X.1 X.2.1 dX0_findsGain_3 (by decide) ?_
      refine lv_icmp_ge (tgt := 46) X.1 X.2.1 dX0_findsGain_6 (by decide) (fun c6 => ?_) (fun c6 => ?_)
      · have h := h.1 c6
        refine lv_iconst (v := 0) X.1 X.2.1 dX0_findsGain_46 (by decide) ?_
        exact q_zret X I hr dX0_findsGain_47 h (by decide) (by decide)
      · have h := h.2 c6
        refine q_aload_n X dX0_findsGain_9 rfl (lv_at hl 0 rfl) ?_
        refine q_cVi (As := []) (rest := []) (c1 := 0) (s1 := 0) (d := 1) (mc := 0) (ms := 0) X N I hl.1 mX0_risingColumn wd_168 dX0_findsGain_10 rfl h (fun b h => kX0_risingColumn hl0 h) rfl (Nat.le_of_ble_eq_true rfl) ⟨by decide, by decide⟩ ⟨by decide, by decide⟩ ⟨by decide, by decide⟩ rfl rfl (fun v10 S H locs I h => ?_)
        refine lv_istore_n (i := 2) (lv' := [(2, .int v10), (0, va_rf x0), (1, .int x1)]) X.1 X.2.1 dX0_findsGain_13 rfl hl (by decide) rfl (fun ls hl => ?_)
        refine lv_iload_n X.1 X.2.1 dX0_findsGain_14 rfl (lv_at hl 0 rfl) ?_
        refine lv_iconst (v := -1) X.1 X.2.1 dX0_findsGain_15 (by decide) ?_
        refine lv_icmp_ne (tgt := 21) X.1 X.2.1 dX0_findsGain_16 (by decide) (fun c16 => ?_) (fun c16 => ?_)
        · have h := h.1 c16
          refine q_aload_n X dX0_findsGain_21 rfl (lv_at hl 1 rfl) ?_
          refine lv_iload_n X.1 X.2.1 dX0_findsGain_22 rfl (lv_at hl 0 rfl) ?_
          refine q_cVi (As := [.int v10]) (rest := []) (c1 := 0) (s1 := 0) (d := 1) (mc := 0) (ms := 0) X N I hl.1 mX0_hinderingRow wd_172 dX0_findsGain_23 rfl h (fun b h => kX0_hinderingRow hl0 h) rfl (Nat.le_of_ble_eq_true rfl) ⟨by decide, by decide⟩ ⟨by decide, by decide⟩ ⟨by decide, by decide⟩ rfl rfl (fun v23 S H locs I h => ?_)
          refine lv_istore_n (i := 3) (lv' := [(3, .int v23), (2, .int v10), (0, va_rf x0), (1, .int x1)]) X.1 X.2.1 dX0_findsGain_26 rfl hl (by decide) rfl (fun ls hl => ?_)
          refine lv_iload_n X.1 X.2.1 dX0_findsGain_27 rfl (lv_at hl 0 rfl) ?_
          refine lv_iconst (v := -1) X.1 X.2.1 dX0_findsGain_28 (by decide) ?_
          refine lv_icmp_ne (tgt := 34) X.1 X.2.1 dX0_findsGain_29 (by decide) (fun c29 => ?_) (fun c29 => ?_)
          · have h := h.1 c29
            refine q_aload_n X dX0_findsGain_34 rfl (lv_at hl 2 rfl) ?_
            refine lv_iload_n X.1 X.2.1 dX0_findsGain_35 rfl (lv_at hl 0 rfl) ?_
            refine lv_iload_n X.1 X.2.1 dX0_findsGain_36 rfl (lv_at hl 1 rfl) ?_
            refine q_cVv (As := [.int v23, .int v10]) (rest := []) (c1 := 0) (s1 := 0) (d := 2) (mc := 0) (ms := 0) X N I hl.1 mX0_exchange wd_176 dX0_findsGain_37 rfl h (fun b h => kX0_exchange hl0 h) rfl (Nat.le_of_ble_eq_true rfl) ⟨by decide, by decide⟩ ⟨by decide, by decide⟩ ⟨by decide, by decide⟩ rfl rfl (fun S H locs I h => ?_)
            refine lv_iinc (v := (x1 + 1)) (lv' := [(1, .int (x1 + 1)), (3, .int v23), (2, .int v10), (0, va_rf x0)]) (k := 3) X.1 X.2.1 dX0_findsGain_40 hl rfl rfl (by decide) (by simp [q_cat, q_catI, q_catJ]) (fun ls hl => ?_)
            refine lv_goto (tgt := 2) X.1 X.2.1 dX0_findsGain_43 (by decide) ?_
            exact ih2 _ _ _ _ _ _ h I (lv_sub hl [3, 0] rfl)
          · have h := h.2 c29
            refine lv_iconst (v := 1) X.1 X.2.1 dX0_findsGain_32 (by decide) ?_
            exact q_zret X I hr dX0_findsGain_33 h (by decide) (by decide)
        · have h := h.2 c16
          refine lv_iconst (v := 0) X.1 X.2.1 dX0_findsGain_19 (by decide) ?_
          exact q_zret X I hr dX0_findsGain_20 h (by decide) (by decide)
  exact lp2 n2 _ _ _ _ _ _ h I (lv_sub hl [1, 0] rfl)
