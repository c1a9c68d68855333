def pX8_leaves (x0 : Nat) (x1 : Int32) (x2 : Int32) (S : qS) (post : Int32 → qS → Prop) (xp : String → qS → Prop) : Prop :=
  w_getR S (some x0) 9 8 (fun v1 =>
  w_ldI S v1 38 (((4 : Int32) * x1) + x2) (fun v9 =>
  w_getR S (some x0) 9 7 (fun v11 =>
  w_ldI S v11 37 (((4 : Int32) * x1) + x2) (fun v19 =>
  post (v9 - v19) S))))
set_option maxHeartbeats 4000000 in
set_option maxRecDepth 100000 in
theorem kX8_leaves {l : Launch} (hl0 : l.stackTraces = false) {G : qG} {S : qS} {sz : Nat} {x0 : Nat} {x1 : Int32} {x2 : Int32} {post : Int32 → qS → Prop} {xp : String → qS → Prop} (h : pX8_leaves x0 x1 x2 S post xp) : q_M l yX8_leaves cX8_leaves 3 (some .int) 1 0 0 G S sz [va_rf (some x0), .int x1, .int x2] (q_Qi G post) xp := by
  refine q_of (lv := [(0, va_rf (some x0)), (1, .int x1), (2, .int x2)]) hl0 (by decide) rfl (Nat.le_of_ble_eq_true rfl) (fun p e s m below meth c A ls X N hr hnm I hl => ?_)
  generalize ([va_rf (some x0), .int x1, .int x2] : List Value).toArray = av at X ⊢
  unfold pX8_leaves at h
  refine q_aload_n X dX8_leaves_0 rfl (lv_at hl 0 rfl) ?_
  refine q_getR (ci := 9) (k := 8) X I rfl inb_TX8 wd_846 (by decide) qt_368 dX8_leaves_1 h (fun v1 h => ?_)
  refine lv_iconst (v := 4) X.1 X.2.1 dX8_leaves_4 (by decide) ?_
  refine lv_iload_n X.1 X.2.1 dX8_leaves_5 rfl (lv_at hl 1 rfl) ?_
  refine lv_imul X.1 X.2.1 dX8_leaves_6 ?_
  refine lv_iload_n X.1 X.2.1 dX8_leaves_7 rfl (lv_at hl 2 rfl) ?_
  refine lv_iadd X.1 X.2.1 dX8_leaves_8 ?_
  refine q_ldI X I (by decide) (by decide) dX8_leaves_9 h (fun v9 h => ?_)
  refine q_aload_n X dX8_leaves_10 rfl (lv_at hl 0 rfl) ?_
  refine q_getR (ci := 9) (k := 7) X I rfl inb_TX8 wd_845 (by decide) qt_367 dX8_leaves_11 h (fun v11 h => ?_)
  refine lv_iconst (v := 4) X.1 X.2.1 dX8_leaves_14 (by decide) ?_
  refine lv_iload_n X.1 X.2.1 dX8_leaves_15 rfl (lv_at hl 1 rfl) ?_
  refine lv_imul X.1 X.2.1 dX8_leaves_16 ?_
  refine lv_iload_n X.1 X.2.1 dX8_leaves_17 rfl (lv_at hl 2 rfl) ?_
  refine lv_iadd X.1 X.2.1 dX8_leaves_18 ?_
  refine q_ldI X I (by decide) (by decide) dX8_leaves_19 h (fun v19 h => ?_)
  refine lv_isub X.1 X.2.1 dX8_leaves_20 ?_
  exact q_iret X I hr dX8_leaves_21 h (by decide) (by decide)

def pX8_bounds_J75 (k2 : Option Nat → Int32 → qS → Prop) (post : qS → Prop) (xp : String → qS → Prop) (x0 : Option Nat) (x1 : Int32) (S : qS) : Prop :=
  k2 x0 (x1 + 1) S
def pX8_bounds_J68 (k14 : Option Nat → Int32 → Int32 → qS → Prop) (post : qS → Prop) (xp : String → qS → Prop) (x0 : Option Nat) (x1 : Int32) (x2 : Int32) (t0 : Option Nat) (t1 : Int32) (t2 : Int32) (S : qS) : Prop :=
  w_stI S t0 61 t1 t2 (fun S =>
  k14 x0 x1 (x2 + 1) S)
def pX8_bounds_L14 (k75 : Option Nat → Int32 → qS → Prop) (post : qS → Prop) (xp : String → qS → Prop) : Nat → Option Nat → Int32 → Int32 → qS → Prop
  | 0, _, _, _, _ => False
  | n14 + 1, x0, x1, x2, S =>
  w_getI S x0 9 30 (fun v16 =>
  ((v16 ≤ x2 →
  k75 x0 x1 S) ∧ (¬ v16 ≤ x2 →
  w_getR S x0 9 31 (fun v23 =>
  w_getI S x0 9 30 (fun v33 =>
  ((v33 ≤ x1 →
  w_getR S x0 9 29 (fun v54 =>
  w_ldI S v54 59 x2 (fun v58 =>
  w_getI S x0 9 30 (fun v61 =>
  w_at S x0 9 (fun b65 => pX8_leaves b65 v58 (x1 - v61) S (fun v65 S =>
  pX8_bounds_J68 (pX8_bounds_L14 k75 post xp n14) post xp x0 x1 x2 v23 (((4 : Int32) * x1) + x2) v65 S) xp))))) ∧ (¬ v33 ≤ x1 →
  ((¬ x1 = x2 →
  pX8_bounds_J68 (pX8_bounds_L14 k75 post xp n14) post xp x0 x1 x2 v23 (((4 : Int32) * x1) + x2) (0 : Int32) S) ∧ (x1 = x2 →
  pX8_bounds_J68 (pX8_bounds_L14 k75 post xp n14) post xp x0 x1 x2 v23 (((4 : Int32) * x1) + x2) (1 : Int32) S)))))))))
def pX8_bounds_L2  (post : qS → Prop) (xp : String → qS → Prop) : Nat → Option Nat → Int32 → qS → Prop
  | 0, _, _, _ => False
  | n2 + 1, x0, x1, S =>
  w_getI S x0 9 30 (fun v4 =>
  (((v4 + (4 : Int32)) ≤ x1 →
  post S) ∧ (¬ (v4 + (4 : Int32)) ≤ x1 →
  ∃ n14, pX8_bounds_L14 (pX8_bounds_J75 (pX8_bounds_L2 post xp n2) post xp) post xp n14 x0 x1 (0 : Int32) S)))
def pX8_bounds (x0 : Nat) (S : qS) (post : qS → Prop) (xp : String → qS → Prop) : Prop :=
  ∃ n2, pX8_bounds_L2 post xp n2 (some x0) (0 : Int32) S
set_option maxHeartbeats 4000000 in
set_option maxRecDepth 100000 in
theorem kX8_bounds {l : Launch} (hl0 : l.stackTraces = false) {G : qG} {S : qS} {sz : Nat} {x0 : Nat} {post : qS → Prop} {xp : String → qS → Prop} (h : pX8_bounds x0 S post xp) : q_M l yX8_bounds cX8_bounds 3 none 2 0 0 G S sz [va_rf (some x0)] (q_Qv G post) xp := by
  refine q_of (lv := [(0, va_rf (some x0))]) hl0 (by decide) rfl (Nat.le_of_ble_eq_true rfl) (fun p e s m below meth c A ls X N hr hnm I hl => ?_)
  generalize ([va_rf (some x0)] : List Value).toArray = av at X ⊢
  unfold pX8_bounds at h
  refine lv_iconst (v := 0) X.1 X.2.1 dX8_bounds_0 (by decide) ?_
  refine lv_istore_n (i := 1) (lv' := [(1, .int (0 : Int32)), (0, va_rf (some x0))]) X.1 X.2.1 dX8_bounds_1 rfl hl (by decide) rfl (fun ls hl => ?_)
  obtain ⟨n2, h⟩ := h
  have lp2 : ∀ (n2 : Nat) (x0 : Option Nat) (x1 : Int32) (S : qS) (H : Heap) (locs : List Loc) (ls : Array Slot), pX8_bounds_L2 post xp n2 x0 x1 S → q_H G A s H locs S → lv_has ls 3 [(0, va_rf x0), (1, .int x1)] → W p l e (q_rm 2 0 0) s m av below meth c H locs 0 0 (vx_MQ below (q_Qv G post A) (q_XC G A xp) av s 0 0 A) (F0 m 2 ls []) := by
    intro n2
    induction n2 with
    | zero => intro x0 x1 S H locs ls h I hl; exact h.elim
    | succ n2 ih2 =>
      intro x0 x1 S H locs ls h I hl
      unfold pX8_bounds_L2 at h
      refine lv_iload_n X.1 X.2.1 dX8_bounds_2 rfl (lv_at hl 1 rfl) ?_
      refine q_aload_n X dX8_bounds_3 rfl (lv_at hl 0 rfl) ?_
      refine q_getI (ci := 9) (k := 30) X I rfl inb_TX8 wd_868 (by decide) qt_390 dX8_bounds_4 h (fun v4 h => ?_)
      refine lv_iconst (v := 4) X.1 X.2.1 dX8_bounds_7 (by decide) ?_
      refine lv_iadd X.1 X.2.1 dX8_bounds_8 ?_
      refine lv_icmp_ge (tgt := 81) X.1 X.2.1 dX8_bounds_9 (by decide) (fun c9 => ?_) (fun c9 => ?_)
      · have h := h.1 c9
        exact q_vret X I hr dX8_bounds_81 h (by decide) (by decide)
      · have h := h.2 c9
        refine lv_iconst (v := 0) X.1 X.2.1 dX8_bounds_12 (by decide) ?_
        refine lv_istore_n (i := 2) (lv' := [(2, .int (0 : Int32)), (0, va_rf x0), (1, .int x1)]) X.1 X.2.1 dX8_bounds_13 rfl hl (by decide) rfl (fun ls hl => ?_)
        have jn75 : ∀ (x0 : Option Nat) (x1 : Int32) (S : qS) (H : Heap) (locs : List Loc) (ls : Array Slot), pX8_bounds_J75 (pX8_bounds_L2 post xp n2) post xp x0 x1 S → q_H G A s H locs S → lv_has ls 3 [(0, va_rf x0), (1, .int x1)] → W p l e (q_rm 2 0 0) s m av below meth c H locs 0 0 (vx_MQ below (q_Qv G post A) (q_XC G A xp) av s 0 0 A) (F0 m 75 ls []) := by
          intro x0 x1 S H locs ls h I hl
          unfold pX8_bounds_J75 at h
          refine lv_iinc (v := (x1 + 1)) (lv' := [(1, .int (x1 + 1)), (0, va_rf x0)]) (k := 1) X.1 X.2.1 dX8_bounds_75 hl rfl rfl (by decide) (by simp [q_cat, q_catI, q_catJ]) (fun ls hl => ?_)
          refine lv_goto (tgt := 2) X.1 X.2.1 dX8_bounds_78 (by decide) ?_
          exact ih2 _ _ _ _ _ _ h I (lv_sub hl [1, 0] rfl)
        obtain ⟨n14, h⟩ := h
        have lp14 : ∀ (n14 : Nat) (x0 : Option Nat) (x1 : Int32) (x2 : Int32) (S : qS) (H : Heap) (locs : List Loc) (ls : Array Slot), pX8_bounds_L14 (pX8_bounds_J75 (pX8_bounds_L2 post xp n2) post xp) post xp n14 x0 x1 x2 S → q_H G A s H locs S → lv_has ls 3 [(0, va_rf x0), (1, .int x1), (2, .int x2)] → W p l e (q_rm 2 0 0) s m av below meth c H locs 0 0 (vx_MQ below (q_Qv G post A) (q_XC G A xp) av s 0 0 A) (F0 m 14 ls []) := by
          intro n14
          induction n14 with
          | zero => intro x0 x1 x2 S H locs ls h I hl; exact h.elim
          | succ n14 ih14 =>
            intro x0 x1 x2 S H locs ls h I hl
            unfold pX8_bounds_L14 at h
            refine lv_iload_n X.1 X.2.1 dX8_bounds_14 rfl (lv_at hl 2 rfl) ?_
            refine q_aload_n X dX8_bounds_15 rfl (lv_at hl 0 rfl) ?_
            refine q_getI (ci := 9) (k := 30) X I rfl inb_TX8 wd_868 (by decide) qt_390 dX8_bounds_16 h (fun v16 h => ?_)
            refine lv_icmp_ge (tgt := 75) X.1 X.2.1 dX8_bounds_19 (by decide) (fun c19 => ?_) (fun c19 => ?_)
            · have h := h.1 c19
              exact jn75 _ _ _ _ _ _ h I (lv_sub hl [0, 1] rfl)
            · have h := h.2 c19
              refine q_aload_n X dX8_bounds_22 rfl (lv_at hl 0 rfl) ?_
              refine q_getR (ci := 9) (k := 31) X I rfl inb_TX8 wd_869 (by decide) qt_391 dX8_bounds_23 h (fun v23 h => ?_)
              refine lv_iconst (v := 4) X.1 X.2.1 dX8_bounds_26 (by decide) ?_
              refine lv_iload_n X.1 X.2.1 dX8_bounds_27 rfl (lv_at hl 1 rfl) ?_
              refine lv_imul X.1 X.2.1 dX8_bounds_28 ?_
              refine lv_iload_n X.1 X.2.1 dX8_bounds_29 rfl (lv_at hl 2 rfl) ?_
              refine lv_iadd X.1 X.2.1 dX8_bounds_30 ?_
              refine lv_iload_n X.1 X.2.1 dX8_bounds_31 rfl (lv_at hl 1 rfl) ?_
              refine q_aload_n X dX8_bounds_32 rfl (lv_at hl 0 rfl) ?_
              refine q_getI (ci := 9) (k := 30) X I rfl inb_TX8 wd_868 (by decide) qt_390 dX8_bounds_33 h (fun v33 h => ?_)
              have jn68 : ∀ (x0 : Option Nat) (x1 : Int32) (x2 : Int32) (t0 : Option Nat) (t1 : Int32) (t2 : Int32) (S : qS) (H : Heap) (locs : List Loc) (ls : Array Slot), pX8_bounds_J68 (pX8_bounds_L14 (pX8_bounds_J75 (pX8_bounds_L2 post xp n2) post xp) post xp n14) post xp x0 x1 x2 t0 t1 t2 S → q_H G A s H locs S → lv_has ls 3 [(0, va_rf x0), (1, .int x1), (2, .int x2)] → W p l e (q_rm 2 0 0) s m av below meth c H locs 0 0 (vx_MQ below (q_Qv G post A) (q_XC G A xp) av s 0 0 A) (F0 m 68 ls [.int t2, .int t1, va_rf t0]) := by
                intro x0 x1 x2 t0 t1 t2 S H locs ls h I hl
                unfold pX8_bounds_J68 at h
                refine q_stI X I (by decide) (by decide) dX8_bounds_68 h (fun S H locs I h => ?_)
                refine lv_iinc (v := (x2 + 1)) (lv' := [(2, .int (x2 + 1)), (0, va_rf x0), (1, .int x1)]) (k := 2) X.1 X.2.1 dX8_bounds_69 hl rfl rfl (by decide) rfl (fun ls hl => ?_)
                refine lv_goto (tgt := 14) X.1 X.2.1 dX8_bounds_72 (by decide) ?_
                exact ih14 _ _ _ _ _ _ _ h I (lv_sub hl [1, 2, 0] rfl)
              refine lv_icmp_ge (tgt := 52) X.1 X.2.1 dX8_bounds_36 (by decide) (fun c36 => ?_) (fun c36 => ?_)
              · have h := h.1 c36
                refine q_aload_n X dX8_bounds_52 rfl (lv_at hl 0 rfl) ?_
                refine q_aload_n X dX8_bounds_53 rfl (lv_at hl 0 rfl) ?_
                refine q_getR (ci := 9) (k := 29) X I rfl inb_TX8 wd_867 (by decide) qt_389 dX8_bounds_54 h (fun v54 h => ?_)
                refine lv_iload_n X.1 X.2.1 dX8_bounds_57 rfl (lv_at hl 2 rfl) ?_
                refine q_ldI X I (by decide) (by decide) dX8_bounds_58 h (fun v58 h => ?_)
                refine lv_iload_n X.1 X.2.1 dX8_bounds_59 rfl (lv_at hl 1 rfl) ?_
                refine q_aload_n X dX8_bounds_60 rfl (lv_at hl 0 rfl) ?_
                refine q_getI (ci := 9) (k := 30) X I rfl inb_TX8 wd_868 (by decide) qt_390 dX8_bounds_61 h (fun v61 h => ?_)
                refine lv_isub X.1 X.2.1 dX8_bounds_64 ?_
                refine q_cVi (As := [.int v58, .int (x1 - v61)]) (rest := [.int (((4 : Int32) * x1) + x2), va_rf v23]) (c1 := 0) (s1 := 0) (d := 1) (mc := 0) (ms := 0) X N I hl.1 mX8_leaves wd_1102 dX8_bounds_65 rfl h (fun b h => kX8_leaves hl0 h) rfl (by simp [q_cat, q_catI, q_catJ]) ⟨by decide, by decide⟩ ⟨by decide, by decide⟩ ⟨by decide, by decide⟩ rfl rfl (fun v65 S H locs I h => ?_)
                exact jn68 _ _ _ _ _ _ _ _ _ _ h I (lv_sub hl [0, 1, 2] rfl)
              · have h := h.2 c36
                refine lv_iload_n X.1 X.2.1 dX8_bounds_39 rfl (lv_at hl 1 rfl) ?_
                refine lv_iload_n X.1 X.2.1 dX8_bounds_40 rfl (lv_at hl 2 rfl) ?_
                refine lv_icmp_ne (tgt := 48) X.1 X.2.1 dX8_bounds_41 (by decide) (fun c41 => ?_) (fun c41 => ?_)
                · have h := h.1 c41
                  refine lv_iconst (v := 0) X.1 X.2.1 dX8_bounds_48 (by decide) ?_
                  refine lv_goto (tgt := 68) X.1 X.2.1 dX8_bounds_49 (by decide) ?_
                  exact jn68 _ _ _ _ _ _ _ _ _ _ h I (lv_sub hl [0, 1, 2] rfl)
                · have h := h.2 c41
                  refine lv_iconst (v := 1) X.1 X.2.1 dX8_bounds_44 (by decide) ?_
                  refine lv_goto (tgt := 68) X.1 X.2.1 dX8_bounds_45 (by decide) ?_
                  exact jn68 _ _ _ _ _ _ _ _ _ _ h I (lv_sub hl [0, 1, 2] rfl)
        exact lp14 n14 _ _ _ _ _ _ _ h I (lv_sub hl [1, 2, 0] rfl)
  exact lp2 n2 _ _ _ _ _ _ h I (lv_sub hl [1, 0] rfl)

def pX8_two (x0 : Nat) (x1 : Int32) (x2 : Int32) (x3 : Int32) (x4 : Int32) (S : qS) (post : Int64 → qS → Prop) (xp : String → qS → Prop) : Prop :=
  w_getR S (some x0) 9 31 (fun v1 =>
  w_ldI S v1 61 (((4 : Int32) * x1) + x3) (fun v9 =>
  w_getR S (some x0) 9 31 (fun v12 =>
  w_ldI S v12 61 (((4 : Int32) * x2) + x4) (fun v21 =>
  w_getR S (some x0) 9 31 (fun v25 =>
  w_ldI S v25 61 (((4 : Int32) * x1) + x4) (fun v34 =>
  w_getR S (some x0) 9 31 (fun v37 =>
  w_ldI S v37 61 (((4 : Int32) * x2) + x3) (fun v45 =>
  post ((v9.toInt64 * v21.toInt64) - (v34.toInt64 * v45.toInt64)) S))))))))
set_option maxHeartbeats 4000000 in
set_option maxRecDepth 100000 in
theorem kX8_two {l : Launch} (hl0 : l.stackTraces = false) {G : qG} {S : qS} {sz : Nat} {x0 : Nat} {x1 : Int32} {x2 : Int32} {x3 : Int32} {x4 : Int32} {post : Int64 → qS → Prop} {xp : String → qS → Prop} (h : pX8_two x0 x1 x2 x3 x4 S post xp) : q_M l yX8_two cX8_two 5 (some .long) 1 0 0 G S sz [va_rf (some x0), .int x1, .int x2, .int x3, .int x4] (q_Qj G post) xp := by
  refine q_of (lv := [(0, va_rf (some x0)), (1, .int x1), (2, .int x2), (3, .int x3), (4, .int x4)]) hl0 (by decide) rfl (Nat.le_of_ble_eq_true rfl) (fun p e s m below meth c A ls X N hr hnm I hl => ?_)
  generalize ([va_rf (some x0), .int x1, .int x2, .int x3, .int x4] : List Value).toArray = av at X ⊢
  unfold pX8_two at h
  refine q_aload_n X dX8_two_0 rfl (lv_at hl 0 rfl) ?_
  refine q_getR (ci := 9) (k := 31) X I rfl inb_TX8 wd_869 (by decide) qt_391 dX8_two_1 h (fun v1 h => ?_)
  refine lv_iconst (v := 4) X.1 X.2.1 dX8_two_4 (by decide) ?_
  refine lv_iload_n X.1 X.2.1 dX8_two_5 rfl (lv_at hl 1 rfl) ?_
  refine lv_imul X.1 X.2.1 dX8_two_6 ?_
  refine lv_iload_n X.1 X.2.1 dX8_two_7 rfl (lv_at hl 3 rfl) ?_
  refine lv_iadd X.1 X.2.1 dX8_two_8 ?_
  refine q_ldI X I (by decide) (by decide) dX8_two_9 h (fun v9 h => ?_)
  refine lv_i2l X.1 X.2.1 dX8_two_10 rfl ?_
  refine q_aload_n X dX8_two_11 rfl (lv_at hl 0 rfl) ?_
  refine q_getR (ci := 9) (k := 31) X I rfl inb_TX8 wd_869 (by decide) qt_391 dX8_two_12 h (fun v12 h => ?_)
  refine lv_iconst (v := 4) X.1 X.2.1 dX8_two_15 (by decide) ?_
  refine lv_iload_n X.1 X.2.1 dX8_two_16 rfl (lv_at hl 2 rfl) ?_
  refine lv_imul X.1 X.2.1 dX8_two_17 ?_
  refine lv_iload X.1 X.2.1 dX8_two_18 (lv_at hl 4 rfl) ?_
  refine lv_iadd X.1 X.2.1 dX8_two_20 ?_
  refine q_ldI X I (by decide) (by decide) dX8_two_21 h (fun v21 h => ?_)
  refine lv_i2l X.1 X.2.1 dX8_two_22 rfl ?_
  refine lv_lmul X.1 X.2.1 dX8_two_23 ?_
  refine q_aload_n X dX8_two_24 rfl (lv_at hl 0 rfl) ?_
  refine q_getR (ci := 9) (k := 31) X I rfl inb_TX8 wd_869 (by decide) qt_391 dX8_two_25 h (fun v25 h => ?_)
  refine lv_iconst (v := 4) X.1 X.2.1 dX8_two_28 (by decide) ?_
  refine lv_iload_n X.1 X.2.1 dX8_two_29 rfl (lv_at hl 1 rfl) ?_
  refine lv_imul X.1 X.2.1 dX8_two_30 ?_
  refine lv_iload X.1 X.2.1 dX8_two_31 (lv_at hl 4 rfl) ?_
  refine lv_iadd X.1 X.2.1 dX8_two_33 ?_
  refine q_ldI X I (by decide) (by decide) dX8_two_34 h (fun v34 h => ?_)
  refine lv_i2l X.1 X.2.1 dX8_two_35 rfl ?_
  refine q_aload_n X dX8_two_36 rfl (lv_at hl 0 rfl) ?_
  refine q_getR (ci := 9) (k := 31) X I rfl inb_TX8 wd_869 (by decide) qt_391 dX8_two_37 h (fun v37 h => ?_)
  refine lv_iconst (v := 4) X.1 X.2.1 dX8_two_40 (by decide) ?_
  refine lv_iload_n X.1 X.2.1 dX8_two_41 rfl (lv_at hl 2 rfl) ?_
  refine lv_imul X.1 X.2.1 dX8_two_42 ?_
  refine lv_iload_n X.1 X.2.1 dX8_two_43 rfl (lv_at hl 3 rfl) ?_
  refine lv_iadd X.1 X.2.1 dX8_two_44 ?_
  refine q_ldI X I (by decide) (by decide) dX8_two_45 h (fun v45 h => ?_)
  refine lv_i2l X.1 X.2.1 dX8_two_46 rfl ?_
  refine lv_lmul X.1 X.2.1 dX8_two_47 ?_
  refine lv_lsub X.1 X.2.1 dX8_two_48 ?_
  exact q_lret X I hr dX8_two_49 h (by decide) (by decide)

def pX8_three (x0 : Nat) (x1 : Int32) (x2 : Int32) (x3 : Int32) (x4 : Int32) (x5 : Int32) (x6 : Int32) (S : qS) (post : Int64 → qS → Prop) (xp : String → qS → Prop) : Prop :=
  w_getR S (some x0) 9 31 (fun v1 =>
  w_ldI S v1 61 (((4 : Int32) * x1) + x4) (fun v10 =>
  w_at S (some x0) 9 (fun b19 => pX8_two b19 x2 x3 x5 x6 S (fun v19 S =>
  w_getR S (some x0) 9 31 (fun v24 =>
  w_ldI S v24 61 (((4 : Int32) * x1) + x5) (fun v33 =>
  w_at S (some x0) 9 (fun b42 => pX8_two b42 x2 x3 x4 x6 S (fun v42 S =>
  w_getR S (some x0) 9 31 (fun v48 =>
  w_ldI S v48 61 (((4 : Int32) * x1) + x6) (fun v57 =>
  w_at S (some x0) 9 (fun b66 => pX8_two b66 x2 x3 x4 x5 S (fun v66 S =>
  post (((v10.toInt64 * v19) - (v33.toInt64 * v42)) + (v57.toInt64 * v66)) S) xp)))) xp)))) xp)))
set_option maxHeartbeats 4000000 in
set_option maxRecDepth 100000 in
theorem kX8_three {l : Launch} (hl0 : l.stackTraces = false) {G : qG} {S : qS} {sz : Nat} {x0 : Nat} {x1 : Int32} {x2 : Int32} {x3 : Int32} {x4 : Int32} {x5 : Int32} {x6 : Int32} {post : Int64 → qS → Prop} {xp : String → qS → Prop} (h : pX8_three x0 x1 x2 x3 x4 x5 x6 S post xp) : q_M l yX8_three cX8_three 7 (some .long) 2 0 0 G S sz [va_rf (some x0), .int x1, .int x2, .int x3, .int x4, .int x5, .int x6] (q_Qj G post) xp := by
  refine q_of (lv := [(0, va_rf (some x0)), (1, .int x1), (2, .int x2), (3, .int x3), (4, .int x4), (5, .int x5), (6, .int x6)]) hl0 (by decide) rfl (Nat.le_of_ble_eq_true rfl) (fun p e s m below meth c A ls X N hr hnm I hl => ?_)
  generalize ([va_rf (some x0), .int x1, .int x2, .int x3, .int x4, .int x5, .int x6] : List Value).toArray = av at X ⊢
  unfold pX8_three at h
  refine q_aload_n X dX8_three_0 rfl (lv_at hl 0 rfl) ?_
  refine q_getR (ci := 9) (k := 31) X I rfl inb_TX8 wd_869 (by decide) qt_391 dX8_three_1 h (fun v1 h => ?_)
  refine lv_iconst (v := 4) X.1 X.2.1 dX8_three_4 (by decide) ?_
  refine lv_iload_n X.1 X.2.1 dX8_three_5 rfl (lv_at hl 1 rfl) ?_
  refine lv_imul X.1 X.2.1 dX8_three_6 ?_
  refine lv_iload X.1 X.2.1 dX8_three_7 (lv_at hl 4 rfl) ?_
  refine lv_iadd X.1 X.2.1 dX8_three_9 ?_
  refine q_ldI X I (by decide) (by decide) dX8_three_10 h (fun v10 h => ?_)
  refine lv_i2l X.1 X.2.1 dX8_three_11 rfl ?_
  refine q_aload_n X dX8_three_12 rfl (lv_at hl 0 rfl) ?_
  refine lv_iload_n X.1 X.2.1 dX8_three_13 rfl (lv_at hl 2 rfl) ?_
  refine lv_iload_n X.1 X.2.1 dX8_three_14 rfl (lv_at hl 3 rfl) ?_
  refine lv_iload X.1 X.2.1 dX8_three_15 (lv_at hl 5 rfl) ?_
  refine lv_iload X.1 X.2.1 dX8_three_17 (lv_at hl 6 rfl) ?_
  refine q_cVj (As := [.int x2, .int x3, .int x5, .int x6]) (rest := [.long v10.toInt64]) (c1 := 0) (s1 := 0) (d := 1) (mc := 0) (ms := 0) X N I hl.1 mX8_two wd_1115 dX8_three_19 rfl h (fun b h => kX8_two hl0 h) rfl (Nat.le_of_ble_eq_true rfl) ⟨by decide, by decide⟩ ⟨by decide, by decide⟩ ⟨by decide, by decide⟩ rfl rfl (fun v19 S H locs I h => ?_)
  refine lv_lmul X.1 X.2.1 dX8_three_22 ?_
  refine q_aload_n X dX8_three_23 rfl (lv_at hl 0 rfl) ?_
  refine q_getR (ci := 9) (k := 31) X I rfl inb_TX8 wd_869 (by decide) qt_391 dX8_three_24 h (fun v24 h => ?_)
  refine lv_iconst (v := 4) X.1 X.2.1 dX8_three_27 (by decide) ?_
  refine lv_iload_n X.1 X.2.1 dX8_three_28 rfl (lv_at hl 1 rfl) ?_
  refine lv_imul X.1 X.2.1 dX8_three_29 ?_
  refine lv_iload X.1 X.2.1 dX8_three_30 (lv_at hl 5 rfl) ?_
  refine lv_iadd X.1 X.2.1 dX8_three_32 ?_
  refine q_ldI X I (by decide) (by decide) dX8_three_33 h (fun v33 h => ?_)
  refine lv_i2l X.1 X.2.1 dX8_three_34 rfl ?_
  refine q_aload_n X dX8_three_35 rfl (lv_at hl 0 rfl) ?_
  refine lv_iload_n X.1 X.2.1 dX8_three_36 rfl (lv_at hl 2 rfl) ?_
  refine lv_iload_n X.1 X.2.1 dX8_three_37 rfl (lv_at hl 3 rfl) ?_
  refine lv_iload X.1 X.2.1 dX8_three_38 (lv_at hl 4 rfl) ?_
  refine lv_iload X.1 X.2.1 dX8_three_40 (lv_at hl 6 rfl) ?_
  refine q_cVj (As := [.int x2, .int x3, .int x4, .int x6]) (rest := [.long v33.toInt64, .long (v10.toInt64 * v19)]) (c1 := 0) (s1 := 0) (d := 1) (mc := 0) (ms := 0) X N I hl.1 mX8_two wd_1115 dX8_three_42 rfl h (fun b h => kX8_two hl0 h) rfl (Nat.le_of_ble_eq_true rfl) ⟨by decide, by decide⟩ ⟨by decide, by decide⟩ ⟨by decide, by decide⟩ rfl rfl (fun v42 S H locs I h => ?_)
  refine lv_lmul X.1 X.2.1 dX8_three_45 ?_
  refine lv_lsub X.1 X.2.1 dX8_three_46 ?_
  refine q_aload_n X dX8_three_47 rfl (lv_at hl 0 rfl) ?_
  refine q_getR (ci := 9) (k := 31) X I rfl inb_TX8 wd_869 (by decide) qt_391 dX8_three_48 h (fun v48 h => ?_)
  refine lv_iconst (v := 4) X.1 X.2.1 dX8_three_51 (by decide) ?_
  refine lv_iload_n X.1 X.2.1 dX8_three_52 rfl (lv_at hl 1 rfl) ?_
  refine lv_imul X.1 X.2.1 dX8_three_53 ?_
  refine lv_iload X.1 X.2.1 dX8_three_54 (lv_at hl 6 rfl) ?_
  refine lv_iadd X.1 X.2.1 dX8_three_56 ?_
  refine q_ldI X I (by decide) (by decide) dX8_three_57 h (fun v57 h => ?_)
  refine lv_i2l X.1 X.2.1 dX8_three_58 rfl ?_
  refine q_aload_n X dX8_three_59 rfl (lv_at hl 0 rfl) ?_
  refine lv_iload_n X.1 X.2.1 dX8_three_60 rfl (lv_at hl 2 rfl) ?_
  refine lv_iload_n X.1 X.2.1 dX8_three_61 rfl (lv_at hl 3 rfl) ?_
  refine lv_iload X.1 X.2.1 dX8_three_62 (lv_at hl 4 rfl) ?_
  refine lv_iload X.1 X.2.1 dX8_three_64 (lv_at hl 5 rfl) ?_
  refine q_cVj (As := [.int x2, .int x3, .int x4, .int x5]) (rest := [.long v57.toInt64, .long ((v10.toInt64 * v19) - (v33.toInt64 * v42))]) (c1 := 0) (s1 := 0) (d := 1) (mc := 0) (ms := 0) X N I hl.1 mX8_two wd_1115 dX8_three_66 rfl h (fun b h => kX8_two hl0 h) rfl (Nat.le_of_ble_eq_true rfl) ⟨by decide, by decide⟩ ⟨by decide, by decide⟩ ⟨by decide, by decide⟩ rfl rfl (fun v66 S H locs I h => ?_)
  refine lv_lmul X.1 X.2.1 dX8_three_69 ?_
  refine lv_ladd X.1 X.2.1 dX8_three_70 ?_
  exact q_lret X I hr dX8_three_71 h (by decide) (by decide)

def pX8_isGain__J162  (post : Int32 → qS → Prop) (xp : String → qS → Prop) (t0 : Int32) (S : qS) : Prop :=
  ((t0 = 0 ∨ t0 = 1) ∧ post t0 S)
def pX8_isGain__J161  (post : Int32 → qS → Prop) (xp : String → qS → Prop)  (S : qS) : Prop :=
  pX8_isGain__J162 post xp (0 : Int32) S
def pX8_isGain__J148  (post : Int32 → qS → Prop) (xp : String → qS → Prop) (x3 : Int32) (x4 : Int32) (S : qS) : Prop :=
  ((x3 = 0 →
  pX8_isGain__J161 post xp S) ∧ (¬ x3 = 0 →
  ((x4 = 0 →
  pX8_isGain__J161 post xp S) ∧ (¬ x4 = 0 →
  pX8_isGain__J162 post xp (1 : Int32) S))))
def pX8_isGain__J140 (k50 : Option Nat → Int64 → Int32 → Int32 → Int32 → qS → Prop) (post : Int32 → qS → Prop) (xp : String → qS → Prop) (x0 : Option Nat) (x1 : Int64) (x3 : Int32) (x5 : Int32) (t0 : Int32) (S : qS) : Prop :=
  k50 x0 x1 x3 t0 (x5 + 1) S
def pX8_isGain__J135 (k50 : Option Nat → Int64 → Int32 → Int32 → Int32 → qS → Prop) (post : Int32 → qS → Prop) (xp : String → qS → Prop) (x0 : Option Nat) (x1 : Int64) (x3 : Int32) (x5 : Int32) (S : qS) : Prop :=
  pX8_isGain__J140 k50 post xp x0 x1 x3 x5 (1 : Int32) S
def pX8_isGain__J122 (k50 : Option Nat → Int64 → Int32 → Int32 → Int32 → qS → Prop) (post : Int32 → qS → Prop) (xp : String → qS → Prop) (x0 : Option Nat) (x1 : Int64) (x4 : Int32) (x5 : Int32) (x6 : Int64) (t0 : Int32) (S : qS) : Prop :=
  ((¬ x4 = 0 →
  pX8_isGain__J135 k50 post xp x0 x1 t0 x5 S) ∧ (x4 = 0 →
  (((lg_cmp x6 (0 : Int64)) ≤ 0 →
  pX8_isGain__J140 k50 post xp x0 x1 t0 x5 (0 : Int32) S) ∧ (¬ (lg_cmp x6 (0 : Int64)) ≤ 0 →
  pX8_isGain__J135 k50 post xp x0 x1 t0 x5 S))))
def pX8_isGain__J121 (k50 : Option Nat → Int64 → Int32 → Int32 → Int32 → qS → Prop) (post : Int32 → qS → Prop) (xp : String → qS → Prop) (x0 : Option Nat) (x1 : Int64) (x4 : Int32) (x5 : Int32) (x6 : Int64) (S : qS) : Prop :=
  pX8_isGain__J122 k50 post xp x0 x1 x4 x5 x6 (0 : Int32) S
def pX8_isGain__J106 (k50 : Option Nat → Int64 → Int32 → Int32 → Int32 → qS → Prop) (post : Int32 → qS → Prop) (xp : String → qS → Prop) (x0 : Option Nat) (x1 : Int64) (x3 : Int32) (x4 : Int32) (x5 : Int32) (x6 : Int64) (S : qS) : Prop :=
  ((x3 = 0 →
  pX8_isGain__J121 k50 post xp x0 x1 x4 x5 x6 S) ∧ (¬ x3 = 0 →
  (((lg_cmp x6 (0 : Int64)) < 0 →
  pX8_isGain__J121 k50 post xp x0 x1 x4 x5 x6 S) ∧ (¬ (lg_cmp x6 (0 : Int64)) < 0 →
  pX8_isGain__J122 k50 post xp x0 x1 x4 x5 x6 (1 : Int32) S))))
def pX8_isGain__L62 (k106 : Option Nat → Int64 → Int32 → Int32 → Int32 → Int64 → qS → Prop) (post : Int32 → qS → Prop) (xp : String → qS → Prop) : Nat → Option Nat → Int64 → Int32 → Int32 → Int32 → Int64 → Int32 → qS → Prop
  | 0, _, _, _, _, _, _, _, _ => False
  | n62 + 1, x0, x1, x3, x4, x5, x6, x8, S =>
  w_getI S x0 9 30 (fun v65 =>
  ((v65 ≤ x8 →
  k106 x0 x1 x3 x4 x5 x6 S) ∧ (¬ v65 ≤ x8 →
  w_getR S x0 9 32 (fun v75 =>
  w_ldJ S v75 62 x8 (fun v80 =>
  w_getR S x0 9 29 (fun v84 =>
  w_ldI S v84 59 x8 (fun v89 =>
  w_at S x0 9 (fun b92 => pX8_leaves b92 v89 x5 S (fun v92 S =>
  (pX8_isGain__L62 k106 post xp n62) x0 x1 x3 x4 x5 (x6 + ((x1 * v80) * v92.toInt64)) (x8 + 1) S) xp))))))))
def pX8_isGain__L50 (k148 : Int32 → Int32 → qS → Prop) (post : Int32 → qS → Prop) (xp : String → qS → Prop) : Nat → Option Nat → Int64 → Int32 → Int32 → Int32 → qS → Prop
  | 0, _, _, _, _, _, _ => False
  | n50 + 1, x0, x1, x3, x4, x5, S =>
  (((4 : Int32) ≤ x5 →
  k148 x3 x4 S) ∧ (¬ (4 : Int32) ≤ x5 →
  ∃ n62, pX8_isGain__L62 (pX8_isGain__J106 (pX8_isGain__L50 k148 post xp n50) post xp) post xp n62 x0 x1 x3 x4 x5 (0 : Int64) (0 : Int32) S))
def pX8_isGain__J47  (post : Int32 → qS → Prop) (xp : String → qS → Prop) (x0 : Option Nat) (x1 : Int64) (x3 : Int32) (x4 : Int32) (S : qS) : Prop :=
  ∃ n50, pX8_isGain__L50 (pX8_isGain__J148 post xp) post xp n50 x0 x1 x3 x4 (0 : Int32) S
def pX8_isGain__J40 (k8 : Option Nat → Int64 → Int32 → Int32 → Int32 → qS → Prop) (post : Int32 → qS → Prop) (xp : String → qS → Prop) (x0 : Option Nat) (x1 : Int64) (x4 : Int32) (x5 : Int32) (t0 : Int32) (S : qS) : Prop :=
  k8 x0 x1 t0 x4 (x5 + 1) S
def pX8_isGain__J39 (k8 : Option Nat → Int64 → Int32 → Int32 → Int32 → qS → Prop) (post : Int32 → qS → Prop) (xp : String → qS → Prop) (x0 : Option Nat) (x1 : Int64) (x4 : Int32) (x5 : Int32) (S : qS) : Prop :=
  pX8_isGain__J40 k8 post xp x0 x1 x4 x5 (0 : Int32) S
def pX8_isGain__L8 (k47 : Option Nat → Int64 → Int32 → Int32 → qS → Prop) (post : Int32 → qS → Prop) (xp : String → qS → Prop) : Nat → Option Nat → Int64 → Int32 → Int32 → Int32 → qS → Prop
  | 0, _, _, _, _, _, _ => False
  | n8 + 1, x0, x1, x3, x4, x5, S =>
  w_getI S x0 9 30 (fun v11 =>
  ((v11 ≤ x5 →
  k47 x0 x1 x3 x4 S) ∧ (¬ v11 ≤ x5 →
  ((x3 = 0 →
  pX8_isGain__J39 (pX8_isGain__L8 k47 post xp n8) post xp x0 x1 x4 x5 S) ∧ (¬ x3 = 0 →
  w_getR S x0 9 32 (fun v23 =>
  w_ldJ S v23 62 x5 (fun v28 =>
  (((lg_cmp (x1 * v28) (0 : Int64)) < 0 →
  pX8_isGain__J39 (pX8_isGain__L8 k47 post xp n8) post xp x0 x1 x4 x5 S) ∧ (¬ (lg_cmp (x1 * v28) (0 : Int64)) < 0 →
  pX8_isGain__J40 (pX8_isGain__L8 k47 post xp n8) post xp x0 x1 x4 x5 (1 : Int32) S)))))))))
def pX8_isGain_ (x0 : Nat) (x1 : Int64) (S : qS) (post : Int32 → qS → Prop) (xp : String → qS → Prop) : Prop :=
  ∃ n8, pX8_isGain__L8 (pX8_isGain__J47 post xp) post xp n8 (some x0) x1 (1 : Int32) (0 : Int32) (0 : Int32) S
set_option maxHeartbeats 4000000 in
set_option maxRecDepth 100000 in
theorem kX8_isGain_ {l : Launch} (hl0 : l.stackTraces = false) {G : qG} {S : qS} {sz : Nat} {x0 : Nat} {x1 : Int64} {post : Int32 → qS → Prop} {xp : String → qS → Prop} (h : pX8_isGain_ x0 x1 S post xp) : q_M l yX8_isGain_ cX8_isGain_ 9 (some .boolean) 2 0 0 G S sz [va_rf (some x0), .long x1] (q_Qi G post) xp := by
  refine q_of (lv := [(0, va_rf (some x0)), (1, .long x1)]) hl0 (by decide) rfl (Nat.le_of_ble_eq_true rfl) (fun p e s m below meth c A ls X N hr hnm I hl => ?_)
  generalize ([va_rf (some x0), .long x1] : List Value).toArray = av at X ⊢
  unfold pX8_isGain_ at h
  refine lv_iconst (v := 1) X.1 X.2.1 dX8_isGain__0 (by decide) ?_
  refine lv_istore_n (i := 3) (lv' := [(3, .int (1 : Int32)), (0, va_rf (some x0)), (1, .long x1)]) X.1 X.2.1 dX8_isGain__1 rfl hl (by decide) rfl (fun ls hl => ?_)
  refine lv_iconst (v := 0) X.1 X.2.1 dX8_isGain__2 (by decide) ?_
  refine lv_istore (i := 4) (lv' := [(4, .int (0 : Int32)), (3, .int (1 : Int32)), (0, va_rf (some x0)), (1, .long x1)]) X.1 X.2.1 dX8_isGain__3 hl (by decide) rfl (fun ls hl => ?_)
  refine lv_iconst (v := 0) X.1 X.2.1 dX8_isGain__5 (by decide) ?_
  refine lv_istore (i := 5) (lv' := [(5, .int (0 : Int32)), (4, .int (0 : Int32)), (3, .int (1 : Int32)), (0, va_rf (some x0)), (1, .long x1)]) X.1 X.2.1 dX8_isGain__6 hl (by decide) rfl (fun ls hl => ?_)
  have jn47 : ∀ (x0 : Option Nat) (x1 : Int64) (x3 : Int32) (x4 : Int32) (S : qS) (H : Heap) (locs : List Loc) (ls : Array Slot), pX8_isGain__J47 post xp x0 x1 x3 x4 S → q_H G A s H locs S → lv_has ls 9 [(0, va_rf x0), (1, .long x1), (3, .int x3), (4, .int x4)] → W p l e (q_rm 2 0 0) s m av below meth c H locs 0 0 (vx_MQ below (q_Qi G post A) (q_XC G A xp) av s 0 0 A) (F0 m 47 ls []) := by
    intro x0 x1 x3 x4 S H locs ls h I hl
    unfold pX8_isGain__J47 at h
    refine lv_iconst (v := 0) X.1 X.2.1 dX8_isGain__47 (by decide) ?_
    refine lv_istore (i := 5) (lv' := [(5, .int (0 : Int32)), (0, va_rf x0), (1, .long x1), (3, .int x3), (4, .int x4)]) X.1 X.2.1 dX8_isGain__48 hl (by decide) rfl (fun ls hl => ?_)
    have jn148 : ∀ (x3 : Int32) (x4 : Int32) (S : qS) (H : Heap) (locs : List Loc) (ls : Array Slot), pX8_isGain__J148 post xp x3 x4 S → q_H G A s H locs S → lv_has ls 9 [(3, .int x3), (4, .int x4)] → W p l e (q_rm 2 0 0) s m av below meth c H locs 0 0 (vx_MQ below (q_Qi G post A) (q_XC G A xp) av s 0 0 A) (F0 m 148 ls []) := by
      intro x3 x4 S H locs ls h I hl
      unfold pX8_isGain__J148 at h
      refine lv_iload_n X.1 X.2.1 dX8_isGain__148 rfl (lv_at hl 0 rfl) ?_
      have jn162 : ∀ (t0 : Int32) (S : qS) (H : Heap) (locs : List Loc) (ls : Array Slot), pX8_isGain__J162 post xp t0 S → q_H G A s H locs S → lv_has ls 9 [] → W p l e (q_rm 2 0 0) s m av below meth c H locs 0 0 (vx_MQ below (q_Qi G post A) (q_XC G A xp) av s 0 0 A) (F0 m 162 ls [.int t0]) := by
        intro t0 S H locs ls h I hl
        unfold pX8_isGain__J162 at h
        exact q_zret X I hr dX8_isGain__162 h (by decide) (by decide)
      have jn161 : ∀ (S : qS) (H : Heap) (locs : List Loc) (ls : Array Slot), pX8_isGain__J161 post xp S → q_H G A s H locs S → lv_has ls 9 [] → W p l e (q_rm 2 0 0) s m av below meth c H locs 0 0 (vx_MQ below (q_Qi G post A) (q_XC G A xp) av s 0 0 A) (F0 m 161 ls []) := by
        intro S H locs ls h I hl
        unfold pX8_isGain__J161 at h
        refine lv_iconst (v := 0) X.1 X.2.1 dX8_isGain__161 (by decide) ?_
        exact jn162 _ _ _ _ _ h I (lv_sub hl [] rfl)
      refine lv_if_eq (tgt := 161) X.1 X.2.1 dX8_isGain__149 (by decide) (fun c149 => ?_) (fun c149 => ?_)
      · have h := h.1 c149
        exact jn161 _ _ _ _ h I (lv_sub hl [] rfl)
      · have h := h.2 c149
        refine lv_iload X.1 X.2.1 dX8_isGain__152 (lv_at hl 1 rfl) ?_
        refine lv_if_eq (tgt := 161) X.1 X.2.1 dX8_isGain__154 (by decide) (fun c154 => ?_) (fun c154 => ?_)
        · have h := h.1 c154
          exact jn161 _ _ _ _ h I (lv_sub hl [] rfl)
        · have h := h.2 c154
          refine lv_iconst (v := 1) X.1 X.2.1 dX8_isGain__157 (by decide) ?_
          refine lv_goto (tgt := 162) X.1 X.2.1 dX8_isGain__158 (by decide) ?_
          exact jn162 _ _ _ _ _ h I (lv_sub hl [] rfl)
    obtain ⟨n50, h⟩ := h
    have lp50 : ∀ (n50 : Nat) (x0 : Option Nat) (x1 : Int64) (x3 : Int32) (x4 : Int32) (x5 : Int32) (S : qS) (H : Heap) (locs : List Loc) (ls : Array Slot), pX8_isGain__L50 (pX8_isGain__J148 post xp) post xp n50 x0 x1 x3 x4 x5 S → q_H G A s H locs S → lv_has ls 9 [(0, va_rf x0), (1, .long x1), (3, .int x3), (4, .int x4), (5, .int x5)] → W p l e (q_rm 2 0 0) s m av below meth c H locs 0 0 (vx_MQ below (q_Qi G post A) (q_XC G A xp) av s 0 0 A) (F0 m 50 ls []) := by
      intro n50
      induction n50 with
      | zero => intro x0 x1 x3 x4 x5 S H locs ls h I hl; exact h.elim
      | succ n50 ih50 =>
        intro x0 x1 x3 x4 x5 S H locs ls h I hl
        unfold pX8_isGain__L50 at h
        refine lv_iload X.1 X.2.1 dX8_isGain__50 (lv_at hl 4 rfl) ?_
        refine lv_iconst (v := 4) X.1 X.2.1 dX8_isGain__52 (by decide) ?_
        refine lv_icmp_ge (tgt := 148) X.1 X.2.1 dX8_isGain__53 (by decide) (fun c53 => ?_) (fun c53 => ?_)
        · have h := h.1 c53
          exact jn148 _ _ _ _ _ _ h I (lv_sub hl [2, 3] rfl)
        · have h := h.2 c53
          refine lv_lconst (v := 0) X.1 X.2.1 dX8_isGain__56 (by decide) ?_
          refine lv_lstore (i := 6) (lv' := [(6, .long (0 : Int64)), (0, va_rf x0), (1, .long x1), (3, .int x3), (4, .int x4), (5, .int x5)]) X.1 X.2.1 dX8_isGain__57 hl (by decide) rfl (fun ls hl => ?_)
          refine lv_iconst (v := 0) X.1 X.2.1 dX8_isGain__59 (by decide) ?_
          refine lv_istore (i := 8) (lv' := [(8, .int (0 : Int32)), (6, .long (0 : Int64)), (0, va_rf x0), (1, .long x1), (3, .int x3), (4, .int x4), (5, .int x5)]) X.1 X.2.1 dX8_isGain__60 hl (by decide) rfl (fun ls hl => ?_)
          have jn106 : ∀ (x0 : Option Nat) (x1 : Int64) (x3 : Int32) (x4 : Int32) (x5 : Int32) (x6 : Int64) (S : qS) (H : Heap) (locs : List Loc) (ls : Array Slot), pX8_isGain__J106 (pX8_isGain__L50 (pX8_isGain__J148 post xp) post xp n50) post xp x0 x1 x3 x4 x5 x6 S → q_H G A s H locs S → lv_has ls 9 [(0, va_rf x0), (1, .long x1), (3, .int x3), (4, .int x4), (5, .int x5), (6, .long x6)] → W p l e (q_rm 2 0 0) s m av below meth c H locs 0 0 (vx_MQ below (q_Qi G post A) (q_XC G A xp) av s 0 0 A) (F0 m 106 ls []) := by
            intro x0 x1 x3 x4 x5 x6 S H locs ls h I hl
            unfold pX8_isGain__J106 at h
            refine lv_iload_n X.1 X.2.1 dX8_isGain__106 rfl (lv_at hl 2 rfl) ?_
            have jn122 : ∀ (x0 : Option Nat) (x1 : Int64) (x4 : Int32) (x5 : Int32) (x6 : Int64) (t0 : Int32) (S : qS) (H : Heap) (locs : List Loc) (ls : Array Slot), pX8_isGain__J122 (pX8_isGain__L50 (pX8_isGain__J148 post xp) post xp n50) post xp x0 x1 x4 x5 x6 t0 S → q_H G A s H locs S → lv_has ls 9 [(0, va_rf x0), (1, .long x1), (4, .int x4), (5, .int x5), (6, .long x6)] → W p l e (q_rm 2 0 0) s m av below meth c H locs 0 0 (vx_MQ below (q_Qi G post A) (q_XC G A xp) av s 0 0 A) (F0 m 122 ls [.int t0]) := by
              intro x0 x1 x4 x5 x6 t0 S H locs ls h I hl
              unfold pX8_isGain__J122 at h
              refine lv_istore_n (i := 3) (lv' := [(3, .int t0), (0, va_rf x0), (1, .long x1), (4, .int x4), (5, .int x5), (6, .long x6)]) X.1 X.2.1 dX8_isGain__122 rfl hl (by decide) rfl (fun ls hl => ?_)
              refine lv_iload X.1 X.2.1 dX8_isGain__123 (lv_at hl 3 rfl) ?_
              have jn140 : ∀ (x0 : Option Nat) (x1 : Int64) (x3 : Int32) (x5 : Int32) (t0 : Int32) (S : qS) (H : Heap) (locs : List Loc) (ls : Array Slot), pX8_isGain__J140 (pX8_isGain__L50 (pX8_isGain__J148 post xp) post xp n50) post xp x0 x1 x3 x5 t0 S → q_H G A s H locs S → lv_has ls 9 [(0, va_rf x0), (1, .long x1), (3, .int x3), (5, .int x5)] → W p l e (q_rm 2 0 0) s m av below meth c H locs 0 0 (vx_MQ below (q_Qi G post A) (q_XC G A xp) av s 0 0 A) (F0 m 140 ls [.int t0]) := by
                intro x0 x1 x3 x5 t0 S H locs ls h I hl
                unfold pX8_isGain__J140 at h
                refine lv_istore (i := 4) (lv' := [(4, .int t0), (0, va_rf x0), (1, .long x1), (3, .int x3), (5, .int x5)]) X.1 X.2.1 dX8_isGain__140 hl (by decide) rfl (fun ls hl => ?_)
                refine lv_iinc (v := (x5 + 1)) (lv' := [(5, .int (x5 + 1)), (4, .int t0), (0, va_rf x0), (1, .long x1), (3, .int x3)]) (k := 4) X.1 X.2.1 dX8_isGain__142 hl rfl rfl (by decide) rfl (fun ls hl => ?_)
                refine lv_goto (tgt := 50) X.1 X.2.1 dX8_isGain__145 (by decide) ?_
                exact ih50 _ _ _ _ _ _ _ _ _ h I (lv_sub hl [2, 3, 4, 1, 0] rfl)
              have jn135 : ∀ (x0 : Option Nat) (x1 : Int64) (x3 : Int32) (x5 : Int32) (S : qS) (H : Heap) (locs : List Loc) (ls : Array Slot), pX8_isGain__J135 (pX8_isGain__L50 (pX8_isGain__J148 post xp) post xp n50) post xp x0 x1 x3 x5 S → q_H G A s H locs S → lv_has ls 9 [(0, va_rf x0), (1, .long x1), (3, .int x3), (5, .int x5)] → W p l e (q_rm 2 0 0) s m av below meth c H locs 0 0 (vx_MQ below (q_Qi G post A) (q_XC G A xp) av s 0 0 A) (F0 m 135 ls []) := by
                intro x0 x1 x3 x5 S H locs ls h I hl
                unfold pX8_isGain__J135 at h
                refine lv_iconst (v := 1) X.1 X.2.1 dX8_isGain__135 (by decide) ?_
                refine lv_goto (tgt := 140) X.1 X.2.1 dX8_isGain__136 (by decide) ?_
                exact jn140 _ _ _ _ _ _ _ _ _ h I (lv_sub hl [0, 1, 2, 3] rfl)
              refine lv_if_ne (tgt := 135) X.1 X.2.1 dX8_isGain__125 (by decide) (fun c125 => ?_) (fun c125 => ?_)
              · have h := h.1 c125
                exact jn135 _ _ _ _ _ _ _ _ h I (lv_sub hl [1, 2, 0, 4] rfl)
              · have h := h.2 c125
                refine lv_lload X.1 X.2.1 dX8_isGain__128 (lv_at hl 5 rfl) ?_
                refine lv_lconst (v := 0) X.1 X.2.1 dX8_isGain__130 (by decide) ?_
                refine W.lcmp X.1 X.2.1 dX8_isGain__131 ?_
                refine lv_if_le (tgt := 139) X.1 X.2.1 dX8_isGain__132 (by decide) (fun c132 => ?_) (fun c132 => ?_)
                · have h := h.1 c132
                  refine lv_iconst (v := 0) X.1 X.2.1 dX8_isGain__139 (by decide) ?_
                  exact jn140 _ _ _ _ _ _ _ _ _ h I (lv_sub hl [1, 2, 0, 4] rfl)
                · have h := h.2 c132
                  exact jn135 _ _ _ _ _ _ _ _ h I (lv_sub hl [1, 2, 0, 4] rfl)
            have jn121 : ∀ (x0 : Option Nat) (x1 : Int64) (x4 : Int32) (x5 : Int32) (x6 : Int64) (S : qS) (H : Heap) (locs : List Loc) (ls : Array Slot), pX8_isGain__J121 (pX8_isGain__L50 (pX8_isGain__J148 post xp) post xp n50) post xp x0 x1 x4 x5 x6 S → q_H G A s H locs S → lv_has ls 9 [(0, va_rf x0), (1, .long x1), (4, .int x4), (5, .int x5), (6, .long x6)] → W p l e (q_rm 2 0 0) s m av below meth c H locs 0 0 (vx_MQ below (q_Qi G post A) (q_XC G A xp) av s 0 0 A) (F0 m 121 ls []) := by
              intro x0 x1 x4 x5 x6 S H locs ls h I hl
              unfold pX8_isGain__J121 at h
              refine lv_iconst (v := 0) X.1 X.2.1 dX8_isGain__121 (by decide) ?_
              exact jn122 _ _ _ _ _ _ _ _ _ _ h I (lv_sub hl [0, 1, 2, 3, 4] rfl)
            refine lv_if_eq (tgt := 121) X.1 X.2.1 dX8_isGain__107 (by decide) (fun c107 => ?_) (fun c107 => ?_)
            · have h := h.1 c107
              exact jn121 _ _ _ _ _ _ _ _ _ h I (lv_sub hl [0, 1, 3, 4, 5] rfl)
            · have h := h.2 c107
              refine lv_lload X.1 X.2.1 dX8_isGain__110 (lv_at hl 5 rfl) ?_
              refine lv_lconst (v := 0) X.1 X.2.1 dX8_isGain__112 (by decide) ?_
              refine W.lcmp X.1 X.2.1 dX8_isGain__113 ?_
              refine lv_if_lt (tgt := 121) X.1 X.2.1 dX8_isGain__114 (by decide) (fun c114 => ?_) (fun c114 => ?_)
              · have h := h.1 c114
                exact jn121 _ _ _ _ _ _ _ _ _ h I (lv_sub hl [0, 1, 3, 4, 5] rfl)
              · have h := h.2 c114
                refine lv_iconst (v := 1) X.1 X.2.1 dX8_isGain__117 (by decide) ?_
                refine lv_goto (tgt := 122) X.1 X.2.1 dX8_isGain__118 (by decide) ?_
                exact jn122 _ _ _ _ _ _ _ _ _ _ h I (lv_sub hl [0, 1, 3, 4, 5] rfl)
          obtain ⟨n62, h⟩ := h
          have lp62 : ∀ (n62 : Nat) (x0 : Option Nat) (x1 : Int64) (x3 : Int32) (x4 : Int32) (x5 : Int32) (x6 : Int64) (x8 : Int32) (S : qS) (H : Heap) (locs : List Loc) (ls : Array Slot), pX8_isGain__L62 (pX8_isGain__J106 (pX8_isGain__L50 (pX8_isGain__J148 post xp) post xp n50) post xp) post xp n62 x0 x1 x3 x4 x5 x6 x8 S → q_H G A s H locs S → lv_has ls 9 [(0, va_rf x0), (1, .long x1), (3, .int x3), (4, .int x4), (5, .int x5), (6, .long x6), (8, .int x8)] → W p l e (q_rm 2 0 0) s m av below meth c H locs 0 0 (vx_MQ below (q_Qi G post A) (q_XC G A xp) av s 0 0 A) (F0 m 62 ls []) := by
            intro n62
            induction n62 with
            | zero => intro x0 x1 x3 x4 x5 x6 x8 S H locs ls h I hl; exact h.elim
            | succ n62 ih62 =>
              intro x0 x1 x3 x4 x5 x6 x8 S H locs ls h I hl
              unfold pX8_isGain__L62 at h
              refine lv_iload X.1 X.2.1 dX8_isGain__62 (lv_at hl 6 rfl) ?_
              refine q_aload_n X dX8_isGain__64 rfl (lv_at hl 0 rfl) ?_
              refine q_getI (ci := 9) (k := 30) X I rfl inb_TX8 wd_868 (by decide) qt_390 dX8_isGain__65 h (fun v65 h => ?_)
              refine lv_icmp_ge (tgt := 106) X.1 X.2.1 dX8_isGain__68 (by decide) (fun c68 => ?_) (fun c68 => ?_)
              · have h := h.1 c68
                exact jn106 _ _ _ _ _ _ _ _ _ _ h I (lv_sub hl [0, 1, 2, 3, 4, 5] rfl)
              · have h := h.2 c68
                refine lv_lload X.1 X.2.1 dX8_isGain__71 (lv_at hl 5 rfl) ?_
                refine lv_lload_n X.1 X.2.1 dX8_isGain__73 rfl (lv_at hl 1 rfl) ?_
                refine q_aload_n X dX8_isGain__74 rfl (lv_at hl 0 rfl) ?_
                refine q_getR (ci := 9) (k := 32) X I rfl inb_TX8 wd_870 (by decide) qt_392 dX8_isGain__75 h (fun v75 h => ?_)
                refine lv_iload X.1 X.2.1 dX8_isGain__78 (lv_at hl 6 rfl) ?_
                refine q_ldJ X I (by decide) (by decide) dX8_isGain__80 h (fun v80 h => ?_)
                refine lv_lmul X.1 X.2.1 dX8_isGain__81 ?_
                refine q_aload_n X dX8_isGain__82 rfl (lv_at hl 0 rfl) ?_
                refine q_aload_n X dX8_isGain__83 rfl (lv_at hl 0 rfl) ?_
                refine q_getR (ci := 9) (k := 29) X I rfl inb_TX8 wd_867 (by decide) qt_389 dX8_isGain__84 h (fun v84 h => ?_)
                refine lv_iload X.1 X.2.1 dX8_isGain__87 (lv_at hl 6 rfl) ?_
                refine q_ldI X I (by decide) (by decide) dX8_isGain__89 h (fun v89 h => ?_)
                refine lv_iload X.1 X.2.1 dX8_isGain__90 (lv_at hl 4 rfl) ?_
                refine q_cVi (As := [.int v89, .int x5]) (rest := [.long (x1 * v80), .long x6]) (c1 := 0) (s1 := 0) (d := 1) (mc := 0) (ms := 0) X N I hl.1 mX8_leaves wd_1102 dX8_isGain__92 rfl h (fun b h => kX8_leaves hl0 h) rfl (Nat.le_of_ble_eq_true rfl) ⟨by decide, by decide⟩ ⟨by decide, by decide⟩ ⟨by decide, by decide⟩ rfl rfl (fun v92 S H locs I h => ?_)
                refine lv_i2l X.1 X.2.1 dX8_isGain__95 rfl ?_
                refine lv_lmul X.1 X.2.1 dX8_isGain__96 ?_
                refine lv_ladd X.1 X.2.1 dX8_isGain__97 ?_
                refine lv_lstore (i := 6) (lv' := [(6, .long (x6 + ((x1 * v80) * v92.toInt64))), (0, va_rf x0), (1, .long x1), (3, .int x3), (4, .int x4), (5, .int x5), (8, .int x8)]) X.1 X.2.1 dX8_isGain__98 hl (by decide) rfl (fun ls hl => ?_)
                refine lv_iinc (v := (x8 + 1)) (lv' := [(8, .int (x8 + 1)), (6, .long (x6 + ((x1 * v80) * v92.toInt64))), (0, va_rf x0), (1, .long x1), (3, .int x3), (4, .int x4), (5, .int x5)]) (k := 6) X.1 X.2.1 dX8_isGain__100 hl rfl rfl (by decide) rfl (fun ls hl => ?_)
                refine lv_goto (tgt := 62) X.1 X.2.1 dX8_isGain__103 (by decide) ?_
                exact ih62 _ _ _ _ _ _ _ _ _ _ _ h I (lv_sub hl [2, 3, 4, 5, 6, 1, 0] rfl)
          exact lp62 n62 _ _ _ _ _ _ _ _ _ _ _ h I (lv_sub hl [2, 3, 4, 5, 6, 1, 0] rfl)
    exact lp50 n50 _ _ _ _ _ _ _ _ _ h I (lv_sub hl [1, 2, 3, 4, 0] rfl)
  obtain ⟨n8, h⟩ := h
  have lp8 : ∀ (n8 : Nat) (x0 : Option Nat) (x1 : Int64) (x3 : Int32) (x4 : Int32) (x5 : Int32) (S : qS) (H : Heap) (locs : List Loc) (ls : Array Slot), pX8_isGain__L8 (pX8_isGain__J47 post xp) post xp n8 x0 x1 x3 x4 x5 S → q_H G A s H locs S → lv_has ls 9 [(0, va_rf x0), (1, .long x1), (3, .int x3), (4, .int x4), (5, .int x5)] → W p l e (q_rm 2 0 0) s m av below meth c H locs 0 0 (vx_MQ below (q_Qi G post A) (q_XC G A xp) av s 0 0 A) (F0 m 8 ls []) := by
    intro n8
    induction n8 with
    | zero => intro x0 x1 x3 x4 x5 S H locs ls h I hl; exact h.elim
    | succ n8 ih8 =>
      intro x0 x1 x3 x4 x5 S H locs ls h I hl
      unfold pX8_isGain__L8 at h
      refine lv_iload X.1 X.2.1 dX8_isGain__8 (lv_at hl 4 rfl) ?_
      refine q_aload_n X dX8_isGain__10 rfl (lv_at hl 0 rfl) ?_
      refine q_getI (ci := 9) (k := 30) X I rfl inb_TX8 wd_868 (by decide) qt_390 dX8_isGain__11 h (fun v11 h => ?_)
      refine lv_icmp_ge (tgt := 47) X.1 X.2.1 dX8_isGain__14 (by decide) (fun c14 => ?_) (fun c14 => ?_)
      · have h := h.1 c14
        exact jn47 _ _ _ _ _ _ _ _ h I (lv_sub hl [0, 1, 2, 3] rfl)
      · have h := h.2 c14
        refine lv_iload_n X.1 X.2.1 dX8_isGain__17 rfl (lv_at hl 2 rfl) ?_
        have jn40 : ∀ (x0 : Option Nat) (x1 : Int64) (x4 : Int32) (x5 : Int32) (t0 : Int32) (S : qS) (H : Heap) (locs : List Loc) (ls : Array Slot), pX8_isGain__J40 (pX8_isGain__L8 (pX8_isGain__J47 post xp) post xp n8) post xp x0 x1 x4 x5 t0 S → q_H G A s H locs S → lv_has ls 9 [(0, va_rf x0), (1, .long x1), (4, .int x4), (5, .int x5)] → W p l e (q_rm 2 0 0) s m av below meth c H locs 0 0 (vx_MQ below (q_Qi G post A) (q_XC G A xp) av s 0 0 A) (F0 m 40 ls [.int t0]) := by
          intro x0 x1 x4 x5 t0 S H locs ls h I hl
          unfold pX8_isGain__J40 at h
          refine lv_istore_n (i := 3) (lv' := [(3, .int t0), (0, va_rf x0), (1, .long x1), (4, .int x4), (5, .int x5)]) X.1 X.2.1 dX8_isGain__40 rfl hl (by decide) rfl (fun ls hl => ?_)
          refine lv_iinc (v := (x5 + 1)) (lv' := [(5, .int (x5 + 1)), (3, .int t0), (0, va_rf x0), (1, .long x1), (4, .int x4)]) (k := 4) X.1 X.2.1 dX8_isGain__41 hl rfl rfl (by decide) rfl (fun ls hl => ?_)
          refine lv_goto (tgt := 8) X.1 X.2.1 dX8_isGain__44 (by decide) ?_
          exact ih8 _ _ _ _ _ _ _ _ _ h I (lv_sub hl [2, 3, 1, 4, 0] rfl)
        have jn39 : ∀ (x0 : Option Nat) (x1 : Int64) (x4 : Int32) (x5 : Int32) (S : qS) (H : Heap) (locs : List Loc) (ls : Array Slot), pX8_isGain__J39 (pX8_isGain__L8 (pX8_isGain__J47 post xp) post xp n8) post xp x0 x1 x4 x5 S → q_H G A s H locs S → lv_has ls 9 [(0, va_rf x0), (1, .long x1), (4, .int x4), (5, .int x5)] → W p l e (q_rm 2 0 0) s m av below meth c H locs 0 0 (vx_MQ below (q_Qi G post A) (q_XC G A xp) av s 0 0 A) (F0 m 39 ls []) := by
          intro x0 x1 x4 x5 S H locs ls h I hl
          unfold pX8_isGain__J39 at h
          refine lv_iconst (v := 0) X.1 X.2.1 dX8_isGain__39 (by decide) ?_
          exact jn40 _ _ _ _ _ _ _ _ _ h I (lv_sub hl [0, 1, 2, 3] rfl)
        refine lv_if_eq (tgt := 39) X.1 X.2.1 dX8_isGain__18 (by decide) (fun c18 => ?_) (fun c18 => ?_)
        · have h := h.1 c18
          exact jn39 _ _ _ _ _ _ _ _ h I (lv_sub hl [0, 1, 3, 4] rfl)
        · have h := h.2 c18
          refine lv_lload_n X.1 X.2.1 dX8_isGain__21 rfl (lv_at hl 1 rfl) ?_
          refine q_aload_n X dX8_isGain__22 rfl (lv_at hl 0 rfl) ?_
          refine q_getR (ci := 9) (k := 32) X I rfl inb_TX8 wd_870 (by decide) qt_392 dX8_isGain__23 h (fun v23 h => ?_)
          refine lv_iload X.1 X.2.1 dX8_isGain__26 (lv_at hl 4 rfl) ?_
          refine q_ldJ X I (by decide) (by decide) dX8_isGain__28 h (fun v28 h => ?_)
          refine lv_lmul X.1 X.2.1 dX8_isGain__29 ?_
          refine lv_lconst (v := 0) X.1 X.2.1 dX8_isGain__30 (by decide) ?_
          refine W.lcmp X.1 X.2.1 dX8_isGain__31 ?_
          refine lv_if_lt (tgt := 39) X.1 X.2.1 dX8_isGain__32 (by decide) (fun c32 => ?_) (fun c32 => ?_)
          · have h := h.1 c32
            exact jn39 _ _ _ _ _ _ _ _ h I (lv_sub hl [0, 1, 3, 4] rfl)
          · have h := h.2 c32
            refine lv_iconst (v := 1) X.1 X.2.1 dX8_isGain__35 (by decide) ?_
            refine lv_goto (tgt := 40) X.1 X.2.1 dX8_isGain__36 (by decide) ?_
            exact jn40 _ _ _ _ _ _ _ _ _ h I (lv_sub hl [0, 1, 3, 4] rfl)
  exact lp8 n8 _ _ _ _ _ _ _ _ _ h I (lv_sub hl [3, 4, 2, 1, 0] rfl)

def pX8_isGain_J23  (post : Int32 → qS → Prop) (xp : String → qS → Prop) (t0 : Int32) (S : qS) : Prop :=
  ((t0 = 0 ∨ t0 = 1) ∧ post t0 S)
def pX8_isGain_J18  (post : Int32 → qS → Prop) (xp : String → qS → Prop)  (S : qS) : Prop :=
  pX8_isGain_J23 post xp (1 : Int32) S
def pX8_isGain (x0 : Nat) (S : qS) (post : Int32 → qS → Prop) (xp : String → qS → Prop) : Prop :=
  w_at S (some x0) 9 (fun b2 => pX8_isGain_ b2 (1 : Int64) S (fun v2 S =>
  ((¬ v2 = 0 →
  pX8_isGain_J18 post xp S) ∧ (v2 = 0 →
  w_at S (some x0) 9 (fun b12 => pX8_isGain_ b12 (-1 : Int64) S (fun v12 S =>
  ((v12 = 0 →
  pX8_isGain_J23 post xp (0 : Int32) S) ∧ (¬ v12 = 0 →
  pX8_isGain_J18 post xp S))) xp)))) xp)
set_option maxHeartbeats 4000000 in
set_option maxRecDepth 100000 in
theorem kX8_isGain {l : Launch} (hl0 : l.stackTraces = false) {G : qG} {S : qS} {sz : Nat} {x0 : Nat} {post : Int32 → qS → Prop} {xp : String → qS → Prop} (h : pX8_isGain x0 S post xp) : q_M l yX8_isGain cX8_isGain 1 (some .boolean) 3 0 0 G S sz [va_rf (some x0)] (q_Qi G post) xp := by
  refine q_of (lv := [(0, va_rf (some x0))]) hl0 (by decide) rfl (Nat.le_of_ble_eq_true rfl) (fun p e s m below meth c A ls X N hr hnm I hl => ?_)
  generalize ([va_rf (some x0)] : List Value).toArray = av at X ⊢
  unfold pX8_isGain at h
  refine q_aload_n X dX8_isGain_0 rfl (lv_at hl 0 rfl) ?_
  refine lv_lconst (v := 1) X.1 X.2.1 dX8_isGain_1 (by decide) ?_
  refine q_cVi (As := [.long (1 : Int64)]) (rest := []) (c1 := 0) (s1 := 0) (d := 2) (mc := 0) (ms := 0) X N I hl.1 mX8_isGain_ wd_1110 dX8_isGain_2 rfl h (fun b h => kX8_isGain_ hl0 h) rfl (Nat.le_of_ble_eq_true rfl) ⟨by decide, by decide⟩ ⟨by decide, by decide⟩ ⟨by decide, by decide⟩ rfl rfl (fun v2 S H locs I h => ?_)
  have jn23 : ∀ (t0 : Int32) (S : qS) (H : Heap) (locs : List Loc) (ls : Array Slot), pX8_isGain_J23 post xp t0 S → q_H G A s H locs S → lv_has ls 1 [] → W p l e (q_rm 3 0 0) s m av below meth c H locs 0 0 (vx_MQ below (q_Qi G post A) (q_XC G A xp) av s 0 0 A) (F0 m 23 ls [.int t0]) := by
    intro t0 S H locs ls h I hl
    unfold pX8_isGain_J23 at h
    exact q_zret X I hr dX8_isGain_23 h (by decide) (by decide)
  have jn18 : ∀ (S : qS) (H : Heap) (locs : List Loc) (ls : Array Slot), pX8_isGain_J18 post xp S → q_H G A s H locs S → lv_has ls 1 [] → W p l e (q_rm 3 0 0) s m av below meth c H locs 0 0 (vx_MQ below (q_Qi G post A) (q_XC G A xp) av s 0 0 A) (F0 m 18 ls []) := by
    intro S H locs ls h I hl
    unfold pX8_isGain_J18 at h
    refine lv_iconst (v := 1) X.1 X.2.1 dX8_isGain_18 (by decide) ?_
    refine lv_goto (tgt := 23) X.1 X.2.1 dX8_isGain_19 (by decide) ?_
    exact jn23 _ _ _ _ _ h I (lv_sub hl [] rfl)
  refine lv_if_ne (tgt := 18) X.1 X.2.1 dX8_isGain_5 (by decide) (fun c5 => ?_) (fun c5 => ?_)
  · have h := h.1 c5
    exact jn18 _ _ _ _ h I (lv_sub hl [] rfl)
  · have h := h.2 c5
    refine q_aload_n X dX8_isGain_8 rfl (lv_at hl 0 rfl) ?_
    refine lv_ldc2 X.1 X.2.1 X.2.2.1 (X.2.2.2.1 _ wd_1114) dX8_isGain_9 ?_
    refine q_cVi (As := [.long (-1 : Int64)]) (rest := []) (c1 := 0) (s1 := 0) (d := 2) (mc := 0) (ms := 0) X N I hl.1 mX8_isGain_ wd_1110 dX8_isGain_12 rfl h (fun b h => kX8_isGain_ hl0 h) rfl (Nat.le_of_ble_eq_true rfl) ⟨by decide, by decide⟩ ⟨by decide, by decide⟩ ⟨by decide, by decide⟩ rfl rfl (fun v12 S H locs I h => ?_)
    refine lv_if_eq (tgt := 22) X.1 X.2.1 dX8_isGain_15 (by decide) (fun c15 => ?_) (fun c15 => ?_)
    · have h := h.1 c15
      refine lv_iconst (v := 0) X.1 X.2.1 dX8_isGain_22 (by decide) ?_
      exact jn23 _ _ _ _ _ h I (lv_sub hl [] rfl)
    · have h := h.2 c15
      exact jn18 _ _ _ _ h I (lv_sub hl [] rfl)

def pX8_gainsWithSome_J259 (k33 : Option Nat → Int32 → Int32 → qS → Prop) (post : Int32 → qS → Prop) (xp : String → qS → Prop) (x0 : Option Nat) (x1 : Int32) (x2 : Int32) (S : qS) : Prop :=
  k33 x0 x1 (x2 + 1) S
def pX8_gainsWithSome_J253 (k92 : Option Nat → Int32 → Int32 → Int32 → qS → Prop) (post : Int32 → qS → Prop) (xp : String → qS → Prop) (x0 : Option Nat) (x1 : Int32) (x2 : Int32) (x3 : Int32) (S : qS) : Prop :=
  k92 x0 x1 x2 (x3 + 1) S
def pX8_gainsWithSome_L162 (k253 : Option Nat → Int32 → Int32 → Int32 → qS → Prop) (post : Int32 → qS → Prop) (xp : String → qS → Prop) : Nat → Option Nat → Int32 → Int32 → Int32 → Int32 → qS → Prop
  | 0, _, _, _, _, _, _ => False
  | n162 + 1, x0, x1, x2, x3, x4, S =>
  ((x1 ≤ x4 →
  k253 x0 x1 x2 x3 S) ∧ (¬ x1 ≤ x4 →
  w_getR S x0 9 32 (fun v169 =>
  w_at S x0 9 (fun b181 => pX8_three b181 x2 x3 x4 (1 : Int32) (2 : Int32) (3 : Int32) S (fun v181 S =>
  w_stJ S v169 62 (0 : Int32) v181 (fun S =>
  w_getR S x0 9 32 (fun v186 =>
  w_at S x0 9 (fun b198 => pX8_three b198 x2 x3 x4 (0 : Int32) (2 : Int32) (3 : Int32) S (fun v198 S =>
  w_stJ S v186 62 (1 : Int32) (-v198) (fun S =>
  w_getR S x0 9 32 (fun v204 =>
  w_at S x0 9 (fun b216 => pX8_three b216 x2 x3 x4 (0 : Int32) (1 : Int32) (3 : Int32) S (fun v216 S =>
  w_stJ S v204 62 (2 : Int32) v216 (fun S =>
  w_getR S x0 9 32 (fun v221 =>
  w_at S x0 9 (fun b233 => pX8_three b233 x2 x3 x4 (0 : Int32) (1 : Int32) (2 : Int32) S (fun v233 S =>
  w_stJ S v221 62 (3 : Int32) (-v233) (fun S =>
  w_at S x0 9 (fun b239 => pX8_isGain b239  S (fun v239 S =>
  ((v239 = 0 →
  (pX8_gainsWithSome_L162 k253 post xp n162) x0 x1 x2 x3 (x4 + 1) S) ∧ (¬ v239 = 0 →
  (((1 : Int32) = 0 ∨ (1 : Int32) = 1) ∧ post (1 : Int32) S)))) xp))) xp)))) xp)))) xp)))) xp))))
def pX8_gainsWithSome_L92 (k259 : Option Nat → Int32 → Int32 → qS → Prop) (post : Int32 → qS → Prop) (xp : String → qS → Prop) : Nat → Option Nat → Int32 → Int32 → Int32 → qS → Prop
  | 0, _, _, _, _, _ => False
  | n92 + 1, x0, x1, x2, x3, S =>
  ((x1 ≤ x3 →
  k259 x0 x1 x2 S) ∧ (¬ x1 ≤ x3 →
  w_getI S x0 9 30 (fun v98 =>
  ((¬ v98 = (3 : Int32) →
  ∃ n162, pX8_gainsWithSome_L162 (pX8_gainsWithSome_J253 (pX8_gainsWithSome_L92 k259 post xp n92) post xp) post xp n162 x0 x1 x2 x3 (x3 + (1 : Int32)) S) ∧ (v98 = (3 : Int32) →
  w_getR S x0 9 32 (fun v106 =>
  w_at S x0 9 (fun b115 => pX8_two b115 x2 x3 (1 : Int32) (2 : Int32) S (fun v115 S =>
  w_stJ S v106 62 (0 : Int32) v115 (fun S =>
  w_getR S x0 9 32 (fun v120 =>
  w_at S x0 9 (fun b129 => pX8_two b129 x2 x3 (0 : Int32) (2 : Int32) S (fun v129 S =>
  w_stJ S v120 62 (1 : Int32) (-v129) (fun S =>
  w_getR S x0 9 32 (fun v135 =>
  w_at S x0 9 (fun b144 => pX8_two b144 x2 x3 (0 : Int32) (1 : Int32) S (fun v144 S =>
  w_stJ S v135 62 (2 : Int32) v144 (fun S =>
  w_at S x0 9 (fun b149 => pX8_isGain b149  S (fun v149 S =>
  ((v149 = 0 →
  pX8_gainsWithSome_J253 (pX8_gainsWithSome_L92 k259 post xp n92) post xp x0 x1 x2 x3 S) ∧ (¬ v149 = 0 →
  (((1 : Int32) = 0 ∨ (1 : Int32) = 1) ∧ post (1 : Int32) S)))) xp))) xp)))) xp)))) xp)))))))
def pX8_gainsWithSome_L33  (post : Int32 → qS → Prop) (xp : String → qS → Prop) : Nat → Option Nat → Int32 → Int32 → qS → Prop
  | 0, _, _, _, _ => False
  | n33 + 1, x0, x1, x2, S =>
  ((x1 ≤ x2 →
  (((0 : Int32) = 0 ∨ (0 : Int32) = 1) ∧ post (0 : Int32) S)) ∧ (¬ x1 ≤ x2 →
  w_getI S x0 9 30 (fun v39 =>
  ((¬ v39 = (2 : Int32) →
  ∃ n92, pX8_gainsWithSome_L92 (pX8_gainsWithSome_J259 (pX8_gainsWithSome_L33 post xp n33) post xp) post xp n92 x0 x1 x2 (x2 + (1 : Int32)) S) ∧ (v39 = (2 : Int32) →
  w_getR S x0 9 32 (fun v47 =>
  w_getR S x0 9 31 (fun v52 =>
  w_ldI S v52 61 (((4 : Int32) * x2) + (1 : Int32)) (fun v60 =>
  w_stJ S v47 62 (0 : Int32) v60.toInt64 (fun S =>
  w_getR S x0 9 32 (fun v64 =>
  w_getR S x0 9 31 (fun v69 =>
  w_ldI S v69 61 ((4 : Int32) * x2) (fun v75 =>
  w_stJ S v64 62 (1 : Int32) ((-v75).toInt64) (fun S =>
  w_at S x0 9 (fun b80 => pX8_isGain b80  S (fun v80 S =>
  ((v80 = 0 →
  pX8_gainsWithSome_J259 (pX8_gainsWithSome_L33 post xp n33) post xp x0 x1 x2 S) ∧ (¬ v80 = 0 →
  (((1 : Int32) = 0 ∨ (1 : Int32) = 1) ∧ post (1 : Int32) S)))) xp))))))))))))))
def pX8_gainsWithSome (x0 : Nat) (S : qS) (post : Int32 → qS → Prop) (xp : String → qS → Prop) : Prop :=
  w_at S (some x0) 9 (fun b1 => pX8_bounds b1  S (fun S =>
  w_getI S (some x0) 9 30 (fun v5 =>
  w_getI S (some x0) 9 30 (fun v12 =>
  ((¬ v12 = (1 : Int32) →
  ∃ n33, pX8_gainsWithSome_L33 post xp n33 (some x0) (v5 + (4 : Int32)) (0 : Int32) S) ∧ (v12 = (1 : Int32) →
  w_getR S (some x0) 9 32 (fun v20 =>
  w_stJ S v20 62 (0 : Int32) (1 : Int64) (fun S =>
  w_at S (some x0) 9 (fun b27 => pX8_isGain b27  S (fun v27 S =>
  ((v27 = 0 ∨ v27 = 1) ∧ post v27 S)) xp)))))))) xp)
set_option maxHeartbeats 4000000 in
set_option maxRecDepth 100000 in
theorem kX8_gainsWithSome {l : Launch} (hl0 : l.stackTraces = false) {G : qG} {S : qS} {sz : Nat} {x0 : Nat} {post : Int32 → qS → Prop} {xp : String → qS → Prop} (h : pX8_gainsWithSome x0 S post xp) : q_M l yX8_gainsWithSome cX8_gainsWithSome 5 (some .boolean) 4 0 0 G S sz [va_rf (some x0)] (q_Qi G post) xp := by
  refine q_of (lv := [(0, va_rf (some x0))]) hl0 (by decide) rfl (Nat.le_of_ble_eq_true rfl) (fun p e s m below meth c A ls X N hr hnm I hl => ?_)
  generalize ([va_rf (some x0)] : List Value).toArray = av at X ⊢
  unfold pX8_gainsWithSome at h
  refine q_aload_n X dX8_gainsWithSome_0 rfl (lv_at hl 0 rfl) ?_
  refine q_cVv (As := []) (rest := []) (c1 := 0) (s1 := 0) (d := 2) (mc := 0) (ms := 0) X N I hl.1 mX8_bounds wd_1098 dX8_gainsWithSome_1 rfl h (fun b h => kX8_bounds hl0 h) rfl (Nat.le_of_ble_eq_true rfl) ⟨by decide, by decide⟩ ⟨by decide, by decide⟩ ⟨by decide, by decide⟩ rfl rfl (fun S H locs I h => ?_)
  refine q_aload_n X dX8_gainsWithSome_4 rfl (lv_at hl 0 rfl) ?_
  refine q_getI (ci := 9) (k := 30) X I rfl inb_TX8 wd_868 (by decide) qt_390 dX8_gainsWithSome_5 h (fun v5 h => ?_)
  refine lv_iconst (v := 4) X.1 X.2.1 dX8_gainsWithSome_8 (by decide) ?_
  refine lv_iadd X.1 X.2.1 dX8_gainsWithSome_9 ?_
  refine lv_istore_n (i := 1) (lv' := [(1, .int (v5 + (4 : Int32))), (0, va_rf (some x0))]) X.1 X.2.1 dX8_gainsWithSome_10 rfl hl (by decide) rfl (fun ls hl => ?_)
  refine q_aload_n X dX8_gainsWithSome_11 rfl (lv_at hl 1 rfl) ?_
  refine q_getI (ci := 9) (k := 30) X I rfl inb_TX8 wd_868 (by decide) qt_390 dX8_gainsWithSome_12 h (fun v12 h => ?_)
  refine lv_iconst (v := 1) X.1 X.2.1 dX8_gainsWithSome_15 (by decide) ?_
  refine lv_icmp_ne (tgt := 31) X.1 X.2.1 dX8_gainsWithSome_16 (by decide) (fun c16 => ?_) (fun c16 => ?_)
  · have h := h.1 c16
    refine lv_iconst (v := 0) X.1 X.2.1 dX8_gainsWithSome_31 (by decide) ?_
    refine lv_istore_n (i := 2) (lv' := [(2, .int (0 : Int32)), (1, .int (v5 + (4 : Int32))), (0, va_rf (some x0))]) X.1 X.2.1 dX8_gainsWithSome_32 rfl hl (by decide) rfl (fun ls hl => ?_)
    obtain ⟨n33, h⟩ := h
    have lp33 : ∀ (n33 : Nat) (x0 : Option Nat) (x1 : Int32) (x2 : Int32) (S : qS) (H : Heap) (locs : List Loc) (ls : Array Slot), pX8_gainsWithSome_L33 post xp n33 x0 x1 x2 S → q_H G A s H locs S → lv_has ls 5 [(0, va_rf x0), (1, .int x1), (2, .int x2)] → W p l e (q_rm 4 0 0) s m av below meth c H locs 0 0 (vx_MQ below (q_Qi G post A) (q_XC G A xp) av s 0 0 A) (F0 m 33 ls []) := by
      intro n33
      induction n33 with
      | zero => intro x0 x1 x2 S H locs ls h I hl; exact h.elim
      | succ n33 ih33 =>
        intro x0 x1 x2 S H locs ls h I hl
        unfold pX8_gainsWithSome_L33 at h
        refine lv_iload_n X.1 X.2.1 dX8_gainsWithSome_33 rfl (lv_at hl 2 rfl) ?_
        refine lv_iload_n X.1 X.2.1 dX8_gainsWithSome_34 rfl (lv_at hl 1 rfl) ?_
        refine lv_icmp_ge (tgt := 265) X.1 X.2.1 dX8_gainsWithSome_35 (by decide) (fun c35 => ?_) (fun c35 => ?_)
        · have h := h.1 c35
          refine lv_iconst (v := 0) X.1 X.2.1 dX8_gainsWithSome_265 (by decide) ?_
          exact q_zret X I hr dX8_gainsWithSome_266 h (by decide) (by decide)
        · have h := h.2 c35
          refine q_aload_n X dX8_gainsWithSome_38 rfl (lv_at hl 0 rfl) ?_
          refine q_getI (ci := 9) (k := 30) X I rfl inb_TX8 wd_868 (by decide) qt_390 dX8_gainsWithSome_39 h (fun v39 h => ?_)
          refine lv_iconst (v := 2) X.1 X.2.1 dX8_gainsWithSome_42 (by decide) ?_
          have jn259 : ∀ (x0 : Option Nat) (x1 : Int32) (x2 : Int32) (S : qS) (H : Heap) (locs : List Loc) (ls : Array Slot), pX8_gainsWithSome_J259 (pX8_gainsWithSome_L33 post xp n33) post xp x0 x1 x2 S → q_H G A s H locs S → lv_has ls 5 [(0, va_rf x0), (1, .int x1), (2, .int x2)] → W p l e (q_rm 4 0 0) s m av below meth c H locs 0 0 (vx_MQ below (q_Qi G post A) (q_XC G A xp) av s 0 0 A) (F0 m 259 ls []) := by
            intro x0 x1 x2 S H locs ls h I hl
            unfold pX8_gainsWithSome_J259 at h
            refine lv_iinc (v := (x2 + 1)) (lv' := [(2, .int (x2 + 1)), (0, va_rf x0), (1, .int x1)]) (k := 2) X.1 X.2.1 dX8_gainsWithSome_259 hl rfl rfl (by decide) rfl (fun ls hl => ?_)
            refine lv_goto (tgt := 33) X.1 X.2.1 dX8_gainsWithSome_262 (by decide) ?_
            exact ih33 _ _ _ _ _ _ _ h I (lv_sub hl [1, 2, 0] rfl)
          refine lv_icmp_ne (tgt := 88) X.1 X.2.1 dX8_gainsWithSome_43 (by decide) (fun c43 => ?_) (fun c43 => ?_)
          · have h := h.1 c43
            refine lv_iload_n X.1 X.2.1 dX8_gainsWithSome_88 rfl (lv_at hl 2 rfl) ?_
            refine lv_iconst (v := 1) X.1 X.2.1 dX8_gainsWithSome_89 (by decide) ?_
            refine lv_iadd X.1 X.2.1 dX8_gainsWithSome_90 ?_
            refine lv_istore_n (i := 3) (lv' := [(3, .int (x2 + (1 : Int32))), (0, va_rf x0), (1, .int x1), (2, .int x2)]) X.1 X.2.1 dX8_gainsWithSome_91 rfl hl (by decide) rfl (fun ls hl => ?_)
            obtain ⟨n92, h⟩ := h
            have lp92 : ∀ (n92 : Nat) (x0 : Option Nat) (x1 : Int32) (x2 : Int32) (x3 : Int32) (S : qS) (H : Heap) (locs : List Loc) (ls : Array Slot), pX8_gainsWithSome_L92 (pX8_gainsWithSome_J259 (pX8_gainsWithSome_L33 post xp n33) post xp) post xp n92 x0 x1 x2 x3 S → q_H G A s H locs S → lv_has ls 5 [(0, va_rf x0), (1, .int x1), (2, .int x2), (3, .int x3)] → W p l e (q_rm 4 0 0) s m av below meth c H locs 0 0 (vx_MQ below (q_Qi G post A) (q_XC G A xp) av s 0 0 A) (F0 m 92 ls []) := by
              intro n92
              induction n92 with
              | zero => intro x0 x1 x2 x3 S H locs ls h I hl; exact h.elim
              | succ n92 ih92 =>
                intro x0 x1 x2 x3 S H locs ls h I hl
                unfold pX8_gainsWithSome_L92 at h
                refine lv_iload_n X.1 X.2.1 dX8_gainsWithSome_92 rfl (lv_at hl 3 rfl) ?_
                refine lv_iload_n X.1 X.2.1 dX8_gainsWithSome_93 rfl (lv_at hl 1 rfl) ?_
                refine lv_icmp_ge (tgt := 259) X.1 X.2.1 dX8_gainsWithSome_94 (by decide) (fun c94 => ?_) (fun c94 => ?_)
                · have h := h.1 c94
                  exact jn259 _ _ _ _ _ _ _ h I (lv_sub hl [0, 1, 2] rfl)
                · have h := h.2 c94
                  refine q_aload_n X dX8_gainsWithSome_97 rfl (lv_at hl 0 rfl) ?_
                  refine q_getI (ci := 9) (k := 30) X I rfl inb_TX8 wd_868 (by decide) qt_390 dX8_gainsWithSome_98 h (fun v98 h => ?_)
                  refine lv_iconst (v := 3) X.1 X.2.1 dX8_gainsWithSome_101 (by decide) ?_
                  have jn253 : ∀ (x0 : Option Nat) (x1 : Int32) (x2 : Int32) (x3 : Int32) (S : qS) (H : Heap) (locs : List Loc) (ls : Array Slot), pX8_gainsWithSome_J253 (pX8_gainsWithSome_L92 (pX8_gainsWithSome_J259 (pX8_gainsWithSome_L33 post xp n33) post xp) post xp n92) post xp x0 x1 x2 x3 S → q_H G A s H locs S → lv_has ls 5 [(0, va_rf x0), (1, .int x1), (2, .int x2), (3, .int x3)] → W p l e (q_rm 4 0 0) s m av below meth c H locs 0 0 (vx_MQ below (q_Qi G post A) (q_XC G A xp) av s 0 0 A) (F0 m 253 ls []) := by
                    intro x0 x1 x2 x3 S H locs ls h I hl
                    unfold pX8_gainsWithSome_J253 at h
                    refine lv_iinc (v := (x3 + 1)) (lv' := [(3, .int (x3 + 1)), (0, va_rf x0), (1, .int x1), (2, .int x2)]) (k := 3) X.1 X.2.1 dX8_gainsWithSome_253 hl rfl rfl (by decide) rfl (fun ls hl => ?_)
                    refine lv_goto (tgt := 92) X.1 X.2.1 dX8_gainsWithSome_256 (by decide) ?_
                    exact ih92 _ _ _ _ _ _ _ _ h I (lv_sub hl [1, 2, 3, 0] rfl)
                  refine lv_icmp_ne (tgt := 157) X.1 X.2.1 dX8_gainsWithSome_102 (by decide) (fun c102 => ?_) (fun c102 => ?_)
                  · have h := h.1 c102
                    refine lv_iload_n X.1 X.2.1 dX8_gainsWithSome_157 rfl (lv_at hl 3 rfl) ?_
                    refine lv_iconst (v := 1) X.1 X.2.1 dX8_gainsWithSome_158 (by decide) ?_
                    refine lv_iadd X.1 X.2.1 dX8_gainsWithSome_159 ?_
                    refine lv_istore (i := 4) (lv' := [(4, .int (x3 + (1 : Int32))), (0, va_rf x0), (1, .int x1), (2, .int x2), (3, .int x3)]) X.1 X.2.1 dX8_gainsWithSome_160 hl (by decide) rfl (fun ls hl => ?_)
                    obtain ⟨n162, h⟩ := h
                    have lp162 : ∀ (n162 : Nat) (x0 : Option Nat) (x1 : Int32) (x2 : Int32) (x3 : Int32) (x4 : Int32) (S : qS) (H : Heap) (locs : List Loc) (ls : Array Slot), pX8_gainsWithSome_L162 (pX8_gainsWithSome_J253 (pX8_gainsWithSome_L92 (pX8_gainsWithSome_J259 (pX8_gainsWithSome_L33 post xp n33) post xp) post xp n92) post xp) post xp n162 x0 x1 x2 x3 x4 S → q_H G A s H locs S → lv_has ls 5 [(0, va_rf x0), (1, .int x1), (2, .int x2), (3, .int x3), (4, .int x4)] → W p l e (q_rm 4 0 0) s m av below meth c H locs 0 0 (vx_MQ below (q_Qi G post A) (q_XC G A xp) av s 0 0 A) (F0 m 162 ls []) := by
                      intro n162
                      induction n162 with
                      | zero => intro x0 x1 x2 x3 x4 S H locs ls h I hl; exact h.elim
                      | succ n162 ih162 =>
                        intro x0 x1 x2 x3 x4 S H locs ls h I hl
                        unfold pX8_gainsWithSome_L162 at h
                        refine lv_iload X.1 X.2.1 dX8_gainsWithSome_162 (lv_at hl 4 rfl) ?_
                        refine lv_iload_n X.1 X.2.1 dX8_gainsWithSome_164 rfl (lv_at hl 1 rfl) ?_
                        refine lv_icmp_ge (tgt := 253) X.1 X.2.1 dX8_gainsWithSome_165 (by decide) (fun c165 => ?_) (fun c165 => ?_)
                        · have h := h.1 c165
                          exact jn253 _ _ _ _ _ _ _ _ h I (lv_sub hl [0, 1, 2, 3] rfl)
                        · have h := h.2 c165
                          refine q_aload_n X dX8_gainsWithSome_168 rfl (lv_at hl 0 rfl) ?_
                          refine q_getR (ci := 9) (k := 32) X I rfl inb_TX8 wd_870 (by decide) qt_392 dX8_gainsWithSome_169 h (fun v169 h => ?_)
                          refine lv_iconst (v := 0) X.1 X.2.1 dX8_gainsWithSome_172 (by decide) ?_
                          refine q_aload_n X dX8_gainsWithSome_173 rfl (lv_at hl 0 rfl) ?_
                          refine lv_iload_n X.1 X.2.1 dX8_gainsWithSome_174 rfl (lv_at hl 2 rfl) ?_
                          refine lv_iload_n X.1 X.2.1 dX8_gainsWithSome_175 rfl (lv_at hl 3 rfl) ?_
                          refine lv_iload X.1 X.2.1 dX8_gainsWithSome_176 (lv_at hl 4 rfl) ?_
                          refine lv_iconst (v := 1) X.1 X.2.1 dX8_gainsWithSome_178 (by decide) ?_
                          refine lv_iconst (v := 2) X.1 X.2.1 dX8_gainsWithSome_179 (by decide) ?_
                          refine lv_iconst (v := 3) X.1 X.2.1 dX8_gainsWithSome_180 (by decide) ?_
                          refine q_cVj (As := [.int x2, .int x3, .int x4, .int (1 : Int32), .int (2 : Int32), .int (3 : Int32)]) (rest := [.int (0 : Int32), va_rf v169]) (c1 := 0) (s1 := 0) (d := 2) (mc := 0) (ms := 0) X N I hl.1 mX8_three wd_1119 dX8_gainsWithSome_181 rfl h (fun b h => kX8_three hl0 h) rfl (by simp [q_cat, q_catI, q_catJ]) ⟨by decide, by decide⟩ ⟨by decide, by decide⟩ ⟨by decide, by decide⟩ rfl rfl (fun v181 S H locs I h => ?_)
                          refine q_stJ X I (by decide) (by decide) dX8_gainsWithSome_184 h (fun S H locs I h => ?_)
                          refine q_aload_n X dX8_gainsWithSome_185 rfl (lv_at hl 0 rfl) ?_
                          refine q_getR (ci := 9) (k := 32) X I rfl inb_TX8 wd_870 (by decide) qt_392 dX8_gainsWithSome_186 h (fun v186 h => ?_)
                          refine lv_iconst (v := 1) X.1 X.2.1 dX8_gainsWithSome_189 (by decide) ?_
                          refine q_aload_n X dX8_gainsWithSome_190 rfl (lv_at hl 0 rfl) ?_
                          refine lv_iload_n X.1 X.2.1 dX8_gainsWithSome_191 rfl (lv_at hl 2 rfl) ?_
                          refine lv_iload_n X.1 X.2.1 dX8_gainsWithSome_192 rfl (lv_at hl 3 rfl) ?_
                          refine lv_iload X.1 X.2.1 dX8_gainsWithSome_193 (lv_at hl 4 rfl) ?_
                          refine lv_iconst (v := 0) X.1 X.2.1 dX8_gainsWithSome_195 (by decide) ?_
                          refine lv_iconst (v := 2) X.1 X.2.1 dX8_gainsWithSome_196 (by decide) ?_
                          refine lv_iconst (v := 3) X.1 X.2.1 dX8_gainsWithSome_197 (by decide) ?_
                          refine q_cVj (As := [.int x2, .int x3, .int x4, .int (0 : Int32), .int (2 : Int32), .int (3 : Int32)]) (rest := [.int (1 : Int32), va_rf v186]) (c1 := 0) (s1 := 0) (d := 2) (mc := 0) (ms := 0) X N I hl.1 mX8_three wd_1119 dX8_gainsWithSome_198 rfl h (fun b h => kX8_three hl0 h) rfl (by simp [q_cat, q_catI, q_catJ]) ⟨by decide, by decide⟩ ⟨by decide, by decide⟩ ⟨by decide, by decide⟩ rfl rfl (fun v198 S H locs I h => ?_)
                          refine lv_lneg X.1 X.2.1 dX8_gainsWithSome_201 ?_
                          refine q_stJ X I (by decide) (by decide) dX8_gainsWithSome_202 h (fun S H locs I h => ?_)
                          refine q_aload_n X dX8_gainsWithSome_203 rfl (lv_at hl 0 rfl) ?_
                          refine q_getR (ci := 9) (k := 32) X I rfl inb_TX8 wd_870 (by decide) qt_392 dX8_gainsWithSome_204 h (fun v204 h => ?_)
                          refine lv_iconst (v := 2) X.1 X.2.1 dX8_gainsWithSome_207 (by decide) ?_
                          refine q_aload_n X dX8_gainsWithSome_208 rfl (lv_at hl 0 rfl) ?_
                          refine lv_iload_n X.1 X.2.1 dX8_gainsWithSome_209 rfl (lv_at hl 2 rfl) ?_
                          refine lv_iload_n X.1 X.2.1 dX8_gainsWithSome_210 rfl (lv_at hl 3 rfl) ?_
                          refine lv_iload X.1 X.2.1 dX8_gainsWithSome_211 (lv_at hl 4 rfl) ?_
                          refine lv_iconst (v := 0) X.1 X.2.1 dX8_gainsWithSome_213 (by decide) ?_
                          refine lv_iconst (v := 1) X.1 X.2.1 dX8_gainsWithSome_214 (by decide) ?_
                          refine lv_iconst (v := 3) X.1 X.2.1 dX8_gainsWithSome_215 (by decide) ?_
                          refine q_cVj (As := [.int x2, .int x3, .int x4, .int (0 : Int32), .int (1 : Int32), .int (3 : Int32)]) (rest := [.int (2 : Int32), va_rf v204]) (c1 := 0) (s1 := 0) (d := 2) (mc := 0) (ms := 0) X N I hl.1 mX8_three wd_1119 dX8_gainsWithSome_216 rfl h (fun b h => kX8_three hl0 h) rfl (by simp [q_cat, q_catI, q_catJ]) ⟨by decide, by decide⟩ ⟨by decide, by decide⟩ ⟨by decide, by decide⟩ rfl rfl (fun v216 S H locs I h => ?_)
                          refine q_stJ X I (by decide) (by decide) dX8_gainsWithSome_219 h (fun S H locs I h => ?_)
                          refine q_aload_n X dX8_gainsWithSome_220 rfl (lv_at hl 0 rfl) ?_
                          refine q_getR (ci := 9) (k := 32) X I rfl inb_TX8 wd_870 (by decide) qt_392 dX8_gainsWithSome_221 h (fun v221 h => ?_)
                          refine lv_iconst (v := 3) X.1 X.2.1 dX8_gainsWithSome_224 (by decide) ?_
                          refine q_aload_n X dX8_gainsWithSome_225 rfl (lv_at hl 0 rfl) ?_
                          refine lv_iload_n X.1 X.2.1 dX8_gainsWithSome_226 rfl (lv_at hl 2 rfl) ?_
                          refine lv_iload_n X.1 X.2.1 dX8_gainsWithSome_227 rfl (lv_at hl 3 rfl) ?_
                          refine lv_iload X.1 X.2.1 dX8_gainsWithSome_228 (lv_at hl 4 rfl) ?_
                          refine lv_iconst (v := 0) X.1 X.2.1 dX8_gainsWithSome_230 (by decide) ?_
                          refine lv_iconst (v := 1) X.1 X.2.1 dX8_gainsWithSome_231 (by decide) ?_
                          refine lv_iconst (v := 2) X.1 X.2.1 dX8_gainsWithSome_232 (by decide) ?_
                          refine q_cVj (As := [.int x2, .int x3, .int x4, .int (0 : Int32), .int (1 : Int32), .int (2 : Int32)]) (rest := [.int (3 : Int32), va_rf v221]) (c1 := 0) (s1 := 0) (d := 2) (mc := 0) (ms := 0) X N I hl.1 mX8_three wd_1119 dX8_gainsWithSome_233 rfl h (fun b h => kX8_three hl0 h) rfl (by simp [q_cat, q_catI, q_catJ]) ⟨by decide, by decide⟩ ⟨by decide, by decide⟩ ⟨by decide, by decide⟩ rfl rfl (fun v233 S H locs I h => ?_)
                          refine lv_lneg X.1 X.2.1 dX8_gainsWithSome_236 ?_
                          refine q_stJ X I (by decide) (by decide) dX8_gainsWithSome_237 h (fun S H locs I h => ?_)
                          refine q_aload_n X dX8_gainsWithSome_238 rfl (lv_at hl 0 rfl) ?_
                          refine q_cVi (As := []) (rest := []) (c1 := 0) (s1 := 0) (d := 3) (mc := 0) (ms := 0) X N I hl.1 mX8_isGain wd_1106 dX8_gainsWithSome_239 rfl h (fun b h => kX8_isGain hl0 h) rfl (Nat.le_of_ble_eq_true rfl) ⟨by decide, by decide⟩ ⟨by decide, by decide⟩ ⟨by decide, by decide⟩ rfl rfl (fun v239 S H locs I h => ?_)
                          refine lv_if_eq (tgt := 247) X.1 X.2.1 dX8_gainsWithSome_242 (by decide) (fun c242 => ?_) (fun c242 => ?_)
                          · have h := h.1 c242
                            refine lv_iinc (v := (x4 + 1)) (lv' := [(4, .int (x4 + 1)), (0, va_rf x0), (1, .int x1), (2, .int x2), (3, .int x3)]) (k := 4) X.1 X.2.1 dX8_gainsWithSome_247 hl rfl rfl (by decide) rfl (fun ls hl => ?_)
                            refine lv_goto (tgt := 162) X.1 X.2.1 dX8_gainsWithSome_250 (by decide) ?_
                            exact ih162 _ _ _ _ _ _ _ _ _ h I (lv_sub hl [1, 2, 3, 4, 0] rfl)
                          · have h := h.2 c242
                            refine lv_iconst (v := 1) X.1 X.2.1 dX8_gainsWithSome_245 (by decide) ?_
                            exact q_zret X I hr dX8_gainsWithSome_246 h (by decide) (by decide)
                    exact lp162 n162 _ _ _ _ _ _ _ _ _ h I (lv_sub hl [1, 2, 3, 4, 0] rfl)
                  · have h := h.2 c102
                    refine q_aload_n X dX8_gainsWithSome_105 rfl (lv_at hl 0 rfl) ?_
                    refine q_getR (ci := 9) (k := 32) X I rfl inb_TX8 wd_870 (by decide) qt_392 dX8_gainsWithSome_106 h (fun v106 h => ?_)
                    refine lv_iconst (v := 0) X.1 X.2.1 dX8_gainsWithSome_109 (by decide) ?_
                    refine q_aload_n X dX8_gainsWithSome_110 rfl (lv_at hl 0 rfl) ?_
                    refine lv_iload_n X.1 X.2.1 dX8_gainsWithSome_111 rfl (lv_at hl 2 rfl) ?_
                    refine lv_iload_n X.1 X.2.1 dX8_gainsWithSome_112 rfl (lv_at hl 3 rfl) ?_
                    refine lv_iconst (v := 1) X.1 X.2.1 dX8_gainsWithSome_113 (by decide) ?_
                    refine lv_iconst (v := 2) X.1 X.2.1 dX8_gainsWithSome_114 (by decide) ?_
                    refine q_cVj (As := [.int x2, .int x3, .int (1 : Int32), .int (2 : Int32)]) (rest := [.int (0 : Int32), va_rf v106]) (c1 := 0) (s1 := 0) (d := 1) (mc := 0) (ms := 0) X N I hl.1 mX8_two wd_1115 dX8_gainsWithSome_115 rfl h (fun b h => kX8_two hl0 h) rfl (by simp [q_cat, q_catI, q_catJ]) ⟨by decide, by decide⟩ ⟨by decide, by decide⟩ ⟨by decide, by decide⟩ rfl rfl (fun v115 S H locs I h => ?_)
                    refine q_stJ X I (by decide) (by decide) dX8_gainsWithSome_118 h (fun S H locs I h => ?_)
                    refine q_aload_n X dX8_gainsWithSome_119 rfl (lv_at hl 0 rfl) ?_
                    refine q_getR (ci := 9) (k := 32) X I rfl inb_TX8 wd_870 (by decide) qt_392 dX8_gainsWithSome_120 h (fun v120 h => ?_)
                    refine lv_iconst (v := 1) X.1 X.2.1 dX8_gainsWithSome_123 (by decide) ?_
                    refine q_aload_n X dX8_gainsWithSome_124 rfl (lv_at hl 0 rfl) ?_
                    refine lv_iload_n X.1 X.2.1 dX8_gainsWithSome_125 rfl (lv_at hl 2 rfl) ?_
                    refine lv_iload_n X.1 X.2.1 dX8_gainsWithSome_126 rfl (lv_at hl 3 rfl) ?_
                    refine lv_iconst (v := 0) X.1 X.2.1 dX8_gainsWithSome_127 (by decide) ?_
                    refine lv_iconst (v := 2) X.1 X.2.1 dX8_gainsWithSome_128 (by decide) ?_
                    refine q_cVj (As := [.int x2, .int x3, .int (0 : Int32), .int (2 : Int32)]) (rest := [.int (1 : Int32), va_rf v120]) (c1 := 0) (s1 := 0) (d := 1) (mc := 0) (ms := 0) X N I hl.1 mX8_two wd_1115 dX8_gainsWithSome_129 rfl h (fun b h => kX8_two hl0 h) rfl (by simp [q_cat, q_catI, q_catJ]) ⟨by decide, by decide⟩ ⟨by decide, by decide⟩ ⟨by decide, by decide⟩ rfl rfl (fun v129 S H locs I h => ?_)
                    refine lv_lneg X.1 X.2.1 dX8_gainsWithSome_132 ?_
                    refine q_stJ X I (by decide) (by decide) dX8_gainsWithSome_133 h (fun S H locs I h => ?_)
                    refine q_aload_n X dX8_gainsWithSome_134 rfl (lv_at hl 0 rfl) ?_
                    refine q_getR (ci := 9) (k := 32) X I rfl inb_TX8 wd_870 (by decide) qt_392 dX8_gainsWithSome_135 h (fun v135 h => ?_)
                    refine lv_iconst (v := 2) X.1 X.2.1 dX8_gainsWithSome_138 (by decide) ?_
                    refine q_aload_n X dX8_gainsWithSome_139 rfl (lv_at hl 0 rfl) ?_
                    refine lv_iload_n X.1 X.2.1 dX8_gainsWithSome_140 rfl (lv_at hl 2 rfl) ?_
                    refine lv_iload_n X.1 X.2.1 dX8_gainsWithSome_141 rfl (lv_at hl 3 rfl) ?_
                    refine lv_iconst (v := 0) X.1 X.2.1 dX8_gainsWithSome_142 (by decide) ?_
                    refine lv_iconst (v := 1) X.1 X.2.1 dX8_gainsWithSome_143 (by decide) ?_
                    refine q_cVj (As := [.int x2, .int x3, .int (0 : Int32), .int (1 : Int32)]) (rest := [.int (2 : Int32), va_rf v135]) (c1 := 0) (s1 := 0) (d := 1) (mc := 0) (ms := 0) X N I hl.1 mX8_two wd_1115 dX8_gainsWithSome_144 rfl h (fun b h => kX8_two hl0 h) rfl (by simp [q_cat, q_catI, q_catJ]) ⟨by decide, by decide⟩ ⟨by decide, by decide⟩ ⟨by decide, by decide⟩ rfl rfl (fun v144 S H locs I h => ?_)
                    refine q_stJ X I (by decide) (by decide) dX8_gainsWithSome_147 h (fun S H locs I h => ?_)
                    refine q_aload_n X dX8_gainsWithSome_148 rfl (lv_at hl 0 rfl) ?_
                    refine q_cVi (As := []) (rest := []) (c1 := 0) (s1 := 0) (d := 3) (mc := 0) (ms := 0) X N I hl.1 mX8_isGain wd_1106 dX8_gainsWithSome_149 rfl h (fun b h => kX8_isGain hl0 h) rfl (Nat.le_of_ble_eq_true rfl) ⟨by decide, by decide⟩ ⟨by decide, by decide⟩ ⟨by decide, by decide⟩ rfl rfl (fun v149 S H locs I h => ?_)
                    refine lv_if_eq (tgt := 253) X.1 X.2.1 dX8_gainsWithSome_152 (by decide) (fun c152 => ?_) (fun c152 => ?_)
                    · have h := h.1 c152
                      exact jn253 _ _ _ _ _ _ _ _ h I (lv_sub hl [0, 1, 2, 3] rfl)
                    · have h := h.2 c152
                      refine lv_iconst (v := 1) X.1 X.2.1 dX8_gainsWithSome_155 (by decide) ?_
                      exact q_zret X I hr dX8_gainsWithSome_156 h (by decide) (by decide)
            exact lp92 n92 _ _ _ _ _ _ _ _ h I (lv_sub hl [1, 2, 3, 0] rfl)
          · have h := h.2 c43
            refine q_aload_n X dX8_gainsWithSome_46 rfl (lv_at hl 0 rfl) ?_
            refine q_getR (ci := 9) (k := 32) X I rfl inb_TX8 wd_870 (by decide) qt_392 dX8_gainsWithSome_47 h (fun v47 h => ?_)
            refine lv_iconst (v := 0) X.1 X.2.1 dX8_gainsWithSome_50 (by decide) ?_
            refine q_aload_n X dX8_gainsWithSome_51 rfl (lv_at hl 0 rfl) ?_
            refine q_getR (ci := 9) (k := 31) X I rfl inb_TX8 wd_869 (by decide) qt_391 dX8_gainsWithSome_52 h (fun v52 h => ?_)
            refine lv_iconst (v := 4) X.1 X.2.1 dX8_gainsWithSome_55 (by decide) ?_
            refine lv_iload_n X.1 X.2.1 dX8_gainsWithSome_56 rfl (lv_at hl 2 rfl) ?_
            refine lv_imul X.1 X.2.1 dX8_gainsWithSome_57 ?_
            refine lv_iconst (v := 1) X.1 X.2.1 dX8_gainsWithSome_58 (by decide) ?_
            refine lv_iadd X.1 X.2.1 dX8_gainsWithSome_59 ?_
            refine q_ldI X I (by decide) (by decide) dX8_gainsWithSome_60 h (fun v60 h => ?_)
            refine lv_i2l X.1 X.2.1 dX8_gainsWithSome_61 rfl ?_
            refine q_stJ X I (by decide) (by decide) dX8_gainsWithSome_62 h (fun S H locs I h => ?_)
            refine q_aload_n X dX8_gainsWithSome_63 rfl (lv_at hl 0 rfl) ?_
            refine q_getR (ci := 9) (k := 32) X I rfl inb_TX8 wd_870 (by decide) qt_392 dX8_gainsWithSome_64 h (fun v64 h => ?_)
            refine lv_iconst (v := 1) X.1 X.2.1 dX8_gainsWithSome_67 (by decide) ?_
            refine q_aload_n X dX8_gainsWithSome_68 rfl (lv_at hl 0 rfl) ?_
            refine q_getR (ci := 9) (k := 31) X I rfl inb_TX8 wd_869 (by decide) qt_391 dX8_gainsWithSome_69 h (fun v69 h => ?_)
            refine lv_iconst (v := 4) X.1 X.2.1 dX8_gainsWithSome_72 (by decide) ?_
            refine lv_iload_n X.1 X.2.1 dX8_gainsWithSome_73 rfl (lv_at hl 2 rfl) ?_
            refine lv_imul X.1 X.2.1 dX8_gainsWithSome_74 ?_
            refine q_ldI X I (by decide) (by decide) dX8_gainsWithSome_75 h (fun v75 h => ?_)
            refine lv_ineg X.1 X.2.1 dX8_gainsWithSome_76 ?_
            refine lv_i2l X.1 X.2.1 dX8_gainsWithSome_77 rfl ?_
            refine q_stJ X I (by decide) (by decide) dX8_gainsWithSome_78 h (fun S H locs I h => ?_)
            refine q_aload_n X dX8_gainsWithSome_79 rfl (lv_at hl 0 rfl) ?_
            refine q_cVi (As := []) (rest := []) (c1 := 0) (s1 := 0) (d := 3) (mc := 0) (ms := 0) X N I hl.1 mX8_isGain wd_1106 dX8_gainsWithSome_80 rfl h (fun b h => kX8_isGain hl0 h) rfl (Nat.le_of_ble_eq_true rfl) ⟨by decide, by decide⟩ ⟨by decide, by decide⟩ ⟨by decide, by decide⟩ rfl rfl (fun v80 S H locs I h => ?_)
            refine lv_if_eq (tgt := 259) X.1 X.2.1 dX8_gainsWithSome_83 (by decide) (fun c83 => ?_) (fun c83 => ?_)
            · have h := h.1 c83
              exact jn259 _ _ _ _ _ _ _ h I (lv_sub hl [0, 1, 2] rfl)
            · have h := h.2 c83
              refine lv_iconst (v := 1) X.1 X.2.1 dX8_gainsWithSome_86 (by decide) ?_
              exact q_zret X I hr dX8_gainsWithSome_87 h (by decide) (by decide)
    exact lp33 n33 _ _ _ _ _ _ _ h I (lv_sub hl [2, 1, 0] rfl)
  · have h := h.2 c16
    refine q_aload_n X dX8_gainsWithSome_19 rfl (lv_at hl 1 rfl) ?_
    refine q_getR (ci := 9) (k := 32) X I rfl inb_TX8 wd_870 (by decide) qt_392 dX8_gainsWithSome_20 h (fun v20 h => ?_)
    refine lv_iconst (v := 0) X.1 X.2.1 dX8_gainsWithSome_23 (by decide) ?_
    refine lv_lconst (v := 1) X.1 X.2.1 dX8_gainsWithSome_24 (by decide) ?_
    refine q_stJ X I (by decide) (by decide) dX8_gainsWithSome_25 h (fun S H locs I h => ?_)
    refine q_aload_n X dX8_gainsWithSome_26 rfl (lv_at hl 1 rfl) ?_
    refine q_cVi (As := []) (rest := []) (c1 := 0) (s1 := 0) (d := 3) (mc := 0) (ms := 0) X N I hl.1 mX8_isGain wd_1106 dX8_gainsWithSome_27 rfl h (fun b h => kX8_isGain hl0 h) rfl (Nat.le_of_ble_eq_true rfl) ⟨by decide, by decide⟩ ⟨by decide, by decide⟩ ⟨by decide, by decide⟩ rfl rfl (fun v27 S H locs I h => ?_)
    exact q_zret X I hr dX8_gainsWithSome_30 h (by decide) (by decide)

def pX8_times_J43  (post : qS → Prop) (xp : String → qS → Prop)  (S : qS) : Prop :=
  post S
def pX8_times_J36  (post : qS → Prop) (xp : String → qS → Prop) (x0 : Option Nat) (x1 : Int32) (x2 : Int32) (t0 : Option Nat) (t1 : Int32) (S : qS) : Prop :=
  w_at S t0 9 (fun b37 => pX8_throwsIf b37 t1 (2 : Int32) S (fun v37 S =>
  ((v37 = 0 →
  w_getR S x0 9 10 (fun v45 =>
  w_stI S v45 40 x1 x2 (fun S =>
  post S))) ∧ (¬ v37 = 0 →
  pX8_times_J43 post xp S))) xp)
def pX8_times (x0 : Nat) (x1 : Int32) (x2 : Int32) (S : qS) (post : qS → Prop) (xp : String → qS → Prop) : Prop :=
  w_putI S (some x0) 9 0 (0 : Int32) (fun S =>
  w_at S (some x0) 9 (fun b8 => pX8_noRule b8 x1 S (fun v8 S =>
  w_at S (some x0) 9 (fun b12 => pX8_throwsIf b12 v8 (1 : Int32) S (fun v12 S =>
  ((¬ v12 = 0 →
  pX8_times_J43 post xp S) ∧ (v12 = 0 →
  pX8_in x2.toInt64 (0 : Int64) (1000 : Int64) S (fun v25 S =>
  ((¬ v25 = 0 →
  pX8_times_J36 post xp (some x0) x1 x2 (some x0) (0 : Int32) S) ∧ (v25 = 0 →
  pX8_times_J36 post xp (some x0) x1 x2 (some x0) (1 : Int32) S))) xp))) xp)) xp))
set_option maxHeartbeats 4000000 in
set_option maxRecDepth 100000 in
theorem kX8_times {l : Launch} (hl0 : l.stackTraces = false) {G : qG} {S : qS} {sz : Nat} {x0 : Nat} {x1 : Int32} {x2 : Int32} {post : qS → Prop} {xp : String → qS → Prop} (h : pX8_times x0 x1 x2 S post xp) : q_M l yX8_times cX8_times 3 none 3 0 0 G S sz [va_rf (some x0), .int x1, .int x2] (q_Qv G post) xp := by
  refine q_of (lv := [(0, va_rf (some x0)), (1, .int x1), (2, .int x2)]) hl0 (by decide) rfl (Nat.le_of_ble_eq_true rfl) (fun p e s m below meth c A ls X N hr hnm I hl => ?_)
  generalize ([va_rf (some x0), .int x1, .int x2] : List Value).toArray = av at X ⊢
  unfold pX8_times at h
  refine q_aload_n X dX8_times_0 rfl (lv_at hl 0 rfl) ?_
  refine lv_iconst (v := 0) X.1 X.2.1 dX8_times_1 (by decide) ?_
  refine q_putI (ci := 9) (k := 0) X I rfl inb_TX8 tyX8_ok nmX8 wd_838 (by decide) (Or.inl rfl) qt_360 rfl dX8_times_2 h (fun S H locs I h => ?_)
  refine q_aload_n X dX8_times_5 rfl (lv_at hl 0 rfl) ?_
  refine q_aload_n X dX8_times_6 rfl (lv_at hl 0 rfl) ?_
  refine lv_iload_n X.1 X.2.1 dX8_times_7 rfl (lv_at hl 1 rfl) ?_
  refine q_cVi (As := [.int x1]) (rest := [va_rf (some x0)]) (c1 := 0) (s1 := 0) (d := 2) (mc := 0) (ms := 0) X N I hl.1 mX8_noRule wd_959 dX8_times_8 rfl h (fun b h => kX8_noRule hl0 h) rfl (Nat.le_of_ble_eq_true rfl) ⟨by decide, by decide⟩ ⟨by decide, by decide⟩ ⟨by decide, by decide⟩ rfl rfl (fun v8 S H locs I h => ?_)
  refine lv_iconst (v := 1) X.1 X.2.1 dX8_times_11 (by decide) ?_
  refine q_cVi (As := [.int v8, .int (1 : Int32)]) (rest := []) (c1 := 0) (s1 := 0) (d := 1) (mc := 0) (ms := 0) X N I hl.1 mX8_throwsIf wd_947 dX8_times_12 rfl h (fun b h => kX8_throwsIf hl0 h) rfl (Nat.le_of_ble_eq_true rfl) ⟨by decide, by decide⟩ ⟨by decide, by decide⟩ ⟨by decide, by decide⟩ rfl rfl (fun v12 S H locs I h => ?_)
  have jn43 : ∀ (S : qS) (H : Heap) (locs : List Loc) (ls : Array Slot), pX8_times_J43 post xp S → q_H G A s H locs S → lv_has ls 3 [] → W p l e (q_rm 3 0 0) s m av below meth c H locs 0 0 (vx_MQ below (q_Qv G post A) (q_XC G A xp) av s 0 0 A) (F0 m 43 ls []) := by
    intro S H locs ls h I hl
    unfold pX8_times_J43 at h
    exact q_vret X I hr dX8_times_43 h (by decide) (by decide)
  refine lv_if_ne (tgt := 43) X.1 X.2.1 dX8_times_15 (by decide) (fun c15 => ?_) (fun c15 => ?_)
  · have h := h.1 c15
    exact jn43 _ _ _ _ h I (lv_sub hl [] rfl)
  · have h := h.2 c15
    refine q_aload_n X dX8_times_18 rfl (lv_at hl 0 rfl) ?_
    refine lv_iload_n X.1 X.2.1 dX8_times_19 rfl (lv_at hl 2 rfl) ?_
    refine lv_i2l X.1 X.2.1 dX8_times_20 rfl ?_
    refine lv_lconst (v := 0) X.1 X.2.1 dX8_times_21 (by decide) ?_
    refine lv_ldc2 X.1 X.2.1 X.2.2.1 (X.2.2.2.1 _ wd_979) dX8_times_22 ?_
    refine q_cSi (As := [.long x2.toInt64, .long (0 : Int64), .long (1000 : Int64)]) (rest := [va_rf (some x0)]) (c1 := 0) (s1 := 0) (d := 1) (mc := 0) (ms := 0) X N I hl.1 mX8_in wd_963 dX8_times_25 rfl (kX8_in hl0 h) rfl (Nat.le_of_ble_eq_true rfl) ⟨by decide, by decide⟩ ⟨by decide, by decide⟩ ⟨by decide, by decide⟩ rfl rfl (fun v25 S H locs I h => ?_)
    have jn36 : ∀ (x0 : Option Nat) (x1 : Int32) (x2 : Int32) (t0 : Option Nat) (t1 : Int32) (S : qS) (H : Heap) (locs : List Loc) (ls : Array Slot), pX8_times_J36 post xp x0 x1 x2 t0 t1 S → q_H G A s H locs S → lv_has ls 3 [(0, va_rf x0), (1, .int x1), (2, .int x2)] → W p l e (q_rm 3 0 0) s m av below meth c H locs 0 0 (vx_MQ below (q_Qv G post A) (q_XC G A xp) av s 0 0 A) (F0 m 36 ls [.int t1, va_rf t0]) := by
      intro x0 x1 x2 t0 t1 S H locs ls h I hl
      unfold pX8_times_J36 at h
      refine lv_iconst (v := 2) X.1 X.2.1 dX8_times_36 (by decide) ?_
      refine q_cVi (As := [.int t1, .int (2 : Int32)]) (rest := []) (c1 := 0) (s1 := 0) (d := 1) (mc := 0) (ms := 0) X N I hl.1 mX8_throwsIf wd_947 dX8_times_37 rfl h (fun b h => kX8_throwsIf hl0 h) rfl (Nat.le_of_ble_eq_true rfl) ⟨by decide, by decide⟩ ⟨by decide, by decide⟩ ⟨by decide, by decide⟩ rfl rfl (fun v37 S H locs I h => ?_)
      refine lv_if_eq (tgt := 44) X.1 X.2.1 dX8_times_40 (by decide) (fun c40 => ?_) (fun c40 => ?_)
      · have h := h.1 c40
        refine q_aload_n X dX8_times_44 rfl (lv_at hl 0 rfl) ?_
        refine q_getR (ci := 9) (k := 10) X I rfl inb_TX8 wd_848 (by decide) qt_370 dX8_times_45 h (fun v45 h => ?_)
        refine lv_iload_n X.1 X.2.1 dX8_times_48 rfl (lv_at hl 1 rfl) ?_
        refine lv_iload_n X.1 X.2.1 dX8_times_49 rfl (lv_at hl 2 rfl) ?_
        refine q_stI X I (by decide) (by decide) dX8_times_50 h (fun S H locs I h => ?_)
        exact q_vret X I hr dX8_times_51 h (by decide) (by decide)
      · have h := h.2 c40
        exact jn43 _ _ _ _ h I (lv_sub hl [] rfl)
    refine lv_if_ne (tgt := 35) X.1 X.2.1 dX8_times_28 (by decide) (fun c28 => ?_) (fun c28 => ?_)
    · have h := h.1 c28
      refine lv_iconst (v := 0) X.1 X.2.1 dX8_times_35 (by decide) ?_
      exact jn36 _ _ _ _ _ _ _ _ _ h I (lv_sub hl [0, 1, 2] rfl)
    · have h := h.2 c28
      refine lv_iconst (v := 1) X.1 X.2.1 dX8_times_31 (by decide) ?_
      refine lv_goto (tgt := 36) X.1 X.2.1 dX8_times_32 (by decide) ?_
      exact jn36 _ _ _ _ _ _ _ _ _ h I (lv_sub hl [0, 1, 2] rfl)

def pX8_earns_J120  (post : Int32 → qS → Prop) (xp : String → qS → Prop) (t0 : Int32) (S : qS) : Prop :=
  ((t0 = 0 ∨ t0 = 1) ∧ post t0 S)
def pX8_earns_J119  (post : Int32 → qS → Prop) (xp : String → qS → Prop)  (S : qS) : Prop :=
  pX8_earns_J120 post xp (0 : Int32) S
def pX8_earns_J107  (post : Int32 → qS → Prop) (xp : String → qS → Prop) (x1 : Int32) (x2 : Int32) (S : qS) : Prop :=
  ((x1 = 0 →
  pX8_earns_J119 post xp S) ∧ (¬ x1 = 0 →
  ((x2 = 0 →
  pX8_earns_J119 post xp S) ∧ (¬ x2 = 0 →
  pX8_earns_J120 post xp (1 : Int32) S))))
def pX8_earns_J100 (k11 : Option Nat → Int32 → Int32 → Int32 → qS → Prop) (post : Int32 → qS → Prop) (xp : String → qS → Prop) (x0 : Option Nat) (x1 : Int32) (x3 : Int32) (t0 : Int32) (S : qS) : Prop :=
  k11 x0 x1 t0 (x3 + 1) S
def pX8_earns_J95 (k11 : Option Nat → Int32 → Int32 → Int32 → qS → Prop) (post : Int32 → qS → Prop) (xp : String → qS → Prop) (x0 : Option Nat) (x1 : Int32) (x3 : Int32) (S : qS) : Prop :=
  pX8_earns_J100 k11 post xp x0 x1 x3 (1 : Int32) S
def pX8_earns_J85 (k11 : Option Nat → Int32 → Int32 → Int32 → qS → Prop) (post : Int32 → qS → Prop) (xp : String → qS → Prop) (x0 : Option Nat) (x2 : Int32) (x3 : Int32) (x4 : Int32) (t0 : Int32) (S : qS) : Prop :=
  ((¬ x2 = 0 →
  pX8_earns_J95 k11 post xp x0 t0 x3 S) ∧ (x2 = 0 →
  ((x4 ≤ 0 →
  pX8_earns_J100 k11 post xp x0 t0 x3 (0 : Int32) S) ∧ (¬ x4 ≤ 0 →
  pX8_earns_J95 k11 post xp x0 t0 x3 S))))
def pX8_earns_J84 (k11 : Option Nat → Int32 → Int32 → Int32 → qS → Prop) (post : Int32 → qS → Prop) (xp : String → qS → Prop) (x0 : Option Nat) (x2 : Int32) (x3 : Int32) (x4 : Int32) (S : qS) : Prop :=
  pX8_earns_J85 k11 post xp x0 x2 x3 x4 (0 : Int32) S
def pX8_earns_J71 (k11 : Option Nat → Int32 → Int32 → Int32 → qS → Prop) (post : Int32 → qS → Prop) (xp : String → qS → Prop) (x0 : Option Nat) (x1 : Int32) (x2 : Int32) (x3 : Int32) (x4 : Int32) (S : qS) : Prop :=
  ((x1 = 0 →
  pX8_earns_J84 k11 post xp x0 x2 x3 x4 S) ∧ (¬ x1 = 0 →
  ((x4 < 0 →
  pX8_earns_J84 k11 post xp x0 x2 x3 x4 S) ∧ (¬ x4 < 0 →
  pX8_earns_J85 k11 post xp x0 x2 x3 x4 (1 : Int32) S))))
def pX8_earns_J62 (k22 : Option Nat → Int32 → Int32 → Int32 → Int32 → Int32 → qS → Prop) (post : Int32 → qS → Prop) (xp : String → qS → Prop) (x0 : Option Nat) (x1 : Int32) (x2 : Int32) (x3 : Int32) (x5 : Int32) (t0 : Int32) (t1 : Int32) (S : qS) : Prop :=
  k22 x0 x1 x2 x3 (t0 + t1) (x5 + 1) S
def pX8_earns_L22 (k71 : Option Nat → Int32 → Int32 → Int32 → Int32 → qS → Prop) (post : Int32 → qS → Prop) (xp : String → qS → Prop) : Nat → Option Nat → Int32 → Int32 → Int32 → Int32 → Int32 → qS → Prop
  | 0, _, _, _, _, _, _, _ => False
  | n22 + 1, x0, x1, x2, x3, x4, x5, S =>
  w_getI S x0 9 12 (fun v25 =>
  ((v25 ≤ x5 →
  k71 x0 x1 x2 x3 x4 S) ∧ (¬ v25 ≤ x5 →
  w_getR S x0 9 9 (fun v34 =>
  w_ldI S v34 39 x5 (fun v39 =>
  ((v39 = 0 →
  w_getR S x0 9 10 (fun v48 =>
  w_ldI S v48 40 x5 (fun v53 =>
  w_at S x0 9 (fun b58 => pX8_leaves b58 x5 x3 S (fun v58 S =>
  pX8_earns_J62 (pX8_earns_L22 k71 post xp n22) post xp x0 x1 x2 x3 x5 x4 (v53 * v58) S) xp)))) ∧ (¬ v39 = 0 →
  pX8_earns_J62 (pX8_earns_L22 k71 post xp n22) post xp x0 x1 x2 x3 x5 x4 (0 : Int32) S)))))))
def pX8_earns_L11 (k107 : Int32 → Int32 → qS → Prop) (post : Int32 → qS → Prop) (xp : String → qS → Prop) : Nat → Option Nat → Int32 → Int32 → Int32 → qS → Prop
  | 0, _, _, _, _, _ => False
  | n11 + 1, x0, x1, x2, x3, S =>
  (((4 : Int32) ≤ x3 →
  k107 x1 x2 S) ∧ (¬ (4 : Int32) ≤ x3 →
  ∃ n22, pX8_earns_L22 (pX8_earns_J71 (pX8_earns_L11 k107 post xp n11) post xp) post xp n22 x0 x1 x2 x3 (0 : Int32) (0 : Int32) S))
def pX8_earns (x0 : Nat) (S : qS) (post : Int32 → qS → Prop) (xp : String → qS → Prop) : Prop :=
  w_putI S (some x0) 9 0 (0 : Int32) (fun S =>
  ∃ n11, pX8_earns_L11 (pX8_earns_J107 post xp) post xp n11 (some x0) (1 : Int32) (0 : Int32) (0 : Int32) S)
set_option maxHeartbeats 4000000 in
set_option maxRecDepth 100000 in
theorem kX8_earns {l : Launch} (hl0 : l.stackTraces = false) {G : qG} {S : qS} {sz : Nat} {x0 : Nat} {post : Int32 → qS → Prop} {xp : String → qS → Prop} (h : pX8_earns x0 S post xp) : q_M l yX8_earns cX8_earns 6 (some .boolean) 2 0 0 G S sz [va_rf (some x0)] (q_Qi G post) xp := by
  refine q_of (lv := [(0, va_rf (some x0))]) hl0 (by decide) rfl (Nat.le_of_ble_eq_true rfl) (fun p e s m below meth c A ls X N hr hnm I hl => ?_)
  generalize ([va_rf (some x0)] : List Value).toArray = av at X ⊢
  unfold pX8_earns at h
  refine q_aload_n X dX8_earns_0 rfl (lv_at hl 0 rfl) ?_
  refine lv_iconst (v := 0) X.1 X.2.1 dX8_earns_1 (by decide) ?_
  refine q_putI (ci := 9) (k := 0) X I rfl inb_TX8 tyX8_ok nmX8 wd_838 (by decide) (Or.inl rfl) qt_360 rfl dX8_earns_2 h (fun S H locs I h => ?_)
  refine lv_iconst (v := 1) X.1 X.2.1 dX8_earns_5 (by decide) ?_
  refine lv_istore_n (i := 1) (lv' := [(1, .int (1 : Int32)), (0, va_rf (some x0))]) X.1 X.2.1 dX8_earns_6 rfl hl (by decide) rfl (fun ls hl => ?_)
  refine lv_iconst (v := 0) X.1 X.2.1 dX8_earns_7 (by decide) ?_
  refine lv_istore_n (i := 2) (lv' := [(2, .int (0 : Int32)), (1, .int (1 : Int32)), (0, va_rf (some x0))]) X.1 X.2.1 dX8_earns_8 rfl hl (by decide) rfl (fun ls hl => ?_)
  refine lv_iconst (v := 0) X.1 X.2.1 dX8_earns_9 (by decide) ?_
  refine lv_istore_n (i := 3) (lv' := [(3, .int (0 : Int32)), (2, .int (0 : Int32)), (1, .int (1 : Int32)), (0, va_rf (some x0))]) X.1 X.2.1 dX8_earns_10 rfl hl (by decide) rfl (fun ls hl => ?_)
  have jn107 : ∀ (x1 : Int32) (x2 : Int32) (S : qS) (H : Heap) (locs : List Loc) (ls : Array Slot), pX8_earns_J107 post xp x1 x2 S → q_H G A s H locs S → lv_has ls 6 [(1, .int x1), (2, .int x2)] → W p l e (q_rm 2 0 0) s m av below meth c H locs 0 0 (vx_MQ below (q_Qi G post A) (q_XC G A xp) av s 0 0 A) (F0 m 107 ls []) := by
    intro x1 x2 S H locs ls h I hl
    unfold pX8_earns_J107 at h
    refine lv_iload_n X.1 X.2.1 dX8_earns_107 rfl (lv_at hl 0 rfl) ?_
    have jn120 : ∀ (t0 : Int32) (S : qS) (H : Heap) (locs : List Loc) (ls : Array Slot), pX8_earns_J120 post xp t0 S → q_H G A s H locs S → lv_has ls 6 [] → W p l e (q_rm 2 0 0) s m av below meth c H locs 0 0 (vx_MQ below (q_Qi G post A) (q_XC G A xp) av s 0 0 A) (F0 m 120 ls [.int t0]) := by
      intro t0 S H locs ls h I hl
      unfold pX8_earns_J120 at h
      exact q_zret X I hr dX8_earns_120 h (by decide) (by decide)
    have jn119 : ∀ (S : qS) (H : Heap) (locs : List Loc) (ls : Array Slot), pX8_earns_J119 post xp S → q_H G A s H locs S → lv_has ls 6 [] → W p l e (q_rm 2 0 0) s m av below meth c H locs 0 0 (vx_MQ below (q_Qi G post A) (q_XC G A xp) av s 0 0 A) (F0 m 119 ls []) := by
      intro S H locs ls h I hl
      unfold pX8_earns_J119 at h
      refine lv_iconst (v := 0) X.1 X.2.1 dX8_earns_119 (by decide) ?_
      exact jn120 _ _ _ _ _ h I (lv_sub hl [] rfl)
    refine lv_if_eq (tgt := 119) X.1 X.2.1 dX8_earns_108 (by decide) (fun c108 => ?_) (fun c108 => ?_)
    · have h := h.1 c108
      exact jn119 _ _ _ _ h I (lv_sub hl [] rfl)
    · have h := h.2 c108
      refine lv_iload_n X.1 X.2.1 dX8_earns_111 rfl (lv_at hl 1 rfl) ?_
      refine lv_if_eq (tgt := 119) X.1 X.2.1 dX8_earns_112 (by decide) (fun c112 => ?_) (fun c112 => ?_)
      · have h := h.1 c112
        exact jn119 _ _ _ _ h I (lv_sub hl [] rfl)
      · have h := h.2 c112
        refine lv_iconst (v := 1) X.1 X.2.1 dX8_earns_115 (by decide) ?_
        refine lv_goto (tgt := 120) X.1 X.2.1 dX8_earns_116 (by decide) ?_
        exact jn120 _ _ _ _ _ h I (lv_sub hl [] rfl)
  obtain ⟨n11, h⟩ := h
  have lp11 : ∀ (n11 : Nat) (x0 : Option Nat) (x1 : Int32) (x2 : Int32) (x3 : Int32) (S : qS) (H : Heap) (locs : List Loc) (ls : Array Slot), pX8_earns_L11 (pX8_earns_J107 post xp) post xp n11 x0 x1 x2 x3 S → q_H G A s H locs S → lv_has ls 6 [(0, va_rf x0), (1, .int x1), (2, .int x2), (3, .int x3)] → W p l e (q_rm 2 0 0) s m av below meth c H locs 0 0 (vx_MQ below (q_Qi G post A) (q_XC G A xp) av s 0 0 A) (F0 m 11 ls []) := by
    intro n11
    induction n11 with
    | zero => intro x0 x1 x2 x3 S H locs ls h I hl; exact h.elim
    | succ n11 ih11 =>
      intro x0 x1 x2 x3 S H locs ls h I hl
      unfold pX8_earns_L11 at h
      refine lv_iload_n X.1 X.2.1 dX8_earns_11 rfl (lv_at hl 3 rfl) ?_
      refine lv_iconst (v := 4) X.1 X.2.1 dX8_earns_12 (by decide) ?_
      refine lv_icmp_ge (tgt := 107) X.1 X.2.1 dX8_earns_13 (by decide) (fun c13 => ?_) (fun c13 => ?_)
      · have h := h.1 c13
        exact jn107 _ _ _ _ _ _ h I (lv_sub hl [1, 2] rfl)
      · have h := h.2 c13
        refine lv_iconst (v := 0) X.1 X.2.1 dX8_earns_16 (by decide) ?_
        refine lv_istore (i := 4) (lv' := [(4, .int (0 : Int32)), (0, va_rf x0), (1, .int x1), (2, .int x2), (3, .int x3)]) X.1 X.2.1 dX8_earns_17 hl (by decide) rfl (fun ls hl => ?_)
        refine lv_iconst (v := 0) X.1 X.2.1 dX8_earns_19 (by decide) ?_
        refine lv_istore (i := 5) (lv' := [(5, .int (0 : Int32)), (4, .int (0 : Int32)), (0, va_rf x0), (1, .int x1), (2, .int x2), (3, .int x3)]) X.1 X.2.1 dX8_earns_20 hl (by decide) rfl (fun ls hl => ?_)
        have jn71 : ∀ (x0 : Option Nat) (x1 : Int32) (x2 : Int32) (x3 : Int32) (x4 : Int32) (S : qS) (H : Heap) (locs : List Loc) (ls : Array Slot), pX8_earns_J71 (pX8_earns_L11 (pX8_earns_J107 post xp) post xp n11) post xp x0 x1 x2 x3 x4 S → q_H G A s H locs S → lv_has ls 6 [(0, va_rf x0), (1, .int x1), (2, .int x2), (3, .int x3), (4, .int x4)] → W p l e (q_rm 2 0 0) s m av below meth c H locs 0 0 (vx_MQ below (q_Qi G post A) (q_XC G A xp) av s 0 0 A) (F0 m 71 ls []) := by
          intro x0 x1 x2 x3 x4 S H locs ls h I hl
          unfold pX8_earns_J71 at h
          refine lv_iload_n X.1 X.2.1 dX8_earns_71 rfl (lv_at hl 1 rfl) ?_
          have jn85 : ∀ (x0 : Option Nat) (x2 : Int32) (x3 : Int32) (x4 : Int32) (t0 : Int32) (S : qS) (H : Heap) (locs : List Loc) (ls : Array Slot), pX8_earns_J85 (pX8_earns_L11 (pX8_earns_J107 post xp) post xp n11) post xp x0 x2 x3 x4 t0 S → q_H G A s H locs S → lv_has ls 6 [(0, va_rf x0), (2, .int x2), (3, .int x3), (4, .int x4)] → W p l e (q_rm 2 0 0) s m av below meth c H locs 0 0 (vx_MQ below (q_Qi G post A) (q_XC G A xp) av s 0 0 A) (F0 m 85 ls [.int t0]) := by
            intro x0 x2 x3 x4 t0 S H locs ls h I hl
            unfold pX8_earns_J85 at h
            refine lv_istore_n (i := 1) (lv' := [(1, .int t0), (0, va_rf x0), (2, .int x2), (3, .int x3), (4, .int x4)]) X.1 X.2.1 dX8_earns_85 rfl hl (by decide) (by simp [q_cat, q_catI, q_catJ]) (fun ls hl => ?_)
            refine lv_iload_n X.1 X.2.1 dX8_earns_86 rfl (lv_at hl 2 rfl) ?_
            have jn100 : ∀ (x0 : Option Nat) (x1 : Int32) (x3 : Int32) (t0 : Int32) (S : qS) (H : Heap) (locs : List Loc) (ls : Array Slot), pX8_earns_J100 (pX8_earns_L11 (pX8_earns_J107 post xp) post xp n11) post xp x0 x1 x3 t0 S → q_H G A s H locs S → lv_has ls 6 [(0, va_rf x0), (1, .int x1), (3, .int x3)] → W p l e (q_rm 2 0 0) s m av below meth c H locs 0 0 (vx_MQ below (q_Qi G post A) (q_XC G A xp) av s 0 0 A) (F0 m 100 ls [.int t0]) := by
              intro x0 x1 x3 t0 S H locs ls h I hl
              unfold pX8_earns_J100 at h
              refine lv_istore_n (i := 2) (lv' := [(2, .int t0), (0, va_rf x0), (1, .int x1), (3, .int x3)]) X.1 X.2.1 dX8_earns_100 rfl hl (by decide) rfl (fun ls hl => ?_)
              refine lv_iinc (v := (x3 + 1)) (lv' := [(3, .int (x3 + 1)), (2, .int t0), (0, va_rf x0), (1, .int x1)]) (k := 3) X.1 X.2.1 dX8_earns_101 hl rfl rfl (by decide) rfl (fun ls hl => ?_)
              refine lv_goto (tgt := 11) X.1 X.2.1 dX8_earns_104 (by decide) ?_
              exact ih11 _ _ _ _ _ _ _ _ h I (lv_sub hl [2, 3, 1, 0] rfl)
            have jn95 : ∀ (x0 : Option Nat) (x1 : Int32) (x3 : Int32) (S : qS) (H : Heap) (locs : List Loc) (ls : Array Slot), pX8_earns_J95 (pX8_earns_L11 (pX8_earns_J107 post xp) post xp n11) post xp x0 x1 x3 S → q_H G A s H locs S → lv_has ls 6 [(0, va_rf x0), (1, .int x1), (3, .int x3)] → W p l e (q_rm 2 0 0) s m av below meth c H locs 0 0 (vx_MQ below (q_Qi G post A) (q_XC G A xp) av s 0 0 A) (F0 m 95 ls []) := by
              intro x0 x1 x3 S H locs ls h I hl
              unfold pX8_earns_J95 at h
              refine lv_iconst (v := 1) X.1 X.2.1 dX8_earns_95 (by decide) ?_
              refine lv_goto (tgt := 100) X.1 X.2.1 dX8_earns_96 (by decide) ?_
              exact jn100 _ _ _ _ _ _ _ _ h I (lv_sub hl [0, 1, 2] rfl)
            refine lv_if_ne (tgt := 95) X.1 X.2.1 dX8_earns_87 (by decide) (fun c87 => ?_) (fun c87 => ?_)
            · have h := h.1 c87
              exact jn95 _ _ _ _ _ _ _ h I (lv_sub hl [1, 0, 3] rfl)
            · have h := h.2 c87
              refine lv_iload X.1 X.2.1 dX8_earns_90 (lv_at hl 4 rfl) ?_
              refine lv_if_le (tgt := 99) X.1 X.2.1 dX8_earns_92 (by decide) (fun c92 => ?_) (fun c92 => ?_)
              · have h := h.1 c92
                refine lv_iconst (v := 0) X.1 X.2.1 dX8_earns_99 (by decide) ?_
                exact jn100 _ _ _ _ _ _ _ _ h I (lv_sub hl [1, 0, 3] rfl)
              · have h := h.2 c92
                exact jn95 _ _ _ _ _ _ _ h I (lv_sub hl [1, 0, 3] rfl)
          have jn84 : ∀ (x0 : Option Nat) (x2 : Int32) (x3 : Int32) (x4 : Int32) (S : qS) (H : Heap) (locs : List Loc) (ls : Array Slot), pX8_earns_J84 (pX8_earns_L11 (pX8_earns_J107 post xp) post xp n11) post xp x0 x2 x3 x4 S → q_H G A s H locs S → lv_has ls 6 [(0, va_rf x0), (2, .int x2), (3, .int x3), (4, .int x4)] → W p l e (q_rm 2 0 0) s m av below meth c H locs 0 0 (vx_MQ below (q_Qi G post A) (q_XC G A xp) av s 0 0 A) (F0 m 84 ls []) := by
            intro x0 x2 x3 x4 S H locs ls h I hl
            unfold pX8_earns_J84 at h
            refine lv_iconst (v := 0) X.1 X.2.1 dX8_earns_84 (by decide) ?_
            exact jn85 _ _ _ _ _ _ _ _ _ h I (lv_sub hl [0, 1, 2, 3] rfl)
          refine lv_if_eq (tgt := 84) X.1 X.2.1 dX8_earns_72 (by decide) (fun c72 => ?_) (fun c72 => ?_)
          · have h := h.1 c72
            exact jn84 _ _ _ _ _ _ _ _ h I (lv_sub hl [0, 2, 3, 4] rfl)
          · have h := h.2 c72
            refine lv_iload X.1 X.2.1 dX8_earns_75 (lv_at hl 4 rfl) ?_
            refine lv_if_lt (tgt := 84) X.1 X.2.1 dX8_earns_77 (by decide) (fun c77 => ?_) (fun c77 => ?_)
            · have h := h.1 c77
              exact jn84 _ _ _ _ _ _ _ _ h I (lv_sub hl [0, 2, 3, 4] rfl)
            · have h := h.2 c77
              refine lv_iconst (v := 1) X.1 X.2.1 dX8_earns_80 (by decide) ?_
              refine lv_goto (tgt := 85) X.1 X.2.1 dX8_earns_81 (by decide) ?_
              exact jn85 _ _ _ _ _ _ _ _ _ h I (lv_sub hl [0, 2, 3, 4] rfl)
        obtain ⟨n22, h⟩ := h
        have lp22 : ∀ (n22 : Nat) (x0 : Option Nat) (x1 : Int32) (x2 : Int32) (x3 : Int32) (x4 : Int32) (x5 : Int32) (S : qS) (H : Heap) (locs : List Loc) (ls : Array Slot), pX8_earns_L22 (pX8_earns_J71 (pX8_earns_L11 (pX8_earns_J107 post xp) post xp n11) post xp) post xp n22 x0 x1 x2 x3 x4 x5 S → q_H G A s H locs S → lv_has ls 6 [(0, va_rf x0), (1, .int x1), (2, .int x2), (3, .int x3), (4, .int x4), (5, .int x5)] → W p l e (q_rm 2 0 0) s m av below meth c H locs 0 0 (vx_MQ below (q_Qi G post A) (q_XC G A xp) av s 0 0 A) (F0 m 22 ls []) := by
          intro n22
          induction n22 with
          | zero => intro x0 x1 x2 x3 x4 x5 S H locs ls h I hl; exact h.elim
          | succ n22 ih22 =>
            intro x0 x1 x2 x3 x4 x5 S H locs ls h I hl
            unfold pX8_earns_L22 at h
            refine lv_iload X.1 X.2.1 dX8_earns_22 (lv_at hl 5 rfl) ?_
            refine q_aload_n X dX8_earns_24 rfl (lv_at hl 0 rfl) ?_
            refine q_getI (ci := 9) (k := 12) X I rfl inb_TX8 wd_850 (by decide) qt_372 dX8_earns_25 h (fun v25 h => ?_)
            refine lv_icmp_ge (tgt := 71) X.1 X.2.1 dX8_earns_28 (by decide) (fun c28 => ?_) (fun c28 => ?_)
            · have h := h.1 c28
              exact jn71 _ _ _ _ _ _ _ _ _ h I (lv_sub hl [0, 1, 2, 3, 4] rfl)
            · have h := h.2 c28
              refine lv_iload X.1 X.2.1 dX8_earns_31 (lv_at hl 4 rfl) ?_
              refine q_aload_n X dX8_earns_33 rfl (lv_at hl 0 rfl) ?_
              refine q_getR (ci := 9) (k := 9) X I rfl inb_TX8 wd_847 (by decide) qt_369 dX8_earns_34 h (fun v34 h => ?_)
              refine lv_iload X.1 X.2.1 dX8_earns_37 (lv_at hl 5 rfl) ?_
              refine q_ldZ X I (by decide) (by decide) dX8_earns_39 h (fun v39 h => ?_)
              have jn62 : ∀ (x0 : Option Nat) (x1 : Int32) (x2 : Int32) (x3 : Int32) (x5 : Int32) (t0 : Int32) (t1 : Int32) (S : qS) (H : Heap) (locs : List Loc) (ls : Array Slot), pX8_earns_J62 (pX8_earns_L22 (pX8_earns_J71 (pX8_earns_L11 (pX8_earns_J107 post xp) post xp n11) post xp) post xp n22) post xp x0 x1 x2 x3 x5 t0 t1 S → q_H G A s H locs S → lv_has ls 6 [(0, va_rf x0), (1, .int x1), (2, .int x2), (3, .int x3), (5, .int x5)] → W p l e (q_rm 2 0 0) s m av below meth c H locs 0 0 (vx_MQ below (q_Qi G post A) (q_XC G A xp) av s 0 0 A) (F0 m 62 ls [.int t1, .int t0]) := by
                intro x0 x1 x2 x3 x5 t0 t1 S H locs ls h I hl
                unfold pX8_earns_J62 at h
                refine lv_iadd X.1 X.2.1 dX8_earns_62 ?_
                refine lv_istore (i := 4) (lv' := [(4, .int (t0 + t1)), (0, va_rf x0), (1, .int x1), (2, .int x2), (3, .int x3), (5, .int x5)]) X.1 X.2.1 dX8_earns_63 hl (by decide) rfl (fun ls hl => ?_)
                refine lv_iinc (v := (x5 + 1)) (lv' := [(5, .int (x5 + 1)), (4, .int (t0 + t1)), (0, va_rf x0), (1, .int x1), (2, .int x2), (3, .int x3)]) (k := 5) X.1 X.2.1 dX8_earns_65 hl rfl rfl (by decide) rfl (fun ls hl => ?_)
                refine lv_goto (tgt := 22) X.1 X.2.1 dX8_earns_68 (by decide) ?_
                exact ih22 _ _ _ _ _ _ _ _ _ _ h I (lv_sub hl [2, 3, 4, 5, 1, 0] rfl)
              refine lv_if_eq (tgt := 47) X.1 X.2.1 dX8_earns_40 (by decide) (fun c40 => ?_) (fun c40 => ?_)
              · have h := h.1 c40
                refine q_aload_n X dX8_earns_47 rfl (lv_at hl 0 rfl) ?_
                refine q_getR (ci := 9) (k := 10) X I rfl inb_TX8 wd_848 (by decide) qt_370 dX8_earns_48 h (fun v48 h => ?_)
                refine lv_iload X.1 X.2.1 dX8_earns_51 (lv_at hl 5 rfl) ?_
                refine q_ldI X I (by decide) (by decide) dX8_earns_53 h (fun v53 h => ?_)
                refine q_aload_n X dX8_earns_54 rfl (lv_at hl 0 rfl) ?_
                refine lv_iload X.1 X.2.1 dX8_earns_55 (lv_at hl 5 rfl) ?_
                refine lv_iload_n X.1 X.2.1 dX8_earns_57 rfl (lv_at hl 3 rfl) ?_
                refine q_cVi (As := [.int x5, .int x3]) (rest := [.int v53, .int x4]) (c1 := 0) (s1 := 0) (d := 1) (mc := 0) (ms := 0) X N I hl.1 mX8_leaves wd_1102 dX8_earns_58 rfl h (fun b h => kX8_leaves hl0 h) rfl (Nat.le_of_ble_eq_true rfl) ⟨by decide, by decide⟩ ⟨by decide, by decide⟩ ⟨by decide, by decide⟩ rfl rfl (fun v58 S H locs I h => ?_)
                refine lv_imul X.1 X.2.1 dX8_earns_61 ?_
                exact jn62 _ _ _ _ _ _ _ _ _ _ _ h I (lv_sub hl [0, 1, 2, 3, 5] rfl)
              · have h := h.2 c40
                refine lv_iconst (v := 0) X.1 X.2.1 dX8_earns_43 (by decide) ?_
                refine lv_goto (tgt := 62) X.1 X.2.1 dX8_earns_44 (by decide) ?_
                exact jn62 _ _ _ _ _ _ _ _ _ _ _ h I (lv_sub hl [0, 1, 2, 3, 5] rfl)
        exact lp22 n22 _ _ _ _ _ _ _ _ _ _ h I (lv_sub hl [2, 3, 4, 5, 1, 0] rfl)
  exact lp11 n11 _ _ _ _ _ _ _ _ h I (lv_sub hl [3, 2, 1, 0] rfl)

def pX8_weigh_J42  (post : qS → Prop) (xp : String → qS → Prop)  (S : qS) : Prop :=
  post S
def pX8_weigh_J35  (post : qS → Prop) (xp : String → qS → Prop) (x0 : Option Nat) (x1 : Int32) (x2 : Int32) (t0 : Option Nat) (t1 : Int32) (S : qS) : Prop :=
  w_at S t0 9 (fun b36 => pX8_throwsIf b36 t1 (2 : Int32) S (fun v36 S =>
  ((v36 = 0 →
  w_getR S x0 9 11 (fun v44 =>
  w_stI S v44 41 x1 x2 (fun S =>
  post S))) ∧ (¬ v36 = 0 →
  pX8_weigh_J42 post xp S))) xp)
def pX8_weigh (x0 : Nat) (x1 : Int32) (x2 : Int32) (S : qS) (post : qS → Prop) (xp : String → qS → Prop) : Prop :=
  w_putI S (some x0) 9 0 (0 : Int32) (fun S =>
  pX8_noKind x1 S (fun v7 S =>
  w_at S (some x0) 9 (fun b11 => pX8_throwsIf b11 v7 (1 : Int32) S (fun v11 S =>
  ((¬ v11 = 0 →
  pX8_weigh_J42 post xp S) ∧ (v11 = 0 →
  pX8_in x2.toInt64 (0 : Int64) (1000 : Int64) S (fun v24 S =>
  ((¬ v24 = 0 →
  pX8_weigh_J35 post xp (some x0) x1 x2 (some x0) (0 : Int32) S) ∧ (v24 = 0 →
  pX8_weigh_J35 post xp (some x0) x1 x2 (some x0) (1 : Int32) S))) xp))) xp)) xp)
set_option maxHeartbeats 4000000 in
set_option maxRecDepth 100000 in
theorem kX8_weigh {l : Launch} (hl0 : l.stackTraces = false) {G : qG} {S : qS} {sz : Nat} {x0 : Nat} {x1 : Int32} {x2 : Int32} {post : qS → Prop} {xp : String → qS → Prop} (h : pX8_weigh x0 x1 x2 S post xp) : q_M l yX8_weigh cX8_weigh 3 none 3 0 0 G S sz [va_rf (some x0), .int x1, .int x2] (q_Qv G post) xp := by
  refine q_of (lv := [(0, va_rf (some x0)), (1, .int x1), (2, .int x2)]) hl0 (by decide) rfl (Nat.le_of_ble_eq_true rfl) (fun p e s m below meth c A ls X N hr hnm I hl => ?_)
  generalize ([va_rf (some x0), .int x1, .int x2] : List Value).toArray = av at X ⊢
  unfold pX8_weigh at h
  refine q_aload_n X dX8_weigh_0 rfl (lv_at hl 0 rfl) ?_
  refine lv_iconst (v := 0) X.1 X.2.1 dX8_weigh_1 (by decide) ?_
  refine q_putI (ci := 9) (k := 0) X I rfl inb_TX8 tyX8_ok nmX8 wd_838 (by decide) (Or.inl rfl) qt_360 rfl dX8_weigh_2 h (fun S H locs I h => ?_)
  refine q_aload_n X dX8_weigh_5 rfl (lv_at hl 0 rfl) ?_
  refine lv_iload_n X.1 X.2.1 dX8_weigh_6 rfl (lv_at hl 1 rfl) ?_
  refine q_cSi (As := [.int x1]) (rest := [va_rf (some x0)]) (c1 := 0) (s1 := 0) (d := 2) (mc := 0) (ms := 0) X N I hl.1 mX8_noKind wd_966 dX8_weigh_7 rfl (kX8_noKind hl0 h) rfl (Nat.le_of_ble_eq_true rfl) ⟨by decide, by decide⟩ ⟨by decide, by decide⟩ ⟨by decide, by decide⟩ rfl rfl (fun v7 S H locs I h => ?_)
  refine lv_iconst (v := 1) X.1 X.2.1 dX8_weigh_10 (by decide) ?_
  refine q_cVi (As := [.int v7, .int (1 : Int32)]) (rest := []) (c1 := 0) (s1 := 0) (d := 1) (mc := 0) (ms := 0) X N I hl.1 mX8_throwsIf wd_947 dX8_weigh_11 rfl h (fun b h => kX8_throwsIf hl0 h) rfl (Nat.le_of_ble_eq_true rfl) ⟨by decide, by decide⟩ ⟨by decide, by decide⟩ ⟨by decide, by decide⟩ rfl rfl (fun v11 S H locs I h => ?_)
  have jn42 : ∀ (S : qS) (H : Heap) (locs : List Loc) (ls : Array Slot), pX8_weigh_J42 post xp S → q_H G A s H locs S → lv_has ls 3 [] → W p l e (q_rm 3 0 0) s m av below meth c H locs 0 0 (vx_MQ below (q_Qv G post A) (q_XC G A xp) av s 0 0 A) (F0 m 42 ls []) := by
    intro S H locs ls h I hl
    unfold pX8_weigh_J42 at h
    exact q_vret X I hr dX8_weigh_42 h (by decide) (by decide)
  refine lv_if_ne (tgt := 42) X.1 X.2.1 dX8_weigh_14 (by decide) (fun c14 => ?_) (fun c14 => ?_)
  · have h := h.1 c14
    exact jn42 _ _ _ _ h I (lv_sub hl [] rfl)
  · have h := h.2 c14
    refine q_aload_n X dX8_weigh_17 rfl (lv_at hl 0 rfl) ?_
    refine lv_iload_n X.1 X.2.1 dX8_weigh_18 rfl (lv_at hl 2 rfl) ?_
    refine lv_i2l X.1 X.2.1 dX8_weigh_19 rfl ?_
    refine lv_lconst (v := 0) X.1 X.2.1 dX8_weigh_20 (by decide) ?_
    refine lv_ldc2 X.1 X.2.1 X.2.2.1 (X.2.2.2.1 _ wd_979) dX8_weigh_21 ?_
    refine q_cSi (As := [.long x2.toInt64, .long (0 : Int64), .long (1000 : Int64)]) (rest := [va_rf (some x0)]) (c1 := 0) (s1 := 0) (d := 1) (mc := 0) (ms := 0) X N I hl.1 mX8_in wd_963 dX8_weigh_24 rfl (kX8_in hl0 h) rfl (Nat.le_of_ble_eq_true rfl) ⟨by decide, by decide⟩ ⟨by decide, by decide⟩ ⟨by decide, by decide⟩ rfl rfl (fun v24 S H locs I h => ?_)
    have jn35 : ∀ (x0 : Option Nat) (x1 : Int32) (x2 : Int32) (t0 : Option Nat) (t1 : Int32) (S : qS) (H : Heap) (locs : List Loc) (ls : Array Slot), pX8_weigh_J35 post xp x0 x1 x2 t0 t1 S → q_H G A s H locs S → lv_has ls 3 [(0, va_rf x0), (1, .int x1), (2, .int x2)] → W p l e (q_rm 3 0 0) s m av below meth c H locs 0 0 (vx_MQ below (q_Qv G post A) (q_XC G A xp) av s 0 0 A) (F0 m 35 ls [.int t1, va_rf t0]) := by
      intro x0 x1 x2 t0 t1 S H locs ls h I hl
      unfold pX8_weigh_J35 at h
      refine lv_iconst (v := 2) X.1 X.2.1 dX8_weigh_35 (by decide) ?_
      refine q_cVi (As := [.int t1, .int (2 : Int32)]) (rest := []) (c1 := 0) (s1 := 0) (d := 1) (mc := 0) (ms := 0) X N I hl.1 mX8_throwsIf wd_947 dX8_weigh_36 rfl h (fun b h => kX8_throwsIf hl0 h) rfl (Nat.le_of_ble_eq_true rfl) ⟨by decide, by decide⟩ ⟨by decide, by decide⟩ ⟨by decide, by decide⟩ rfl rfl (fun v36 S H locs I h => ?_)
      refine lv_if_eq (tgt := 43) X.1 X.2.1 dX8_weigh_39 (by decide) (fun c39 => ?_) (fun c39 => ?_)
      · have h := h.1 c39
        refine q_aload_n X dX8_weigh_43 rfl (lv_at hl 0 rfl) ?_
        refine q_getR (ci := 9) (k := 11) X I rfl inb_TX8 wd_849 (by decide) qt_371 dX8_weigh_44 h (fun v44 h => ?_)
        refine lv_iload_n X.1 X.2.1 dX8_weigh_47 rfl (lv_at hl 1 rfl) ?_
        refine lv_iload_n X.1 X.2.1 dX8_weigh_48 rfl (lv_at hl 2 rfl) ?_
        refine q_stI X I (by decide) (by decide) dX8_weigh_49 h (fun S H locs I h => ?_)
        exact q_vret X I hr dX8_weigh_50 h (by decide) (by decide)
      · have h := h.2 c39
        exact jn42 _ _ _ _ h I (lv_sub hl [] rfl)
    refine lv_if_ne (tgt := 34) X.1 X.2.1 dX8_weigh_27 (by decide) (fun c27 => ?_) (fun c27 => ?_)
    · have h := h.1 c27
      refine lv_iconst (v := 0) X.1 X.2.1 dX8_weigh_34 (by decide) ?_
      exact jn35 _ _ _ _ _ _ _ _ _ h I (lv_sub hl [0, 1, 2] rfl)
    · have h := h.2 c27
      refine lv_iconst (v := 1) X.1 X.2.1 dX8_weigh_30 (by decide) ?_
      refine lv_goto (tgt := 35) X.1 X.2.1 dX8_weigh_31 (by decide) ?_
      exact jn35 _ _ _ _ _ _ _ _ _ h I (lv_sub hl [0, 1, 2] rfl)

def pX8_bars_J106 (k41 : Option Nat → Int32 → Int32 → qS → Prop) (post : Int32 → qS → Prop) (xp : String → qS → Prop) (x0 : Option Nat) (x2 : Int32) (t0 : Int32) (S : qS) : Prop :=
  k41 x0 t0 (x2 + 1) S
def pX8_bars_J105 (k41 : Option Nat → Int32 → Int32 → qS → Prop) (post : Int32 → qS → Prop) (xp : String → qS → Prop) (x0 : Option Nat) (x2 : Int32) (S : qS) : Prop :=
  pX8_bars_J106 k41 post xp x0 x2 (0 : Int32) S
def pX8_bars_J101 (k41 : Option Nat → Int32 → Int32 → qS → Prop) (post : Int32 → qS → Prop) (xp : String → qS → Prop) (x0 : Option Nat) (x2 : Int32) (S : qS) : Prop :=
  pX8_bars_J106 k41 post xp x0 x2 (1 : Int32) S
def pX8_bars_J84 (k41 : Option Nat → Int32 → Int32 → qS → Prop) (post : Int32 → qS → Prop) (xp : String → qS → Prop) (x0 : Option Nat) (x1 : Int32) (x2 : Int32) (x3 : Int32) (S : qS) : Prop :=
  ((x1 = 0 →
  pX8_bars_J105 k41 post xp x0 x2 S) ∧ (¬ x1 = 0 →
  w_getR S x0 9 9 (fun v89 =>
  w_ldI S v89 39 x2 (fun v93 =>
  ((¬ v93 = 0 →
  pX8_bars_J101 k41 post xp x0 x2 S) ∧ (v93 = 0 →
  ((0 < x3 →
  pX8_bars_J105 k41 post xp x0 x2 S) ∧ (¬ 0 < x3 →
  pX8_bars_J101 k41 post xp x0 x2 S))))))))
def pX8_bars_L54 (k84 : Option Nat → Int32 → Int32 → Int32 → qS → Prop) (post : Int32 → qS → Prop) (xp : String → qS → Prop) : Nat → Option Nat → Int32 → Int32 → Int32 → Int32 → qS → Prop
  | 0, _, _, _, _, _, _ => False
  | n54 + 1, x0, x1, x2, x3, x4, S =>
  (((4 : Int32) ≤ x4 →
  k84 x0 x1 x2 x3 S) ∧ (¬ (4 : Int32) ≤ x4 →
  w_getR S x0 9 11 (fun v62 =>
  w_ldI S v62 41 x4 (fun v67 =>
  w_at S x0 9 (fun b72 => pX8_leaves b72 x2 x4 S (fun v72 S =>
  (pX8_bars_L54 k84 post xp n54) x0 x1 x2 (x3 + (v67 * v72)) (x4 + 1) S) xp)))))
def pX8_bars_L41  (post : Int32 → qS → Prop) (xp : String → qS → Prop) : Nat → Option Nat → Int32 → Int32 → qS → Prop
  | 0, _, _, _, _ => False
  | n41 + 1, x0, x1, x2, S =>
  w_getI S x0 9 12 (fun v43 =>
  ((v43 ≤ x2 →
  ((x1 = 0 ∨ x1 = 1) ∧ post x1 S)) ∧ (¬ v43 ≤ x2 →
  ∃ n54, pX8_bars_L54 (pX8_bars_J84 (pX8_bars_L41 post xp n41) post xp) post xp n54 x0 x1 x2 (0 : Int32) (0 : Int32) S)))
def pX8_bars_J39  (post : Int32 → qS → Prop) (xp : String → qS → Prop) (x0 : Option Nat) (x1 : Int32) (S : qS) : Prop :=
  ∃ n41, pX8_bars_L41 post xp n41 x0 x1 (0 : Int32) S
def pX8_bars_J32 (k9 : Option Nat → Int32 → Int32 → qS → Prop) (post : Int32 → qS → Prop) (xp : String → qS → Prop) (x0 : Option Nat) (x2 : Int32) (t0 : Int32) (S : qS) : Prop :=
  k9 x0 t0 (x2 + 1) S
def pX8_bars_J31 (k9 : Option Nat → Int32 → Int32 → qS → Prop) (post : Int32 → qS → Prop) (xp : String → qS → Prop) (x0 : Option Nat) (x2 : Int32) (S : qS) : Prop :=
  pX8_bars_J32 k9 post xp x0 x2 (0 : Int32) S
def pX8_bars_L9 (k39 : Option Nat → Int32 → qS → Prop) (post : Int32 → qS → Prop) (xp : String → qS → Prop) : Nat → Option Nat → Int32 → Int32 → qS → Prop
  | 0, _, _, _, _ => False
  | n9 + 1, x0, x1, x2, S =>
  (((4 : Int32) ≤ x2 →
  k39 x0 x1 S) ∧ (¬ (4 : Int32) ≤ x2 →
  ((x1 = 0 →
  pX8_bars_J31 (pX8_bars_L9 k39 post xp n9) post xp x0 x2 S) ∧ (¬ x1 = 0 →
  w_getR S x0 9 11 (fun v19 =>
  w_ldI S v19 41 x2 (fun v23 =>
  ((v23 ≤ 0 →
  pX8_bars_J31 (pX8_bars_L9 k39 post xp n9) post xp x0 x2 S) ∧ (¬ v23 ≤ 0 →
  pX8_bars_J32 (pX8_bars_L9 k39 post xp n9) post xp x0 x2 (1 : Int32) S))))))))
def pX8_bars (x0 : Nat) (S : qS) (post : Int32 → qS → Prop) (xp : String → qS → Prop) : Prop :=
  w_putI S (some x0) 9 0 (0 : Int32) (fun S =>
  ∃ n9, pX8_bars_L9 (pX8_bars_J39 post xp) post xp n9 (some x0) (1 : Int32) (0 : Int32) S)
set_option maxHeartbeats 4000000 in
set_option maxRecDepth 100000 in
theorem kX8_bars {l : Launch} (hl0 : l.stackTraces = false) {G : qG} {S : qS} {sz : Nat} {x0 : Nat} {post : Int32 → qS → Prop} {xp : String → qS → Prop} (h : pX8_bars x0 S post xp) : q_M l yX8_bars cX8_bars 5 (some .boolean) 2 0 0 G S sz [va_rf (some x0)] (q_Qi G post) xp := by
  refine q_of (lv := [(0, va_rf (some x0))]) hl0 (by decide) rfl (Nat.le_of_ble_eq_true rfl) (fun p e s m below meth c A ls X N hr hnm I hl => ?_)
  generalize ([va_rf (some x0)] : List Value).toArray = av at X ⊢
  unfold pX8_bars at h
  refine q_aload_n X dX8_bars_0 rfl (lv_at hl 0 rfl) ?_
  refine lv_iconst (v := 0) X.1 X.2.1 dX8_bars_1 (by decide) ?_
  refine q_putI (ci := 9) (k := 0) X I rfl inb_TX8 tyX8_ok nmX8 wd_838 (by decide) (Or.inl rfl) qt_360 rfl dX8_bars_2 h (fun S H locs I h => ?_)
  refine lv_iconst (v := 1) X.1 X.2.1 dX8_bars_5 (by decide) ?_
  refine lv_istore_n (i := 1) (lv' := [(1, .int (1 : Int32)), (0, va_rf (some x0))]) X.1 X.2.1 dX8_bars_6 rfl hl (by decide) rfl (fun ls hl => ?_)
  refine lv_iconst (v := 0) X.1 X.2.1 dX8_bars_7 (by decide) ?_
  refine lv_istore_n (i := 2) (lv' := [(2, .int (0 : Int32)), (1, .int (1 : Int32)), (0, va_rf (some x0))]) X.1 X.2.1 dX8_bars_8 rfl hl (by decide) rfl (fun ls hl => ?_)
  have jn39 : ∀ (x0 : Option Nat) (x1 : Int32) (S : qS) (H : Heap) (locs : List Loc) (ls : Array Slot), pX8_bars_J39 post xp x0 x1 S → q_H G A s H locs S → lv_has ls 5 [(0, va_rf x0), (1, .int x1)] → W p l e (q_rm 2 0 0) s m av below meth c H locs 0 0 (vx_MQ below (q_Qi G post A) (q_XC G A xp) av s 0 0 A) (F0 m 39 ls []) := by
    intro x0 x1 S H locs ls h I hl
    unfold pX8_bars_J39 at h
    refine lv_iconst (v := 0) X.1 X.2.1 dX8_bars_39 (by decide) ?_
    refine lv_istore_n (i := 2) (lv' := [(2, .int (0 : Int32)), (0, va_rf x0), (1, .int x1)]) X.1 X.2.1 dX8_bars_40 rfl hl (by decide) rfl (fun ls hl => ?_)
    obtain ⟨n41, h⟩ := h
    have lp41 : ∀ (n41 : Nat) (x0 : Option Nat) (x1 : Int32) (x2 : Int32) (S : qS) (H : Heap) (locs : List Loc) (ls : Array Slot), pX8_bars_L41 post xp n41 x0 x1 x2 S → q_H G A s H locs S → lv_has ls 5 [(0, va_rf x0), (1, .int x1), (2, .int x2)] → W p l e (q_rm 2 0 0) s m av below meth c H locs 0 0 (vx_MQ below (q_Qi G post A) (q_XC G A xp) av s 0 0 A) (F0 m 41 ls []) := by
      intro n41
      induction n41 with
      | zero => intro x0 x1 x2 S H locs ls h I hl; exact h.elim
      | succ n41 ih41 =>
        intro x0 x1 x2 S H locs ls h I hl
        unfold pX8_bars_L41 at h
        refine lv_iload_n X.1 X.2.1 dX8_bars_41 rfl (lv_at hl 2 rfl) ?_
        refine q_aload_n X dX8_bars_42 rfl (lv_at hl 0 rfl) ?_
        refine q_getI (ci := 9) (k := 12) X I rfl inb_TX8 wd_850 (by decide) qt_372 dX8_bars_43 h (fun v43 h => ?_)
        refine lv_icmp_ge (tgt := 113) X.1 X.2.1 dX8_bars_46 (by decide) (fun c46 => ?_) (fun c46 => ?_)
        · have h := h.1 c46
          refine lv_iload_n X.1 X.2.1 dX8_bars_113 rfl (lv_at hl 1 rfl) ?_
          exact q_zret X I hr dX8_bars_114 h (by decide) (by decide)
        · have h := h.2 c46
          refine lv_iconst (v := 0) X.1 X.2.1 dX8_bars_49 (by decide) ?_
          refine lv_istore_n (i := 3) (lv' := [(3, .int (0 : Int32)), (0, va_rf x0), (1, .int x1), (2, .int x2)]) X.1 X.2.1 dX8_bars_50 rfl hl (by decide) rfl (fun ls hl => ?_)
          refine lv_iconst (v := 0) X.1 X.2.1 dX8_bars_51 (by decide) ?_
          refine lv_istore (i := 4) (lv' := [(4, .int (0 : Int32)), (3, .int (0 : Int32)), (0, va_rf x0), (1, .int x1), (2, .int x2)]) X.1 X.2.1 dX8_bars_52 hl (by decide) rfl (fun ls hl => ?_)
          have jn84 : ∀ (x0 : Option Nat) (x1 : Int32) (x2 : Int32) (x3 : Int32) (S : qS) (H : Heap) (locs : List Loc) (ls : Array Slot), pX8_bars_J84 (pX8_bars_L41 post xp n41) post xp x0 x1 x2 x3 S → q_H G A s H locs S → lv_has ls 5 [(0, va_rf x0), (1, .int x1), (2, .int x2), (3, .int x3)] → W p l e (q_rm 2 0 0) s m av below meth c H locs 0 0 (vx_MQ below (q_Qi G post A) (q_XC G A xp) av s 0 0 A) (F0 m 84 ls []) := by
            intro x0 x1 x2 x3 S H locs ls h I hl
            unfold pX8_bars_J84 at h
            refine lv_iload_n X.1 X.2.1 dX8_bars_84 rfl (lv_at hl 1 rfl) ?_
            have jn106 : ∀ (x0 : Option Nat) (x2 : Int32) (t0 : Int32) (S : qS) (H : Heap) (locs : List Loc) (ls : Array Slot), pX8_bars_J106 (pX8_bars_L41 post xp n41) post xp x0 x2 t0 S → q_H G A s H locs S → lv_has ls 5 [(0, va_rf x0), (2, .int x2)] → W p l e (q_rm 2 0 0) s m av below meth c H locs 0 0 (vx_MQ below (q_Qi G post A) (q_XC G A xp) av s 0 0 A) (F0 m 106 ls [.int t0]) := by
              intro x0 x2 t0 S H locs ls h I hl
              unfold pX8_bars_J106 at h
              refine lv_istore_n (i := 1) (lv' := [(1, .int t0), (0, va_rf x0), (2, .int x2)]) X.1 X.2.1 dX8_bars_106 rfl hl (by decide) (by simp [q_cat, q_catI, q_catJ]) (fun ls hl => ?_)
              refine lv_iinc (v := (x2 + 1)) (lv' := [(2, .int (x2 + 1)), (1, .int t0), (0, va_rf x0)]) (k := 2) X.1 X.2.1 dX8_bars_107 hl rfl rfl (by decide) rfl (fun ls hl => ?_)
              refine lv_goto (tgt := 41) X.1 X.2.1 dX8_bars_110 (by decide) ?_
              exact ih41 _ _ _ _ _ _ _ h I (lv_sub hl [2, 1, 0] rfl)
            have jn105 : ∀ (x0 : Option Nat) (x2 : Int32) (S : qS) (H : Heap) (locs : List Loc) (ls : Array Slot), pX8_bars_J105 (pX8_bars_L41 post xp n41) post xp x0 x2 S → q_H G A s H locs S → lv_has ls 5 [(0, va_rf x0), (2, .int x2)] → W p l e (q_rm 2 0 0) s m av below meth c H locs 0 0 (vx_MQ below (q_Qi G post A) (q_XC G A xp) av s 0 0 A) (F0 m 105 ls []) := by
              intro x0 x2 S H locs ls h I hl
              unfold pX8_bars_J105 at h
              refine lv_iconst (v := 0) X.1 X.2.1 dX8_bars_105 (by decide) ?_
              exact jn106 _ _ _ _ _ _ _ h I (lv_sub hl [0, 1] rfl)
            refine lv_if_eq (tgt := 105) X.1 X.2.1 dX8_bars_85 (by decide) (fun c85 => ?_) (fun c85 => ?_)
            · have h := h.1 c85
              exact jn105 _ _ _ _ _ _ h I (lv_sub hl [0, 2] rfl)
            · have h := h.2 c85
              refine q_aload_n X dX8_bars_88 rfl (lv_at hl 0 rfl) ?_
              refine q_getR (ci := 9) (k := 9) X I rfl inb_TX8 wd_847 (by decide) qt_369 dX8_bars_89 h (fun v89 h => ?_)
              refine lv_iload_n X.1 X.2.1 dX8_bars_92 rfl (lv_at hl 2 rfl) ?_
              refine q_ldZ X I (by decide) (by decide) dX8_bars_93 h (fun v93 h => ?_)
              have jn101 : ∀ (x0 : Option Nat) (x2 : Int32) (S : qS) (H : Heap) (locs : List Loc) (ls : Array Slot), pX8_bars_J101 (pX8_bars_L41 post xp n41) post xp x0 x2 S → q_H G A s H locs S → lv_has ls 5 [(0, va_rf x0), (2, .int x2)] → W p l e (q_rm 2 0 0) s m av below meth c H locs 0 0 (vx_MQ below (q_Qi G post A) (q_XC G A xp) av s 0 0 A) (F0 m 101 ls []) := by
                intro x0 x2 S H locs ls h I hl
                unfold pX8_bars_J101 at h
                refine lv_iconst (v := 1) X.1 X.2.1 dX8_bars_101 (by decide) ?_
                refine lv_goto (tgt := 106) X.1 X.2.1 dX8_bars_102 (by decide) ?_
                exact jn106 _ _ _ _ _ _ _ h I (lv_sub hl [0, 1] rfl)
              refine lv_if_ne (tgt := 101) X.1 X.2.1 dX8_bars_94 (by decide) (fun c94 => ?_) (fun c94 => ?_)
              · have h := h.1 c94
                exact jn101 _ _ _ _ _ _ h I (lv_sub hl [0, 2] rfl)
              · have h := h.2 c94
                refine lv_iload_n X.1 X.2.1 dX8_bars_97 rfl (lv_at hl 3 rfl) ?_
                refine lv_if_gt (tgt := 105) X.1 X.2.1 dX8_bars_98 (by decide) (fun c98 => ?_) (fun c98 => ?_)
                · have h := h.1 c98
                  exact jn105 _ _ _ _ _ _ h I (lv_sub hl [0, 2] rfl)
                · have h := h.2 c98
                  exact jn101 _ _ _ _ _ _ h I (lv_sub hl [0, 2] rfl)
          obtain ⟨n54, h⟩ := h
          have lp54 : ∀ (n54 : Nat) (x0 : Option Nat) (x1 : Int32) (x2 : Int32) (x3 : Int32) (x4 : Int32) (S : qS) (H : Heap) (locs : List Loc) (ls : Array Slot), pX8_bars_L54 (pX8_bars_J84 (pX8_bars_L41 post xp n41) post xp) post xp n54 x0 x1 x2 x3 x4 S → q_H G A s H locs S → lv_has ls 5 [(0, va_rf x0), (1, .int x1), (2, .int x2), (3, .int x3), (4, .int x4)] → W p l e (q_rm 2 0 0) s m av below meth c H locs 0 0 (vx_MQ below (q_Qi G post A) (q_XC G A xp) av s 0 0 A) (F0 m 54 ls []) := by
            intro n54
            induction n54 with
            | zero => intro x0 x1 x2 x3 x4 S H locs ls h I hl; exact h.elim
            | succ n54 ih54 =>
              intro x0 x1 x2 x3 x4 S H locs ls h I hl
              unfold pX8_bars_L54 at h
              refine lv_iload X.1 X.2.1 dX8_bars_54 (lv_at hl 4 rfl) ?_
              refine lv_iconst (v := 4) X.1 X.2.1 dX8_bars_56 (by decide) ?_
              refine lv_icmp_ge (tgt := 84) X.1 X.2.1 dX8_bars_57 (by decide) (fun c57 => ?_) (fun c57 => ?_)
              · have h := h.1 c57
                exact jn84 _ _ _ _ _ _ _ _ h I (lv_sub hl [0, 1, 2, 3] rfl)
              · have h := h.2 c57
                refine lv_iload_n X.1 X.2.1 dX8_bars_60 rfl (lv_at hl 3 rfl) ?_
                refine q_aload_n X dX8_bars_61 rfl (lv_at hl 0 rfl) ?_
                refine q_getR (ci := 9) (k := 11) X I rfl inb_TX8 wd_849 (by decide) qt_371 dX8_bars_62 h (fun v62 h => ?_)
                refine lv_iload X.1 X.2.1 dX8_bars_65 (lv_at hl 4 rfl) ?_
                refine q_ldI X I (by decide) (by decide) dX8_bars_67 h (fun v67 h => ?_)
                refine q_aload_n X dX8_bars_68 rfl (lv_at hl 0 rfl) ?_
                refine lv_iload_n X.1 X.2.1 dX8_bars_69 rfl (lv_at hl 2 rfl) ?_
                refine lv_iload X.1 X.2.1 dX8_bars_70 (lv_at hl 4 rfl) ?_
                refine q_cVi (As := [.int x2, .int x4]) (rest := [.int v67, .int x3]) (c1 := 0) (s1 := 0) (d := 1) (mc := 0) (ms := 0) X N I hl.1 mX8_leaves wd_1102 dX8_bars_72 rfl h (fun b h => kX8_leaves hl0 h) rfl (Nat.le_of_ble_eq_true rfl) ⟨by decide, by decide⟩ ⟨by decide, by decide⟩ ⟨by decide, by decide⟩ rfl rfl (fun v72 S H locs I h => ?_)
                refine lv_imul X.1 X.2.1 dX8_bars_75 ?_
                refine lv_iadd X.1 X.2.1 dX8_bars_76 ?_
                refine lv_istore_n (i := 3) (lv' := [(3, .int (x3 + (v67 * v72))), (0, va_rf x0), (1, .int x1), (2, .int x2), (4, .int x4)]) X.1 X.2.1 dX8_bars_77 rfl hl (by decide) rfl (fun ls hl => ?_)
                refine lv_iinc (v := (x4 + 1)) (lv' := [(4, .int (x4 + 1)), (3, .int (x3 + (v67 * v72))), (0, va_rf x0), (1, .int x1), (2, .int x2)]) (k := 4) X.1 X.2.1 dX8_bars_78 hl rfl rfl (by decide) rfl (fun ls hl => ?_)
                refine lv_goto (tgt := 54) X.1 X.2.1 dX8_bars_81 (by decide) ?_
                exact ih54 _ _ _ _ _ _ _ _ _ h I (lv_sub hl [2, 3, 4, 1, 0] rfl)
          exact lp54 n54 _ _ _ _ _ _ _ _ _ h I (lv_sub hl [2, 3, 4, 1, 0] rfl)
    exact lp41 n41 _ _ _ _ _ _ _ h I (lv_sub hl [1, 2, 0] rfl)
  obtain ⟨n9, h⟩ := h
  have lp9 : ∀ (n9 : Nat) (x0 : Option Nat) (x1 : Int32) (x2 : Int32) (S : qS) (H : Heap) (locs : List Loc) (ls : Array Slot), pX8_bars_L9 (pX8_bars_J39 post xp) post xp n9 x0 x1 x2 S → q_H G A s H locs S → lv_has ls 5 [(0, va_rf x0), (1, .int x1), (2, .int x2)] → W p l e (q_rm 2 0 0) s m av below meth c H locs 0 0 (vx_MQ below (q_Qi G post A) (q_XC G A xp) av s 0 0 A) (F0 m 9 ls []) := by
    intro n9
    induction n9 with
    | zero => intro x0 x1 x2 S H locs ls h I hl; exact h.elim
    | succ n9 ih9 =>
      intro x0 x1 x2 S H locs ls h I hl
      unfold pX8_bars_L9 at h
      refine lv_iload_n X.1 X.2.1 dX8_bars_9 rfl (lv_at hl 2 rfl) ?_
      refine lv_iconst (v := 4) X.1 X.2.1 dX8_bars_10 (by decide) ?_
      refine lv_icmp_ge (tgt := 39) X.1 X.2.1 dX8_bars_11 (by decide) (fun c11 => ?_) (fun c11 => ?_)
      · have h := h.1 c11
        exact jn39 _ _ _ _ _ _ h I (lv_sub hl [0, 1] rfl)
      · have h := h.2 c11
        refine lv_iload_n X.1 X.2.1 dX8_bars_14 rfl (lv_at hl 1 rfl) ?_
        have jn32 : ∀ (x0 : Option Nat) (x2 : Int32) (t0 : Int32) (S : qS) (H : Heap) (locs : List Loc) (ls : Array Slot), pX8_bars_J32 (pX8_bars_L9 (pX8_bars_J39 post xp) post xp n9) post xp x0 x2 t0 S → q_H G A s H locs S → lv_has ls 5 [(0, va_rf x0), (2, .int x2)] → W p l e (q_rm 2 0 0) s m av below meth c H locs 0 0 (vx_MQ below (q_Qi G post A) (q_XC G A xp) av s 0 0 A) (F0 m 32 ls [.int t0]) := by
          intro x0 x2 t0 S H locs ls h I hl
          unfold pX8_bars_J32 at h
          refine lv_istore_n (i := 1) (lv' := [(1, .int t0), (0, va_rf x0), (2, .int x2)]) X.1 X.2.1 dX8_bars_32 rfl hl (by decide) (by simp [q_cat, q_catI, q_catJ]) (fun ls hl => ?_)
          refine lv_iinc (v := (x2 + 1)) (lv' := [(2, .int (x2 + 1)), (1, .int t0), (0, va_rf x0)]) (k := 2) X.1 X.2.1 dX8_bars_33 hl rfl rfl (by decide) rfl (fun ls hl => ?_)
          refine lv_goto (tgt := 9) X.1 X.2.1 dX8_bars_36 (by decide) ?_
          exact ih9 _ _ _ _ _ _ _ h I (lv_sub hl [2, 1, 0] rfl)
        have jn31 : ∀ (x0 : Option Nat) (x2 : Int32) (S : qS) (H : Heap) (locs : List Loc) (ls : Array Slot), pX8_bars_J31 (pX8_bars_L9 (pX8_bars_J39 post xp) post xp n9) post xp x0 x2 S → q_H G A s H locs S → lv_has ls 5 [(0, va_rf x0), (2, .int x2)] → W p l e (q_rm 2 0 0) s m av below meth c H locs 0 0 (vx_MQ below (q_Qi G post A) (q_XC G A xp) av s 0 0 A) (F0 m 31 ls []) := by
          intro x0 x2 S H locs ls h I hl
          unfold pX8_bars_J31 at h
          refine lv_iconst (v := 0) X.1 X.2.1 dX8_bars_31 (by decide) ?_
          exact jn32 _ _ _ _ _ _ _ h I (lv_sub hl [0, 1] rfl)
        refine lv_if_eq (tgt := 31) X.1 X.2.1 dX8_bars_15 (by decide) (fun c15 => ?_) (fun c15 => ?_)
        · have h := h.1 c15
          exact jn31 _ _ _ _ _ _ h I (lv_sub hl [0, 2] rfl)
        · have h := h.2 c15
          refine q_aload_n X dX8_bars_18 rfl (lv_at hl 0 rfl) ?_
          refine q_getR (ci := 9) (k := 11) X I rfl inb_TX8 wd_849 (by decide) qt_371 dX8_bars_19 h (fun v19 h => ?_)
          refine lv_iload_n X.1 X.2.1 dX8_bars_22 rfl (lv_at hl 2 rfl) ?_
          refine q_ldI X I (by decide) (by decide) dX8_bars_23 h (fun v23 h => ?_)
          refine lv_if_le (tgt := 31) X.1 X.2.1 dX8_bars_24 (by decide) (fun c24 => ?_) (fun c24 => ?_)
          · have h := h.1 c24
            exact jn31 _ _ _ _ _ _ h I (lv_sub hl [0, 2] rfl)
          · have h := h.2 c24
            refine lv_iconst (v := 1) X.1 X.2.1 dX8_bars_27 (by decide) ?_
            refine lv_goto (tgt := 32) X.1 X.2.1 dX8_bars_28 (by decide) ?_
            exact jn32 _ _ _ _ _ _ _ h I (lv_sub hl [0, 2] rfl)
  exact lp9 n9 _ _ _ _ _ _ _ h I (lv_sub hl [2, 1, 0] rfl)

def pX8_count_J104 (k82 : Option Nat → Int32 → Int32 → qS → Prop) (post : Int32 → qS → Prop) (xp : String → qS → Prop) (x0 : Option Nat) (x3 : Int32) (t0 : Int32) (t1 : Int32) (S : qS) : Prop :=
  k82 x0 (t0 + t1) (x3 + 1) S
def pX8_count_L82  (post : Int32 → qS → Prop) (xp : String → qS → Prop) : Nat → Option Nat → Int32 → Int32 → qS → Prop
  | 0, _, _, _, _ => False
  | n82 + 1, x0, x2, x3, S =>
  w_getI S x0 9 25 (fun v84 =>
  ((v84 ≤ x3 →
  post x2 S) ∧ (¬ v84 ≤ x3 →
  w_at S x0 9 (fun b93 => pX8_isBroken b93 x3 S (fun v93 S =>
  ((v93 = 0 →
  pX8_count_J104 (pX8_count_L82 post xp n82) post xp x0 x3 x2 (0 : Int32) S) ∧ (¬ v93 = 0 →
  pX8_count_J104 (pX8_count_L82 post xp n82) post xp x0 x3 x2 (1 : Int32) S))) xp))))
def pX8_count_J138 (k116 : Option Nat → Int32 → Int32 → qS → Prop) (post : Int32 → qS → Prop) (xp : String → qS → Prop) (x0 : Option Nat) (x3 : Int32) (t0 : Int32) (t1 : Int32) (S : qS) : Prop :=
  k116 x0 (t0 + t1) (x3 + 1) S
def pX8_count_L116  (post : Int32 → qS → Prop) (xp : String → qS → Prop) : Nat → Option Nat → Int32 → Int32 → qS → Prop
  | 0, _, _, _, _ => False
  | n116 + 1, x0, x2, x3, S =>
  w_getI S x0 9 25 (fun v118 =>
  ((v118 ≤ x3 →
  post x2 S) ∧ (¬ v118 ≤ x3 →
  w_at S x0 9 (fun b127 => pX8_isLent b127 x3 S (fun v127 S =>
  ((v127 = 0 →
  pX8_count_J138 (pX8_count_L116 post xp n116) post xp x0 x3 x2 (0 : Int32) S) ∧ (¬ v127 = 0 →
  pX8_count_J138 (pX8_count_L116 post xp n116) post xp x0 x3 x2 (1 : Int32) S))) xp))))
def pX8_count_J178 (k155 : Option Nat → Int32 → Int32 → qS → Prop) (post : Int32 → qS → Prop) (xp : String → qS → Prop) (x0 : Option Nat) (x3 : Int32) (t0 : Int32) (t1 : Int32) (S : qS) : Prop :=
  k155 x0 (t0 + t1) (x3 + 1) S
def pX8_count_L155  (post : Int32 → qS → Prop) (xp : String → qS → Prop) : Nat → Option Nat → Int32 → Int32 → qS → Prop
  | 0, _, _, _, _ => False
  | n155 + 1, x0, x2, x3, S =>
  w_getI S x0 9 28 (fun v157 =>
  ((v157 ≤ x3 →
  post x2 S) ∧ (¬ v157 ≤ x3 →
  w_getR S x0 9 27 (fun v165 =>
  w_ldI S v165 57 x3 (fun v169 =>
  ((v169 = 0 →
  pX8_count_J178 (pX8_count_L155 post xp n155) post xp x0 x3 x2 (0 : Int32) S) ∧ (¬ v169 = 0 →
  pX8_count_J178 (pX8_count_L155 post xp n155) post xp x0 x3 x2 (1 : Int32) S)))))))
def pX8_count (x0 : Nat) (x1 : Int32) (S : qS) (post : Int32 → qS → Prop) (xp : String → qS → Prop) : Prop :=
  w_putI S (some x0) 9 0 (0 : Int32) (fun S =>
  ((x1 = 0 →
  w_getI S (some x0) 9 1 (fun v61 =>
  post v61 S)) ∧
  (x1 = 1 →
  w_getI S (some x0) 9 5 (fun v66 =>
  post v66 S)) ∧
  (x1 = 2 →
  w_getI S (some x0) 9 12 (fun v71 =>
  post v71 S)) ∧
  (x1 = 3 →
  w_getI S (some x0) 9 25 (fun v76 =>
  post v76 S)) ∧
  (x1 = 4 →
  ∃ n82, pX8_count_L82 post xp n82 (some x0) (0 : Int32) (0 : Int32) S) ∧
  (x1 = 5 →
  ∃ n116, pX8_count_L116 post xp n116 (some x0) (0 : Int32) (0 : Int32) S) ∧
  (x1 = 6 →
  w_getI S (some x0) 9 28 (fun v149 =>
  post v149 S)) ∧
  (x1 = 7 →
  ∃ n155, pX8_count_L155 post xp n155 (some x0) (0 : Int32) (0 : Int32) S) ∧
  (x1 = 8 →
  w_getI S (some x0) 9 6 (fun v189 =>
  post v189 S)) ∧
  ((x1.toInt < 0 ∨ 8 < x1.toInt) →
  post (-1 : Int32) S)))
set_option maxHeartbeats 4000000 in
set_option maxRecDepth 100000 in
theorem kX8_count {l : Launch} (hl0 : l.stackTraces = false) {G : qG} {S : qS} {sz : Nat} {x0 : Nat} {x1 : Int32} {post : Int32 → qS → Prop} {xp : String → qS → Prop} (h : pX8_count x0 x1 S post xp) : q_M l yX8_count cX8_count 4 (some .int) 2 0 0 G S sz [va_rf (some x0), .int x1] (q_Qi G post) xp := by
  refine q_of (lv := [(0, va_rf (some x0)), (1, .int x1)]) hl0 (by decide) rfl (Nat.le_of_ble_eq_true rfl) (fun p e s m below meth c A ls X N hr hnm I hl => ?_)
  generalize ([va_rf (some x0), .int x1] : List Value).toArray = av at X ⊢
  unfold pX8_count at h
  refine q_aload_n X dX8_count_0 rfl (lv_at hl 0 rfl) ?_
  refine lv_iconst (v := 0) X.1 X.2.1 dX8_count_1 (by decide) ?_
  refine q_putI (ci := 9) (k := 0) X I rfl inb_TX8 tyX8_ok nmX8 wd_838 (by decide) (Or.inl rfl) qt_360 rfl dX8_count_2 h (fun S H locs I h => ?_)
  refine lv_iconst (v := 0) X.1 X.2.1 dX8_count_5 (by decide) ?_
  refine lv_istore_n (i := 2) (lv' := [(2, .int (0 : Int32)), (0, va_rf (some x0)), (1, .int x1)]) X.1 X.2.1 dX8_count_6 rfl hl (by decide) rfl (fun ls hl => ?_)
  refine lv_iload_n X.1 X.2.1 dX8_count_7 rfl (lv_at hl 2 rfl) ?_
  by_cases c8_0 : x1 = 0
  · have h := h.1 c8_0
    refine lv_tableIn (tgt := 60) X.1 X.2.1 dX8_count_8 (by rw [c8_0]; decide) (by rw [c8_0]; decide) (by rw [c8_0]; rfl) (by decide) ?_
    refine q_aload_n X dX8_count_60 rfl (lv_at hl 1 rfl) ?_
    refine q_getI (ci := 9) (k := 1) X I rfl inb_TX8 wd_839 (by decide) qt_361 dX8_count_61 h (fun v61 h => ?_)
    exact q_iret X I hr dX8_count_64 h (by decide) (by decide)
  by_cases c8_1 : x1 = 1
  · have h := h.2.1 c8_1
    refine lv_tableIn (tgt := 65) X.1 X.2.1 dX8_count_8 (by rw [c8_1]; decide) (by rw [c8_1]; decide) (by rw [c8_1]; rfl) (by decide) ?_
    refine q_aload_n X dX8_count_65 rfl (lv_at hl 1 rfl) ?_
    refine q_getI (ci := 9) (k := 5) X I rfl inb_TX8 wd_843 (by decide) qt_365 dX8_count_66 h (fun v66 h => ?_)
    exact q_iret X I hr dX8_count_69 h (by decide) (by decide)
  by_cases c8_2 : x1 = 2
  · have h := h.2.2.1 c8_2
    refine lv_tableIn (tgt := 70) X.1 X.2.1 dX8_count_8 (by rw [c8_2]; decide) (by rw [c8_2]; decide) (by rw [c8_2]; rfl) (by decide) ?_
    refine q_aload_n X dX8_count_70 rfl (lv_at hl 1 rfl) ?_
    refine q_getI (ci := 9) (k := 12) X I rfl inb_TX8 wd_850 (by decide) qt_372 dX8_count_71 h (fun v71 h => ?_)
    exact q_iret X I hr dX8_count_74 h (by decide) (by decide)
  by_cases c8_3 : x1 = 3
  · have h := h.2.2.2.1 c8_3
    refine lv_tableIn (tgt := 75) X.1 X.2.1 dX8_count_8 (by rw [c8_3]; decide) (by rw [c8_3]; decide) (by rw [c8_3]; rfl) (by decide) ?_
    refine q_aload_n X dX8_count_75 rfl (lv_at hl 1 rfl) ?_
    refine q_getI (ci := 9) (k := 25) X I rfl inb_TX8 wd_863 (by decide) qt_385 dX8_count_76 h (fun v76 h => ?_)
    exact q_iret X I hr dX8_count_79 h (by decide) (by decide)
  by_cases c8_4 : x1 = 4
  · have h := h.2.2.2.2.1 c8_4
    refine lv_tableIn (tgt := 80) X.1 X.2.1 dX8_count_8 (by rw [c8_4]; decide) (by rw [c8_4]; decide) (by rw [c8_4]; rfl) (by decide) ?_
    refine lv_iconst (v := 0) X.1 X.2.1 dX8_count_80 (by decide) ?_
    refine lv_istore_n (i := 3) (lv' := [(3, .int (0 : Int32)), (2, .int (0 : Int32)), (0, va_rf (some x0)), (1, .int x1)]) X.1 X.2.1 dX8_count_81 rfl hl (by decide) rfl (fun ls hl => ?_)
    obtain ⟨n82, h⟩ := h
    have lp82 : ∀ (n82 : Nat) (x0 : Option Nat) (x2 : Int32) (x3 : Int32) (S : qS) (H : Heap) (locs : List Loc) (ls : Array Slot), pX8_count_L82 post xp n82 x0 x2 x3 S → q_H G A s H locs S → lv_has ls 4 [(0, va_rf x0), (2, .int x2), (3, .int x3)] → W p l e (q_rm 2 0 0) s m av below meth c H locs 0 0 (vx_MQ below (q_Qi G post A) (q_XC G A xp) av s 0 0 A) (F0 m 82 ls []) := by
      intro n82
      induction n82 with
      | zero => intro x0 x2 x3 S H locs ls h I hl; exact h.elim
      | succ n82 ih82 =>
        intro x0 x2 x3 S H locs ls h I hl
        unfold pX8_count_L82 at h
        refine lv_iload_n X.1 X.2.1 dX8_count_82 rfl (lv_at hl 2 rfl) ?_
        refine q_aload_n X dX8_count_83 rfl (lv_at hl 0 rfl) ?_
        refine q_getI (ci := 9) (k := 25) X I rfl inb_TX8 wd_863 (by decide) qt_385 dX8_count_84 h (fun v84 h => ?_)
        refine lv_icmp_ge (tgt := 112) X.1 X.2.1 dX8_count_87 (by decide) (fun c87 => ?_) (fun c87 => ?_)
        · have h := h.1 c87
          refine lv_iload_n X.1 X.2.1 dX8_count_112 rfl (lv_at hl 1 rfl) ?_
          exact q_iret X I hr dX8_count_113 h (by decide) (by decide)
        · have h := h.2 c87
          refine lv_iload_n X.1 X.2.1 dX8_count_90 rfl (lv_at hl 1 rfl) ?_
          refine q_aload_n X dX8_count_91 rfl (lv_at hl 0 rfl) ?_
          refine lv_iload_n X.1 X.2.1 dX8_count_92 rfl (lv_at hl 2 rfl) ?_
          refine q_cVi (As := [.int x3]) (rest := [.int x2]) (c1 := 0) (s1 := 0) (d := 1) (mc := 0) (ms := 0) X N I hl.1 mX8_isBroken wd_1010 dX8_count_93 rfl h (fun b h => kX8_isBroken hl0 h) rfl (Nat.le_of_ble_eq_true rfl) ⟨by decide, by decide⟩ ⟨by decide, by decide⟩ ⟨by decide, by decide⟩ rfl rfl (fun v93 S H locs I h => ?_)
          have jn104 : ∀ (x0 : Option Nat) (x3 : Int32) (t0 : Int32) (t1 : Int32) (S : qS) (H : Heap) (locs : List Loc) (ls : Array Slot), pX8_count_J104 (pX8_count_L82 post xp n82) post xp x0 x3 t0 t1 S → q_H G A s H locs S → lv_has ls 4 [(0, va_rf x0), (3, .int x3)] → W p l e (q_rm 2 0 0) s m av below meth c H locs 0 0 (vx_MQ below (q_Qi G post A) (q_XC G A xp) av s 0 0 A) (F0 m 104 ls [.int t1, .int t0]) := by
            intro x0 x3 t0 t1 S H locs ls h I hl
            unfold pX8_count_J104 at h
            refine lv_iadd X.1 X.2.1 dX8_count_104 ?_
            refine lv_istore_n (i := 2) (lv' := [(2, .int (t0 + t1)), (0, va_rf x0), (3, .int x3)]) X.1 X.2.1 dX8_count_105 rfl hl (by decide) rfl (fun ls hl => ?_)
            refine lv_iinc (v := (x3 + 1)) (lv' := [(3, .int (x3 + 1)), (2, .int (t0 + t1)), (0, va_rf x0)]) (k := 2) X.1 X.2.1 dX8_count_106 hl rfl rfl (by decide) rfl (fun ls hl => ?_)
            refine lv_goto (tgt := 82) X.1 X.2.1 dX8_count_109 (by decide) ?_
            exact ih82 _ _ _ _ _ _ _ h I (lv_sub hl [2, 1, 0] rfl)
          refine lv_if_eq (tgt := 103) X.1 X.2.1 dX8_count_96 (by decide) (fun c96 => ?_) (fun c96 => ?_)
          · have h := h.1 c96
            refine lv_iconst (v := 0) X.1 X.2.1 dX8_count_103 (by decide) ?_
            exact jn104 _ _ _ _ _ _ _ _ h I (lv_sub hl [0, 2] rfl)
          · have h := h.2 c96
            refine lv_iconst (v := 1) X.1 X.2.1 dX8_count_99 (by decide) ?_
            refine lv_goto (tgt := 104) X.1 X.2.1 dX8_count_100 (by decide) ?_
            exact jn104 _ _ _ _ _ _ _ _ h I (lv_sub hl [0, 2] rfl)
    exact lp82 n82 _ _ _ _ _ _ _ h I (lv_sub hl [2, 1, 0] rfl)
  by_cases c8_5 : x1 = 5
  · have h := h.2.2.2.2.2.1 c8_5
    refine lv_tableIn (tgt := 114) X.1 X.2.1 dX8_count_8 (by rw [c8_5]; decide) (by rw [c8_5]; decide) (by rw [c8_5]; rfl) (by decide) ?_
    refine lv_iconst (v := 0) X.1 X.2.1 dX8_count_114 (by decide) ?_
    refine lv_istore_n (i := 3) (lv' := [(3, .int (0 : Int32)), (2, .int (0 : Int32)), (0, va_rf (some x0)), (1, .int x1)]) X.1 X.2.1 dX8_count_115 rfl hl (by decide) rfl (fun ls hl => ?_)
    obtain ⟨n116, h⟩ := h
    have lp116 : ∀ (n116 : Nat) (x0 : Option Nat) (x2 : Int32) (x3 : Int32) (S : qS) (H : Heap) (locs : List Loc) (ls : Array Slot), pX8_count_L116 post xp n116 x0 x2 x3 S → q_H G A s H locs S → lv_has ls 4 [(0, va_rf x0), (2, .int x2), (3, .int x3)] → W p l e (q_rm 2 0 0) s m av below meth c H locs 0 0 (vx_MQ below (q_Qi G post A) (q_XC G A xp) av s 0 0 A) (F0 m 116 ls []) := by
      intro n116
      induction n116 with
      | zero => intro x0 x2 x3 S H locs ls h I hl; exact h.elim
      | succ n116 ih116 =>
        intro x0 x2 x3 S H locs ls h I hl
        unfold pX8_count_L116 at h
        refine lv_iload_n X.1 X.2.1 dX8_count_116 rfl (lv_at hl 2 rfl) ?_
        refine q_aload_n X dX8_count_117 rfl (lv_at hl 0 rfl) ?_
        refine q_getI (ci := 9) (k := 25) X I rfl inb_TX8 wd_863 (by decide) qt_385 dX8_count_118 h (fun v118 h => ?_)
        refine lv_icmp_ge (tgt := 146) X.1 X.2.1 dX8_count_121 (by decide) (fun c121 => ?_) (fun c121 => ?_)
        · have h := h.1 c121
          refine lv_iload_n X.1 X.2.1 dX8_count_146 rfl (lv_at hl 1 rfl) ?_
          exact q_iret X I hr dX8_count_147 h (by decide) (by decide)
        · have h := h.2 c121
          refine lv_iload_n X.1 X.2.1 dX8_count_124 rfl (lv_at hl 1 rfl) ?_
          refine q_aload_n X dX8_count_125 rfl (lv_at hl 0 rfl) ?_
          refine lv_iload_n X.1 X.2.1 dX8_count_126 rfl (lv_at hl 2 rfl) ?_
          refine q_cVi (As := [.int x3]) (rest := [.int x2]) (c1 := 0) (s1 := 0) (d := 1) (mc := 0) (ms := 0) X N I hl.1 mX8_isLent wd_1034 dX8_count_127 rfl h (fun b h => kX8_isLent hl0 h) rfl (Nat.le_of_ble_eq_true rfl) ⟨by decide, by decide⟩ ⟨by decide, by decide⟩ ⟨by decide, by decide⟩ rfl rfl (fun v127 S H locs I h => ?_)
          have jn138 : ∀ (x0 : Option Nat) (x3 : Int32) (t0 : Int32) (t1 : Int32) (S : qS) (H : Heap) (locs : List Loc) (ls : Array Slot), pX8_count_J138 (pX8_count_L116 post xp n116) post xp x0 x3 t0 t1 S → q_H G A s H locs S → lv_has ls 4 [(0, va_rf x0), (3, .int x3)] → W p l e (q_rm 2 0 0) s m av below meth c H locs 0 0 (vx_MQ below (q_Qi G post A) (q_XC G A xp) av s 0 0 A) (F0 m 138 ls [.int t1, .int t0]) := by
            intro x0 x3 t0 t1 S H locs ls h I hl
            unfold pX8_count_J138 at h
            refine lv_iadd X.1 X.2.1 dX8_count_138 ?_
            refine lv_istore_n (i := 2) (lv' := [(2, .int (t0 + t1)), (0, va_rf x0), (3, .int x3)]) X.1 X.2.1 dX8_count_139 rfl hl (by decide) rfl (fun ls hl => ?_)
            refine lv_iinc (v := (x3 + 1)) (lv' := [(3, .int (x3 + 1)), (2, .int (t0 + t1)), (0, va_rf x0)]) (k := 2) X.1 X.2.1 dX8_count_140 hl rfl rfl (by decide) rfl (fun ls hl => ?_)
            refine lv_goto (tgt := 116) X.1 X.2.1 dX8_count_143 (by decide) ?_
            exact ih116 _ _ _ _ _ _ _ h I (lv_sub hl [2, 1, 0] rfl)
          refine lv_if_eq (tgt := 137) X.1 X.2.1 dX8_count_130 (by decide) (fun c130 => ?_) (fun c130 => ?_)
          · have h := h.1 c130
            refine lv_iconst (v := 0) X.1 X.2.1 dX8_count_137 (by decide) ?_
            exact jn138 _ _ _ _ _ _ _ _ h I (lv_sub hl [0, 2] rfl)
          · have h := h.2 c130
            refine lv_iconst (v := 1) X.1 X.2.1 dX8_count_133 (by decide) ?_
            refine lv_goto (tgt := 138) X.1 X.2.1 dX8_count_134 (by decide) ?_
            exact jn138 _ _ _ _ _ _ _ _ h I (lv_sub hl [0, 2] rfl)
    exact lp116 n116 _ _ _ _ _ _ _ h I (lv_sub hl [2, 1, 0] rfl)
  by_cases c8_6 : x1 = 6
  · have h := h.2.2.2.2.2.2.1 c8_6
    refine lv_tableIn (tgt := 148) X.1 X.2.1 dX8_count_8 (by rw [c8_6]; decide) (by rw [c8_6]; decide) (by rw [c8_6]; rfl) (by decide) ?_
    refine q_aload_n X dX8_count_148 rfl (lv_at hl 1 rfl) ?_
    refine q_getI (ci := 9) (k := 28) X I rfl inb_TX8 wd_866 (by decide) qt_388 dX8_count_149 h (fun v149 h => ?_)
    exact q_iret X I hr dX8_count_152 h (by decide) (by decide)
  by_cases c8_7 : x1 = 7
  · have h := h.2.2.2.2.2.2.2.1 c8_7
    refine lv_tableIn (tgt := 153) X.1 X.2.1 dX8_count_8 (by rw [c8_7]; decide) (by rw [c8_7]; decide) (by rw [c8_7]; rfl) (by decide) ?_
    refine lv_iconst (v := 0) X.1 X.2.1 dX8_count_153 (by decide) ?_
    refine lv_istore_n (i := 3) (lv' := [(3, .int (0 : Int32)), (2, .int (0 : Int32)), (0, va_rf (some x0)), (1, .int x1)]) X.1 X.2.1 dX8_count_154 rfl hl (by decide) rfl (fun ls hl => ?_)
    obtain ⟨n155, h⟩ := h
    have lp155 : ∀ (n155 : Nat) (x0 : Option Nat) (x2 : Int32) (x3 : Int32) (S : qS) (H : Heap) (locs : List Loc) (ls : Array Slot), pX8_count_L155 post xp n155 x0 x2 x3 S → q_H G A s H locs S → lv_has ls 4 [(0, va_rf x0), (2, .int x2), (3, .int x3)] → W p l e (q_rm 2 0 0) s m av below meth c H locs 0 0 (vx_MQ below (q_Qi G post A) (q_XC G A xp) av s 0 0 A) (F0 m 155 ls []) := by
      intro n155
      induction n155 with
      | zero => intro x0 x2 x3 S H locs ls h I hl; exact h.elim
      | succ n155 ih155 =>
        intro x0 x2 x3 S H locs ls h I hl
        unfold pX8_count_L155 at h
        refine lv_iload_n X.1 X.2.1 dX8_count_155 rfl (lv_at hl 2 rfl) ?_
        refine q_aload_n X dX8_count_156 rfl (lv_at hl 0 rfl) ?_
        refine q_getI (ci := 9) (k := 28) X I rfl inb_TX8 wd_866 (by decide) qt_388 dX8_count_157 h (fun v157 h => ?_)
        refine lv_icmp_ge (tgt := 186) X.1 X.2.1 dX8_count_160 (by decide) (fun c160 => ?_) (fun c160 => ?_)
        · have h := h.1 c160
          refine lv_iload_n X.1 X.2.1 dX8_count_186 rfl (lv_at hl 1 rfl) ?_
          exact q_iret X I hr dX8_count_187 h (by decide) (by decide)
        · have h := h.2 c160
          refine lv_iload_n X.1 X.2.1 dX8_count_163 rfl (lv_at hl 1 rfl) ?_
          refine q_aload_n X dX8_count_164 rfl (lv_at hl 0 rfl) ?_
          refine q_getR (ci := 9) (k := 27) X I rfl inb_TX8 wd_865 (by decide) qt_387 dX8_count_165 h (fun v165 h => ?_)
          refine lv_iload_n X.1 X.2.1 dX8_count_168 rfl (lv_at hl 2 rfl) ?_
          refine q_ldZ X I (by decide) (by decide) dX8_count_169 h (fun v169 h => ?_)
          have jn178 : ∀ (x0 : Option Nat) (x3 : Int32) (t0 : Int32) (t1 : Int32) (S : qS) (H : Heap) (locs : List Loc) (ls : Array Slot), pX8_count_J178 (pX8_count_L155 post xp n155) post xp x0 x3 t0 t1 S → q_H G A s H locs S → lv_has ls 4 [(0, va_rf x0), (3, .int x3)] → W p l e (q_rm 2 0 0) s m av below meth c H locs 0 0 (vx_MQ below (q_Qi G post A) (q_XC G A xp) av s 0 0 A) (F0 m 178 ls [.int t1, .int t0]) := by
            intro x0 x3 t0 t1 S H locs ls h I hl
            unfold pX8_count_J178 at h
            refine lv_iadd X.1 X.2.1 dX8_count_178 ?_
            refine lv_istore_n (i := 2) (lv' := [(2, .int (t0 + t1)), (0, va_rf x0), (3, .int x3)]) X.1 X.2.1 dX8_count_179 rfl hl (by decide) rfl (fun ls hl => ?_)
            refine lv_iinc (v := (x3 + 1)) (lv' := [(3, .int (x3 + 1)), (2, .int (t0 + t1)), (0, va_rf x0)]) (k := 2) X.1 X.2.1 dX8_count_180 hl rfl rfl (by decide) rfl (fun ls hl => ?_)
            refine lv_goto (tgt := 155) X.1 X.2.1 dX8_count_183 (by decide) ?_
            exact ih155 _ _ _ _ _ _ _ h I (lv_sub hl [2, 1, 0] rfl)
          refine lv_if_eq (tgt := 177) X.1 X.2.1 dX8_count_170 (by decide) (fun c170 => ?_) (fun c170 => ?_)
          · have h := h.1 c170
            refine lv_iconst (v := 0) X.1 X.2.1 dX8_count_177 (by decide) ?_
            exact jn178 _ _ _ _ _ _ _ _ h I (lv_sub hl [0, 2] rfl)
          · have h := h.2 c170
            refine lv_iconst (v := 1) X.1 X.2.1 dX8_count_173 (by decide) ?_
            refine lv_goto (tgt := 178) X.1 X.2.1 dX8_count_174 (by decide) ?_
            exact jn178 _ _ _ _ _ _ _ _ h I (lv_sub hl [0, 2] rfl)
    exact lp155 n155 _ _ _ _ _ _ _ h I (lv_sub hl [2, 1, 0] rfl)
  by_cases c8_8 : x1 = 8
  · have h := h.2.2.2.2.2.2.2.2.1 c8_8
    refine lv_tableIn (tgt := 188) X.1 X.2.1 dX8_count_8 (by rw [c8_8]; decide) (by rw [c8_8]; decide) (by rw [c8_8]; rfl) (by decide) ?_
    refine q_aload_n X dX8_count_188 rfl (lv_at hl 1 rfl) ?_
    refine q_getI (ci := 9) (k := 6) X I rfl inb_TX8 wd_844 (by decide) qt_366 dX8_count_189 h (fun v189 h => ?_)
    exact q_iret X I hr dX8_count_192 h (by decide) (by decide)
  have co8 : x1.toInt < 0 ∨ 8 < x1.toInt := by
    have e0 := q_ne c8_0 (z := 0) (by decide)
    have e1 := q_ne c8_1 (z := 1) (by decide)
    have e2 := q_ne c8_2 (z := 2) (by decide)
    have e3 := q_ne c8_3 (z := 3) (by decide)
    have e4 := q_ne c8_4 (z := 4) (by decide)
    have e5 := q_ne c8_5 (z := 5) (by decide)
    have e6 := q_ne c8_6 (z := 6) (by decide)
    have e7 := q_ne c8_7 (z := 7) (by decide)
    have e8 := q_ne c8_8 (z := 8) (by decide)
    omega
  have h := h.2.2.2.2.2.2.2.2.2 co8
  refine lv_tableOut (tgt := 193) X.1 X.2.1 dX8_count_8 co8 (by decide) ?_
  refine lv_iconst (v := -1) X.1 X.2.1 dX8_count_193 (by decide) ?_
  exact q_iret X I hr dX8_count_194 h (by decide) (by decide)

def pX8_init (x0 : Nat) (S : qS) (post : qS → Prop) : Prop :=
  w_new S 32 40 (fun q7 S =>
  w_putR S (some x0) 9 2 (some q7) (fun S =>
  w_new S 33 10 (fun q15 S =>
  w_putR S (some x0) 9 3 (some q15) (fun S =>
  w_new S 34 10 (fun q23 S =>
  w_putR S (some x0) 9 4 (some q23) (fun S =>
  w_new S 37 40 (fun q31 S =>
  w_putR S (some x0) 9 7 (some q31) (fun S =>
  w_new S 38 40 (fun q39 S =>
  w_putR S (some x0) 9 8 (some q39) (fun S =>
  w_new S 39 10 (fun q47 S =>
  w_putR S (some x0) 9 9 (some q47) (fun S =>
  w_new S 40 10 (fun q55 S =>
  w_putR S (some x0) 9 10 (some q55) (fun S =>
  w_new S 41 4 (fun q62 S =>
  w_putR S (some x0) 9 11 (some q62) (fun S =>
  w_new S 43 4 (fun q69 S =>
  w_putR S (some x0) 9 13 (some q69) (fun S =>
  w_new S 44 4 (fun q76 S =>
  w_putR S (some x0) 9 14 (some q76) (fun S =>
  w_new S 45 40 (fun q84 S =>
  w_putR S (some x0) 9 15 (some q84) (fun S =>
  w_new S 46 40 (fun q92 S =>
  w_putR S (some x0) 9 16 (some q92) (fun S =>
  w_new S 47 40 (fun q100 S =>
  w_putR S (some x0) 9 17 (some q100) (fun S =>
  w_new S 48 40 (fun q108 S =>
  w_putR S (some x0) 9 18 (some q108) (fun S =>
  w_new S 49 40 (fun q116 S =>
  w_putR S (some x0) 9 19 (some q116) (fun S =>
  w_new S 50 40 (fun q124 S =>
  w_putR S (some x0) 9 20 (some q124) (fun S =>
  w_new S 51 40 (fun q132 S =>
  w_putR S (some x0) 9 21 (some q132) (fun S =>
  w_new S 52 1200 (fun q141 S =>
  w_putR S (some x0) 9 22 (some q141) (fun S =>
  w_new S 53 1200 (fun q150 S =>
  w_putR S (some x0) 9 23 (some q150) (fun S =>
  w_new S 54 40 (fun q158 S =>
  w_putR S (some x0) 9 24 (some q158) (fun S =>
  w_new S 56 600 (fun q167 S =>
  w_putR S (some x0) 9 26 (some q167) (fun S =>
  w_new S 57 60 (fun q175 S =>
  w_putR S (some x0) 9 27 (some q175) (fun S =>
  w_new S 59 4 (fun q182 S =>
  w_putR S (some x0) 9 29 (some q182) (fun S =>
  w_new S 61 32 (fun q190 S =>
  w_putR S (some x0) 9 31 (some q190) (fun S =>
  w_new S 62 4 (fun q197 S =>
  w_putR S (some x0) 9 32 (some q197) (fun S =>
  post S))))))))))))))))))))))))))))))))))))))))))))))))))
set_option maxHeartbeats 4000000 in
set_option maxRecDepth 100000 in
theorem kX8_init {l : Launch} (hl0 : l.stackTraces = false) {G : qG} {S : qS} {sz : Nat} {x0 : Nat} {post : qS → Prop} (h : pX8_init x0 S post) : q_N l yX8_init cX8_init 1 2 25 3592 G S sz [va_rf (some x0)] post := by
  refine q_ofN (lv := [(0, va_rf (some x0))]) hl0 (by decide) rfl (Nat.le_of_ble_eq_true rfl) (fun p e s m below meth c A ls X hr hnm I hl => ?_)
  generalize ([va_rf (some x0)] : List Value).toArray = av at X ⊢
  unfold pX8_init at h
  refine q_aload_n X dX8_init_0 rfl (lv_at hl 0 rfl) ?_
  refine q_objInit X hl.1 wd_837 wd_32 wd_33 dX8_init_1 (by decide) (Nat.le_of_ble_eq_true rfl) ?_
  refine q_aload_n X dX8_init_4 rfl (lv_at hl 0 rfl) ?_
  refine lv_bipush (v := 40) X.1 X.2.1 dX8_init_5 (by decide) ?_
  refine q_newI (k := 32) (N := 40) (c1 := 1) (s1 := 40) X I (by decide) (by decide) wd_97 ⟨by decide, by decide, by decide⟩ ⟨by decide, by decide⟩ rfl rfl dX8_init_7 h (fun q7 S H I h => ?_)
  refine q_putR (ci := 9) (k := 2) X I rfl inb_TX8 tyX8_ok nmX8 wd_840 (by decide) (Or.inr ⟨rfl, hnm, rfl⟩) qt_362 (Or.inr ⟨_, rfl⟩) dX8_init_9 h (fun S H locs I h => ?_)
  refine q_aload_n X dX8_init_12 rfl (lv_at hl 0 rfl) ?_
  refine lv_bipush (v := 10) X.1 X.2.1 dX8_init_13 (by decide) ?_
  refine q_newI (k := 33) (N := 10) (c1 := 2) (s1 := 50) X I (by decide) (by decide) wd_97 ⟨by decide, by decide, by decide⟩ ⟨by decide, by decide⟩ rfl rfl dX8_init_15 h (fun q15 S H I h => ?_)
  refine q_putR (ci := 9) (k := 3) X I rfl inb_TX8 tyX8_ok nmX8 wd_841 (by decide) (Or.inr ⟨rfl, hnm, rfl⟩) qt_363 (Or.inr ⟨_, rfl⟩) dX8_init_17 h (fun S H locs I h => ?_)
  refine q_aload_n X dX8_init_20 rfl (lv_at hl 0 rfl) ?_
  refine lv_bipush (v := 10) X.1 X.2.1 dX8_init_21 (by decide) ?_
  refine q_newI (k := 34) (N := 10) (c1 := 3) (s1 := 60) X I (by decide) (by decide) wd_97 ⟨by decide, by decide, by decide⟩ ⟨by decide, by decide⟩ rfl rfl dX8_init_23 h (fun q23 S H I h => ?_)
  refine q_putR (ci := 9) (k := 4) X I rfl inb_TX8 tyX8_ok nmX8 wd_842 (by decide) (Or.inr ⟨rfl, hnm, rfl⟩) qt_364 (Or.inr ⟨_, rfl⟩) dX8_init_25 h (fun S H locs I h => ?_)
  refine q_aload_n X dX8_init_28 rfl (lv_at hl 0 rfl) ?_
  refine lv_bipush (v := 40) X.1 X.2.1 dX8_init_29 (by decide) ?_
  refine q_newI (k := 37) (N := 40) (c1 := 4) (s1 := 100) X I (by decide) (by decide) wd_97 ⟨by decide, by decide, by decide⟩ ⟨by decide, by decide⟩ rfl rfl dX8_init_31 h (fun q31 S H I h => ?_)
  refine q_putR (ci := 9) (k := 7) X I rfl inb_TX8 tyX8_ok nmX8 wd_845 (by decide) (Or.inr ⟨rfl, hnm, rfl⟩) qt_367 (Or.inr ⟨_, rfl⟩) dX8_init_33 h (fun S H locs I h => ?_)
  refine q_aload_n X dX8_init_36 rfl (lv_at hl 0 rfl) ?_
  refine lv_bipush (v := 40) X.1 X.2.1 dX8_init_37 (by decide) ?_
  refine q_newI (k := 38) (N := 40) (c1 := 5) (s1 := 140) X I (by decide) (by decide) wd_97 ⟨by decide, by decide, by decide⟩ ⟨by decide, by decide⟩ rfl rfl dX8_init_39 h (fun q39 S H I h => ?_)
  refine q_putR (ci := 9) (k := 8) X I rfl inb_TX8 tyX8_ok nmX8 wd_846 (by decide) (Or.inr ⟨rfl, hnm, rfl⟩) qt_368 (Or.inr ⟨_, rfl⟩) dX8_init_41 h (fun S H locs I h => ?_)
  refine q_aload_n X dX8_init_44 rfl (lv_at hl 0 rfl) ?_
  refine lv_bipush (v := 10) X.1 X.2.1 dX8_init_45 (by decide) ?_
  refine q_newZ (k := 39) (N := 10) (c1 := 6) (s1 := 150) X I (by decide) (by decide) wd_938 ⟨by decide, by decide, by decide⟩ ⟨by decide, by decide⟩ rfl rfl dX8_init_47 h (fun q47 S H I h => ?_)
  refine q_putR (ci := 9) (k := 9) X I rfl inb_TX8 tyX8_ok nmX8 wd_847 (by decide) (Or.inr ⟨rfl, hnm, rfl⟩) qt_369 (Or.inr ⟨_, rfl⟩) dX8_init_49 h (fun S H locs I h => ?_)
  refine q_aload_n X dX8_init_52 rfl (lv_at hl 0 rfl) ?_
  refine lv_bipush (v := 10) X.1 X.2.1 dX8_init_53 (by decide) ?_
  refine q_newI (k := 40) (N := 10) (c1 := 7) (s1 := 160) X I (by decide) (by decide) wd_97 ⟨by decide, by decide, by decide⟩ ⟨by decide, by decide⟩ rfl rfl dX8_init_55 h (fun q55 S H I h => ?_)
  refine q_putR (ci := 9) (k := 10) X I rfl inb_TX8 tyX8_ok nmX8 wd_848 (by decide) (Or.inr ⟨rfl, hnm, rfl⟩) qt_370 (Or.inr ⟨_, rfl⟩) dX8_init_57 h (fun S H locs I h => ?_)
  refine q_aload_n X dX8_init_60 rfl (lv_at hl 0 rfl) ?_
  refine lv_iconst (v := 4) X.1 X.2.1 dX8_init_61 (by decide) ?_
  refine q_newI (k := 41) (N := 4) (c1 := 8) (s1 := 164) X I (by decide) (by decide) wd_97 ⟨by decide, by decide, by decide⟩ ⟨by decide, by decide⟩ rfl rfl dX8_init_62 h (fun q62 S H I h => ?_)
  refine q_putR (ci := 9) (k := 11) X I rfl inb_TX8 tyX8_ok nmX8 wd_849 (by decide) (Or.inr ⟨rfl, hnm, rfl⟩) qt_371 (Or.inr ⟨_, rfl⟩) dX8_init_64 h (fun S H locs I h => ?_)
  refine q_aload_n X dX8_init_67 rfl (lv_at hl 0 rfl) ?_
  refine lv_iconst (v := 4) X.1 X.2.1 dX8_init_68 (by decide) ?_
  refine q_newJ (k := 43) (N := 4) (c1 := 9) (s1 := 168) X I (by decide) (by decide) wd_96 ⟨by decide, by decide, by decide⟩ ⟨by decide, by decide⟩ rfl rfl dX8_init_69 h (fun q69 S H I h => ?_)
  refine q_putR (ci := 9) (k := 13) X I rfl inb_TX8 tyX8_ok nmX8 wd_851 (by decide) (Or.inr ⟨rfl, hnm, rfl⟩) qt_373 (Or.inr ⟨_, rfl⟩) dX8_init_71 h (fun S H locs I h => ?_)
  refine q_aload_n X dX8_init_74 rfl (lv_at hl 0 rfl) ?_
  refine lv_iconst (v := 4) X.1 X.2.1 dX8_init_75 (by decide) ?_
  refine q_newJ (k := 44) (N := 4) (c1 := 10) (s1 := 172) X I (by decide) (by decide) wd_96 ⟨by decide, by decide, by decide⟩ ⟨by decide, by decide⟩ rfl rfl dX8_init_76 h (fun q76 S H I h => ?_)
  refine q_putR (ci := 9) (k := 14) X I rfl inb_TX8 tyX8_ok nmX8 wd_852 (by decide) (Or.inr ⟨rfl, hnm, rfl⟩) qt_374 (Or.inr ⟨_, rfl⟩) dX8_init_78 h (fun S H locs I h => ?_)
  refine q_aload_n X dX8_init_81 rfl (lv_at hl 0 rfl) ?_
  refine lv_bipush (v := 40) X.1 X.2.1 dX8_init_82 (by decide) ?_
  refine q_newI (k := 45) (N := 40) (c1 := 11) (s1 := 212) X I (by decide) (by decide) wd_97 ⟨by decide, by decide, by decide⟩ ⟨by decide, by decide⟩ rfl rfl dX8_init_84 h (fun q84 S H I h => ?_)
  refine q_putR (ci := 9) (k := 15) X I rfl inb_TX8 tyX8_ok nmX8 wd_853 (by decide) (Or.inr ⟨rfl, hnm, rfl⟩) qt_375 (Or.inr ⟨_, rfl⟩) dX8_init_86 h (fun S H locs I h => ?_)
  refine q_aload_n X dX8_init_89 rfl (lv_at hl 0 rfl) ?_
  refine lv_bipush (v := 40) X.1 X.2.1 dX8_init_90 (by decide) ?_
  refine q_newZ (k := 46) (N := 40) (c1 := 12) (s1 := 252) X I (by decide) (by decide) wd_938 ⟨by decide, by decide, by decide⟩ ⟨by decide, by decide⟩ rfl rfl dX8_init_92 h (fun q92 S H I h => ?_)
  refine q_putR (ci := 9) (k := 16) X I rfl inb_TX8 tyX8_ok nmX8 wd_854 (by decide) (Or.inr ⟨rfl, hnm, rfl⟩) qt_376 (Or.inr ⟨_, rfl⟩) dX8_init_94 h (fun S H locs I h => ?_)
  refine q_aload_n X dX8_init_97 rfl (lv_at hl 0 rfl) ?_
  refine lv_bipush (v := 40) X.1 X.2.1 dX8_init_98 (by decide) ?_
  refine q_newI (k := 47) (N := 40) (c1 := 13) (s1 := 292) X I (by decide) (by decide) wd_97 ⟨by decide, by decide, by decide⟩ ⟨by decide, by decide⟩ rfl rfl dX8_init_100 h (fun q100 S H I h => ?_)
  refine q_putR (ci := 9) (k := 17) X I rfl inb_TX8 tyX8_ok nmX8 wd_855 (by decide) (Or.inr ⟨rfl, hnm, rfl⟩) qt_377 (Or.inr ⟨_, rfl⟩) dX8_init_102 h (fun S H locs I h => ?_)
  refine q_aload_n X dX8_init_105 rfl (lv_at hl 0 rfl) ?_
  refine lv_bipush (v := 40) X.1 X.2.1 dX8_init_106 (by decide) ?_
  refine q_newI (k := 48) (N := 40) (c1 := 14) (s1 := 332) X I (by decide) (by decide) wd_97 ⟨by decide, by decide, by decide⟩ ⟨by decide, by decide⟩ rfl rfl dX8_init_108 h (fun q108 S H I h => ?_)
  refine q_putR (ci := 9) (k := 18) X I rfl inb_TX8 tyX8_ok nmX8 wd_856 (by decide) (Or.inr ⟨rfl, hnm, rfl⟩) qt_378 (Or.inr ⟨_, rfl⟩) dX8_init_110 h (fun S H locs I h => ?_)
  refine q_aload_n X dX8_init_113 rfl (lv_at hl 0 rfl) ?_
  refine lv_bipush (v := 40) X.1 X.2.1 dX8_init_114 (by decide) ?_
  refine q_newI (k := 49) (N := 40) (c1 := 15) (s1 := 372) X I (by decide) (by decide) wd_97 ⟨by decide, by decide, by decide⟩ ⟨by decide, by decide⟩ rfl rfl dX8_init_116 h (fun q116 S H I h => ?_)
  refine q_putR (ci := 9) (k := 19) X I rfl inb_TX8 tyX8_ok nmX8 wd_857 (by decide) (Or.inr ⟨rfl, hnm, rfl⟩) qt_379 (Or.inr ⟨_, rfl⟩) dX8_init_118 h (fun S H locs I h => ?_)
  refine q_aload_n X dX8_init_121 rfl (lv_at hl 0 rfl) ?_
  refine lv_bipush (v := 40) X.1 X.2.1 dX8_init_122 (by decide) ?_
  refine q_newI (k := 50) (N := 40) (c1 := 16) (s1 := 412) X I (by decide) (by decide) wd_97 ⟨by decide, by decide, by decide⟩ ⟨by decide, by decide⟩ rfl rfl dX8_init_124 h (fun q124 S H I h => ?_)
  refine q_putR (ci := 9) (k := 20) X I rfl inb_TX8 tyX8_ok nmX8 wd_858 (by decide) (Or.inr ⟨rfl, hnm, rfl⟩) qt_380 (Or.inr ⟨_, rfl⟩) dX8_init_126 h (fun S H locs I h => ?_)
  refine q_aload_n X dX8_init_129 rfl (lv_at hl 0 rfl) ?_
  refine lv_bipush (v := 40) X.1 X.2.1 dX8_init_130 (by decide) ?_
  refine q_newI (k := 51) (N := 40) (c1 := 17) (s1 := 452) X I (by decide) (by decide) wd_97 ⟨by decide, by decide, by decide⟩ ⟨by decide, by decide⟩ rfl rfl dX8_init_132 h (fun q132 S H I h => ?_)
  refine q_putR (ci := 9) (k := 21) X I rfl inb_TX8 tyX8_ok nmX8 wd_859 (by decide) (Or.inr ⟨rfl, hnm, rfl⟩) qt_381 (Or.inr ⟨_, rfl⟩) dX8_init_134 h (fun S H locs I h => ?_)
  refine q_aload_n X dX8_init_137 rfl (lv_at hl 0 rfl) ?_
  refine lv_sipush (v := 1200) X.1 X.2.1 dX8_init_138 (by decide) ?_
  refine q_newI (k := 52) (N := 1200) (c1 := 18) (s1 := 1652) X I (by decide) (by decide) wd_97 ⟨by decide, by decide, by decide⟩ ⟨by decide, by decide⟩ rfl rfl dX8_init_141 h (fun q141 S H I h => ?_)
  refine q_putR (ci := 9) (k := 22) X I rfl inb_TX8 tyX8_ok nmX8 wd_860 (by decide) (Or.inr ⟨rfl, hnm, rfl⟩) qt_382 (Or.inr ⟨_, rfl⟩) dX8_init_143 h (fun S H locs I h => ?_)
  refine q_aload_n X dX8_init_146 rfl (lv_at hl 0 rfl) ?_
  refine lv_sipush (v := 1200) X.1 X.2.1 dX8_init_147 (by decide) ?_
  refine q_newI (k := 53) (N := 1200) (c1 := 19) (s1 := 2852) X I (by decide) (by decide) wd_97 ⟨by decide, by decide, by decide⟩ ⟨by decide, by decide⟩ rfl rfl dX8_init_150 h (fun q150 S H I h => ?_)
  refine q_putR (ci := 9) (k := 23) X I rfl inb_TX8 tyX8_ok nmX8 wd_861 (by decide) (Or.inr ⟨rfl, hnm, rfl⟩) qt_383 (Or.inr ⟨_, rfl⟩) dX8_init_152 h (fun S H locs I h => ?_)
  refine q_aload_n X dX8_init_155 rfl (lv_at hl 0 rfl) ?_
  refine lv_bipush (v := 40) X.1 X.2.1 dX8_init_156 (by decide) ?_
  refine q_newI (k := 54) (N := 40) (c1 := 20) (s1 := 2892) X I (by decide) (by decide) wd_97 ⟨by decide, by decide, by decide⟩ ⟨by decide, by decide⟩ rfl rfl dX8_init_158 h (fun q158 S H I h => ?_)
  refine q_putR (ci := 9) (k := 24) X I rfl inb_TX8 tyX8_ok nmX8 wd_862 (by decide) (Or.inr ⟨rfl, hnm, rfl⟩) qt_384 (Or.inr ⟨_, rfl⟩) dX8_init_160 h (fun S H locs I h => ?_)
  refine q_aload_n X dX8_init_163 rfl (lv_at hl 0 rfl) ?_
  refine lv_sipush (v := 600) X.1 X.2.1 dX8_init_164 (by decide) ?_
  refine q_newI (k := 56) (N := 600) (c1 := 21) (s1 := 3492) X I (by decide) (by decide) wd_97 ⟨by decide, by decide, by decide⟩ ⟨by decide, by decide⟩ rfl rfl dX8_init_167 h (fun q167 S H I h => ?_)
  refine q_putR (ci := 9) (k := 26) X I rfl inb_TX8 tyX8_ok nmX8 wd_864 (by decide) (Or.inr ⟨rfl, hnm, rfl⟩) qt_386 (Or.inr ⟨_, rfl⟩) dX8_init_169 h (fun S H locs I h => ?_)
  refine q_aload_n X dX8_init_172 rfl (lv_at hl 0 rfl) ?_
  refine lv_bipush (v := 60) X.1 X.2.1 dX8_init_173 (by decide) ?_
  refine q_newZ (k := 57) (N := 60) (c1 := 22) (s1 := 3552) X I (by decide) (by decide) wd_938 ⟨by decide, by decide, by decide⟩ ⟨by decide, by decide⟩ rfl rfl dX8_init_175 h (fun q175 S H I h => ?_)
  refine q_putR (ci := 9) (k := 27) X I rfl inb_TX8 tyX8_ok nmX8 wd_865 (by decide) (Or.inr ⟨rfl, hnm, rfl⟩) qt_387 (Or.inr ⟨_, rfl⟩) dX8_init_177 h (fun S H locs I h => ?_)
  refine q_aload_n X dX8_init_180 rfl (lv_at hl 0 rfl) ?_
  refine lv_iconst (v := 4) X.1 X.2.1 dX8_init_181 (by decide) ?_
  refine q_newI (k := 59) (N := 4) (c1 := 23) (s1 := 3556) X I (by decide) (by decide) wd_97 ⟨by decide, by decide, by decide⟩ ⟨by decide, by decide⟩ rfl rfl dX8_init_182 h (fun q182 S H I h => ?_)
  refine q_putR (ci := 9) (k := 29) X I rfl inb_TX8 tyX8_ok nmX8 wd_867 (by decide) (Or.inr ⟨rfl, hnm, rfl⟩) qt_389 (Or.inr ⟨_, rfl⟩) dX8_init_184 h (fun S H locs I h => ?_)
  refine q_aload_n X dX8_init_187 rfl (lv_at hl 0 rfl) ?_
  refine lv_bipush (v := 32) X.1 X.2.1 dX8_init_188 (by decide) ?_
  refine q_newI (k := 61) (N := 32) (c1 := 24) (s1 := 3588) X I (by decide) (by decide) wd_97 ⟨by decide, by decide, by decide⟩ ⟨by decide, by decide⟩ rfl rfl dX8_init_190 h (fun q190 S H I h => ?_)
  refine q_putR (ci := 9) (k := 31) X I rfl inb_TX8 tyX8_ok nmX8 wd_869 (by decide) (Or.inr ⟨rfl, hnm, rfl⟩) qt_391 (Or.inr ⟨_, rfl⟩) dX8_init_192 h (fun S H locs I h => ?_)
  refine q_aload_n X dX8_init_195 rfl (lv_at hl 0 rfl) ?_
  refine lv_iconst (v := 4) X.1 X.2.1 dX8_init_196 (by decide) ?_
  refine q_newJ (k := 62) (N := 4) (c1 := 25) (s1 := 3592) X I (by decide) (by decide) wd_96 ⟨by decide, by decide, by decide⟩ ⟨by decide, by decide⟩ rfl rfl dX8_init_197 h (fun q197 S H I h => ?_)
  refine q_putR (ci := 9) (k := 32) X I rfl inb_TX8 tyX8_ok nmX8 wd_870 (by decide) (Or.inr ⟨rfl, hnm, rfl⟩) qt_392 (Or.inr ⟨_, rfl⟩) dX8_init_199 h (fun S H locs I h => ?_)
  exact q_vretN X I hr dX8_init_202 h (by decide) (by decide)
