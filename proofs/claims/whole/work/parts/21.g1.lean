def pX1_init (x0 : Nat) (x1 : Option Nat) (x2 : Option Nat) (S : qS) (post : qS → Prop) : Prop :=
  w_putZ S (some x0) 2 2 (1 : Int32) (fun S =>
  w_putR S (some x0) 2 0 x1 (fun S =>
  w_putR S (some x0) 2 1 x2 (fun S =>
  post S)))
set_option maxHeartbeats 4000000 in
set_option maxRecDepth 100000 in
theorem kX1_init {l : Launch} (hl0 : l.stackTraces = false) {G : qG} {S : qS} {sz : Nat} {x0 : Nat} {x1 : Option Nat} {x2 : Option Nat} {post : qS → Prop} (h : pX1_init x0 x1 x2 S post) : q_N l yX1_init cX1_init 3 2 0 0 G S sz [va_rf (some x0), va_rf x1, va_rf x2] post := by
  refine q_ofN (lv := [(0, va_rf (some x0)), (1, va_rf x1), (2, va_rf x2)]) hl0 (by decide) (by cases x1 <;> cases x2 <;> rfl) (by cases x1 <;> cases x2 <;> exact Nat.le_of_ble_eq_true rfl) (fun p e s m below meth c A ls X hr hnm I hl => ?_)
  generalize ([va_rf (some x0), va_rf x1, va_rf x2] : List Value).toArray = av at X ⊢
  unfold pX1_init at h
  refine q_aload_n X dX1_init_0 rfl (lv_at hl 0 rfl) ?_
  refine q_objInit X hl.1 wd_760 wd_32 wd_33 dX1_init_1 (by decide) (Nat.le_of_ble_eq_true rfl) ?_
  refine q_aload_n X dX1_init_4 rfl (lv_at hl 0 rfl) ?_
  refine lv_iconst (v := 1) X.1 X.2.1 dX1_init_5 (by decide) ?_
  refine q_putZ (ci := 2) (k := 2) X I rfl inb_TX1 tyX1_ok nmX1 wd_765 (by decide) (Or.inl rfl) qt_82 rfl dX1_init_6 h (fun S H locs I h => ?_)
  refine q_aload_n X dX1_init_9 rfl (lv_at hl 0 rfl) ?_
  refine q_aload_n X dX1_init_10 rfl (lv_at hl 1 rfl) ?_
  refine q_putR (ci := 2) (k := 0) X I rfl inb_TX1 tyX1_ok nmX1 wd_761 (by decide) (Or.inr ⟨rfl, hnm, rfl⟩) qt_80 (Or.inl ⟨_, rfl⟩) dX1_init_11 h (fun S H locs I h => ?_)
  refine q_aload_n X dX1_init_14 rfl (lv_at hl 0 rfl) ?_
  refine q_aload_n X dX1_init_15 rfl (lv_at hl 2 rfl) ?_
  refine q_putR (ci := 2) (k := 1) X I rfl inb_TX1 tyX1_ok nmX1 wd_763 (by decide) (Or.inr ⟨rfl, hnm, rfl⟩) qt_81 (Or.inl ⟨_, rfl⟩) dX1_init_16 h (fun S H locs I h => ?_)
  exact q_vretN X I hr dX1_init_19 h (by decide) (by decide)

def pX2_init (x0 : Nat) (x1 : Int32) (S : qS) (post : qS → Prop) : Prop :=
  w_new S 10 4 (fun q6 S =>
  w_putR S (some x0) 3 1 (some q6) (fun S =>
  w_putI S (some x0) 3 0 x1 (fun S =>
  post S)))
set_option maxHeartbeats 4000000 in
set_option maxRecDepth 100000 in
theorem kX2_init {l : Launch} (hl0 : l.stackTraces = false) {G : qG} {S : qS} {sz : Nat} {x0 : Nat} {x1 : Int32} {post : qS → Prop} (h : pX2_init x0 x1 S post) : q_N l yX2_init cX2_init 2 2 1 4 G S sz [va_rf (some x0), .int x1] post := by
  refine q_ofN (lv := [(0, va_rf (some x0)), (1, .int x1)]) hl0 (by decide) rfl (Nat.le_of_ble_eq_true rfl) (fun p e s m below meth c A ls X hr hnm I hl => ?_)
  generalize ([va_rf (some x0), .int x1] : List Value).toArray = av at X ⊢
  unfold pX2_init at h
  refine q_aload_n X dX2_init_0 rfl (lv_at hl 0 rfl) ?_
  refine q_objInit X hl.1 wd_315 wd_32 wd_33 dX2_init_1 (by decide) (Nat.le_of_ble_eq_true rfl) ?_
  refine q_aload_n X dX2_init_4 rfl (lv_at hl 0 rfl) ?_
  refine lv_iconst (v := 4) X.1 X.2.1 dX2_init_5 (by decide) ?_
  refine q_newI (k := 10) (N := 4) (c1 := 1) (s1 := 4) X I (by decide) (by decide) wd_97 ⟨by decide, by decide, by decide⟩ ⟨by decide, by decide⟩ rfl rfl dX2_init_6 h (fun q6 S H I h => ?_)
  refine q_putR (ci := 3) (k := 1) X I rfl inb_TX2 tyX2_ok nmX2 wd_319 (by decide) (Or.inr ⟨rfl, hnm, rfl⟩) qt_121 (Or.inr ⟨_, rfl⟩) dX2_init_8 h (fun S H locs I h => ?_)
  refine q_aload_n X dX2_init_11 rfl (lv_at hl 0 rfl) ?_
  refine lv_iload_n X.1 X.2.1 dX2_init_12 rfl (lv_at hl 1 rfl) ?_
  refine q_putI (ci := 3) (k := 0) X I rfl inb_TX2 tyX2_ok nmX2 wd_316 (by decide) (Or.inr ⟨rfl, hnm, rfl⟩) qt_120 rfl dX2_init_13 h (fun S H locs I h => ?_)
  exact q_vretN X I hr dX2_init_16 h (by decide) (by decide)

def pX3_init (x0 : Nat) (x1 : Int32) (S : qS) (post : qS → Prop) : Prop :=
  w_new S 11 4 (fun q6 S =>
  w_putR S (some x0) 4 1 (some q6) (fun S =>
  w_new S 12 4 (fun q13 S =>
  w_putR S (some x0) 4 2 (some q13) (fun S =>
  w_putZ S (some x0) 4 0 x1 (fun S =>
  post S)))))
set_option maxHeartbeats 4000000 in
set_option maxRecDepth 100000 in
theorem kX3_init {l : Launch} (hl0 : l.stackTraces = false) {G : qG} {S : qS} {sz : Nat} {x0 : Nat} {x1 : Int32} {post : qS → Prop} (h : pX3_init x0 x1 S post) : q_N l yX3_init cX3_init 2 2 2 8 G S sz [va_rf (some x0), .int x1] post := by
  refine q_ofN (lv := [(0, va_rf (some x0)), (1, .int x1)]) hl0 (by decide) rfl (Nat.le_of_ble_eq_true rfl) (fun p e s m below meth c A ls X hr hnm I hl => ?_)
  generalize ([va_rf (some x0), .int x1] : List Value).toArray = av at X ⊢
  unfold pX3_init at h
  refine q_aload_n X dX3_init_0 rfl (lv_at hl 0 rfl) ?_
  refine q_objInit X hl.1 wd_406 wd_32 wd_33 dX3_init_1 (by decide) (Nat.le_of_ble_eq_true rfl) ?_
  refine q_aload_n X dX3_init_4 rfl (lv_at hl 0 rfl) ?_
  refine lv_iconst (v := 4) X.1 X.2.1 dX3_init_5 (by decide) ?_
  refine q_newI (k := 11) (N := 4) (c1 := 1) (s1 := 4) X I (by decide) (by decide) wd_97 ⟨by decide, by decide, by decide⟩ ⟨by decide, by decide⟩ rfl rfl dX3_init_6 h (fun q6 S H I h => ?_)
  refine q_putR (ci := 4) (k := 1) X I rfl inb_TX3 tyX3_ok nmX3 wd_409 (by decide) (Or.inr ⟨rfl, hnm, rfl⟩) qt_161 (Or.inr ⟨_, rfl⟩) dX3_init_8 h (fun S H locs I h => ?_)
  refine q_aload_n X dX3_init_11 rfl (lv_at hl 0 rfl) ?_
  refine lv_iconst (v := 4) X.1 X.2.1 dX3_init_12 (by decide) ?_
  refine q_newI (k := 12) (N := 4) (c1 := 2) (s1 := 8) X I (by decide) (by decide) wd_97 ⟨by decide, by decide, by decide⟩ ⟨by decide, by decide⟩ rfl rfl dX3_init_13 h (fun q13 S H I h => ?_)
  refine q_putR (ci := 4) (k := 2) X I rfl inb_TX3 tyX3_ok nmX3 wd_412 (by decide) (Or.inr ⟨rfl, hnm, rfl⟩) qt_162 (Or.inr ⟨_, rfl⟩) dX3_init_15 h (fun S H locs I h => ?_)
  refine q_aload_n X dX3_init_18 rfl (lv_at hl 0 rfl) ?_
  refine lv_iload_n X.1 X.2.1 dX3_init_19 rfl (lv_at hl 1 rfl) ?_
  refine q_putZ (ci := 4) (k := 0) X I rfl inb_TX3 tyX3_ok nmX3 wd_407 (by decide) (Or.inr ⟨rfl, hnm, rfl⟩) qt_160 rfl dX3_init_20 h (fun S H locs I h => ?_)
  exact q_vretN X I hr dX3_init_23 h (by decide) (by decide)

def pX4_init_J40  (post : qS → Prop) (t0 : Option Nat) (t1 : Int32) (S : qS) : Prop :=
  w_putI S t0 5 4 t1 (fun S =>
  post S)
def pX4_init (x0 : Nat) (x1 : Option Nat) (x2 : Int32) (x3 : Int32) (x4 : Option Nat) (S : qS) (post : qS → Prop) : Prop :=
  w_putR S (some x0) 5 0 x1 (fun S =>
  w_putI S (some x0) 5 1 x2 (fun S =>
  w_putI S (some x0) 5 2 x3 (fun S =>
  w_putR S (some x0) 5 3 x4 (fun S =>
  ((¬ x4 = none →
  w_getI S x4 6 6 (fun v37 =>
  pX4_init_J40 post (some x0) v37 S)) ∧ (x4 = none →
  pX4_init_J40 post (some x0) (0 : Int32) S))))))
set_option maxHeartbeats 4000000 in
set_option maxRecDepth 100000 in
theorem kX4_init {l : Launch} (hl0 : l.stackTraces = false) {G : qG} {S : qS} {sz : Nat} {x0 : Nat} {x1 : Option Nat} {x2 : Int32} {x3 : Int32} {x4 : Option Nat} {post : qS → Prop} (h : pX4_init x0 x1 x2 x3 x4 S post) : q_N l yX4_init cX4_init 5 2 0 0 G S sz [va_rf (some x0), va_rf x1, .int x2, .int x3, va_rf x4] post := by
  refine q_ofN (lv := [(0, va_rf (some x0)), (1, va_rf x1), (2, .int x2), (3, .int x3), (4, va_rf x4)]) hl0 (by decide) (by cases x1 <;> cases x4 <;> rfl) (by cases x1 <;> cases x4 <;> exact Nat.le_of_ble_eq_true rfl) (fun p e s m below meth c A ls X hr hnm I hl => ?_)
  generalize ([va_rf (some x0), va_rf x1, .int x2, .int x3, va_rf x4] : List Value).toArray = av at X ⊢
  unfold pX4_init at h
  refine q_aload_n X dX4_init_0 rfl (lv_at hl 0 rfl) ?_
  refine q_objInit X hl.1 wd_732 wd_32 wd_33 dX4_init_1 (by decide) (Nat.le_of_ble_eq_true rfl) ?_
  refine q_aload_n X dX4_init_4 rfl (lv_at hl 0 rfl) ?_
  refine q_aload_n X dX4_init_5 rfl (lv_at hl 1 rfl) ?_
  refine q_putR (ci := 5) (k := 0) X I rfl inb_TX4 tyX4_ok nmX4 wd_733 (by decide) (Or.inr ⟨rfl, hnm, rfl⟩) qt_200 (Or.inl ⟨_, rfl⟩) dX4_init_6 h (fun S H locs I h => ?_)
  refine q_aload_n X dX4_init_9 rfl (lv_at hl 0 rfl) ?_
  refine lv_iload_n X.1 X.2.1 dX4_init_10 rfl (lv_at hl 2 rfl) ?_
  refine q_putI (ci := 5) (k := 1) X I rfl inb_TX4 tyX4_ok nmX4 wd_735 (by decide) (Or.inr ⟨rfl, hnm, rfl⟩) qt_201 rfl dX4_init_11 h (fun S H locs I h => ?_)
  refine q_aload_n X dX4_init_14 rfl (lv_at hl 0 rfl) ?_
  refine lv_iload_n X.1 X.2.1 dX4_init_15 rfl (lv_at hl 3 rfl) ?_
  refine q_putI (ci := 5) (k := 2) X I rfl inb_TX4 tyX4_ok nmX4 wd_737 (by decide) (Or.inr ⟨rfl, hnm, rfl⟩) qt_202 rfl dX4_init_16 h (fun S H locs I h => ?_)
  refine q_aload_n X dX4_init_19 rfl (lv_at hl 0 rfl) ?_
  refine q_aload X dX4_init_20 (lv_at hl 4 rfl) ?_
  refine q_putR (ci := 5) (k := 3) X I rfl inb_TX4 tyX4_ok nmX4 wd_739 (by decide) (Or.inr ⟨rfl, hnm, rfl⟩) qt_203 (Or.inl ⟨_, rfl⟩) dX4_init_22 h (fun S H locs I h => ?_)
  refine q_aload_n X dX4_init_25 rfl (lv_at hl 0 rfl) ?_
  refine q_aload X dX4_init_26 (lv_at hl 4 rfl) ?_
  have jn40 : ∀ (t0 : Option Nat) (t1 : Int32) (S : qS) (H : Heap) (locs : List Loc) (ls : Array Slot), pX4_init_J40 post t0 t1 S → q_H G A s H locs S → lv_has ls 5 [] → W p l e (q_rm 2 0 0) s m av below meth c H locs 0 0 (MQ below (q_Qv G post A) av s 0 0 A) (F0 m 40 ls [.int t1, va_rf t0]) := by
    intro t0 t1 S H locs ls h I hl
    unfold pX4_init_J40 at h
    refine q_putI (ci := 5) (k := 4) X I rfl inb_TX4 tyX4_ok nmX4 wd_741 (by decide) (Or.inr ⟨rfl, hnm, rfl⟩) qt_204 rfl dX4_init_40 h (fun S H locs I h => ?_)
    exact q_vretN X I hr dX4_init_43 h (by decide) (by decide)
  refine q_ifnonnull (tgt := 35) X dX4_init_28 (by decide) (fun c28 => ?_) (fun c28 => ?_)
  · have h := h.1 c28
    refine q_aload X dX4_init_35 (lv_at hl 4 rfl) ?_
    refine q_getI (ci := 6) (k := 6) X I rfl inb_TX5 wd_538 (by decide) qt_246 dX4_init_37 h (fun v37 h => ?_)
    exact jn40 _ _ _ _ _ _ h I (lv_sub hl [] rfl)
  · have h := h.2 c28
    refine lv_iconst (v := 0) X.1 X.2.1 dX4_init_31 (by decide) ?_
    refine lv_goto (tgt := 40) X.1 X.2.1 dX4_init_32 (by decide) ?_
    exact jn40 _ _ _ _ _ _ h I (lv_sub hl [] rfl)

def pX5_init (x0 : Nat) (x1 : Int32) (x2 : Int32) (x3 : Int32) (S : qS) (post : qS → Prop) : Prop :=
  w_new S 13 30 (fun q7 S =>
  w_putR S (some x0) 6 3 (some q7) (fun S =>
  w_new S 14 30 (fun q15 S =>
  w_putR S (some x0) 6 4 (some q15) (fun S =>
  w_putI S (some x0) 6 7 (-1 : Int32) (fun S =>
  w_putI S (some x0) 6 0 x1 (fun S =>
  w_putZ S (some x0) 6 1 x2 (fun S =>
  w_putI S (some x0) 6 2 x3 (fun S =>
  post S))))))))
set_option maxHeartbeats 4000000 in
set_option maxRecDepth 100000 in
theorem kX5_init {l : Launch} (hl0 : l.stackTraces = false) {G : qG} {S : qS} {sz : Nat} {x0 : Nat} {x1 : Int32} {x2 : Int32} {x3 : Int32} {post : qS → Prop} (h : pX5_init x0 x1 x2 x3 S post) : q_N l yX5_init cX5_init 4 2 2 60 G S sz [va_rf (some x0), .int x1, .int x2, .int x3] post := by
  refine q_ofN (lv := [(0, va_rf (some x0)), (1, .int x1), (2, .int x2), (3, .int x3)]) hl0 (by decide) rfl (Nat.le_of_ble_eq_true rfl) (fun p e s m below meth c A ls X hr hnm I hl => ?_)
  generalize ([va_rf (some x0), .int x1, .int x2, .int x3] : List Value).toArray = av at X ⊢
  unfold pX5_init at h
  refine q_aload_n X dX5_init_0 rfl (lv_at hl 0 rfl) ?_
  refine q_objInit X hl.1 wd_525 wd_32 wd_33 dX5_init_1 (by decide) (Nat.le_of_ble_eq_true rfl) ?_
  refine q_aload_n X dX5_init_4 rfl (lv_at hl 0 rfl) ?_
  refine lv_bipush (v := 30) X.1 X.2.1 dX5_init_5 (by decide) ?_
  refine q_newI (k := 13) (N := 30) (c1 := 1) (s1 := 30) X I (by decide) (by decide) wd_97 ⟨by decide, by decide, by decide⟩ ⟨by decide, by decide⟩ rfl rfl dX5_init_7 h (fun q7 S H I h => ?_)
  refine q_putR (ci := 6) (k := 3) X I rfl inb_TX5 tyX5_ok nmX5 wd_532 (by decide) (Or.inr ⟨rfl, hnm, rfl⟩) qt_243 (Or.inr ⟨_, rfl⟩) dX5_init_9 h (fun S H locs I h => ?_)
  refine q_aload_n X dX5_init_12 rfl (lv_at hl 0 rfl) ?_
  refine lv_bipush (v := 30) X.1 X.2.1 dX5_init_13 (by decide) ?_
  refine q_newI (k := 14) (N := 30) (c1 := 2) (s1 := 60) X I (by decide) (by decide) wd_97 ⟨by decide, by decide, by decide⟩ ⟨by decide, by decide⟩ rfl rfl dX5_init_15 h (fun q15 S H I h => ?_)
  refine q_putR (ci := 6) (k := 4) X I rfl inb_TX5 tyX5_ok nmX5 wd_534 (by decide) (Or.inr ⟨rfl, hnm, rfl⟩) qt_244 (Or.inr ⟨_, rfl⟩) dX5_init_17 h (fun S H locs I h => ?_)
  refine q_aload_n X dX5_init_20 rfl (lv_at hl 0 rfl) ?_
  refine lv_iconst (v := -1) X.1 X.2.1 dX5_init_21 (by decide) ?_
  refine q_putI (ci := 6) (k := 7) X I rfl inb_TX5 tyX5_ok nmX5 wd_540 (by decide) (Or.inl rfl) qt_247 rfl dX5_init_22 h (fun S H locs I h => ?_)
  refine q_aload_n X dX5_init_25 rfl (lv_at hl 0 rfl) ?_
  refine lv_iload_n X.1 X.2.1 dX5_init_26 rfl (lv_at hl 1 rfl) ?_
  refine q_putI (ci := 6) (k := 0) X I rfl inb_TX5 tyX5_ok nmX5 wd_526 (by decide) (Or.inr ⟨rfl, hnm, rfl⟩) qt_240 rfl dX5_init_27 h (fun S H locs I h => ?_)
  refine q_aload_n X dX5_init_30 rfl (lv_at hl 0 rfl) ?_
  refine lv_iload_n X.1 X.2.1 dX5_init_31 rfl (lv_at hl 2 rfl) ?_
  refine q_putZ (ci := 6) (k := 1) X I rfl inb_TX5 tyX5_ok nmX5 wd_528 (by decide) (Or.inr ⟨rfl, hnm, rfl⟩) qt_241 rfl dX5_init_32 h (fun S H locs I h => ?_)
  refine q_aload_n X dX5_init_35 rfl (lv_at hl 0 rfl) ?_
  refine lv_iload_n X.1 X.2.1 dX5_init_36 rfl (lv_at hl 3 rfl) ?_
  refine q_putI (ci := 6) (k := 2) X I rfl inb_TX5 tyX5_ok nmX5 wd_530 (by decide) (Or.inr ⟨rfl, hnm, rfl⟩) qt_242 rfl dX5_init_37 h (fun S H locs I h => ?_)
  exact q_vretN X I hr dX5_init_40 h (by decide) (by decide)

def pJx4a65c_size_8abf5 (x0 : Nat) (S : qS) (post : Int32 → qS → Prop) (xp : String → qS → Prop) : Prop :=
  w_getI S (some x0) 0 2 (fun v1 =>
  post v1 S)
set_option maxHeartbeats 4000000 in
set_option maxRecDepth 100000 in
theorem kJx4a65c_size_8abf5 {l : Launch} (hl0 : l.stackTraces = false) {G : qG} {S : qS} {sz : Nat} {x0 : Nat} {post : Int32 → qS → Prop} {xp : String → qS → Prop} (h : pJx4a65c_size_8abf5 x0 S post xp) : q_M l yJx4a65c_size_8abf5 cJx4a65c_size_8abf5 1 (some .int) 1 0 0 G S sz [va_rf (some x0)] (q_Qi G post) xp := by
  refine q_of (lv := [(0, va_rf (some x0))]) hl0 (by decide) rfl (Nat.le_of_ble_eq_true rfl) (fun p e s m below meth c A ls X N hr hnm I hl => ?_)
  generalize ([va_rf (some x0)] : List Value).toArray = av at X ⊢
  unfold pJx4a65c_size_8abf5 at h
  refine q_aload_n X dJx4a65c_size_8abf5_0 rfl (lv_at hl 0 rfl) ?_
  refine q_getI (ci := 0) (k := 2) X I rfl inb_TJx4a65c wd_49 (by decide) qt_2 dJx4a65c_size_8abf5_1 h (fun v1 h => ?_)
  exact q_iret X I hr dJx4a65c_size_8abf5_4 h (by decide) (by decide)

def pJ3_checkIndex_8e157_J9  (post : Int32 → qS → Prop) (xp : String → qS → Prop) (x0 : Int32) (x1 : Int32) (x2 : Option Nat) (S : qS) : Prop :=
  False
def pJ3_checkIndex_8e157 (x0 : Int32) (x1 : Int32) (x2 : Option Nat) (S : qS) (post : Int32 → qS → Prop) (xp : String → qS → Prop) : Prop :=
  ((x0 < 0 →
  pJ3_checkIndex_8e157_J9 post xp x0 x1 x2 S) ∧ (¬ x0 < 0 →
  ((x0 < x1 →
  post x0 S) ∧ (¬ x0 < x1 →
  pJ3_checkIndex_8e157_J9 post xp x0 x1 x2 S))))
set_option maxHeartbeats 4000000 in
set_option maxRecDepth 100000 in
theorem kJ3_checkIndex_8e157 {l : Launch} (hl0 : l.stackTraces = false) {G : qG} {S : qS} {sz : Nat} {x0 : Int32} {x1 : Int32} {x2 : Option Nat} {post : Int32 → qS → Prop} {xp : String → qS → Prop} (h : pJ3_checkIndex_8e157 x0 x1 x2 S post xp) : q_M l yJ3_checkIndex_8e157 cJ3_checkIndex_8e157 3 (some .int) 1 0 0 G S sz [.int x0, .int x1, va_rf x2] (q_Qi G post) xp := by
  refine q_of (lv := [(0, .int x0), (1, .int x1), (2, va_rf x2)]) hl0 (by decide) (by cases x2 <;> rfl) (by cases x2 <;> exact Nat.le_of_ble_eq_true rfl) (fun p e s m below meth c A ls X N hr hnm I hl => ?_)
  generalize ([.int x0, .int x1, va_rf x2] : List Value).toArray = av at X ⊢
  unfold pJ3_checkIndex_8e157 at h
  refine lv_iload_n X.1 X.2.1 dJ3_checkIndex_8e157_0 rfl (lv_at hl 0 rfl) ?_
  have jn9 : ∀ (x0 : Int32) (x1 : Int32) (x2 : Option Nat) (S : qS) (H : Heap) (locs : List Loc) (ls : Array Slot), pJ3_checkIndex_8e157_J9 post xp x0 x1 x2 S → q_H G A s H locs S → lv_has ls 3 [(0, .int x0), (1, .int x1), (2, va_rf x2)] → W p l e (q_rm 1 0 0) s m av below meth c H locs 0 0 (vx_MQ below (q_Qi G post A) (q_XC G A xp) av s 0 0 A) (F0 m 9 ls []) := by
    intro x0 x1 x2 S H locs ls h I hl
    unfold pJ3_checkIndex_8e157_J9 at h
    refine q_aload_n X dJ3_checkIndex_8e157_9 rfl (lv_at hl 2 rfl) ?_
    refine lv_iload_n X.1 X.2.1 dJ3_checkIndex_8e157_10 rfl (lv_at hl 0 rfl) ?_
    refine lv_iload_n X.1 X.2.1 dJ3_checkIndex_8e157_11 rfl (lv_at hl 1 rfl) ?_
    exact h.elim
  refine lv_if_lt (tgt := 9) X.1 X.2.1 dJ3_checkIndex_8e157_1 (by decide) (fun c1 => ?_) (fun c1 => ?_)
  · have h := h.1 c1
    exact jn9 _ _ _ _ _ _ _ h I (lv_sub hl [0, 1, 2] rfl)
  · have h := h.2 c1
    refine lv_iload_n X.1 X.2.1 dJ3_checkIndex_8e157_4 rfl (lv_at hl 0 rfl) ?_
    refine lv_iload_n X.1 X.2.1 dJ3_checkIndex_8e157_5 rfl (lv_at hl 1 rfl) ?_
    refine lv_icmp_lt (tgt := 16) X.1 X.2.1 dJ3_checkIndex_8e157_6 (by decide) (fun c6 => ?_) (fun c6 => ?_)
    · have h := h.1 c6
      refine lv_iload_n X.1 X.2.1 dJ3_checkIndex_8e157_16 rfl (lv_at hl 0 rfl) ?_
      exact q_iret X I hr dJ3_checkIndex_8e157_17 h (by decide) (by decide)
    · have h := h.2 c6
      exact jn9 _ _ _ _ _ _ _ h I (lv_sub hl [0, 1, 2] rfl)

def pJ15_checkIndex_7cf53 (x0 : Int32) (x1 : Int32) (S : qS) (post : Int32 → qS → Prop) (xp : String → qS → Prop) : Prop :=
  pJ3_checkIndex_8e157 x0 x1 (none : Option Nat) S (fun v3 S =>
  post v3 S) xp
set_option maxHeartbeats 4000000 in
set_option maxRecDepth 100000 in
theorem kJ15_checkIndex_7cf53 {l : Launch} (hl0 : l.stackTraces = false) {G : qG} {S : qS} {sz : Nat} {x0 : Int32} {x1 : Int32} {post : Int32 → qS → Prop} {xp : String → qS → Prop} (h : pJ15_checkIndex_7cf53 x0 x1 S post xp) : q_M l yJ15_checkIndex_7cf53 cJ15_checkIndex_7cf53 2 (some .int) 2 0 0 G S sz [.int x0, .int x1] (q_Qi G post) xp := by
  refine q_of (lv := [(0, .int x0), (1, .int x1)]) hl0 (by decide) rfl (Nat.le_of_ble_eq_true rfl) (fun p e s m below meth c A ls X N hr hnm I hl => ?_)
  generalize ([.int x0, .int x1] : List Value).toArray = av at X ⊢
  unfold pJ15_checkIndex_7cf53 at h
  refine lv_iload_n X.1 X.2.1 dJ15_checkIndex_7cf53_0 rfl (lv_at hl 0 rfl) ?_
  refine lv_iload_n X.1 X.2.1 dJ15_checkIndex_7cf53_1 rfl (lv_at hl 1 rfl) ?_
  refine lv_null X.1 X.2.1 dJ15_checkIndex_7cf53_2 ?_
  refine W.eq (g2 := F0 m 3 ls [va_rf (none : Option Nat), .int x1, .int x0]) rfl ?_
  refine q_cSi (As := [.int x0, .int x1, va_rf (none : Option Nat)]) (rest := []) (c1 := 0) (s1 := 0) (d := 1) (mc := 0) (ms := 0) X N I hl.1 mJ3_checkIndex_8e157 wd_148 dJ15_checkIndex_7cf53_3 rfl (kJ3_checkIndex_8e157 hl0 h) rfl (Nat.le_of_ble_eq_true rfl) ⟨by decide, by decide⟩ ⟨by decide, by decide⟩ ⟨by decide, by decide⟩ rfl rfl (fun v3 S H locs I h => ?_)
  exact q_iret X I hr dJ15_checkIndex_7cf53_6 h (by decide) (by decide)

def pJx4a65c_elementData_915e3 (x0 : Nat) (x1 : Int32) (S : qS) (post : Option Nat → qS → Prop) (xp : String → qS → Prop) : Prop :=
  w_getR S (some x0) 0 1 (fun v1 =>
  w_ldO S v1 22 x1 (fun v5 =>
  post v5 S))
set_option maxHeartbeats 4000000 in
set_option maxRecDepth 100000 in
theorem kJx4a65c_elementData_915e3 {l : Launch} (hl0 : l.stackTraces = false) {G : qG} {S : qS} {sz : Nat} {x0 : Nat} {x1 : Int32} {post : Option Nat → qS → Prop} {xp : String → qS → Prop} (h : pJx4a65c_elementData_915e3 x0 x1 S post xp) : q_M l yJx4a65c_elementData_915e3 cJx4a65c_elementData_915e3 2 (some (.object "java/lang/Object")) 1 0 0 G S sz [va_rf (some x0), .int x1] (q_Qr G post) xp := by
  refine q_of (lv := [(0, va_rf (some x0)), (1, .int x1)]) hl0 (by decide) rfl (Nat.le_of_ble_eq_true rfl) (fun p e s m below meth c A ls X N hr hnm I hl => ?_)
  generalize ([va_rf (some x0), .int x1] : List Value).toArray = av at X ⊢
  unfold pJx4a65c_elementData_915e3 at h
  refine q_aload_n X dJx4a65c_elementData_915e3_0 rfl (lv_at hl 0 rfl) ?_
  refine q_getR (ci := 0) (k := 1) X I rfl inb_TJx4a65c wd_48 (by decide) qt_1 dJx4a65c_elementData_915e3_1 h (fun v1 h => ?_)
  refine lv_iload_n X.1 X.2.1 dJx4a65c_elementData_915e3_4 rfl (lv_at hl 1 rfl) ?_
  refine q_ldO22 X I dJx4a65c_elementData_915e3_5 h (fun v5 h => ?_)
  exact q_aret X I hr (Or.inl ⟨_, rfl⟩) dJx4a65c_elementData_915e3_6 h (by decide) (by decide)

def pJx4a65c_get_915e3 (x0 : Nat) (x1 : Int32) (S : qS) (post : Option Nat → qS → Prop) (xp : String → qS → Prop) : Prop :=
  w_getI S (some x0) 0 2 (fun v2 =>
  pJ15_checkIndex_7cf53 x1 v2 S (fun v5 S =>
  w_at S (some x0) 0 (fun b11 => pJx4a65c_elementData_915e3 b11 x1 S (fun v11 S =>
  post v11 S) xp)) xp)
set_option maxHeartbeats 4000000 in
set_option maxRecDepth 100000 in
theorem kJx4a65c_get_915e3 {l : Launch} (hl0 : l.stackTraces = false) {G : qG} {S : qS} {sz : Nat} {x0 : Nat} {x1 : Int32} {post : Option Nat → qS → Prop} {xp : String → qS → Prop} (h : pJx4a65c_get_915e3 x0 x1 S post xp) : q_M l yJx4a65c_get_915e3 cJx4a65c_get_915e3 2 (some (.object "java/lang/Object")) 3 0 0 G S sz [va_rf (some x0), .int x1] (q_Qr G post) xp := by
  refine q_of (lv := [(0, va_rf (some x0)), (1, .int x1)]) hl0 (by decide) rfl (Nat.le_of_ble_eq_true rfl) (fun p e s m below meth c A ls X N hr hnm I hl => ?_)
  generalize ([va_rf (some x0), .int x1] : List Value).toArray = av at X ⊢
  unfold pJx4a65c_get_915e3 at h
  refine lv_iload_n X.1 X.2.1 dJx4a65c_get_915e3_0 rfl (lv_at hl 1 rfl) ?_
  refine q_aload_n X dJx4a65c_get_915e3_1 rfl (lv_at hl 0 rfl) ?_
  refine q_getI (ci := 0) (k := 2) X I rfl inb_TJx4a65c wd_49 (by decide) qt_2 dJx4a65c_get_915e3_2 h (fun v2 h => ?_)
  refine q_cSi (As := [.int x1, .int v2]) (rest := []) (c1 := 0) (s1 := 0) (d := 2) (mc := 0) (ms := 0) X N I hl.1 mJ15_checkIndex_7cf53 wd_145 dJx4a65c_get_915e3_5 rfl (kJ15_checkIndex_7cf53 hl0 h) rfl (Nat.le_of_ble_eq_true rfl) ⟨by decide, by decide⟩ ⟨by decide, by decide⟩ ⟨by decide, by decide⟩ rfl rfl (fun v5 S H locs I h => ?_)
  refine lv_pop X.1 X.2.1 dJx4a65c_get_915e3_8 rfl ?_
  refine q_aload_n X dJx4a65c_get_915e3_9 rfl (lv_at hl 0 rfl) ?_
  refine lv_iload_n X.1 X.2.1 dJx4a65c_get_915e3_10 rfl (lv_at hl 1 rfl) ?_
  refine q_cVr (As := [.int x1]) (rest := []) (c1 := 0) (s1 := 0) (d := 1) (mc := 0) (ms := 0) X N I hl.1 mJx4a65c_elementData_915e3 wd_151 dJx4a65c_get_915e3_11 rfl h (fun b h => kJx4a65c_elementData_915e3 hl0 h) rfl (Nat.le_of_ble_eq_true rfl) ⟨by decide, by decide⟩ ⟨by decide, by decide⟩ ⟨by decide, by decide⟩ rfl rfl (fun v11 S H locs I h => ?_)
  exact q_aret X I hr (Or.inl ⟨_, rfl⟩) dJx4a65c_get_915e3_14 h (by decide) (by decide)

def pX6_size (x0 : Nat) (S : qS) (post : Int32 → qS → Prop) (xp : String → qS → Prop) : Prop :=
  w_getR S (some x0) 7 0 (fun v1 =>
  w_at S v1 0 (fun b4 => pJx4a65c_size_8abf5 b4  S (fun v4 S =>
  post v4 S) xp))
set_option maxHeartbeats 4000000 in
set_option maxRecDepth 100000 in
theorem kX6_size {l : Launch} (hl0 : l.stackTraces = false) {G : qG} {S : qS} {sz : Nat} {x0 : Nat} {post : Int32 → qS → Prop} {xp : String → qS → Prop} (h : pX6_size x0 S post xp) : q_M l yX6_size cX6_size 1 (some .int) 2 0 0 G S sz [va_rf (some x0)] (q_Qi G post) xp := by
  refine q_of (lv := [(0, va_rf (some x0))]) hl0 (by decide) rfl (Nat.le_of_ble_eq_true rfl) (fun p e s m below meth c A ls X N hr hnm I hl => ?_)
  generalize ([va_rf (some x0)] : List Value).toArray = av at X ⊢
  unfold pX6_size at h
  refine q_aload_n X dX6_size_0 rfl (lv_at hl 0 rfl) ?_
  refine q_getR (ci := 7) (k := 0) X I rfl inb_TX6 wd_68 (by decide) qt_280 dX6_size_1 h (fun v1 h => ?_)
  refine q_cVi (As := []) (rest := []) (c1 := 0) (s1 := 0) (d := 1) (mc := 0) (ms := 0) X N I hl.1 mJx4a65c_size_8abf5 wd_209 dX6_size_4 rfl h (fun b h => kJx4a65c_size_8abf5 hl0 h) rfl (Nat.le_of_ble_eq_true rfl) ⟨by decide, by decide⟩ ⟨by decide, by decide⟩ ⟨by decide, by decide⟩ rfl rfl (fun v4 S H locs I h => ?_)
  exact q_iret X I hr dX6_size_7 h (by decide) (by decide)

def pX6_at_J15  (post : Option Nat → qS → Prop) (xp : String → qS → Prop)  (S : qS) : Prop :=
  xp "java/lang/IndexOutOfBoundsException" S
def pX6_at (x0 : Nat) (x1 : Int32) (S : qS) (post : Option Nat → qS → Prop) (xp : String → qS → Prop) : Prop :=
  ((x1 < 0 →
  pX6_at_J15 post xp S) ∧ (¬ x1 < 0 →
  w_getR S (some x0) 7 0 (fun v6 =>
  w_at S v6 0 (fun b9 => pJx4a65c_size_8abf5 b9  S (fun v9 S =>
  ((x1 < v9 →
  w_getR S (some x0) 7 0 (fun v26 =>
  w_at S v26 0 (fun b30 => pJx4a65c_get_915e3 b30 x1 S (fun v30 S =>
  w_cast S v30 6 (
  post v30 S)) xp))) ∧ (¬ x1 < v9 →
  pX6_at_J15 post xp S))) xp))))
set_option maxHeartbeats 4000000 in
set_option maxRecDepth 100000 in
theorem kX6_at {l : Launch} (hl0 : l.stackTraces = false) {G : qG} {S : qS} {sz : Nat} {x0 : Nat} {x1 : Int32} {post : Option Nat → qS → Prop} {xp : String → qS → Prop} (h : pX6_at x0 x1 S post xp) : q_M l yX6_at cX6_at 2 (some (.object "GoodsKeeper$Single")) 6 1 6 G S sz [va_rf (some x0), .int x1] (q_Qr G post) xp := by
  refine q_of (lv := [(0, va_rf (some x0)), (1, .int x1)]) hl0 (by decide) rfl (Nat.le_of_ble_eq_true rfl) (fun p e s m below meth c A ls X N hr hnm I hl => ?_)
  generalize ([va_rf (some x0), .int x1] : List Value).toArray = av at X ⊢
  unfold pX6_at at h
  refine lv_iload_n X.1 X.2.1 dX6_at_0 rfl (lv_at hl 1 rfl) ?_
  have jn15 : ∀ (S : qS) (H : Heap) (locs : List Loc) (ls : Array Slot), pX6_at_J15 post xp S → q_H G A s H locs S → lv_has ls 2 [] → W p l e (q_rm 6 1 6) s m av below meth c H locs 0 0 (vx_MQ below (q_Qr G post A) (q_XC G A xp) av s 1 6 A) (F0 m 15 ls []) := by
    intro S H locs ls h I hl
    unfold pX6_at_J15 at h
    exact q_throw (text := "there is no such single") (R := q_rm 6 1 6) (cells := 0) (slots := 0) (mcQ := 1) (msQ := 6) (rest := []) X N I hl.1 th_RX6_28.1 th_RX6_28.2.1 wd_595 wd_18 (by decide) th_RX6_28.2.2.1 th_RX6_28.2.2.2.1 (th_RX6_28.2.2.2.2 _ rfl) dX6_at_15 dX6_at_18 dX6_at_19 dX6_at_21 dX6_at_24 (by decide) (Nat.le_of_ble_eq_true rfl) ⟨by decide, by decide⟩ ⟨by decide, by decide⟩ h
  refine lv_if_lt (tgt := 15) X.1 X.2.1 dX6_at_1 (by decide) (fun c1 => ?_) (fun c1 => ?_)
  · have h := h.1 c1
    exact jn15 _ _ _ _ h I (lv_sub hl [] rfl)
  · have h := h.2 c1
    refine lv_iload_n X.1 X.2.1 dX6_at_4 rfl (lv_at hl 1 rfl) ?_
    refine q_aload_n X dX6_at_5 rfl (lv_at hl 0 rfl) ?_
    refine q_getR (ci := 7) (k := 0) X I rfl inb_TX6 wd_68 (by decide) qt_280 dX6_at_6 h (fun v6 h => ?_)
    refine q_cVi (As := []) (rest := [.int x1]) (c1 := 0) (s1 := 0) (d := 1) (mc := 0) (ms := 0) X N I hl.1 mJx4a65c_size_8abf5 wd_209 dX6_at_9 rfl h (fun b h => kJx4a65c_size_8abf5 hl0 h) rfl (Nat.le_of_ble_eq_true rfl) ⟨by decide, by decide⟩ ⟨by decide, by decide⟩ ⟨by decide, by decide⟩ rfl rfl (fun v9 S H locs I h => ?_)
    refine lv_icmp_lt (tgt := 25) X.1 X.2.1 dX6_at_12 (by decide) (fun c12 => ?_) (fun c12 => ?_)
    · have h := h.1 c12
      refine q_aload_n X dX6_at_25 rfl (lv_at hl 0 rfl) ?_
      refine q_getR (ci := 7) (k := 0) X I rfl inb_TX6 wd_68 (by decide) qt_280 dX6_at_26 h (fun v26 h => ?_)
      refine lv_iload_n X.1 X.2.1 dX6_at_29 rfl (lv_at hl 1 rfl) ?_
      refine q_cVr (As := [.int x1]) (rest := []) (c1 := 0) (s1 := 0) (d := 3) (mc := 0) (ms := 0) X N I hl.1 mJx4a65c_get_915e3 wd_214 dX6_at_30 rfl h (fun b h => kJx4a65c_get_915e3 hl0 h) rfl (Nat.le_of_ble_eq_true rfl) ⟨by decide, by decide⟩ ⟨by decide, by decide⟩ ⟨by decide, by decide⟩ rfl rfl (fun v30 S H locs I h => ?_)
      refine q_cast (ci := 6) X I rfl wd_215 dX6_at_33 h (fun h => ?_)
      exact q_aret X I hr (Or.inl ⟨_, rfl⟩) dX6_at_36 h (by decide) (by decide)
    · have h := h.2 c12
      exact jn15 _ _ _ _ h I (lv_sub hl [] rfl)

def pX6_rightWithin_J36 (k4 : Option Nat → Option Nat → Int32 → Int32 → qS → Prop) (post : Int32 → qS → Prop) (xp : String → qS → Prop) (x0 : Option Nat) (x1 : Option Nat) (x2 : Int32) (x3 : Int32) (S : qS) : Prop :=
  k4 x0 x1 x2 (x3 + 1) S
def pX6_rightWithin_L4  (post : Int32 → qS → Prop) (xp : String → qS → Prop) : Nat → Option Nat → Option Nat → Int32 → Int32 → qS → Prop
  | 0, _, _, _, _, _ => False
  | n4 + 1, x0, x1, x2, x3, S =>
  w_getR S x0 7 0 (fun v6 =>
  w_at S v6 0 (fun b9 => pJx4a65c_size_8abf5 b9  S (fun v9 S =>
  ((v9 ≤ x3 →
  post x2 S) ∧ (¬ v9 ≤ x3 →
  w_getR S x0 7 0 (fun v16 =>
  w_at S v16 0 (fun b20 => pJx4a65c_get_915e3 b20 x3 S (fun v20 S =>
  w_cast S v20 6 (
  w_getR S v20 6 10 (fun v26 =>
  ((¬ v26 = x1 →
  pX6_rightWithin_J36 (pX6_rightWithin_L4 post xp n4) post xp x0 x1 x2 x3 S) ∧ (v26 = x1 →
  pX6_rightWithin_J36 (pX6_rightWithin_L4 post xp n4) post xp x0 x1 (x2 + 1) x3 S))))) xp))))) xp))
def pX6_rightWithin (x0 : Nat) (x1 : Option Nat) (S : qS) (post : Int32 → qS → Prop) (xp : String → qS → Prop) : Prop :=
  ∃ n4, pX6_rightWithin_L4 post xp n4 (some x0) x1 (0 : Int32) (0 : Int32) S
set_option maxHeartbeats 4000000 in
set_option maxRecDepth 100000 in
theorem kX6_rightWithin {l : Launch} (hl0 : l.stackTraces = false) {G : qG} {S : qS} {sz : Nat} {x0 : Nat} {x1 : Option Nat} {post : Int32 → qS → Prop} {xp : String → qS → Prop} (h : pX6_rightWithin x0 x1 S post xp) : q_M l yX6_rightWithin cX6_rightWithin 4 (some .int) 4 0 0 G S sz [va_rf (some x0), va_rf x1] (q_Qi G post) xp := by
  refine q_of (lv := [(0, va_rf (some x0)), (1, va_rf x1)]) hl0 (by decide) (by cases x1 <;> rfl) (by cases x1 <;> exact Nat.le_of_ble_eq_true rfl) (fun p e s m below meth c A ls X N hr hnm I hl => ?_)
  generalize ([va_rf (some x0), va_rf x1] : List Value).toArray = av at X ⊢
  unfold pX6_rightWithin at h
  refine lv_iconst (v := 0) X.1 X.2.1 dX6_rightWithin_0 (by decide) ?_
  refine lv_istore_n (i := 2) (lv' := [(2, .int (0 : Int32)), (0, va_rf (some x0)), (1, va_rf x1)]) X.1 X.2.1 dX6_rightWithin_1 rfl hl (by decide) (by simp [q_cat, q_catI, q_catJ]) (fun ls hl => ?_)
  refine lv_iconst (v := 0) X.1 X.2.1 dX6_rightWithin_2 (by decide) ?_
  refine lv_istore_n (i := 3) (lv' := [(3, .int (0 : Int32)), (2, .int (0 : Int32)), (0, va_rf (some x0)), (1, va_rf x1)]) X.1 X.2.1 dX6_rightWithin_3 rfl hl (by decide) rfl (fun ls hl => ?_)
  obtain ⟨n4, h⟩ := h
  have lp4 : ∀ (n4 : Nat) (x0 : Option Nat) (x1 : Option Nat) (x2 : Int32) (x3 : Int32) (S : qS) (H : Heap) (locs : List Loc) (ls : Array Slot), pX6_rightWithin_L4 post xp n4 x0 x1 x2 x3 S → q_H G A s H locs S → lv_has ls 4 [(0, va_rf x0), (1, va_rf x1), (2, .int x2), (3, .int x3)] → W p l e (q_rm 4 0 0) s m av below meth c H locs 0 0 (vx_MQ below (q_Qi G post A) (q_XC G A xp) av s 0 0 A) (F0 m 4 ls []) := by
    intro n4
    induction n4 with
    | zero => intro x0 x1 x2 x3 S H locs ls h I hl; exact h.elim
    | succ n4 ih4 =>
      intro x0 x1 x2 x3 S H locs ls h I hl
      unfold pX6_rightWithin_L4 at h
      refine lv_iload_n X.1 X.2.1 dX6_rightWithin_4 rfl (lv_at hl 3 rfl) ?_
      refine q_aload_n X dX6_rightWithin_5 rfl (lv_at hl 0 rfl) ?_
      refine q_getR (ci := 7) (k := 0) X I rfl inb_TX6 wd_68 (by decide) qt_280 dX6_rightWithin_6 h (fun v6 h => ?_)
      refine q_cVi (As := []) (rest := [.int x3]) (c1 := 0) (s1 := 0) (d := 1) (mc := 0) (ms := 0) X N I hl.1 mJx4a65c_size_8abf5 wd_209 dX6_rightWithin_9 rfl h (fun b h => kJx4a65c_size_8abf5 hl0 h) rfl (Nat.le_of_ble_eq_true rfl) ⟨by decide, by decide⟩ ⟨by decide, by decide⟩ ⟨by decide, by decide⟩ rfl rfl (fun v9 S H locs I h => ?_)
      refine lv_icmp_ge (tgt := 42) X.1 X.2.1 dX6_rightWithin_12 (by decide) (fun c12 => ?_) (fun c12 => ?_)
      · have h := h.1 c12
        refine lv_iload_n X.1 X.2.1 dX6_rightWithin_42 rfl (lv_at hl 2 rfl) ?_
        exact q_iret X I hr dX6_rightWithin_43 h (by decide) (by decide)
      · have h := h.2 c12
        refine q_aload_n X dX6_rightWithin_15 rfl (lv_at hl 0 rfl) ?_
        refine q_getR (ci := 7) (k := 0) X I rfl inb_TX6 wd_68 (by decide) qt_280 dX6_rightWithin_16 h (fun v16 h => ?_)
        refine lv_iload_n X.1 X.2.1 dX6_rightWithin_19 rfl (lv_at hl 3 rfl) ?_
        refine q_cVr (As := [.int x3]) (rest := []) (c1 := 0) (s1 := 0) (d := 3) (mc := 0) (ms := 0) X N I hl.1 mJx4a65c_get_915e3 wd_214 dX6_rightWithin_20 rfl h (fun b h => kJx4a65c_get_915e3 hl0 h) rfl (Nat.le_of_ble_eq_true rfl) ⟨by decide, by decide⟩ ⟨by decide, by decide⟩ ⟨by decide, by decide⟩ rfl rfl (fun v20 S H locs I h => ?_)
        refine q_cast (ci := 6) X I rfl wd_215 dX6_rightWithin_23 h (fun h => ?_)
        refine q_getR (ci := 6) (k := 10) X I rfl inb_TX5 wd_549 (by decide) qt_250 dX6_rightWithin_26 h (fun v26 h => ?_)
        refine q_aload_n X dX6_rightWithin_29 rfl (lv_at hl 1 rfl) ?_
        have jn36 : ∀ (x0 : Option Nat) (x1 : Option Nat) (x2 : Int32) (x3 : Int32) (S : qS) (H : Heap) (locs : List Loc) (ls : Array Slot), pX6_rightWithin_J36 (pX6_rightWithin_L4 post xp n4) post xp x0 x1 x2 x3 S → q_H G A s H locs S → lv_has ls 4 [(0, va_rf x0), (1, va_rf x1), (2, .int x2), (3, .int x3)] → W p l e (q_rm 4 0 0) s m av below meth c H locs 0 0 (vx_MQ below (q_Qi G post A) (q_XC G A xp) av s 0 0 A) (F0 m 36 ls []) := by
          intro x0 x1 x2 x3 S H locs ls h I hl
          unfold pX6_rightWithin_J36 at h
          refine lv_iinc (v := (x3 + 1)) (lv' := [(3, .int (x3 + 1)), (0, va_rf x0), (1, va_rf x1), (2, .int x2)]) (k := 3) X.1 X.2.1 dX6_rightWithin_36 hl rfl rfl (by decide) rfl (fun ls hl => ?_)
          refine lv_goto (tgt := 4) X.1 X.2.1 dX6_rightWithin_39 (by decide) ?_
          exact ih4 _ _ _ _ _ _ _ _ h I (lv_sub hl [1, 2, 3, 0] rfl)
        refine lv_acmp_ne (tgt := 36) X.1 X.2.1 dX6_rightWithin_30 (by decide) (fun c30 => ?_) (fun c30 => ?_)
        · have h := h.1 c30
          exact jn36 _ _ _ _ _ _ _ _ h I (lv_sub hl [0, 1, 2, 3] rfl)
        · have h := h.2 c30
          refine lv_iinc (v := (x2 + 1)) (lv' := [(2, .int (x2 + 1)), (0, va_rf x0), (1, va_rf x1), (3, .int x3)]) (k := 2) X.1 X.2.1 dX6_rightWithin_33 hl rfl rfl (by decide) (by simp [q_cat, q_catI, q_catJ]) (fun ls hl => ?_)
          exact jn36 _ _ _ _ _ _ _ _ h I (lv_sub hl [1, 2, 0, 3] rfl)
  exact lp4 n4 _ _ _ _ _ _ _ _ h I (lv_sub hl [2, 3, 1, 0] rfl)

def pX6_mayLieIn_J55  (post : Int32 → qS → Prop) (xp : String → qS → Prop) (t0 : Int32) (S : qS) : Prop :=
  ((t0 = 0 ∨ t0 = 1) ∧ post t0 S)
def pX6_mayLieIn_J54  (post : Int32 → qS → Prop) (xp : String → qS → Prop)  (S : qS) : Prop :=
  pX6_mayLieIn_J55 post xp (0 : Int32) S
def pX6_mayLieIn (x0 : Nat) (x1 : Option Nat) (x2 : Option Nat) (S : qS) (post : Int32 → qS → Prop) (xp : String → qS → Prop) : Prop :=
  w_at S x1 6 (fun b1 => pX5_isBroken b1  S (fun v1 S =>
  ((¬ v1 = 0 →
  pX6_mayLieIn_J54 post xp S) ∧ (v1 = 0 →
  w_getR S x1 6 9 (fun v8 =>
  w_getR S x2 6 9 (fun v12 =>
  ((¬ v8 = v12 →
  pX6_mayLieIn_J54 post xp S) ∧ (v8 = v12 →
  w_getR S x1 6 10 (fun v19 =>
  ((¬ v19 = none →
  pX6_mayLieIn_J54 post xp S) ∧ (v19 = none →
  ((x1 = x2 →
  pX6_mayLieIn_J54 post xp S) ∧ (¬ x1 = x2 →
  w_at S x2 6 (fun b32 => pX5_liesWithin b32 x1 S (fun v32 S =>
  ((¬ v32 = 0 →
  pX6_mayLieIn_J54 post xp S) ∧ (v32 = 0 →
  w_at S (some x0) 7 (fun b40 => pX6_rightWithin b40 x2 S (fun v40 S =>
  w_getI S x2 6 2 (fun v44 =>
  ((v44 ≤ v40 →
  pX6_mayLieIn_J54 post xp S) ∧ (¬ v44 ≤ v40 →
  pX6_mayLieIn_J55 post xp (1 : Int32) S)))) xp)))) xp))))))))))))) xp)
set_option maxHeartbeats 4000000 in
set_option maxRecDepth 100000 in
theorem kX6_mayLieIn {l : Launch} (hl0 : l.stackTraces = false) {G : qG} {S : qS} {sz : Nat} {x0 : Nat} {x1 : Option Nat} {x2 : Option Nat} {post : Int32 → qS → Prop} {xp : String → qS → Prop} (h : pX6_mayLieIn x0 x1 x2 S post xp) : q_M l yX6_mayLieIn cX6_mayLieIn 3 (some .boolean) 5 0 0 G S sz [va_rf (some x0), va_rf x1, va_rf x2] (q_Qi G post) xp := by
  refine q_of (lv := [(0, va_rf (some x0)), (1, va_rf x1), (2, va_rf x2)]) hl0 (by decide) (by cases x1 <;> cases x2 <;> rfl) (by cases x1 <;> cases x2 <;> exact Nat.le_of_ble_eq_true rfl) (fun p e s m below meth c A ls X N hr hnm I hl => ?_)
  generalize ([va_rf (some x0), va_rf x1, va_rf x2] : List Value).toArray = av at X ⊢
  unfold pX6_mayLieIn at h
  refine q_aload_n X dX6_mayLieIn_0 rfl (lv_at hl 1 rfl) ?_
  refine q_cVi (As := []) (rest := []) (c1 := 0) (s1 := 0) (d := 1) (mc := 0) (ms := 0) X N I hl.1 mX5_isBroken wd_216 dX6_mayLieIn_1 rfl h (fun b h => kX5_isBroken hl0 h) rfl (Nat.le_of_ble_eq_true rfl) ⟨by decide, by decide⟩ ⟨by decide, by decide⟩ ⟨by decide, by decide⟩ rfl rfl (fun v1 S H locs I h => ?_)
  have jn55 : ∀ (t0 : Int32) (S : qS) (H : Heap) (locs : List Loc) (ls : Array Slot), pX6_mayLieIn_J55 post xp t0 S → q_H G A s H locs S → lv_has ls 3 [] → W p l e (q_rm 5 0 0) s m av below meth c H locs 0 0 (vx_MQ below (q_Qi G post A) (q_XC G A xp) av s 0 0 A) (F0 m 55 ls [.int t0]) := by
    intro t0 S H locs ls h I hl
    unfold pX6_mayLieIn_J55 at h
    exact q_zret X I hr dX6_mayLieIn_55 h (by decide) (by decide)
  have jn54 : ∀ (S : qS) (H : Heap) (locs : List Loc) (ls : Array Slot), pX6_mayLieIn_J54 post xp S → q_H G A s H locs S → lv_has ls 3 [] → W p l e (q_rm 5 0 0) s m av below meth c H locs 0 0 (vx_MQ below (q_Qi G post A) (q_XC G A xp) av s 0 0 A) (F0 m 54 ls []) := by
    intro S H locs ls h I hl
    unfold pX6_mayLieIn_J54 at h
    refine lv_iconst (v := 0) X.1 X.2.1 dX6_mayLieIn_54 (by decide) ?_
    exact jn55 _ _ _ _ _ h I (lv_sub hl [] rfl)
  refine lv_if_ne (tgt := 54) X.1 X.2.1 dX6_mayLieIn_4 (by decide) (fun c4 => ?_) (fun c4 => ?_)
  · have h := h.1 c4
    exact jn54 _ _ _ _ h I (lv_sub hl [] rfl)
  · have h := h.2 c4
    refine q_aload_n X dX6_mayLieIn_7 rfl (lv_at hl 1 rfl) ?_
    refine q_getR (ci := 6) (k := 9) X I rfl inb_TX5 wd_547 (by decide) qt_249 dX6_mayLieIn_8 h (fun v8 h => ?_)
    refine q_aload_n X dX6_mayLieIn_11 rfl (lv_at hl 2 rfl) ?_
    refine q_getR (ci := 6) (k := 9) X I rfl inb_TX5 wd_547 (by decide) qt_249 dX6_mayLieIn_12 h (fun v12 h => ?_)
    refine lv_acmp_ne (tgt := 54) X.1 X.2.1 dX6_mayLieIn_15 (by decide) (fun c15 => ?_) (fun c15 => ?_)
    · have h := h.1 c15
      exact jn54 _ _ _ _ h I (lv_sub hl [] rfl)
    · have h := h.2 c15
      refine q_aload_n X dX6_mayLieIn_18 rfl (lv_at hl 1 rfl) ?_
      refine q_getR (ci := 6) (k := 10) X I rfl inb_TX5 wd_549 (by decide) qt_250 dX6_mayLieIn_19 h (fun v19 h => ?_)
      refine q_ifnonnull (tgt := 54) X dX6_mayLieIn_22 (by decide) (fun c22 => ?_) (fun c22 => ?_)
      · have h := h.1 c22
        exact jn54 _ _ _ _ h I (lv_sub hl [] rfl)
      · have h := h.2 c22
        refine q_aload_n X dX6_mayLieIn_25 rfl (lv_at hl 1 rfl) ?_
        refine q_aload_n X dX6_mayLieIn_26 rfl (lv_at hl 2 rfl) ?_
        refine lv_acmp_eq (tgt := 54) X.1 X.2.1 dX6_mayLieIn_27 (by decide) (fun c27 => ?_) (fun c27 => ?_)
        · have h := h.1 c27
          exact jn54 _ _ _ _ h I (lv_sub hl [] rfl)
        · have h := h.2 c27
          refine q_aload_n X dX6_mayLieIn_30 rfl (lv_at hl 2 rfl) ?_
          refine q_aload_n X dX6_mayLieIn_31 rfl (lv_at hl 1 rfl) ?_
          refine q_cVi (As := [va_rf x1]) (rest := []) (c1 := 0) (s1 := 0) (d := 1) (mc := 0) (ms := 0) X N I hl.1 mX5_liesWithin wd_602 dX6_mayLieIn_32 rfl h (fun b h => kX5_liesWithin hl0 h) rfl (Nat.le_of_ble_eq_true rfl) ⟨by decide, by decide⟩ ⟨by decide, by decide⟩ ⟨by decide, by decide⟩ rfl rfl (fun v32 S H locs I h => ?_)
          refine lv_if_ne (tgt := 54) X.1 X.2.1 dX6_mayLieIn_35 (by decide) (fun c35 => ?_) (fun c35 => ?_)
          · have h := h.1 c35
            exact jn54 _ _ _ _ h I (lv_sub hl [] rfl)
          · have h := h.2 c35
            refine q_aload_n X dX6_mayLieIn_38 rfl (lv_at hl 0 rfl) ?_
            refine q_aload_n X dX6_mayLieIn_39 rfl (lv_at hl 2 rfl) ?_
            refine q_cVi (As := [va_rf x2]) (rest := []) (c1 := 0) (s1 := 0) (d := 4) (mc := 0) (ms := 0) X N I hl.1 mX6_rightWithin wd_606 dX6_mayLieIn_40 rfl h (fun b h => kX6_rightWithin hl0 h) rfl (Nat.le_of_ble_eq_true rfl) ⟨by decide, by decide⟩ ⟨by decide, by decide⟩ ⟨by decide, by decide⟩ rfl rfl (fun v40 S H locs I h => ?_)
            refine q_aload_n X dX6_mayLieIn_43 rfl (lv_at hl 2 rfl) ?_
            refine q_getI (ci := 6) (k := 2) X I rfl inb_TX5 wd_531 (by decide) qt_242 dX6_mayLieIn_44 h (fun v44 h => ?_)
            refine lv_icmp_ge (tgt := 54) X.1 X.2.1 dX6_mayLieIn_47 (by decide) (fun c47 => ?_) (fun c47 => ?_)
            · have h := h.1 c47
              exact jn54 _ _ _ _ h I (lv_sub hl [] rfl)
            · have h := h.2 c47
              refine lv_iconst (v := 1) X.1 X.2.1 dX6_mayLieIn_50 (by decide) ?_
              refine lv_goto (tgt := 55) X.1 X.2.1 dX6_mayLieIn_51 (by decide) ?_
              exact jn55 _ _ _ _ _ h I (lv_sub hl [] rfl)

def pX6_goesWith_J18  (post : Int32 → qS → Prop) (xp : String → qS → Prop) (t0 : Int32) (S : qS) : Prop :=
  ((t0 = 0 ∨ t0 = 1) ∧ post t0 S)
def pX6_goesWith_J13  (post : Int32 → qS → Prop) (xp : String → qS → Prop)  (S : qS) : Prop :=
  pX6_goesWith_J18 post xp (1 : Int32) S
def pX6_goesWith (x0 : Option Nat) (x1 : Option Nat) (S : qS) (post : Int32 → qS → Prop) (xp : String → qS → Prop) : Prop :=
  ((x0 = x1 →
  pX6_goesWith_J13 post xp S) ∧ (¬ x0 = x1 →
  w_at S x0 6 (fun b7 => pX5_liesWithin b7 x1 S (fun v7 S =>
  ((v7 = 0 →
  pX6_goesWith_J18 post xp (0 : Int32) S) ∧ (¬ v7 = 0 →
  pX6_goesWith_J13 post xp S))) xp)))
set_option maxHeartbeats 4000000 in
set_option maxRecDepth 100000 in
theorem kX6_goesWith {l : Launch} (hl0 : l.stackTraces = false) {G : qG} {S : qS} {sz : Nat} {x0 : Option Nat} {x1 : Option Nat} {post : Int32 → qS → Prop} {xp : String → qS → Prop} (h : pX6_goesWith x0 x1 S post xp) : q_M l yX6_goesWith cX6_goesWith 2 (some .boolean) 2 0 0 G S sz [va_rf x0, va_rf x1] (q_Qi G post) xp := by
  refine q_of (lv := [(0, va_rf x0), (1, va_rf x1)]) hl0 (by decide) (by cases x0 <;> cases x1 <;> rfl) (by cases x0 <;> cases x1 <;> exact Nat.le_of_ble_eq_true rfl) (fun p e s m below meth c A ls X N hr hnm I hl => ?_)
  generalize ([va_rf x0, va_rf x1] : List Value).toArray = av at X ⊢
  unfold pX6_goesWith at h
  refine q_aload_n X dX6_goesWith_0 rfl (lv_at hl 0 rfl) ?_
  refine q_aload_n X dX6_goesWith_1 rfl (lv_at hl 1 rfl) ?_
  have jn18 : ∀ (t0 : Int32) (S : qS) (H : Heap) (locs : List Loc) (ls : Array Slot), pX6_goesWith_J18 post xp t0 S → q_H G A s H locs S → lv_has ls 2 [] → W p l e (q_rm 2 0 0) s m av below meth c H locs 0 0 (vx_MQ below (q_Qi G post A) (q_XC G A xp) av s 0 0 A) (F0 m 18 ls [.int t0]) := by
    intro t0 S H locs ls h I hl
    unfold pX6_goesWith_J18 at h
    exact q_zret X I hr dX6_goesWith_18 h (by decide) (by decide)
  have jn13 : ∀ (S : qS) (H : Heap) (locs : List Loc) (ls : Array Slot), pX6_goesWith_J13 post xp S → q_H G A s H locs S → lv_has ls 2 [] → W p l e (q_rm 2 0 0) s m av below meth c H locs 0 0 (vx_MQ below (q_Qi G post A) (q_XC G A xp) av s 0 0 A) (F0 m 13 ls []) := by
    intro S H locs ls h I hl
    unfold pX6_goesWith_J13 at h
    refine lv_iconst (v := 1) X.1 X.2.1 dX6_goesWith_13 (by decide) ?_
    refine lv_goto (tgt := 18) X.1 X.2.1 dX6_goesWith_14 (by decide) ?_
    exact jn18 _ _ _ _ _ h I (lv_sub hl [] rfl)
  refine lv_acmp_eq (tgt := 13) X.1 X.2.1 dX6_goesWith_2 (by decide) (fun c2 => ?_) (fun c2 => ?_)
  · have h := h.1 c2
    exact jn13 _ _ _ _ h I (lv_sub hl [] rfl)
  · have h := h.2 c2
    refine q_aload_n X dX6_goesWith_5 rfl (lv_at hl 0 rfl) ?_
    refine q_aload_n X dX6_goesWith_6 rfl (lv_at hl 1 rfl) ?_
    refine q_cVi (As := [va_rf x1]) (rest := []) (c1 := 0) (s1 := 0) (d := 1) (mc := 0) (ms := 0) X N I hl.1 mX5_liesWithin wd_602 dX6_goesWith_7 rfl h (fun b h => kX5_liesWithin hl0 h) rfl (Nat.le_of_ble_eq_true rfl) ⟨by decide, by decide⟩ ⟨by decide, by decide⟩ ⟨by decide, by decide⟩ rfl rfl (fun v7 S H locs I h => ?_)
    refine lv_if_eq (tgt := 17) X.1 X.2.1 dX6_goesWith_10 (by decide) (fun c10 => ?_) (fun c10 => ?_)
    · have h := h.1 c10
      refine lv_iconst (v := 0) X.1 X.2.1 dX6_goesWith_17 (by decide) ?_
      exact jn18 _ _ _ _ _ h I (lv_sub hl [] rfl)
    · have h := h.2 c10
      exact jn13 _ _ _ _ h I (lv_sub hl [] rfl)

def pX6_mayLeave_J14  (post : Int32 → qS → Prop) (xp : String → qS → Prop)  (S : qS) : Prop :=
  (((0 : Int32) = 0 ∨ (0 : Int32) = 1) ∧ post (0 : Int32) S)
def pX6_mayLeave_J65 (k18 : Option Nat → Option Nat → Int32 → qS → Prop) (post : Int32 → qS → Prop) (xp : String → qS → Prop) (x0 : Option Nat) (x1 : Option Nat) (x2 : Int32) (S : qS) : Prop :=
  k18 x0 x1 (x2 + 1) S
def pX6_mayLeave_J55 (k18 : Option Nat → Option Nat → Int32 → qS → Prop) (post : Int32 → qS → Prop) (xp : String → qS → Prop) (x0 : Option Nat) (x1 : Option Nat) (x2 : Int32) (x3 : Option Nat) (S : qS) : Prop :=
  pX6_goesWith x3 x1 S (fun v57 S =>
  ((v57 = 0 →
  pX6_mayLeave_J65 k18 post xp x0 x1 x2 S) ∧ (¬ v57 = 0 →
  (((0 : Int32) = 0 ∨ (0 : Int32) = 1) ∧ post (0 : Int32) S)))) xp
def pX6_mayLeave_L18  (post : Int32 → qS → Prop) (xp : String → qS → Prop) : Nat → Option Nat → Option Nat → Int32 → qS → Prop
  | 0, _, _, _, _ => False
  | n18 + 1, x0, x1, x2, S =>
  w_getR S x0 7 0 (fun v20 =>
  w_at S v20 0 (fun b23 => pJx4a65c_size_8abf5 b23  S (fun v23 S =>
  ((v23 ≤ x2 →
  (((1 : Int32) = 0 ∨ (1 : Int32) = 1) ∧ post (1 : Int32) S)) ∧ (¬ v23 ≤ x2 →
  w_getR S x0 7 0 (fun v30 =>
  w_at S v30 0 (fun b34 => pJx4a65c_get_915e3 b34 x2 S (fun v34 S =>
  w_cast S v34 6 (
  w_getI S v34 6 1 (fun v42 =>
  ((¬ v42 = 0 →
  pX6_mayLeave_J55 (pX6_mayLeave_L18 post xp n18) post xp x0 x1 x2 v34 S) ∧ (v42 = 0 →
  w_at S v34 6 (fun b49 => pX5_isLent b49  S (fun v49 S =>
  ((v49 = 0 →
  pX6_mayLeave_J65 (pX6_mayLeave_L18 post xp n18) post xp x0 x1 x2 S) ∧ (¬ v49 = 0 →
  pX6_mayLeave_J55 (pX6_mayLeave_L18 post xp n18) post xp x0 x1 x2 v34 S))) xp)))))) xp))))) xp))
def pX6_mayLeave (x0 : Nat) (x1 : Option Nat) (S : qS) (post : Int32 → qS → Prop) (xp : String → qS → Prop) : Prop :=
  w_at S x1 6 (fun b1 => pX5_isBroken b1  S (fun v1 S =>
  ((¬ v1 = 0 →
  pX6_mayLeave_J14 post xp S) ∧ (v1 = 0 →
  w_getR S x1 6 10 (fun v8 =>
  ((v8 = none →
  ∃ n18, pX6_mayLeave_L18 post xp n18 (some x0) x1 (0 : Int32) S) ∧ (¬ v8 = none →
  pX6_mayLeave_J14 post xp S)))))) xp)
set_option maxHeartbeats 4000000 in
set_option maxRecDepth 100000 in
theorem kX6_mayLeave {l : Launch} (hl0 : l.stackTraces = false) {G : qG} {S : qS} {sz : Nat} {x0 : Nat} {x1 : Option Nat} {post : Int32 → qS → Prop} {xp : String → qS → Prop} (h : pX6_mayLeave x0 x1 S post xp) : q_M l yX6_mayLeave cX6_mayLeave 4 (some .boolean) 4 0 0 G S sz [va_rf (some x0), va_rf x1] (q_Qi G post) xp := by
  refine q_of (lv := [(0, va_rf (some x0)), (1, va_rf x1)]) hl0 (by decide) (by cases x1 <;> rfl) (by cases x1 <;> exact Nat.le_of_ble_eq_true rfl) (fun p e s m below meth c A ls X N hr hnm I hl => ?_)
  generalize ([va_rf (some x0), va_rf x1] : List Value).toArray = av at X ⊢
  unfold pX6_mayLeave at h
  refine q_aload_n X dX6_mayLeave_0 rfl (lv_at hl 1 rfl) ?_
  refine q_cVi (As := []) (rest := []) (c1 := 0) (s1 := 0) (d := 1) (mc := 0) (ms := 0) X N I hl.1 mX5_isBroken wd_216 dX6_mayLeave_1 rfl h (fun b h => kX5_isBroken hl0 h) rfl (Nat.le_of_ble_eq_true rfl) ⟨by decide, by decide⟩ ⟨by decide, by decide⟩ ⟨by decide, by decide⟩ rfl rfl (fun v1 S H locs I h => ?_)
  have jn14 : ∀ (S : qS) (H : Heap) (locs : List Loc) (ls : Array Slot), pX6_mayLeave_J14 post xp S → q_H G A s H locs S → lv_has ls 4 [] → W p l e (q_rm 4 0 0) s m av below meth c H locs 0 0 (vx_MQ below (q_Qi G post A) (q_XC G A xp) av s 0 0 A) (F0 m 14 ls []) := by
    intro S H locs ls h I hl
    unfold pX6_mayLeave_J14 at h
    refine lv_iconst (v := 0) X.1 X.2.1 dX6_mayLeave_14 (by decide) ?_
    exact q_zret X I hr dX6_mayLeave_15 h (by decide) (by decide)
  refine lv_if_ne (tgt := 14) X.1 X.2.1 dX6_mayLeave_4 (by decide) (fun c4 => ?_) (fun c4 => ?_)
  · have h := h.1 c4
    exact jn14 _ _ _ _ h I (lv_sub hl [] rfl)
  · have h := h.2 c4
    refine q_aload_n X dX6_mayLeave_7 rfl (lv_at hl 1 rfl) ?_
    refine q_getR (ci := 6) (k := 10) X I rfl inb_TX5 wd_549 (by decide) qt_250 dX6_mayLeave_8 h (fun v8 h => ?_)
    refine q_ifnull (tgt := 16) X dX6_mayLeave_11 (by decide) (fun c11 => ?_) (fun c11 => ?_)
    · have h := h.1 c11
      refine lv_iconst (v := 0) X.1 X.2.1 dX6_mayLeave_16 (by decide) ?_
      refine lv_istore_n (i := 2) (lv' := [(2, .int (0 : Int32)), (0, va_rf (some x0)), (1, va_rf x1)]) X.1 X.2.1 dX6_mayLeave_17 rfl hl (by decide) (by simp [q_cat, q_catI, q_catJ]) (fun ls hl => ?_)
      obtain ⟨n18, h⟩ := h
      have lp18 : ∀ (n18 : Nat) (x0 : Option Nat) (x1 : Option Nat) (x2 : Int32) (S : qS) (H : Heap) (locs : List Loc) (ls : Array Slot), pX6_mayLeave_L18 post xp n18 x0 x1 x2 S → q_H G A s H locs S → lv_has ls 4 [(0, va_rf x0), (1, va_rf x1), (2, .int x2)] → W p l e (q_rm 4 0 0) s m av below meth c H locs 0 0 (vx_MQ below (q_Qi G post A) (q_XC G A xp) av s 0 0 A) (F0 m 18 ls []) := by
        intro n18
        induction n18 with
        | zero => intro x0 x1 x2 S H locs ls h I hl; exact h.elim
        | succ n18 ih18 =>
          intro x0 x1 x2 S H locs ls h I hl
          unfold pX6_mayLeave_L18 at h
          refine lv_iload_n X.1 X.2.1 dX6_mayLeave_18 rfl (lv_at hl 2 rfl) ?_
          refine q_aload_n X dX6_mayLeave_19 rfl (lv_at hl 0 rfl) ?_
          refine q_getR (ci := 7) (k := 0) X I rfl inb_TX6 wd_68 (by decide) qt_280 dX6_mayLeave_20 h (fun v20 h => ?_)
          refine q_cVi (As := []) (rest := [.int x2]) (c1 := 0) (s1 := 0) (d := 1) (mc := 0) (ms := 0) X N I hl.1 mJx4a65c_size_8abf5 wd_209 dX6_mayLeave_23 rfl h (fun b h => kJx4a65c_size_8abf5 hl0 h) rfl (Nat.le_of_ble_eq_true rfl) ⟨by decide, by decide⟩ ⟨by decide, by decide⟩ ⟨by decide, by decide⟩ rfl rfl (fun v23 S H locs I h => ?_)
          refine lv_icmp_ge (tgt := 71) X.1 X.2.1 dX6_mayLeave_26 (by decide) (fun c26 => ?_) (fun c26 => ?_)
          · have h := h.1 c26
            refine lv_iconst (v := 1) X.1 X.2.1 dX6_mayLeave_71 (by decide) ?_
            exact q_zret X I hr dX6_mayLeave_72 h (by decide) (by decide)
          · have h := h.2 c26
            refine q_aload_n X dX6_mayLeave_29 rfl (lv_at hl 0 rfl) ?_
            refine q_getR (ci := 7) (k := 0) X I rfl inb_TX6 wd_68 (by decide) qt_280 dX6_mayLeave_30 h (fun v30 h => ?_)
            refine lv_iload_n X.1 X.2.1 dX6_mayLeave_33 rfl (lv_at hl 2 rfl) ?_
            refine q_cVr (As := [.int x2]) (rest := []) (c1 := 0) (s1 := 0) (d := 3) (mc := 0) (ms := 0) X N I hl.1 mJx4a65c_get_915e3 wd_214 dX6_mayLeave_34 rfl h (fun b h => kJx4a65c_get_915e3 hl0 h) rfl (Nat.le_of_ble_eq_true rfl) ⟨by decide, by decide⟩ ⟨by decide, by decide⟩ ⟨by decide, by decide⟩ rfl rfl (fun v34 S H locs I h => ?_)
            refine q_cast (ci := 6) X I rfl wd_215 dX6_mayLeave_37 h (fun h => ?_)
            refine q_astore_n (i := 3) (lv' := [(3, va_rf v34), (0, va_rf x0), (1, va_rf x1), (2, .int x2)]) X dX6_mayLeave_40 rfl hl (by decide) rfl (fun ls hl => ?_)
            refine q_aload_n X dX6_mayLeave_41 rfl (lv_at hl 0 rfl) ?_
            refine q_getI (ci := 6) (k := 1) X I rfl inb_TX5 wd_529 (by decide) qt_241 dX6_mayLeave_42 h (fun v42 h => ?_)
            have jn65 : ∀ (x0 : Option Nat) (x1 : Option Nat) (x2 : Int32) (S : qS) (H : Heap) (locs : List Loc) (ls : Array Slot), pX6_mayLeave_J65 (pX6_mayLeave_L18 post xp n18) post xp x0 x1 x2 S → q_H G A s H locs S → lv_has ls 4 [(0, va_rf x0), (1, va_rf x1), (2, .int x2)] → W p l e (q_rm 4 0 0) s m av below meth c H locs 0 0 (vx_MQ below (q_Qi G post A) (q_XC G A xp) av s 0 0 A) (F0 m 65 ls []) := by
              intro x0 x1 x2 S H locs ls h I hl
              unfold pX6_mayLeave_J65 at h
              refine lv_iinc (v := (x2 + 1)) (lv' := [(2, .int (x2 + 1)), (0, va_rf x0), (1, va_rf x1)]) (k := 2) X.1 X.2.1 dX6_mayLeave_65 hl rfl rfl (by decide) (by simp [q_cat, q_catI, q_catJ]) (fun ls hl => ?_)
              refine lv_goto (tgt := 18) X.1 X.2.1 dX6_mayLeave_68 (by decide) ?_
              exact ih18 _ _ _ _ _ _ _ h I (lv_sub hl [1, 2, 0] rfl)
            have jn55 : ∀ (x0 : Option Nat) (x1 : Option Nat) (x2 : Int32) (x3 : Option Nat) (S : qS) (H : Heap) (locs : List Loc) (ls : Array Slot), pX6_mayLeave_J55 (pX6_mayLeave_L18 post xp n18) post xp x0 x1 x2 x3 S → q_H G A s H locs S → lv_has ls 4 [(0, va_rf x0), (1, va_rf x1), (2, .int x2), (3, va_rf x3)] → W p l e (q_rm 4 0 0) s m av below meth c H locs 0 0 (vx_MQ below (q_Qi G post A) (q_XC G A xp) av s 0 0 A) (F0 m 55 ls []) := by
              intro x0 x1 x2 x3 S H locs ls h I hl
              unfold pX6_mayLeave_J55 at h
              refine q_aload_n X dX6_mayLeave_55 rfl (lv_at hl 3 rfl) ?_
              refine q_aload_n X dX6_mayLeave_56 rfl (lv_at hl 1 rfl) ?_
              refine q_cSi (As := [va_rf x3, va_rf x1]) (rest := []) (c1 := 0) (s1 := 0) (d := 2) (mc := 0) (ms := 0) X N I hl.1 mX6_goesWith wd_628 dX6_mayLeave_57 rfl (kX6_goesWith hl0 h) rfl (Nat.le_of_ble_eq_true rfl) ⟨by decide, by decide⟩ ⟨by decide, by decide⟩ ⟨by decide, by decide⟩ rfl rfl (fun v57 S H locs I h => ?_)
              refine lv_if_eq (tgt := 65) X.1 X.2.1 dX6_mayLeave_60 (by decide) (fun c60 => ?_) (fun c60 => ?_)
              · have h := h.1 c60
                exact jn65 _ _ _ _ _ _ _ h I (lv_sub hl [0, 1, 2] rfl)
              · have h := h.2 c60
                refine lv_iconst (v := 0) X.1 X.2.1 dX6_mayLeave_63 (by decide) ?_
                exact q_zret X I hr dX6_mayLeave_64 h (by decide) (by decide)
            refine lv_if_ne (tgt := 55) X.1 X.2.1 dX6_mayLeave_45 (by decide) (fun c45 => ?_) (fun c45 => ?_)
            · have h := h.1 c45
              exact jn55 _ _ _ _ _ _ _ _ h I (lv_sub hl [1, 2, 3, 0] rfl)
            · have h := h.2 c45
              refine q_aload_n X dX6_mayLeave_48 rfl (lv_at hl 0 rfl) ?_
              refine q_cVi (As := []) (rest := []) (c1 := 0) (s1 := 0) (d := 1) (mc := 0) (ms := 0) X N I hl.1 mX5_isLent wd_224 dX6_mayLeave_49 rfl h (fun b h => kX5_isLent hl0 h) rfl (Nat.le_of_ble_eq_true rfl) ⟨by decide, by decide⟩ ⟨by decide, by decide⟩ ⟨by decide, by decide⟩ rfl rfl (fun v49 S H locs I h => ?_)
              refine lv_if_eq (tgt := 65) X.1 X.2.1 dX6_mayLeave_52 (by decide) (fun c52 => ?_) (fun c52 => ?_)
              · have h := h.1 c52
                exact jn65 _ _ _ _ _ _ _ h I (lv_sub hl [1, 2, 3] rfl)
              · have h := h.2 c52
                exact jn55 _ _ _ _ _ _ _ _ h I (lv_sub hl [1, 2, 3, 0] rfl)
      exact lp18 n18 _ _ _ _ _ _ _ h I (lv_sub hl [1, 2, 0] rfl)
    · have h := h.2 c11
      exact jn14 _ _ _ _ h I (lv_sub hl [] rfl)

def pX6_passOn_J45 (k3 : Option Nat → Option Nat → Option Nat → Int32 → Int32 → qS → Prop) (post : qS → Prop) (xp : String → qS → Prop) (x0 : Option Nat) (x1 : Option Nat) (x2 : Option Nat) (x3 : Int32) (x4 : Int32) (S : qS) : Prop :=
  k3 x0 x1 x2 x3 (x4 + 1) S
def pX6_passOn_L3  (post : qS → Prop) (xp : String → qS → Prop) : Nat → Option Nat → Option Nat → Option Nat → Int32 → Int32 → qS → Prop
  | 0, _, _, _, _, _, _ => False
  | n3 + 1, x0, x1, x2, x3, x4, S =>
  w_getR S x0 7 0 (fun v6 =>
  w_at S v6 0 (fun b9 => pJx4a65c_size_8abf5 b9  S (fun v9 S =>
  ((v9 ≤ x4 →
  post S) ∧ (¬ v9 ≤ x4 →
  w_getR S x0 7 0 (fun v16 =>
  w_at S v16 0 (fun b21 => pJx4a65c_get_915e3 b21 x4 S (fun v21 S =>
  w_cast S v21 6 (
  pX6_goesWith v21 x1 S (fun v32 S =>
  ((v32 = 0 →
  pX6_passOn_J45 (pX6_passOn_L3 post xp n3) post xp x0 x1 x2 x3 x4 S) ∧ (¬ v32 = 0 →
  w_at S v21 6 (fun b42 => pX5_passTo b42 x2 x3 S (fun S =>
  pX6_passOn_J45 (pX6_passOn_L3 post xp n3) post xp x0 x1 x2 x3 x4 S) xp)))) xp)) xp))))) xp))
def pX6_passOn (x0 : Nat) (x1 : Option Nat) (x2 : Option Nat) (x3 : Int32) (S : qS) (post : qS → Prop) (xp : String → qS → Prop) : Prop :=
  ∃ n3, pX6_passOn_L3 post xp n3 (some x0) x1 x2 x3 (0 : Int32) S
set_option maxHeartbeats 4000000 in
set_option maxRecDepth 100000 in
theorem kX6_passOn {l : Launch} (hl0 : l.stackTraces = false) {G : qG} {S : qS} {sz : Nat} {x0 : Nat} {x1 : Option Nat} {x2 : Option Nat} {x3 : Int32} {post : qS → Prop} {xp : String → qS → Prop} (h : pX6_passOn x0 x1 x2 x3 S post xp) : q_M l yX6_passOn cX6_passOn 6 none 4 0 0 G S sz [va_rf (some x0), va_rf x1, va_rf x2, .int x3] (q_Qv G post) xp := by
  refine q_of (lv := [(0, va_rf (some x0)), (1, va_rf x1), (2, va_rf x2), (3, .int x3)]) hl0 (by decide) (by cases x1 <;> cases x2 <;> rfl) (by cases x1 <;> cases x2 <;> exact Nat.le_of_ble_eq_true rfl) (fun p e s m below meth c A ls X N hr hnm I hl => ?_)
  generalize ([va_rf (some x0), va_rf x1, va_rf x2, .int x3] : List Value).toArray = av at X ⊢
  unfold pX6_passOn at h
  refine lv_iconst (v := 0) X.1 X.2.1 dX6_passOn_0 (by decide) ?_
  refine lv_istore (i := 4) (lv' := [(4, .int (0 : Int32)), (0, va_rf (some x0)), (1, va_rf x1), (2, va_rf x2), (3, .int x3)]) X.1 X.2.1 dX6_passOn_1 hl (by decide) rfl (fun ls hl => ?_)
  obtain ⟨n3, h⟩ := h
  have lp3 : ∀ (n3 : Nat) (x0 : Option Nat) (x1 : Option Nat) (x2 : Option Nat) (x3 : Int32) (x4 : Int32) (S : qS) (H : Heap) (locs : List Loc) (ls : Array Slot), pX6_passOn_L3 post xp n3 x0 x1 x2 x3 x4 S → q_H G A s H locs S → lv_has ls 6 [(0, va_rf x0), (1, va_rf x1), (2, va_rf x2), (3, .int x3), (4, .int x4)] → W p l e (q_rm 4 0 0) s m av below meth c H locs 0 0 (vx_MQ below (q_Qv G post A) (q_XC G A xp) av s 0 0 A) (F0 m 3 ls []) := by
    intro n3
    induction n3 with
    | zero => intro x0 x1 x2 x3 x4 S H locs ls h I hl; exact h.elim
    | succ n3 ih3 =>
      intro x0 x1 x2 x3 x4 S H locs ls h I hl
      unfold pX6_passOn_L3 at h
      refine lv_iload X.1 X.2.1 dX6_passOn_3 (lv_at hl 4 rfl) ?_
      refine q_aload_n X dX6_passOn_5 rfl (lv_at hl 0 rfl) ?_
      refine q_getR (ci := 7) (k := 0) X I rfl inb_TX6 wd_68 (by decide) qt_280 dX6_passOn_6 h (fun v6 h => ?_)
      refine q_cVi (As := []) (rest := [.int x4]) (c1 := 0) (s1 := 0) (d := 1) (mc := 0) (ms := 0) X N I hl.1 mJx4a65c_size_8abf5 wd_209 dX6_passOn_9 rfl h (fun b h => kJx4a65c_size_8abf5 hl0 h) rfl (Nat.le_of_ble_eq_true rfl) ⟨by decide, by decide⟩ ⟨by decide, by decide⟩ ⟨by decide, by decide⟩ rfl rfl (fun v9 S H locs I h => ?_)
      refine lv_icmp_ge (tgt := 51) X.1 X.2.1 dX6_passOn_12 (by decide) (fun c12 => ?_) (fun c12 => ?_)
      · have h := h.1 c12
        exact q_vret X I hr dX6_passOn_51 h (by decide) (by decide)
      · have h := h.2 c12
        refine q_aload_n X dX6_passOn_15 rfl (lv_at hl 0 rfl) ?_
        refine q_getR (ci := 7) (k := 0) X I rfl inb_TX6 wd_68 (by decide) qt_280 dX6_passOn_16 h (fun v16 h => ?_)
        refine lv_iload X.1 X.2.1 dX6_passOn_19 (lv_at hl 4 rfl) ?_
        refine q_cVr (As := [.int x4]) (rest := []) (c1 := 0) (s1 := 0) (d := 3) (mc := 0) (ms := 0) X N I hl.1 mJx4a65c_get_915e3 wd_214 dX6_passOn_21 rfl h (fun b h => kJx4a65c_get_915e3 hl0 h) rfl (Nat.le_of_ble_eq_true rfl) ⟨by decide, by decide⟩ ⟨by decide, by decide⟩ ⟨by decide, by decide⟩ rfl rfl (fun v21 S H locs I h => ?_)
        refine q_cast (ci := 6) X I rfl wd_215 dX6_passOn_24 h (fun h => ?_)
        refine q_astore (i := 5) (lv' := [(5, va_rf v21), (0, va_rf x0), (1, va_rf x1), (2, va_rf x2), (3, .int x3), (4, .int x4)]) X dX6_passOn_27 hl (by decide) rfl (fun ls hl => ?_)
        refine q_aload X dX6_passOn_29 (lv_at hl 0 rfl) ?_
        refine q_aload_n X dX6_passOn_31 rfl (lv_at hl 2 rfl) ?_
        refine q_cSi (As := [va_rf v21, va_rf x1]) (rest := []) (c1 := 0) (s1 := 0) (d := 2) (mc := 0) (ms := 0) X N I hl.1 mX6_goesWith wd_628 dX6_passOn_32 rfl (kX6_goesWith hl0 h) rfl (Nat.le_of_ble_eq_true rfl) ⟨by decide, by decide⟩ ⟨by decide, by decide⟩ ⟨by decide, by decide⟩ rfl rfl (fun v32 S H locs I h => ?_)
        have jn45 : ∀ (x0 : Option Nat) (x1 : Option Nat) (x2 : Option Nat) (x3 : Int32) (x4 : Int32) (S : qS) (H : Heap) (locs : List Loc) (ls : Array Slot), pX6_passOn_J45 (pX6_passOn_L3 post xp n3) post xp x0 x1 x2 x3 x4 S → q_H G A s H locs S → lv_has ls 6 [(0, va_rf x0), (1, va_rf x1), (2, va_rf x2), (3, .int x3), (4, .int x4)] → W p l e (q_rm 4 0 0) s m av below meth c H locs 0 0 (vx_MQ below (q_Qv G post A) (q_XC G A xp) av s 0 0 A) (F0 m 45 ls []) := by
          intro x0 x1 x2 x3 x4 S H locs ls h I hl
          unfold pX6_passOn_J45 at h
          refine lv_iinc (v := (x4 + 1)) (lv' := [(4, .int (x4 + 1)), (0, va_rf x0), (1, va_rf x1), (2, va_rf x2), (3, .int x3)]) (k := 4) X.1 X.2.1 dX6_passOn_45 hl rfl rfl (by decide) rfl (fun ls hl => ?_)
          refine lv_goto (tgt := 3) X.1 X.2.1 dX6_passOn_48 (by decide) ?_
          exact ih3 _ _ _ _ _ _ _ _ _ h I (lv_sub hl [1, 2, 3, 4, 0] rfl)
        refine lv_if_eq (tgt := 45) X.1 X.2.1 dX6_passOn_35 (by decide) (fun c35 => ?_) (fun c35 => ?_)
        · have h := h.1 c35
          exact jn45 _ _ _ _ _ _ _ _ _ h I (lv_sub hl [1, 2, 3, 4, 5] rfl)
        · have h := h.2 c35
          refine q_aload X dX6_passOn_38 (lv_at hl 0 rfl) ?_
          refine q_aload_n X dX6_passOn_40 rfl (lv_at hl 3 rfl) ?_
          refine lv_iload_n X.1 X.2.1 dX6_passOn_41 rfl (lv_at hl 4 rfl) ?_
          refine q_cVv (As := [va_rf x2, .int x3]) (rest := []) (c1 := 0) (s1 := 0) (d := 1) (mc := 0) (ms := 0) X N I hl.1 mX5_passTo wd_635 dX6_passOn_42 rfl h (fun b h => kX5_passTo hl0 h) rfl (Nat.le_of_ble_eq_true rfl) ⟨by decide, by decide⟩ ⟨by decide, by decide⟩ ⟨by decide, by decide⟩ rfl rfl (fun S H locs I h => ?_)
          exact jn45 _ _ _ _ _ _ _ _ _ h I (lv_sub hl [1, 2, 3, 4, 5] rfl)
  exact lp3 n3 _ _ _ _ _ _ _ _ _ h I (lv_sub hl [1, 2, 3, 4, 0] rfl)

def pX6_breakUp_J52 (k16 : Option Nat → Option Nat → Int32 → qS → Prop) (post : qS → Prop) (xp : String → qS → Prop) (x0 : Option Nat) (x1 : Option Nat) (x2 : Int32) (S : qS) : Prop :=
  k16 x0 x1 (x2 + 1) S
def pX6_breakUp_L16  (post : qS → Prop) (xp : String → qS → Prop) : Nat → Option Nat → Option Nat → Int32 → qS → Prop
  | 0, _, _, _, _ => False
  | n16 + 1, x0, x1, x2, S =>
  w_getR S x0 7 0 (fun v18 =>
  w_at S v18 0 (fun b21 => pJx4a65c_size_8abf5 b21  S (fun v21 S =>
  ((v21 ≤ x2 →
  post S) ∧ (¬ v21 ≤ x2 →
  w_getR S x0 7 0 (fun v28 =>
  w_at S v28 0 (fun b32 => pJx4a65c_get_915e3 b32 x2 S (fun v32 S =>
  w_cast S v32 6 (
  w_getR S v32 6 10 (fun v40 =>
  ((¬ v40 = x1 →
  pX6_breakUp_J52 (pX6_breakUp_L16 post xp n16) post xp x0 x1 x2 S) ∧ (v40 = x1 →
  w_putR S v32 6 10 (none : Option Nat) (fun S =>
  pX6_breakUp_J52 (pX6_breakUp_L16 post xp n16) post xp x0 x1 x2 S)))))) xp))))) xp))
def pX6_breakUp (x0 : Nat) (x1 : Option Nat) (S : qS) (post : qS → Prop) (xp : String → qS → Prop) : Prop :=
  w_putR S x1 6 10 (none : Option Nat) (fun S =>
  w_putR S x1 6 9 (none : Option Nat) (fun S =>
  w_at S x1 6 (fun b11 => pX5_endLoan b11  S (fun S =>
  ∃ n16, pX6_breakUp_L16 post xp n16 (some x0) x1 (0 : Int32) S) xp)))
set_option maxHeartbeats 4000000 in
set_option maxRecDepth 100000 in
theorem kX6_breakUp {l : Launch} (hl0 : l.stackTraces = false) {G : qG} {S : qS} {sz : Nat} {x0 : Nat} {x1 : Option Nat} {post : qS → Prop} {xp : String → qS → Prop} (h : pX6_breakUp x0 x1 S post xp) : q_M l yX6_breakUp cX6_breakUp 4 none 4 0 0 G S sz [va_rf (some x0), va_rf x1] (q_Qv G post) xp := by
  refine q_of (lv := [(0, va_rf (some x0)), (1, va_rf x1)]) hl0 (by decide) (by cases x1 <;> rfl) (by cases x1 <;> exact Nat.le_of_ble_eq_true rfl) (fun p e s m below meth c A ls X N hr hnm I hl => ?_)
  generalize ([va_rf (some x0), va_rf x1] : List Value).toArray = av at X ⊢
  unfold pX6_breakUp at h
  refine q_aload_n X dX6_breakUp_0 rfl (lv_at hl 1 rfl) ?_
  refine lv_null X.1 X.2.1 dX6_breakUp_1 ?_
  refine W.eq (g2 := F0 m 2 ls [va_rf (none : Option Nat), va_rf x1]) rfl ?_
  refine q_putR (ci := 6) (k := 10) X I rfl inb_TX5 tyX5_ok nmX5 wd_549 (by decide) (Or.inl rfl) qt_250 (Or.inl ⟨_, rfl⟩) dX6_breakUp_2 h (fun S H locs I h => ?_)
  refine q_aload_n X dX6_breakUp_5 rfl (lv_at hl 1 rfl) ?_
  refine lv_null X.1 X.2.1 dX6_breakUp_6 ?_
  refine W.eq (g2 := F0 m 7 ls [va_rf (none : Option Nat), va_rf x1]) rfl ?_
  refine q_putR (ci := 6) (k := 9) X I rfl inb_TX5 tyX5_ok nmX5 wd_547 (by decide) (Or.inl rfl) qt_249 (Or.inl ⟨_, rfl⟩) dX6_breakUp_7 h (fun S H locs I h => ?_)
  refine q_aload_n X dX6_breakUp_10 rfl (lv_at hl 1 rfl) ?_
  refine q_cVv (As := []) (rest := []) (c1 := 0) (s1 := 0) (d := 1) (mc := 0) (ms := 0) X N I hl.1 mX5_endLoan wd_656 dX6_breakUp_11 rfl h (fun b h => kX5_endLoan hl0 h) rfl (Nat.le_of_ble_eq_true rfl) ⟨by decide, by decide⟩ ⟨by decide, by decide⟩ ⟨by decide, by decide⟩ rfl rfl (fun S H locs I h => ?_)
  refine lv_iconst (v := 0) X.1 X.2.1 dX6_breakUp_14 (by decide) ?_
  refine lv_istore_n (i := 2) (lv' := [(2, .int (0 : Int32)), (0, va_rf (some x0)), (1, va_rf x1)]) X.1 X.2.1 dX6_breakUp_15 rfl hl (by decide) (by simp [q_cat, q_catI, q_catJ]) (fun ls hl => ?_)
  obtain ⟨n16, h⟩ := h
  have lp16 : ∀ (n16 : Nat) (x0 : Option Nat) (x1 : Option Nat) (x2 : Int32) (S : qS) (H : Heap) (locs : List Loc) (ls : Array Slot), pX6_breakUp_L16 post xp n16 x0 x1 x2 S → q_H G A s H locs S → lv_has ls 4 [(0, va_rf x0), (1, va_rf x1), (2, .int x2)] → W p l e (q_rm 4 0 0) s m av below meth c H locs 0 0 (vx_MQ below (q_Qv G post A) (q_XC G A xp) av s 0 0 A) (F0 m 16 ls []) := by
    intro n16
    induction n16 with
    | zero => intro x0 x1 x2 S H locs ls h I hl; exact h.elim
    | succ n16 ih16 =>
      intro x0 x1 x2 S H locs ls h I hl
      unfold pX6_breakUp_L16 at h
      refine lv_iload_n X.1 X.2.1 dX6_breakUp_16 rfl (lv_at hl 2 rfl) ?_
      refine q_aload_n X dX6_breakUp_17 rfl (lv_at hl 0 rfl) ?_
      refine q_getR (ci := 7) (k := 0) X I rfl inb_TX6 wd_68 (by decide) qt_280 dX6_breakUp_18 h (fun v18 h => ?_)
      refine q_cVi (As := []) (rest := [.int x2]) (c1 := 0) (s1 := 0) (d := 1) (mc := 0) (ms := 0) X N I hl.1 mJx4a65c_size_8abf5 wd_209 dX6_breakUp_21 rfl h (fun b h => kJx4a65c_size_8abf5 hl0 h) rfl (Nat.le_of_ble_eq_true rfl) ⟨by decide, by decide⟩ ⟨by decide, by decide⟩ ⟨by decide, by decide⟩ rfl rfl (fun v21 S H locs I h => ?_)
      refine lv_icmp_ge (tgt := 58) X.1 X.2.1 dX6_breakUp_24 (by decide) (fun c24 => ?_) (fun c24 => ?_)
      · have h := h.1 c24
        exact q_vret X I hr dX6_breakUp_58 h (by decide) (by decide)
      · have h := h.2 c24
        refine q_aload_n X dX6_breakUp_27 rfl (lv_at hl 0 rfl) ?_
        refine q_getR (ci := 7) (k := 0) X I rfl inb_TX6 wd_68 (by decide) qt_280 dX6_breakUp_28 h (fun v28 h => ?_)
        refine lv_iload_n X.1 X.2.1 dX6_breakUp_31 rfl (lv_at hl 2 rfl) ?_
        refine q_cVr (As := [.int x2]) (rest := []) (c1 := 0) (s1 := 0) (d := 3) (mc := 0) (ms := 0) X N I hl.1 mJx4a65c_get_915e3 wd_214 dX6_breakUp_32 rfl h (fun b h => kJx4a65c_get_915e3 hl0 h) rfl (Nat.le_of_ble_eq_true rfl) ⟨by decide, by decide⟩ ⟨by decide, by decide⟩ ⟨by decide, by decide⟩ rfl rfl (fun v32 S H locs I h => ?_)
        refine q_cast (ci := 6) X I rfl wd_215 dX6_breakUp_35 h (fun h => ?_)
        refine q_astore_n (i := 3) (lv' := [(3, va_rf v32), (0, va_rf x0), (1, va_rf x1), (2, .int x2)]) X dX6_breakUp_38 rfl hl (by decide) rfl (fun ls hl => ?_)
        refine q_aload_n X dX6_breakUp_39 rfl (lv_at hl 0 rfl) ?_
        refine q_getR (ci := 6) (k := 10) X I rfl inb_TX5 wd_549 (by decide) qt_250 dX6_breakUp_40 h (fun v40 h => ?_)
        refine q_aload_n X dX6_breakUp_43 rfl (lv_at hl 2 rfl) ?_
        have jn52 : ∀ (x0 : Option Nat) (x1 : Option Nat) (x2 : Int32) (S : qS) (H : Heap) (locs : List Loc) (ls : Array Slot), pX6_breakUp_J52 (pX6_breakUp_L16 post xp n16) post xp x0 x1 x2 S → q_H G A s H locs S → lv_has ls 4 [(0, va_rf x0), (1, va_rf x1), (2, .int x2)] → W p l e (q_rm 4 0 0) s m av below meth c H locs 0 0 (vx_MQ below (q_Qv G post A) (q_XC G A xp) av s 0 0 A) (F0 m 52 ls []) := by
          intro x0 x1 x2 S H locs ls h I hl
          unfold pX6_breakUp_J52 at h
          refine lv_iinc (v := (x2 + 1)) (lv' := [(2, .int (x2 + 1)), (0, va_rf x0), (1, va_rf x1)]) (k := 2) X.1 X.2.1 dX6_breakUp_52 hl rfl rfl (by decide) (by simp [q_cat, q_catI, q_catJ]) (fun ls hl => ?_)
          refine lv_goto (tgt := 16) X.1 X.2.1 dX6_breakUp_55 (by decide) ?_
          exact ih16 _ _ _ _ _ _ _ h I (lv_sub hl [1, 2, 0] rfl)
        refine lv_acmp_ne (tgt := 52) X.1 X.2.1 dX6_breakUp_44 (by decide) (fun c44 => ?_) (fun c44 => ?_)
        · have h := h.1 c44
          exact jn52 _ _ _ _ _ _ _ h I (lv_sub hl [1, 2, 3] rfl)
        · have h := h.2 c44
          refine q_aload_n X dX6_breakUp_47 rfl (lv_at hl 0 rfl) ?_
          refine lv_null X.1 X.2.1 dX6_breakUp_48 ?_
          refine W.eq (g2 := F0 m 49 ls [va_rf (none : Option Nat), va_rf v32]) rfl ?_
          refine q_putR (ci := 6) (k := 10) X I rfl inb_TX5 tyX5_ok nmX5 wd_549 (by decide) (Or.inl rfl) qt_250 (Or.inl ⟨_, rfl⟩) dX6_breakUp_49 h (fun S H locs I h => ?_)
          exact jn52 _ _ _ _ _ _ _ h I (lv_sub hl [1, 2, 3] rfl)
  exact lp16 n16 _ _ _ _ _ _ _ h I (lv_sub hl [1, 2, 0] rfl)

def pX6_nextDue_J64 (k4 : Option Nat → Int32 → Option Nat → Int32 → qS → Prop) (post : Option Nat → qS → Prop) (xp : String → qS → Prop) (x0 : Option Nat) (x1 : Int32) (x2 : Option Nat) (x3 : Int32) (S : qS) : Prop :=
  k4 x0 x1 x2 (x3 + 1) S
def pX6_nextDue_J61 (k4 : Option Nat → Int32 → Option Nat → Int32 → qS → Prop) (post : Option Nat → qS → Prop) (xp : String → qS → Prop) (x0 : Option Nat) (x1 : Int32) (x3 : Int32) (x4 : Option Nat) (S : qS) : Prop :=
  pX6_nextDue_J64 k4 post xp x0 x1 x4 x3 S
def pX6_nextDue_L4  (post : Option Nat → qS → Prop) (xp : String → qS → Prop) : Nat → Option Nat → Int32 → Option Nat → Int32 → qS → Prop
  | 0, _, _, _, _, _ => False
  | n4 + 1, x0, x1, x2, x3, S =>
  w_getR S x0 7 0 (fun v6 =>
  w_at S v6 0 (fun b9 => pJx4a65c_size_8abf5 b9  S (fun v9 S =>
  ((v9 ≤ x3 →
  post x2 S) ∧ (¬ v9 ≤ x3 →
  w_getR S x0 7 0 (fun v16 =>
  w_at S v16 0 (fun b20 => pJx4a65c_get_915e3 b20 x3 S (fun v20 S =>
  w_cast S v20 6 (
  w_at S v20 6 (fun b30 => pX5_isLent b30  S (fun v30 S =>
  ((v30 = 0 →
  pX6_nextDue_J64 (pX6_nextDue_L4 post xp n4) post xp x0 x1 x2 x3 S) ∧ (¬ v30 = 0 →
  w_getI S v20 6 7 (fun v38 =>
  ((x1 < v38 →
  pX6_nextDue_J64 (pX6_nextDue_L4 post xp n4) post xp x0 x1 x2 x3 S) ∧ (¬ x1 < v38 →
  ((x2 = none →
  pX6_nextDue_J61 (pX6_nextDue_L4 post xp n4) post xp x0 x1 x3 v20 S) ∧ (¬ x2 = none →
  w_getI S v20 6 7 (fun v51 =>
  w_getI S x2 6 7 (fun v55 =>
  ((v55 ≤ v51 →
  pX6_nextDue_J64 (pX6_nextDue_L4 post xp n4) post xp x0 x1 x2 x3 S) ∧ (¬ v55 ≤ v51 →
  pX6_nextDue_J61 (pX6_nextDue_L4 post xp n4) post xp x0 x1 x3 v20 S)))))))))))) xp))) xp))))) xp))
def pX6_nextDue (x0 : Nat) (x1 : Int32) (S : qS) (post : Option Nat → qS → Prop) (xp : String → qS → Prop) : Prop :=
  ∃ n4, pX6_nextDue_L4 post xp n4 (some x0) x1 (none : Option Nat) (0 : Int32) S
set_option maxHeartbeats 4000000 in
set_option maxRecDepth 100000 in
theorem kX6_nextDue {l : Launch} (hl0 : l.stackTraces = false) {G : qG} {S : qS} {sz : Nat} {x0 : Nat} {x1 : Int32} {post : Option Nat → qS → Prop} {xp : String → qS → Prop} (h : pX6_nextDue x0 x1 S post xp) : q_M l yX6_nextDue cX6_nextDue 5 (some (.object "GoodsKeeper$Single")) 4 0 0 G S sz [va_rf (some x0), .int x1] (q_Qr G post) xp := by
  refine q_of (lv := [(0, va_rf (some x0)), (1, .int x1)]) hl0 (by decide) rfl (Nat.le_of_ble_eq_true rfl) (fun p e s m below meth c A ls X N hr hnm I hl => ?_)
  generalize ([va_rf (some x0), .int x1] : List Value).toArray = av at X ⊢
  unfold pX6_nextDue at h
  refine lv_null X.1 X.2.1 dX6_nextDue_0 ?_
  refine W.eq (g2 := F0 m 1 ls [va_rf (none : Option Nat)]) rfl ?_
  refine q_astore_n (i := 2) (lv' := [(2, va_rf (none : Option Nat)), (0, va_rf (some x0)), (1, .int x1)]) X dX6_nextDue_1 rfl hl (by decide) rfl (fun ls hl => ?_)
  refine lv_iconst (v := 0) X.1 X.2.1 dX6_nextDue_2 (by decide) ?_
  refine lv_istore_n (i := 3) (lv' := [(3, .int (0 : Int32)), (2, va_rf (none : Option Nat)), (0, va_rf (some x0)), (1, .int x1)]) X.1 X.2.1 dX6_nextDue_3 rfl hl (by decide) rfl (fun ls hl => ?_)
  obtain ⟨n4, h⟩ := h
  have lp4 : ∀ (n4 : Nat) (x0 : Option Nat) (x1 : Int32) (x2 : Option Nat) (x3 : Int32) (S : qS) (H : Heap) (locs : List Loc) (ls : Array Slot), pX6_nextDue_L4 post xp n4 x0 x1 x2 x3 S → q_H G A s H locs S → lv_has ls 5 [(0, va_rf x0), (1, .int x1), (2, va_rf x2), (3, .int x3)] → W p l e (q_rm 4 0 0) s m av below meth c H locs 0 0 (vx_MQ below (q_Qr G post A) (q_XC G A xp) av s 0 0 A) (F0 m 4 ls []) := by
    intro n4
    induction n4 with
    | zero => intro x0 x1 x2 x3 S H locs ls h I hl; exact h.elim
    | succ n4 ih4 =>
      intro x0 x1 x2 x3 S H locs ls h I hl
      unfold pX6_nextDue_L4 at h
      refine lv_iload_n X.1 X.2.1 dX6_nextDue_4 rfl (lv_at hl 3 rfl) ?_
      refine q_aload_n X dX6_nextDue_5 rfl (lv_at hl 0 rfl) ?_
      refine q_getR (ci := 7) (k := 0) X I rfl inb_TX6 wd_68 (by decide) qt_280 dX6_nextDue_6 h (fun v6 h => ?_)
      refine q_cVi (As := []) (rest := [.int x3]) (c1 := 0) (s1 := 0) (d := 1) (mc := 0) (ms := 0) X N I hl.1 mJx4a65c_size_8abf5 wd_209 dX6_nextDue_9 rfl h (fun b h => kJx4a65c_size_8abf5 hl0 h) rfl (Nat.le_of_ble_eq_true rfl) ⟨by decide, by decide⟩ ⟨by decide, by decide⟩ ⟨by decide, by decide⟩ rfl rfl (fun v9 S H locs I h => ?_)
      refine lv_icmp_ge (tgt := 70) X.1 X.2.1 dX6_nextDue_12 (by decide) (fun c12 => ?_) (fun c12 => ?_)
      · have h := h.1 c12
        refine q_aload_n X dX6_nextDue_70 rfl (lv_at hl 2 rfl) ?_
        exact q_aret X I hr (Or.inl ⟨_, rfl⟩) dX6_nextDue_71 h (by decide) (by decide)
      · have h := h.2 c12
        refine q_aload_n X dX6_nextDue_15 rfl (lv_at hl 0 rfl) ?_
        refine q_getR (ci := 7) (k := 0) X I rfl inb_TX6 wd_68 (by decide) qt_280 dX6_nextDue_16 h (fun v16 h => ?_)
        refine lv_iload_n X.1 X.2.1 dX6_nextDue_19 rfl (lv_at hl 3 rfl) ?_
        refine q_cVr (As := [.int x3]) (rest := []) (c1 := 0) (s1 := 0) (d := 3) (mc := 0) (ms := 0) X N I hl.1 mJx4a65c_get_915e3 wd_214 dX6_nextDue_20 rfl h (fun b h => kJx4a65c_get_915e3 hl0 h) rfl (Nat.le_of_ble_eq_true rfl) ⟨by decide, by decide⟩ ⟨by decide, by decide⟩ ⟨by decide, by decide⟩ rfl rfl (fun v20 S H locs I h => ?_)
        refine q_cast (ci := 6) X I rfl wd_215 dX6_nextDue_23 h (fun h => ?_)
        refine q_astore (i := 4) (lv' := [(4, va_rf v20), (0, va_rf x0), (1, .int x1), (2, va_rf x2), (3, .int x3)]) X dX6_nextDue_26 hl (by decide) rfl (fun ls hl => ?_)
        refine q_aload X dX6_nextDue_28 (lv_at hl 0 rfl) ?_
        refine q_cVi (As := []) (rest := []) (c1 := 0) (s1 := 0) (d := 1) (mc := 0) (ms := 0) X N I hl.1 mX5_isLent wd_224 dX6_nextDue_30 rfl h (fun b h => kX5_isLent hl0 h) rfl (Nat.le_of_ble_eq_true rfl) ⟨by decide, by decide⟩ ⟨by decide, by decide⟩ ⟨by decide, by decide⟩ rfl rfl (fun v30 S H locs I h => ?_)
        have jn64 : ∀ (x0 : Option Nat) (x1 : Int32) (x2 : Option Nat) (x3 : Int32) (S : qS) (H : Heap) (locs : List Loc) (ls : Array Slot), pX6_nextDue_J64 (pX6_nextDue_L4 post xp n4) post xp x0 x1 x2 x3 S → q_H G A s H locs S → lv_has ls 5 [(0, va_rf x0), (1, .int x1), (2, va_rf x2), (3, .int x3)] → W p l e (q_rm 4 0 0) s m av below meth c H locs 0 0 (vx_MQ below (q_Qr G post A) (q_XC G A xp) av s 0 0 A) (F0 m 64 ls []) := by
          intro x0 x1 x2 x3 S H locs ls h I hl
          unfold pX6_nextDue_J64 at h
          refine lv_iinc (v := (x3 + 1)) (lv' := [(3, .int (x3 + 1)), (0, va_rf x0), (1, .int x1), (2, va_rf x2)]) (k := 3) X.1 X.2.1 dX6_nextDue_64 hl rfl rfl (by decide) (by simp [q_cat, q_catI, q_catJ]) (fun ls hl => ?_)
          refine lv_goto (tgt := 4) X.1 X.2.1 dX6_nextDue_67 (by decide) ?_
          exact ih4 _ _ _ _ _ _ _ _ h I (lv_sub hl [1, 2, 3, 0] rfl)
        refine lv_if_eq (tgt := 64) X.1 X.2.1 dX6_nextDue_33 (by decide) (fun c33 => ?_) (fun c33 => ?_)
        · have h := h.1 c33
          exact jn64 _ _ _ _ _ _ _ _ h I (lv_sub hl [1, 2, 3, 4] rfl)
        · have h := h.2 c33
          refine q_aload X dX6_nextDue_36 (lv_at hl 0 rfl) ?_
          refine q_getI (ci := 6) (k := 7) X I rfl inb_TX5 wd_541 (by decide) qt_247 dX6_nextDue_38 h (fun v38 h => ?_)
          refine lv_iload_n X.1 X.2.1 dX6_nextDue_41 rfl (lv_at hl 2 rfl) ?_
          refine lv_icmp_gt (tgt := 64) X.1 X.2.1 dX6_nextDue_42 (by decide) (fun c42 => ?_) (fun c42 => ?_)
          · have h := h.1 c42
            exact jn64 _ _ _ _ _ _ _ _ h I (lv_sub hl [1, 2, 3, 4] rfl)
          · have h := h.2 c42
            refine q_aload_n X dX6_nextDue_45 rfl (lv_at hl 3 rfl) ?_
            have jn61 : ∀ (x0 : Option Nat) (x1 : Int32) (x3 : Int32) (x4 : Option Nat) (S : qS) (H : Heap) (locs : List Loc) (ls : Array Slot), pX6_nextDue_J61 (pX6_nextDue_L4 post xp n4) post xp x0 x1 x3 x4 S → q_H G A s H locs S → lv_has ls 5 [(0, va_rf x0), (1, .int x1), (3, .int x3), (4, va_rf x4)] → W p l e (q_rm 4 0 0) s m av below meth c H locs 0 0 (vx_MQ below (q_Qr G post A) (q_XC G A xp) av s 0 0 A) (F0 m 61 ls []) := by
              intro x0 x1 x3 x4 S H locs ls h I hl
              unfold pX6_nextDue_J61 at h
              refine q_aload X dX6_nextDue_61 (lv_at hl 3 rfl) ?_
              refine q_astore_n (i := 2) (lv' := [(2, va_rf x4), (0, va_rf x0), (1, .int x1), (3, .int x3), (4, va_rf x4)]) X dX6_nextDue_63 rfl hl (by decide) rfl (fun ls hl => ?_)
              exact jn64 _ _ _ _ _ _ _ _ h I (lv_sub hl [1, 2, 0, 3] rfl)
            refine q_ifnull (tgt := 61) X dX6_nextDue_46 (by decide) (fun c46 => ?_) (fun c46 => ?_)
            · have h := h.1 c46
              exact jn61 _ _ _ _ _ _ _ _ h I (lv_sub hl [1, 2, 4, 0] rfl)
            · have h := h.2 c46
              refine q_aload X dX6_nextDue_49 (lv_at hl 0 rfl) ?_
              refine q_getI (ci := 6) (k := 7) X I rfl inb_TX5 wd_541 (by decide) qt_247 dX6_nextDue_51 h (fun v51 h => ?_)
              refine q_aload_n X dX6_nextDue_54 rfl (lv_at hl 3 rfl) ?_
              refine q_getI (ci := 6) (k := 7) X I rfl inb_TX5 wd_541 (by decide) qt_247 dX6_nextDue_55 h (fun v55 h => ?_)
              refine lv_icmp_ge (tgt := 64) X.1 X.2.1 dX6_nextDue_58 (by decide) (fun c58 => ?_) (fun c58 => ?_)
              · have h := h.1 c58
                exact jn64 _ _ _ _ _ _ _ _ h I (lv_sub hl [1, 2, 3, 4] rfl)
              · have h := h.2 c58
                exact jn61 _ _ _ _ _ _ _ _ h I (lv_sub hl [1, 2, 4, 0] rfl)
  exact lp4 n4 _ _ _ _ _ _ _ _ h I (lv_sub hl [2, 3, 1, 0] rfl)

def pX6_bringBack_L2  (post : qS → Prop) (xp : String → qS → Prop) : Nat → Option Nat → Int32 → Int32 → qS → Prop
  | 0, _, _, _, _ => False
  | n2 + 1, x0, x1, x2, S =>
  w_getR S x0 7 0 (fun v4 =>
  w_at S v4 0 (fun b7 => pJx4a65c_size_8abf5 b7  S (fun v7 S =>
  ((v7 ≤ x2 →
  post S) ∧ (¬ v7 ≤ x2 →
  w_at S x0 7 (fun b15 => pX6_nextDue b15 x1 S (fun v15 S =>
  ((¬ v15 = none →
  w_getR S v15 6 8 (fun v25 =>
  w_getI S v15 6 7 (fun v31 =>
  w_putR S v15 6 10 (none : Option Nat) (fun S =>
  w_at S v15 6 (fun b42 => pX5_endLoan b42  S (fun S =>
  w_at S x0 7 (fun b51 => pX6_passOn b51 v15 v25 v31 S (fun S =>
  (pX6_bringBack_L2 post xp n2) x0 x1 (x2 + 1) S) xp)) xp))))) ∧ (v15 = none →
  post S))) xp)))) xp))
def pX6_bringBack (x0 : Nat) (x1 : Int32) (S : qS) (post : qS → Prop) (xp : String → qS → Prop) : Prop :=
  ∃ n2, pX6_bringBack_L2 post xp n2 (some x0) x1 (0 : Int32) S
set_option maxHeartbeats 4000000 in
set_option maxRecDepth 100000 in
theorem kX6_bringBack {l : Launch} (hl0 : l.stackTraces = false) {G : qG} {S : qS} {sz : Nat} {x0 : Nat} {x1 : Int32} {post : qS → Prop} {xp : String → qS → Prop} (h : pX6_bringBack x0 x1 S post xp) : q_M l yX6_bringBack cX6_bringBack 6 none 5 0 0 G S sz [va_rf (some x0), .int x1] (q_Qv G post) xp := by
  refine q_of (lv := [(0, va_rf (some x0)), (1, .int x1)]) hl0 (by decide) rfl (Nat.le_of_ble_eq_true rfl) (fun p e s m below meth c A ls X N hr hnm I hl => ?_)
  generalize ([va_rf (some x0), .int x1] : List Value).toArray = av at X ⊢
  unfold pX6_bringBack at h
  refine lv_iconst (v := 0) X.1 X.2.1 dX6_bringBack_0 (by decide) ?_
  refine lv_istore_n (i := 2) (lv' := [(2, .int (0 : Int32)), (0, va_rf (some x0)), (1, .int x1)]) X.1 X.2.1 dX6_bringBack_1 rfl hl (by decide) rfl (fun ls hl => ?_)
  obtain ⟨n2, h⟩ := h
  have lp2 : ∀ (n2 : Nat) (x0 : Option Nat) (x1 : Int32) (x2 : Int32) (S : qS) (H : Heap) (locs : List Loc) (ls : Array Slot), pX6_bringBack_L2 post xp n2 x0 x1 x2 S → q_H G A s H locs S → lv_has ls 6 [(0, va_rf x0), (1, .int x1), (2, .int x2)] → W p l e (q_rm 5 0 0) s m av below meth c H locs 0 0 (vx_MQ below (q_Qv G post A) (q_XC G A xp) av s 0 0 A) (F0 m 2 ls []) := by
    intro n2
    induction n2 with
    | zero => intro x0 x1 x2 S H locs ls h I hl; exact h.elim
    | succ n2 ih2 =>
      intro x0 x1 x2 S H locs ls h I hl
      unfold pX6_bringBack_L2 at h
      refine lv_iload_n X.1 X.2.1 dX6_bringBack_2 rfl (lv_at hl 2 rfl) ?_
      refine q_aload_n X dX6_bringBack_3 rfl (lv_at hl 0 rfl) ?_
      refine q_getR (ci := 7) (k := 0) X I rfl inb_TX6 wd_68 (by decide) qt_280 dX6_bringBack_4 h (fun v4 h => ?_)
      refine q_cVi (As := []) (rest := [.int x2]) (c1 := 0) (s1 := 0) (d := 1) (mc := 0) (ms := 0) X N I hl.1 mJx4a65c_size_8abf5 wd_209 dX6_bringBack_7 rfl h (fun b h => kJx4a65c_size_8abf5 hl0 h) rfl (Nat.le_of_ble_eq_true rfl) ⟨by decide, by decide⟩ ⟨by decide, by decide⟩ ⟨by decide, by decide⟩ rfl rfl (fun v7 S H locs I h => ?_)
      refine lv_icmp_ge (tgt := 60) X.1 X.2.1 dX6_bringBack_10 (by decide) (fun c10 => ?_) (fun c10 => ?_)
      · have h := h.1 c10
        exact q_vret X I hr dX6_bringBack_60 h (by decide) (by decide)
      · have h := h.2 c10
        refine q_aload_n X dX6_bringBack_13 rfl (lv_at hl 0 rfl) ?_
        refine lv_iload_n X.1 X.2.1 dX6_bringBack_14 rfl (lv_at hl 1 rfl) ?_
        refine q_cVr (As := [.int x1]) (rest := []) (c1 := 0) (s1 := 0) (d := 4) (mc := 0) (ms := 0) X N I hl.1 mX6_nextDue wd_671 dX6_bringBack_15 rfl h (fun b h => kX6_nextDue hl0 h) rfl (Nat.le_of_ble_eq_true rfl) ⟨by decide, by decide⟩ ⟨by decide, by decide⟩ ⟨by decide, by decide⟩ rfl rfl (fun v15 S H locs I h => ?_)
        refine q_astore_n (i := 3) (lv' := [(3, va_rf v15), (0, va_rf x0), (1, .int x1), (2, .int x2)]) X dX6_bringBack_18 rfl hl (by decide) rfl (fun ls hl => ?_)
        refine q_aload_n X dX6_bringBack_19 rfl (lv_at hl 0 rfl) ?_
        refine q_ifnonnull (tgt := 24) X dX6_bringBack_20 (by decide) (fun c20 => ?_) (fun c20 => ?_)
        · have h := h.1 c20
          refine q_aload_n X dX6_bringBack_24 rfl (lv_at hl 0 rfl) ?_
          refine q_getR (ci := 6) (k := 8) X I rfl inb_TX5 wd_544 (by decide) qt_248 dX6_bringBack_25 h (fun v25 h => ?_)
          refine q_astore (i := 4) (lv' := [(4, va_rf v25), (3, va_rf v15), (0, va_rf x0), (1, .int x1), (2, .int x2)]) X dX6_bringBack_28 hl (by decide) (by simp [q_cat, q_catI, q_catJ]) (fun ls hl => ?_)
          refine q_aload_n X dX6_bringBack_30 rfl (lv_at hl 1 rfl) ?_
          refine q_getI (ci := 6) (k := 7) X I rfl inb_TX5 wd_541 (by decide) qt_247 dX6_bringBack_31 h (fun v31 h => ?_)
          refine lv_istore (i := 5) (lv' := [(5, .int v31), (4, va_rf v25), (3, va_rf v15), (0, va_rf x0), (1, .int x1), (2, .int x2)]) X.1 X.2.1 dX6_bringBack_34 hl (by decide) (by simp [q_cat, q_catI, q_catJ]) (fun ls hl => ?_)
          refine q_aload_n X dX6_bringBack_36 rfl (lv_at hl 2 rfl) ?_
          refine lv_null X.1 X.2.1 dX6_bringBack_37 ?_
          refine W.eq (g2 := F0 m 38 ls [va_rf (none : Option Nat), va_rf v15]) rfl ?_
          refine q_putR (ci := 6) (k := 10) X I rfl inb_TX5 tyX5_ok nmX5 wd_549 (by decide) (Or.inl rfl) qt_250 (Or.inl ⟨_, rfl⟩) dX6_bringBack_38 h (fun S H locs I h => ?_)
          refine q_aload_n X dX6_bringBack_41 rfl (lv_at hl 2 rfl) ?_
          refine q_cVv (As := []) (rest := []) (c1 := 0) (s1 := 0) (d := 1) (mc := 0) (ms := 0) X N I hl.1 mX5_endLoan wd_656 dX6_bringBack_42 rfl h (fun b h => kX5_endLoan hl0 h) rfl (Nat.le_of_ble_eq_true rfl) ⟨by decide, by decide⟩ ⟨by decide, by decide⟩ ⟨by decide, by decide⟩ rfl rfl (fun S H locs I h => ?_)
          refine q_aload_n X dX6_bringBack_45 rfl (lv_at hl 3 rfl) ?_
          refine q_aload_n X dX6_bringBack_46 rfl (lv_at hl 2 rfl) ?_
          refine q_aload X dX6_bringBack_47 (lv_at hl 1 rfl) ?_
          refine lv_iload X.1 X.2.1 dX6_bringBack_49 (lv_at hl 0 rfl) ?_
          refine q_cVv (As := [va_rf v15, va_rf v25, .int v31]) (rest := []) (c1 := 0) (s1 := 0) (d := 4) (mc := 0) (ms := 0) X N I hl.1 mX6_passOn wd_675 dX6_bringBack_51 rfl h (fun b h => kX6_passOn hl0 h) rfl (Nat.le_of_ble_eq_true rfl) ⟨by decide, by decide⟩ ⟨by decide, by decide⟩ ⟨by decide, by decide⟩ rfl rfl (fun S H locs I h => ?_)
          refine lv_iinc (v := (x2 + 1)) (lv' := [(2, .int (x2 + 1)), (5, .int v31), (4, va_rf v25), (3, va_rf v15), (0, va_rf x0), (1, .int x1)]) (k := 5) X.1 X.2.1 dX6_bringBack_54 hl rfl rfl (by decide) rfl (fun ls hl => ?_)
          refine lv_goto (tgt := 2) X.1 X.2.1 dX6_bringBack_57 (by decide) ?_
          exact ih2 _ _ _ _ _ _ _ h I (lv_sub hl [4, 5, 0] rfl)
        · have h := h.2 c20
          exact q_vret X I hr dX6_bringBack_23 h (by decide) (by decide)
  exact lp2 n2 _ _ _ _ _ _ _ h I (lv_sub hl [1, 2, 0] rfl)

def pX6_allWithin_J36 (k4 : Option Nat → Option Nat → Int32 → Int32 → qS → Prop) (post : Int32 → qS → Prop) (xp : String → qS → Prop) (x0 : Option Nat) (x1 : Option Nat) (x2 : Int32) (x3 : Int32) (S : qS) : Prop :=
  k4 x0 x1 x2 (x3 + 1) S
def pX6_allWithin_L4  (post : Int32 → qS → Prop) (xp : String → qS → Prop) : Nat → Option Nat → Option Nat → Int32 → Int32 → qS → Prop
  | 0, _, _, _, _, _ => False
  | n4 + 1, x0, x1, x2, x3, S =>
  w_getR S x0 7 0 (fun v6 =>
  w_at S v6 0 (fun b9 => pJx4a65c_size_8abf5 b9  S (fun v9 S =>
  ((v9 ≤ x3 →
  post x2 S) ∧ (¬ v9 ≤ x3 →
  w_getR S x0 7 0 (fun v16 =>
  w_at S v16 0 (fun b20 => pJx4a65c_get_915e3 b20 x3 S (fun v20 S =>
  w_cast S v20 6 (
  w_at S v20 6 (fun b27 => pX5_liesWithin b27 x1 S (fun v27 S =>
  ((v27 = 0 →
  pX6_allWithin_J36 (pX6_allWithin_L4 post xp n4) post xp x0 x1 x2 x3 S) ∧ (¬ v27 = 0 →
  pX6_allWithin_J36 (pX6_allWithin_L4 post xp n4) post xp x0 x1 (x2 + 1) x3 S))) xp))) xp))))) xp))
def pX6_allWithin (x0 : Nat) (x1 : Option Nat) (S : qS) (post : Int32 → qS → Prop) (xp : String → qS → Prop) : Prop :=
  ∃ n4, pX6_allWithin_L4 post xp n4 (some x0) x1 (0 : Int32) (0 : Int32) S
set_option maxHeartbeats 4000000 in
set_option maxRecDepth 100000 in
theorem kX6_allWithin {l : Launch} (hl0 : l.stackTraces = false) {G : qG} {S : qS} {sz : Nat} {x0 : Nat} {x1 : Option Nat} {post : Int32 → qS → Prop} {xp : String → qS → Prop} (h : pX6_allWithin x0 x1 S post xp) : q_M l yX6_allWithin cX6_allWithin 4 (some .int) 4 0 0 G S sz [va_rf (some x0), va_rf x1] (q_Qi G post) xp := by
  refine q_of (lv := [(0, va_rf (some x0)), (1, va_rf x1)]) hl0 (by decide) (by cases x1 <;> rfl) (by cases x1 <;> exact Nat.le_of_ble_eq_true rfl) (fun p e s m below meth c A ls X N hr hnm I hl => ?_)
  generalize ([va_rf (some x0), va_rf x1] : List Value).toArray = av at X ⊢
  unfold pX6_allWithin at h
  refine lv_iconst (v := 0) X.1 X.2.1 dX6_allWithin_0 (by decide) ?_
  refine lv_istore_n (i := 2) (lv' := [(2, .int (0 : Int32)), (0, va_rf (some x0)), (1, va_rf x1)]) X.1 X.2.1 dX6_allWithin_1 rfl hl (by decide) (by simp [q_cat, q_catI, q_catJ]) (fun ls hl => ?_)
  refine lv_iconst (v := 0) X.1 X.2.1 dX6_allWithin_2 (by decide) ?_
  refine lv_istore_n (i := 3) (lv' := [(3, .int (0 : Int32)), (2, .int (0 : Int32)), (0, va_rf (some x0)), (1, va_rf x1)]) X.1 X.2.1 dX6_allWithin_3 rfl hl (by decide) rfl (fun ls hl => ?_)
  obtain ⟨n4, h⟩ := h
  have lp4 : ∀ (n4 : Nat) (x0 : Option Nat) (x1 : Option Nat) (x2 : Int32) (x3 : Int32) (S : qS) (H : Heap) (locs : List Loc) (ls : Array Slot), pX6_allWithin_L4 post xp n4 x0 x1 x2 x3 S → q_H G A s H locs S → lv_has ls 4 [(0, va_rf x0), (1, va_rf x1), (2, .int x2), (3, .int x3)] → W p l e (q_rm 4 0 0) s m av below meth c H locs 0 0 (vx_MQ below (q_Qi G post A) (q_XC G A xp) av s 0 0 A) (F0 m 4 ls []) := by
    intro n4
    induction n4 with
    | zero => intro x0 x1 x2 x3 S H locs ls h I hl; exact h.elim
    | succ n4 ih4 =>
      intro x0 x1 x2 x3 S H locs ls h I hl
      unfold pX6_allWithin_L4 at h
      refine lv_iload_n X.1 X.2.1 dX6_allWithin_4 rfl (lv_at hl 3 rfl) ?_
      refine q_aload_n X dX6_allWithin_5 rfl (lv_at hl 0 rfl) ?_
      refine q_getR (ci := 7) (k := 0) X I rfl inb_TX6 wd_68 (by decide) qt_280 dX6_allWithin_6 h (fun v6 h => ?_)
      refine q_cVi (As := []) (rest := [.int x3]) (c1 := 0) (s1 := 0) (d := 1) (mc := 0) (ms := 0) X N I hl.1 mJx4a65c_size_8abf5 wd_209 dX6_allWithin_9 rfl h (fun b h => kJx4a65c_size_8abf5 hl0 h) rfl (Nat.le_of_ble_eq_true rfl) ⟨by decide, by decide⟩ ⟨by decide, by decide⟩ ⟨by decide, by decide⟩ rfl rfl (fun v9 S H locs I h => ?_)
      refine lv_icmp_ge (tgt := 42) X.1 X.2.1 dX6_allWithin_12 (by decide) (fun c12 => ?_) (fun c12 => ?_)
      · have h := h.1 c12
        refine lv_iload_n X.1 X.2.1 dX6_allWithin_42 rfl (lv_at hl 2 rfl) ?_
        exact q_iret X I hr dX6_allWithin_43 h (by decide) (by decide)
      · have h := h.2 c12
        refine q_aload_n X dX6_allWithin_15 rfl (lv_at hl 0 rfl) ?_
        refine q_getR (ci := 7) (k := 0) X I rfl inb_TX6 wd_68 (by decide) qt_280 dX6_allWithin_16 h (fun v16 h => ?_)
        refine lv_iload_n X.1 X.2.1 dX6_allWithin_19 rfl (lv_at hl 3 rfl) ?_
        refine q_cVr (As := [.int x3]) (rest := []) (c1 := 0) (s1 := 0) (d := 3) (mc := 0) (ms := 0) X N I hl.1 mJx4a65c_get_915e3 wd_214 dX6_allWithin_20 rfl h (fun b h => kJx4a65c_get_915e3 hl0 h) rfl (Nat.le_of_ble_eq_true rfl) ⟨by decide, by decide⟩ ⟨by decide, by decide⟩ ⟨by decide, by decide⟩ rfl rfl (fun v20 S H locs I h => ?_)
        refine q_cast (ci := 6) X I rfl wd_215 dX6_allWithin_23 h (fun h => ?_)
        refine q_aload_n X dX6_allWithin_26 rfl (lv_at hl 1 rfl) ?_
        refine q_cVi (As := [va_rf x1]) (rest := []) (c1 := 0) (s1 := 0) (d := 1) (mc := 0) (ms := 0) X N I hl.1 mX5_liesWithin wd_602 dX6_allWithin_27 rfl h (fun b h => kX5_liesWithin hl0 h) rfl (Nat.le_of_ble_eq_true rfl) ⟨by decide, by decide⟩ ⟨by decide, by decide⟩ ⟨by decide, by decide⟩ rfl rfl (fun v27 S H locs I h => ?_)
        have jn36 : ∀ (x0 : Option Nat) (x1 : Option Nat) (x2 : Int32) (x3 : Int32) (S : qS) (H : Heap) (locs : List Loc) (ls : Array Slot), pX6_allWithin_J36 (pX6_allWithin_L4 post xp n4) post xp x0 x1 x2 x3 S → q_H G A s H locs S → lv_has ls 4 [(0, va_rf x0), (1, va_rf x1), (2, .int x2), (3, .int x3)] → W p l e (q_rm 4 0 0) s m av below meth c H locs 0 0 (vx_MQ below (q_Qi G post A) (q_XC G A xp) av s 0 0 A) (F0 m 36 ls []) := by
          intro x0 x1 x2 x3 S H locs ls h I hl
          unfold pX6_allWithin_J36 at h
          refine lv_iinc (v := (x3 + 1)) (lv' := [(3, .int (x3 + 1)), (0, va_rf x0), (1, va_rf x1), (2, .int x2)]) (k := 3) X.1 X.2.1 dX6_allWithin_36 hl rfl rfl (by decide) rfl (fun ls hl => ?_)
          refine lv_goto (tgt := 4) X.1 X.2.1 dX6_allWithin_39 (by decide) ?_
          exact ih4 _ _ _ _ _ _ _ _ h I (lv_sub hl [1, 2, 3, 0] rfl)
        refine lv_if_eq (tgt := 36) X.1 X.2.1 dX6_allWithin_30 (by decide) (fun c30 => ?_) (fun c30 => ?_)
        · have h := h.1 c30
          exact jn36 _ _ _ _ _ _ _ _ h I (lv_sub hl [0, 1, 2, 3] rfl)
        · have h := h.2 c30
          refine lv_iinc (v := (x2 + 1)) (lv' := [(2, .int (x2 + 1)), (0, va_rf x0), (1, va_rf x1), (3, .int x3)]) (k := 2) X.1 X.2.1 dX6_allWithin_33 hl rfl rfl (by decide) (by simp [q_cat, q_catI, q_catJ]) (fun ls hl => ?_)
          exact jn36 _ _ _ _ _ _ _ _ h I (lv_sub hl [1, 2, 0, 3] rfl)
  exact lp4 n4 _ _ _ _ _ _ _ _ h I (lv_sub hl [2, 3, 1, 0] rfl)

def pX6_countBroken_J35 (k4 : Option Nat → Int32 → Int32 → qS → Prop) (post : Int32 → qS → Prop) (xp : String → qS → Prop) (x0 : Option Nat) (x1 : Int32) (x2 : Int32) (S : qS) : Prop :=
  k4 x0 x1 (x2 + 1) S
def pX6_countBroken_L4  (post : Int32 → qS → Prop) (xp : String → qS → Prop) : Nat → Option Nat → Int32 → Int32 → qS → Prop
  | 0, _, _, _, _ => False
  | n4 + 1, x0, x1, x2, S =>
  w_getR S x0 7 0 (fun v6 =>
  w_at S v6 0 (fun b9 => pJx4a65c_size_8abf5 b9  S (fun v9 S =>
  ((v9 ≤ x2 →
  post x1 S) ∧ (¬ v9 ≤ x2 →
  w_getR S x0 7 0 (fun v16 =>
  w_at S v16 0 (fun b20 => pJx4a65c_get_915e3 b20 x2 S (fun v20 S =>
  w_cast S v20 6 (
  w_at S v20 6 (fun b26 => pX5_isBroken b26  S (fun v26 S =>
  ((v26 = 0 →
  pX6_countBroken_J35 (pX6_countBroken_L4 post xp n4) post xp x0 x1 x2 S) ∧ (¬ v26 = 0 →
  pX6_countBroken_J35 (pX6_countBroken_L4 post xp n4) post xp x0 (x1 + 1) x2 S))) xp))) xp))))) xp))
def pX6_countBroken (x0 : Nat) (S : qS) (post : Int32 → qS → Prop) (xp : String → qS → Prop) : Prop :=
  ∃ n4, pX6_countBroken_L4 post xp n4 (some x0) (0 : Int32) (0 : Int32) S
set_option maxHeartbeats 4000000 in
set_option maxRecDepth 100000 in
theorem kX6_countBroken {l : Launch} (hl0 : l.stackTraces = false) {G : qG} {S : qS} {sz : Nat} {x0 : Nat} {post : Int32 → qS → Prop} {xp : String → qS → Prop} (h : pX6_countBroken x0 S post xp) : q_M l yX6_countBroken cX6_countBroken 3 (some .int) 4 0 0 G S sz [va_rf (some x0)] (q_Qi G post) xp := by
  refine q_of (lv := [(0, va_rf (some x0))]) hl0 (by decide) rfl (Nat.le_of_ble_eq_true rfl) (fun p e s m below meth c A ls X N hr hnm I hl => ?_)
  generalize ([va_rf (some x0)] : List Value).toArray = av at X ⊢
  unfold pX6_countBroken at h
  refine lv_iconst (v := 0) X.1 X.2.1 dX6_countBroken_0 (by decide) ?_
  refine lv_istore_n (i := 1) (lv' := [(1, .int (0 : Int32)), (0, va_rf (some x0))]) X.1 X.2.1 dX6_countBroken_1 rfl hl (by decide) rfl (fun ls hl => ?_)
  refine lv_iconst (v := 0) X.1 X.2.1 dX6_countBroken_2 (by decide) ?_
  refine lv_istore_n (i := 2) (lv' := [(2, .int (0 : Int32)), (1, .int (0 : Int32)), (0, va_rf (some x0))]) X.1 X.2.1 dX6_countBroken_3 rfl hl (by decide) rfl (fun ls hl => ?_)
  obtain ⟨n4, h⟩ := h
  have lp4 : ∀ (n4 : Nat) (x0 : Option Nat) (x1 : Int32) (x2 : Int32) (S : qS) (H : Heap) (locs : List Loc) (ls : Array Slot), pX6_countBroken_L4 post xp n4 x0 x1 x2 S → q_H G A s H locs S → lv_has ls 3 [(0, va_rf x0), (1, .int x1), (2, .int x2)] → W p l e (q_rm 4 0 0) s m av below meth c H locs 0 0 (vx_MQ below (q_Qi G post A) (q_XC G A xp) av s 0 0 A) (F0 m 4 ls []) := by
    intro n4
    induction n4 with
    | zero => intro x0 x1 x2 S H locs ls h I hl; exact h.elim
    | succ n4 ih4 =>
      intro x0 x1 x2 S H locs ls h I hl
      unfold pX6_countBroken_L4 at h
      refine lv_iload_n X.1 X.2.1 dX6_countBroken_4 rfl (lv_at hl 2 rfl) ?_
      refine q_aload_n X dX6_countBroken_5 rfl (lv_at hl 0 rfl) ?_
      refine q_getR (ci := 7) (k := 0) X I rfl inb_TX6 wd_68 (by decide) qt_280 dX6_countBroken_6 h (fun v6 h => ?_)
      refine q_cVi (As := []) (rest := [.int x2]) (c1 := 0) (s1 := 0) (d := 1) (mc := 0) (ms := 0) X N I hl.1 mJx4a65c_size_8abf5 wd_209 dX6_countBroken_9 rfl h (fun b h => kJx4a65c_size_8abf5 hl0 h) rfl (Nat.le_of_ble_eq_true rfl) ⟨by decide, by decide⟩ ⟨by decide, by decide⟩ ⟨by decide, by decide⟩ rfl rfl (fun v9 S H locs I h => ?_)
      refine lv_icmp_ge (tgt := 41) X.1 X.2.1 dX6_countBroken_12 (by decide) (fun c12 => ?_) (fun c12 => ?_)
      · have h := h.1 c12
        refine lv_iload_n X.1 X.2.1 dX6_countBroken_41 rfl (lv_at hl 1 rfl) ?_
        exact q_iret X I hr dX6_countBroken_42 h (by decide) (by decide)
      · have h := h.2 c12
        refine q_aload_n X dX6_countBroken_15 rfl (lv_at hl 0 rfl) ?_
        refine q_getR (ci := 7) (k := 0) X I rfl inb_TX6 wd_68 (by decide) qt_280 dX6_countBroken_16 h (fun v16 h => ?_)
        refine lv_iload_n X.1 X.2.1 dX6_countBroken_19 rfl (lv_at hl 2 rfl) ?_
        refine q_cVr (As := [.int x2]) (rest := []) (c1 := 0) (s1 := 0) (d := 3) (mc := 0) (ms := 0) X N I hl.1 mJx4a65c_get_915e3 wd_214 dX6_countBroken_20 rfl h (fun b h => kJx4a65c_get_915e3 hl0 h) rfl (Nat.le_of_ble_eq_true rfl) ⟨by decide, by decide⟩ ⟨by decide, by decide⟩ ⟨by decide, by decide⟩ rfl rfl (fun v20 S H locs I h => ?_)
        refine q_cast (ci := 6) X I rfl wd_215 dX6_countBroken_23 h (fun h => ?_)
        refine q_cVi (As := []) (rest := []) (c1 := 0) (s1 := 0) (d := 1) (mc := 0) (ms := 0) X N I hl.1 mX5_isBroken wd_216 dX6_countBroken_26 rfl h (fun b h => kX5_isBroken hl0 h) rfl (Nat.le_of_ble_eq_true rfl) ⟨by decide, by decide⟩ ⟨by decide, by decide⟩ ⟨by decide, by decide⟩ rfl rfl (fun v26 S H locs I h => ?_)
        have jn35 : ∀ (x0 : Option Nat) (x1 : Int32) (x2 : Int32) (S : qS) (H : Heap) (locs : List Loc) (ls : Array Slot), pX6_countBroken_J35 (pX6_countBroken_L4 post xp n4) post xp x0 x1 x2 S → q_H G A s H locs S → lv_has ls 3 [(0, va_rf x0), (1, .int x1), (2, .int x2)] → W p l e (q_rm 4 0 0) s m av below meth c H locs 0 0 (vx_MQ below (q_Qi G post A) (q_XC G A xp) av s 0 0 A) (F0 m 35 ls []) := by
          intro x0 x1 x2 S H locs ls h I hl
          unfold pX6_countBroken_J35 at h
          refine lv_iinc (v := (x2 + 1)) (lv' := [(2, .int (x2 + 1)), (0, va_rf x0), (1, .int x1)]) (k := 2) X.1 X.2.1 dX6_countBroken_35 hl rfl rfl (by decide) rfl (fun ls hl => ?_)
          refine lv_goto (tgt := 4) X.1 X.2.1 dX6_countBroken_38 (by decide) ?_
          exact ih4 _ _ _ _ _ _ _ h I (lv_sub hl [1, 2, 0] rfl)
        refine lv_if_eq (tgt := 35) X.1 X.2.1 dX6_countBroken_29 (by decide) (fun c29 => ?_) (fun c29 => ?_)
        · have h := h.1 c29
          exact jn35 _ _ _ _ _ _ _ h I (lv_sub hl [0, 1, 2] rfl)
        · have h := h.2 c29
          refine lv_iinc (v := (x1 + 1)) (lv' := [(1, .int (x1 + 1)), (0, va_rf x0), (2, .int x2)]) (k := 1) X.1 X.2.1 dX6_countBroken_32 hl rfl rfl (by decide) (by simp [q_cat, q_catI, q_catJ]) (fun ls hl => ?_)
          exact jn35 _ _ _ _ _ _ _ h I (lv_sub hl [1, 0, 2] rfl)
  exact lp4 n4 _ _ _ _ _ _ _ h I (lv_sub hl [2, 1, 0] rfl)

def pX6_countLent_J35 (k4 : Option Nat → Int32 → Int32 → qS → Prop) (post : Int32 → qS → Prop) (xp : String → qS → Prop) (x0 : Option Nat) (x1 : Int32) (x2 : Int32) (S : qS) : Prop :=
  k4 x0 x1 (x2 + 1) S
def pX6_countLent_L4  (post : Int32 → qS → Prop) (xp : String → qS → Prop) : Nat → Option Nat → Int32 → Int32 → qS → Prop
  | 0, _, _, _, _ => False
  | n4 + 1, x0, x1, x2, S =>
  w_getR S x0 7 0 (fun v6 =>
  w_at S v6 0 (fun b9 => pJx4a65c_size_8abf5 b9  S (fun v9 S =>
  ((v9 ≤ x2 →
  post x1 S) ∧ (¬ v9 ≤ x2 →
  w_getR S x0 7 0 (fun v16 =>
  w_at S v16 0 (fun b20 => pJx4a65c_get_915e3 b20 x2 S (fun v20 S =>
  w_cast S v20 6 (
  w_at S v20 6 (fun b26 => pX5_isLent b26  S (fun v26 S =>
  ((v26 = 0 →
  pX6_countLent_J35 (pX6_countLent_L4 post xp n4) post xp x0 x1 x2 S) ∧ (¬ v26 = 0 →
  pX6_countLent_J35 (pX6_countLent_L4 post xp n4) post xp x0 (x1 + 1) x2 S))) xp))) xp))))) xp))
def pX6_countLent (x0 : Nat) (S : qS) (post : Int32 → qS → Prop) (xp : String → qS → Prop) : Prop :=
  ∃ n4, pX6_countLent_L4 post xp n4 (some x0) (0 : Int32) (0 : Int32) S
set_option maxHeartbeats 4000000 in
set_option maxRecDepth 100000 in
theorem kX6_countLent {l : Launch} (hl0 : l.stackTraces = false) {G : qG} {S : qS} {sz : Nat} {x0 : Nat} {post : Int32 → qS → Prop} {xp : String → qS → Prop} (h : pX6_countLent x0 S post xp) : q_M l yX6_countLent cX6_countLent 3 (some .int) 4 0 0 G S sz [va_rf (some x0)] (q_Qi G post) xp := by
  refine q_of (lv := [(0, va_rf (some x0))]) hl0 (by decide) rfl (Nat.le_of_ble_eq_true rfl) (fun p e s m below meth c A ls X N hr hnm I hl => ?_)
  generalize ([va_rf (some x0)] : List Value).toArray = av at X ⊢
  unfold pX6_countLent at h
  refine lv_iconst (v := 0) X.1 X.2.1 dX6_countLent_0 (by decide) ?_
  refine lv_istore_n (i := 1) (lv' := [(1, .int (0 : Int32)), (0, va_rf (some x0))]) X.1 X.2.1 dX6_countLent_1 rfl hl (by decide) rfl (fun ls hl => ?_)
  refine lv_iconst (v := 0) X.1 X.2.1 dX6_countLent_2 (by decide) ?_
  refine lv_istore_n (i := 2) (lv' := [(2, .int (0 : Int32)), (1, .int (0 : Int32)), (0, va_rf (some x0))]) X.1 X.2.1 dX6_countLent_3 rfl hl (by decide) rfl (fun ls hl => ?_)
  obtain ⟨n4, h⟩ := h
  have lp4 : ∀ (n4 : Nat) (x0 : Option Nat) (x1 : Int32) (x2 : Int32) (S : qS) (H : Heap) (locs : List Loc) (ls : Array Slot), pX6_countLent_L4 post xp n4 x0 x1 x2 S → q_H G A s H locs S → lv_has ls 3 [(0, va_rf x0), (1, .int x1), (2, .int x2)] → W p l e (q_rm 4 0 0) s m av below meth c H locs 0 0 (vx_MQ below (q_Qi G post A) (q_XC G A xp) av s 0 0 A) (F0 m 4 ls []) := by
    intro n4
    induction n4 with
    | zero => intro x0 x1 x2 S H locs ls h I hl; exact h.elim
    | succ n4 ih4 =>
      intro x0 x1 x2 S H locs ls h I hl
      unfold pX6_countLent_L4 at h
      refine lv_iload_n X.1 X.2.1 dX6_countLent_4 rfl (lv_at hl 2 rfl) ?_
      refine q_aload_n X dX6_countLent_5 rfl (lv_at hl 0 rfl) ?_
      refine q_getR (ci := 7) (k := 0) X I rfl inb_TX6 wd_68 (by decide) qt_280 dX6_countLent_6 h (fun v6 h => ?_)
      refine q_cVi (As := []) (rest := [.int x2]) (c1 := 0) (s1 := 0) (d := 1) (mc := 0) (ms := 0) X N I hl.1 mJx4a65c_size_8abf5 wd_209 dX6_countLent_9 rfl h (fun b h => kJx4a65c_size_8abf5 hl0 h) rfl (Nat.le_of_ble_eq_true rfl) ⟨by decide, by decide⟩ ⟨by decide, by decide⟩ ⟨by decide, by decide⟩ rfl rfl (fun v9 S H locs I h => ?_)
      refine lv_icmp_ge (tgt := 41) X.1 X.2.1 dX6_countLent_12 (by decide) (fun c12 => ?_) (fun c12 => ?_)
      · have h := h.1 c12
        refine lv_iload_n X.1 X.2.1 dX6_countLent_41 rfl (lv_at hl 1 rfl) ?_
        exact q_iret X I hr dX6_countLent_42 h (by decide) (by decide)
      · have h := h.2 c12
        refine q_aload_n X dX6_countLent_15 rfl (lv_at hl 0 rfl) ?_
        refine q_getR (ci := 7) (k := 0) X I rfl inb_TX6 wd_68 (by decide) qt_280 dX6_countLent_16 h (fun v16 h => ?_)
        refine lv_iload_n X.1 X.2.1 dX6_countLent_19 rfl (lv_at hl 2 rfl) ?_
        refine q_cVr (As := [.int x2]) (rest := []) (c1 := 0) (s1 := 0) (d := 3) (mc := 0) (ms := 0) X N I hl.1 mJx4a65c_get_915e3 wd_214 dX6_countLent_20 rfl h (fun b h => kJx4a65c_get_915e3 hl0 h) rfl (Nat.le_of_ble_eq_true rfl) ⟨by decide, by decide⟩ ⟨by decide, by decide⟩ ⟨by decide, by decide⟩ rfl rfl (fun v20 S H locs I h => ?_)
        refine q_cast (ci := 6) X I rfl wd_215 dX6_countLent_23 h (fun h => ?_)
        refine q_cVi (As := []) (rest := []) (c1 := 0) (s1 := 0) (d := 1) (mc := 0) (ms := 0) X N I hl.1 mX5_isLent wd_224 dX6_countLent_26 rfl h (fun b h => kX5_isLent hl0 h) rfl (Nat.le_of_ble_eq_true rfl) ⟨by decide, by decide⟩ ⟨by decide, by decide⟩ ⟨by decide, by decide⟩ rfl rfl (fun v26 S H locs I h => ?_)
        have jn35 : ∀ (x0 : Option Nat) (x1 : Int32) (x2 : Int32) (S : qS) (H : Heap) (locs : List Loc) (ls : Array Slot), pX6_countLent_J35 (pX6_countLent_L4 post xp n4) post xp x0 x1 x2 S → q_H G A s H locs S → lv_has ls 3 [(0, va_rf x0), (1, .int x1), (2, .int x2)] → W p l e (q_rm 4 0 0) s m av below meth c H locs 0 0 (vx_MQ below (q_Qi G post A) (q_XC G A xp) av s 0 0 A) (F0 m 35 ls []) := by
          intro x0 x1 x2 S H locs ls h I hl
          unfold pX6_countLent_J35 at h
          refine lv_iinc (v := (x2 + 1)) (lv' := [(2, .int (x2 + 1)), (0, va_rf x0), (1, .int x1)]) (k := 2) X.1 X.2.1 dX6_countLent_35 hl rfl rfl (by decide) rfl (fun ls hl => ?_)
          refine lv_goto (tgt := 4) X.1 X.2.1 dX6_countLent_38 (by decide) ?_
          exact ih4 _ _ _ _ _ _ _ h I (lv_sub hl [1, 2, 0] rfl)
        refine lv_if_eq (tgt := 35) X.1 X.2.1 dX6_countLent_29 (by decide) (fun c29 => ?_) (fun c29 => ?_)
        · have h := h.1 c29
          exact jn35 _ _ _ _ _ _ _ h I (lv_sub hl [0, 1, 2] rfl)
        · have h := h.2 c29
          refine lv_iinc (v := (x1 + 1)) (lv' := [(1, .int (x1 + 1)), (0, va_rf x0), (2, .int x2)]) (k := 1) X.1 X.2.1 dX6_countLent_32 hl rfl rfl (by decide) (by simp [q_cat, q_catI, q_catJ]) (fun ls hl => ?_)
          exact jn35 _ _ _ _ _ _ _ h I (lv_sub hl [1, 0, 2] rfl)
  exact lp4 n4 _ _ _ _ _ _ _ h I (lv_sub hl [2, 1, 0] rfl)
