def pX8_thrown (x0 : Nat) (S : qS) (post : Int32 → qS → Prop) (xp : String → qS → Prop) : Prop :=
  w_getI S (some x0) 9 0 (fun v1 =>
  post v1 S)
set_option maxHeartbeats 4000000 in
set_option maxRecDepth 100000 in
theorem kX8_thrown {l : Launch} (hl0 : l.stackTraces = false) {G : qG} {S : qS} {sz : Nat} {x0 : Nat} {post : Int32 → qS → Prop} {xp : String → qS → Prop} (h : pX8_thrown x0 S post xp) : q_M l yX8_thrown cX8_thrown 1 (some .int) 1 0 0 G S sz [va_rf (some x0)] (q_Qi G post) xp := by
  refine q_of (lv := [(0, va_rf (some x0))]) hl0 (by decide) rfl (Nat.le_of_ble_eq_true rfl) (fun p e s m below meth c A ls X N hr hnm I hl => ?_)
  generalize ([va_rf (some x0)] : List Value).toArray = av at X ⊢
  unfold pX8_thrown at h
  refine q_aload_n X dX8_thrown_0 rfl (lv_at hl 0 rfl) ?_
  refine q_getI (ci := 9) (k := 0) X I rfl inb_TX8 wd_838 (by decide) qt_360 dX8_thrown_1 h (fun v1 h => ?_)
  exact q_iret X I hr dX8_thrown_4 h (by decide) (by decide)

def pX8_throwsIf_J9  (post : Int32 → qS → Prop) (xp : String → qS → Prop) (x1 : Int32) (S : qS) : Prop :=
  ((x1 = 0 ∨ x1 = 1) ∧ post x1 S)
def pX8_throwsIf (x0 : Nat) (x1 : Int32) (x2 : Int32) (S : qS) (post : Int32 → qS → Prop) (xp : String → qS → Prop) : Prop :=
  ((x1 = 0 →
  pX8_throwsIf_J9 post xp x1 S) ∧ (¬ x1 = 0 →
  w_putI S (some x0) 9 0 x2 (fun S =>
  pX8_throwsIf_J9 post xp x1 S)))
set_option maxHeartbeats 4000000 in
set_option maxRecDepth 100000 in
theorem kX8_throwsIf {l : Launch} (hl0 : l.stackTraces = false) {G : qG} {S : qS} {sz : Nat} {x0 : Nat} {x1 : Int32} {x2 : Int32} {post : Int32 → qS → Prop} {xp : String → qS → Prop} (h : pX8_throwsIf x0 x1 x2 S post xp) : q_M l yX8_throwsIf cX8_throwsIf 3 (some .boolean) 1 0 0 G S sz [va_rf (some x0), .int x1, .int x2] (q_Qi G post) xp := by
  refine q_of (lv := [(0, va_rf (some x0)), (1, .int x1), (2, .int x2)]) hl0 (by decide) rfl (Nat.le_of_ble_eq_true rfl) (fun p e s m below meth c A ls X N hr hnm I hl => ?_)
  generalize ([va_rf (some x0), .int x1, .int x2] : List Value).toArray = av at X ⊢
  unfold pX8_throwsIf at h
  refine lv_iload_n X.1 X.2.1 dX8_throwsIf_0 rfl (lv_at hl 1 rfl) ?_
  have jn9 : ∀ (x1 : Int32) (S : qS) (H : Heap) (locs : List Loc) (ls : Array Slot), pX8_throwsIf_J9 post xp x1 S → q_H G A s H locs S → lv_has ls 3 [(1, .int x1)] → W p l e (q_rm 1 0 0) s m av below meth c H locs 0 0 (vx_MQ below (q_Qi G post A) (q_XC G A xp) av s 0 0 A) (F0 m 9 ls []) := by
    intro x1 S H locs ls h I hl
    unfold pX8_throwsIf_J9 at h
    refine lv_iload_n X.1 X.2.1 dX8_throwsIf_9 rfl (lv_at hl 0 rfl) ?_
    exact q_zret X I hr dX8_throwsIf_10 h (by decide) (by decide)
  refine lv_if_eq (tgt := 9) X.1 X.2.1 dX8_throwsIf_1 (by decide) (fun c1 => ?_) (fun c1 => ?_)
  · have h := h.1 c1
    exact jn9 _ _ _ _ _ h I (lv_sub hl [1] rfl)
  · have h := h.2 c1
    refine q_aload_n X dX8_throwsIf_4 rfl (lv_at hl 0 rfl) ?_
    refine lv_iload_n X.1 X.2.1 dX8_throwsIf_5 rfl (lv_at hl 2 rfl) ?_
    refine q_putI (ci := 9) (k := 0) X I rfl inb_TX8 tyX8_ok nmX8 wd_838 (by decide) (Or.inl rfl) qt_360 rfl dX8_throwsIf_6 h (fun S H locs I h => ?_)
    exact jn9 _ _ _ _ _ h I (lv_sub hl [1] rfl)

def pX8_in_J18  (post : Int32 → qS → Prop) (xp : String → qS → Prop) (t0 : Int32) (S : qS) : Prop :=
  ((t0 = 0 ∨ t0 = 1) ∧ post t0 S)
def pX8_in_J17  (post : Int32 → qS → Prop) (xp : String → qS → Prop)  (S : qS) : Prop :=
  pX8_in_J18 post xp (0 : Int32) S
def pX8_in (x0 : Int64) (x2 : Int64) (x4 : Int64) (S : qS) (post : Int32 → qS → Prop) (xp : String → qS → Prop) : Prop :=
  (((lg_cmp x0 x2) < 0 →
  pX8_in_J17 post xp S) ∧ (¬ (lg_cmp x0 x2) < 0 →
  ((0 < (lg_cmp x0 x4) →
  pX8_in_J17 post xp S) ∧ (¬ 0 < (lg_cmp x0 x4) →
  pX8_in_J18 post xp (1 : Int32) S))))
set_option maxHeartbeats 4000000 in
set_option maxRecDepth 100000 in
theorem kX8_in {l : Launch} (hl0 : l.stackTraces = false) {G : qG} {S : qS} {sz : Nat} {x0 : Int64} {x2 : Int64} {x4 : Int64} {post : Int32 → qS → Prop} {xp : String → qS → Prop} (h : pX8_in x0 x2 x4 S post xp) : q_M l yX8_in cX8_in 6 (some .boolean) 1 0 0 G S sz [.long x0, .long x2, .long x4] (q_Qi G post) xp := by
  refine q_of (lv := [(0, .long x0), (2, .long x2), (4, .long x4)]) hl0 (by decide) rfl (Nat.le_of_ble_eq_true rfl) (fun p e s m below meth c A ls X N hr hnm I hl => ?_)
  generalize ([.long x0, .long x2, .long x4] : List Value).toArray = av at X ⊢
  unfold pX8_in at h
  refine lv_lload_n X.1 X.2.1 dX8_in_0 rfl (lv_at hl 0 rfl) ?_
  refine lv_lload_n X.1 X.2.1 dX8_in_1 rfl (lv_at hl 1 rfl) ?_
  refine W.lcmp X.1 X.2.1 dX8_in_2 ?_
  have jn18 : ∀ (t0 : Int32) (S : qS) (H : Heap) (locs : List Loc) (ls : Array Slot), pX8_in_J18 post xp t0 S → q_H G A s H locs S → lv_has ls 6 [] → W p l e (q_rm 1 0 0) s m av below meth c H locs 0 0 (vx_MQ below (q_Qi G post A) (q_XC G A xp) av s 0 0 A) (F0 m 18 ls [.int t0]) := by
    intro t0 S H locs ls h I hl
    unfold pX8_in_J18 at h
    exact q_zret X I hr dX8_in_18 h (by decide) (by decide)
  have jn17 : ∀ (S : qS) (H : Heap) (locs : List Loc) (ls : Array Slot), pX8_in_J17 post xp S → q_H G A s H locs S → lv_has ls 6 [] → W p l e (q_rm 1 0 0) s m av below meth c H locs 0 0 (vx_MQ below (q_Qi G post A) (q_XC G A xp) av s 0 0 A) (F0 m 17 ls []) := by
    intro S H locs ls h I hl
    unfold pX8_in_J17 at h
    refine lv_iconst (v := 0) X.1 X.2.1 dX8_in_17 (by decide) ?_
    exact jn18 _ _ _ _ _ h I (lv_sub hl [] rfl)
  refine lv_if_lt (tgt := 17) X.1 X.2.1 dX8_in_3 (by decide) (fun c3 => ?_) (fun c3 => ?_)
  · have h := h.1 c3
    exact jn17 _ _ _ _ h I (lv_sub hl [] rfl)
  · have h := h.2 c3
    refine lv_lload_n X.1 X.2.1 dX8_in_6 rfl (lv_at hl 0 rfl) ?_
    refine lv_lload X.1 X.2.1 dX8_in_7 (lv_at hl 2 rfl) ?_
    refine W.lcmp X.1 X.2.1 dX8_in_9 ?_
    refine lv_if_gt (tgt := 17) X.1 X.2.1 dX8_in_10 (by decide) (fun c10 => ?_) (fun c10 => ?_)
    · have h := h.1 c10
      exact jn17 _ _ _ _ h I (lv_sub hl [] rfl)
    · have h := h.2 c10
      refine lv_iconst (v := 1) X.1 X.2.1 dX8_in_13 (by decide) ?_
      refine lv_goto (tgt := 18) X.1 X.2.1 dX8_in_14 (by decide) ?_
      exact jn18 _ _ _ _ _ h I (lv_sub hl [] rfl)

def pX8_noPlayer_J21  (post : Int32 → qS → Prop) (xp : String → qS → Prop) (t0 : Int32) (S : qS) : Prop :=
  ((t0 = 0 ∨ t0 = 1) ∧ post t0 S)
def pX8_noPlayer (x0 : Nat) (x1 : Int32) (S : qS) (post : Int32 → qS → Prop) (xp : String → qS → Prop) : Prop :=
  w_getI S (some x0) 9 5 (fun v4 =>
  pX8_in x1.toInt64 (0 : Int64) ((v4 - (1 : Int32)).toInt64) S (fun v10 S =>
  ((¬ v10 = 0 →
  pX8_noPlayer_J21 post xp (0 : Int32) S) ∧ (v10 = 0 →
  pX8_noPlayer_J21 post xp (1 : Int32) S))) xp)
set_option maxHeartbeats 4000000 in
set_option maxRecDepth 100000 in
theorem kX8_noPlayer {l : Launch} (hl0 : l.stackTraces = false) {G : qG} {S : qS} {sz : Nat} {x0 : Nat} {x1 : Int32} {post : Int32 → qS → Prop} {xp : String → qS → Prop} (h : pX8_noPlayer x0 x1 S post xp) : q_M l yX8_noPlayer cX8_noPlayer 2 (some .boolean) 2 0 0 G S sz [va_rf (some x0), .int x1] (q_Qi G post) xp := by
  refine q_of (lv := [(0, va_rf (some x0)), (1, .int x1)]) hl0 (by decide) rfl (Nat.le_of_ble_eq_true rfl) (fun p e s m below meth c A ls X N hr hnm I hl => ?_)
  generalize ([va_rf (some x0), .int x1] : List Value).toArray = av at X ⊢
  unfold pX8_noPlayer at h
  refine lv_iload_n X.1 X.2.1 dX8_noPlayer_0 rfl (lv_at hl 1 rfl) ?_
  refine lv_i2l X.1 X.2.1 dX8_noPlayer_1 rfl ?_
  refine lv_lconst (v := 0) X.1 X.2.1 dX8_noPlayer_2 (by decide) ?_
  refine q_aload_n X dX8_noPlayer_3 rfl (lv_at hl 0 rfl) ?_
  refine q_getI (ci := 9) (k := 5) X I rfl inb_TX8 wd_843 (by decide) qt_365 dX8_noPlayer_4 h (fun v4 h => ?_)
  refine lv_iconst (v := 1) X.1 X.2.1 dX8_noPlayer_7 (by decide) ?_
  refine lv_isub X.1 X.2.1 dX8_noPlayer_8 ?_
  refine lv_i2l X.1 X.2.1 dX8_noPlayer_9 rfl ?_
  refine q_cSi (As := [.long x1.toInt64, .long (0 : Int64), .long (v4 - (1 : Int32)).toInt64]) (rest := []) (c1 := 0) (s1 := 0) (d := 1) (mc := 0) (ms := 0) X N I hl.1 mX8_in wd_963 dX8_noPlayer_10 rfl (kX8_in hl0 h) rfl (Nat.le_of_ble_eq_true rfl) ⟨by decide, by decide⟩ ⟨by decide, by decide⟩ ⟨by decide, by decide⟩ rfl rfl (fun v10 S H locs I h => ?_)
  have jn21 : ∀ (t0 : Int32) (S : qS) (H : Heap) (locs : List Loc) (ls : Array Slot), pX8_noPlayer_J21 post xp t0 S → q_H G A s H locs S → lv_has ls 2 [] → W p l e (q_rm 2 0 0) s m av below meth c H locs 0 0 (vx_MQ below (q_Qi G post A) (q_XC G A xp) av s 0 0 A) (F0 m 21 ls [.int t0]) := by
    intro t0 S H locs ls h I hl
    unfold pX8_noPlayer_J21 at h
    exact q_zret X I hr dX8_noPlayer_21 h (by decide) (by decide)
  refine lv_if_ne (tgt := 20) X.1 X.2.1 dX8_noPlayer_13 (by decide) (fun c13 => ?_) (fun c13 => ?_)
  · have h := h.1 c13
    refine lv_iconst (v := 0) X.1 X.2.1 dX8_noPlayer_20 (by decide) ?_
    exact jn21 _ _ _ _ _ h I (lv_sub hl [] rfl)
  · have h := h.2 c13
    refine lv_iconst (v := 1) X.1 X.2.1 dX8_noPlayer_16 (by decide) ?_
    refine lv_goto (tgt := 21) X.1 X.2.1 dX8_noPlayer_17 (by decide) ?_
    exact jn21 _ _ _ _ _ h I (lv_sub hl [] rfl)

def pX8_noRule_J21  (post : Int32 → qS → Prop) (xp : String → qS → Prop) (t0 : Int32) (S : qS) : Prop :=
  ((t0 = 0 ∨ t0 = 1) ∧ post t0 S)
def pX8_noRule (x0 : Nat) (x1 : Int32) (S : qS) (post : Int32 → qS → Prop) (xp : String → qS → Prop) : Prop :=
  w_getI S (some x0) 9 12 (fun v4 =>
  pX8_in x1.toInt64 (0 : Int64) ((v4 - (1 : Int32)).toInt64) S (fun v10 S =>
  ((¬ v10 = 0 →
  pX8_noRule_J21 post xp (0 : Int32) S) ∧ (v10 = 0 →
  pX8_noRule_J21 post xp (1 : Int32) S))) xp)
set_option maxHeartbeats 4000000 in
set_option maxRecDepth 100000 in
theorem kX8_noRule {l : Launch} (hl0 : l.stackTraces = false) {G : qG} {S : qS} {sz : Nat} {x0 : Nat} {x1 : Int32} {post : Int32 → qS → Prop} {xp : String → qS → Prop} (h : pX8_noRule x0 x1 S post xp) : q_M l yX8_noRule cX8_noRule 2 (some .boolean) 2 0 0 G S sz [va_rf (some x0), .int x1] (q_Qi G post) xp := by
  refine q_of (lv := [(0, va_rf (some x0)), (1, .int x1)]) hl0 (by decide) rfl (Nat.le_of_ble_eq_true rfl) (fun p e s m below meth c A ls X N hr hnm I hl => ?_)
  generalize ([va_rf (some x0), .int x1] : List Value).toArray = av at X ⊢
  unfold pX8_noRule at h
  refine lv_iload_n X.1 X.2.1 dX8_noRule_0 rfl (lv_at hl 1 rfl) ?_
  refine lv_i2l X.1 X.2.1 dX8_noRule_1 rfl ?_
  refine lv_lconst (v := 0) X.1 X.2.1 dX8_noRule_2 (by decide) ?_
  refine q_aload_n X dX8_noRule_3 rfl (lv_at hl 0 rfl) ?_
  refine q_getI (ci := 9) (k := 12) X I rfl inb_TX8 wd_850 (by decide) qt_372 dX8_noRule_4 h (fun v4 h => ?_)
  refine lv_iconst (v := 1) X.1 X.2.1 dX8_noRule_7 (by decide) ?_
  refine lv_isub X.1 X.2.1 dX8_noRule_8 ?_
  refine lv_i2l X.1 X.2.1 dX8_noRule_9 rfl ?_
  refine q_cSi (As := [.long x1.toInt64, .long (0 : Int64), .long (v4 - (1 : Int32)).toInt64]) (rest := []) (c1 := 0) (s1 := 0) (d := 1) (mc := 0) (ms := 0) X N I hl.1 mX8_in wd_963 dX8_noRule_10 rfl (kX8_in hl0 h) rfl (Nat.le_of_ble_eq_true rfl) ⟨by decide, by decide⟩ ⟨by decide, by decide⟩ ⟨by decide, by decide⟩ rfl rfl (fun v10 S H locs I h => ?_)
  have jn21 : ∀ (t0 : Int32) (S : qS) (H : Heap) (locs : List Loc) (ls : Array Slot), pX8_noRule_J21 post xp t0 S → q_H G A s H locs S → lv_has ls 2 [] → W p l e (q_rm 2 0 0) s m av below meth c H locs 0 0 (vx_MQ below (q_Qi G post A) (q_XC G A xp) av s 0 0 A) (F0 m 21 ls [.int t0]) := by
    intro t0 S H locs ls h I hl
    unfold pX8_noRule_J21 at h
    exact q_zret X I hr dX8_noRule_21 h (by decide) (by decide)
  refine lv_if_ne (tgt := 20) X.1 X.2.1 dX8_noRule_13 (by decide) (fun c13 => ?_) (fun c13 => ?_)
  · have h := h.1 c13
    refine lv_iconst (v := 0) X.1 X.2.1 dX8_noRule_20 (by decide) ?_
    exact jn21 _ _ _ _ _ h I (lv_sub hl [] rfl)
  · have h := h.2 c13
    refine lv_iconst (v := 1) X.1 X.2.1 dX8_noRule_16 (by decide) ?_
    refine lv_goto (tgt := 21) X.1 X.2.1 dX8_noRule_17 (by decide) ?_
    exact jn21 _ _ _ _ _ h I (lv_sub hl [] rfl)

def pX8_noSingle_J21  (post : Int32 → qS → Prop) (xp : String → qS → Prop) (t0 : Int32) (S : qS) : Prop :=
  ((t0 = 0 ∨ t0 = 1) ∧ post t0 S)
def pX8_noSingle (x0 : Nat) (x1 : Int32) (S : qS) (post : Int32 → qS → Prop) (xp : String → qS → Prop) : Prop :=
  w_getI S (some x0) 9 25 (fun v4 =>
  pX8_in x1.toInt64 (0 : Int64) ((v4 - (1 : Int32)).toInt64) S (fun v10 S =>
  ((¬ v10 = 0 →
  pX8_noSingle_J21 post xp (0 : Int32) S) ∧ (v10 = 0 →
  pX8_noSingle_J21 post xp (1 : Int32) S))) xp)
set_option maxHeartbeats 4000000 in
set_option maxRecDepth 100000 in
theorem kX8_noSingle {l : Launch} (hl0 : l.stackTraces = false) {G : qG} {S : qS} {sz : Nat} {x0 : Nat} {x1 : Int32} {post : Int32 → qS → Prop} {xp : String → qS → Prop} (h : pX8_noSingle x0 x1 S post xp) : q_M l yX8_noSingle cX8_noSingle 2 (some .boolean) 2 0 0 G S sz [va_rf (some x0), .int x1] (q_Qi G post) xp := by
  refine q_of (lv := [(0, va_rf (some x0)), (1, .int x1)]) hl0 (by decide) rfl (Nat.le_of_ble_eq_true rfl) (fun p e s m below meth c A ls X N hr hnm I hl => ?_)
  generalize ([va_rf (some x0), .int x1] : List Value).toArray = av at X ⊢
  unfold pX8_noSingle at h
  refine lv_iload_n X.1 X.2.1 dX8_noSingle_0 rfl (lv_at hl 1 rfl) ?_
  refine lv_i2l X.1 X.2.1 dX8_noSingle_1 rfl ?_
  refine lv_lconst (v := 0) X.1 X.2.1 dX8_noSingle_2 (by decide) ?_
  refine q_aload_n X dX8_noSingle_3 rfl (lv_at hl 0 rfl) ?_
  refine q_getI (ci := 9) (k := 25) X I rfl inb_TX8 wd_863 (by decide) qt_385 dX8_noSingle_4 h (fun v4 h => ?_)
  refine lv_iconst (v := 1) X.1 X.2.1 dX8_noSingle_7 (by decide) ?_
  refine lv_isub X.1 X.2.1 dX8_noSingle_8 ?_
  refine lv_i2l X.1 X.2.1 dX8_noSingle_9 rfl ?_
  refine q_cSi (As := [.long x1.toInt64, .long (0 : Int64), .long (v4 - (1 : Int32)).toInt64]) (rest := []) (c1 := 0) (s1 := 0) (d := 1) (mc := 0) (ms := 0) X N I hl.1 mX8_in wd_963 dX8_noSingle_10 rfl (kX8_in hl0 h) rfl (Nat.le_of_ble_eq_true rfl) ⟨by decide, by decide⟩ ⟨by decide, by decide⟩ ⟨by decide, by decide⟩ rfl rfl (fun v10 S H locs I h => ?_)
  have jn21 : ∀ (t0 : Int32) (S : qS) (H : Heap) (locs : List Loc) (ls : Array Slot), pX8_noSingle_J21 post xp t0 S → q_H G A s H locs S → lv_has ls 2 [] → W p l e (q_rm 2 0 0) s m av below meth c H locs 0 0 (vx_MQ below (q_Qi G post A) (q_XC G A xp) av s 0 0 A) (F0 m 21 ls [.int t0]) := by
    intro t0 S H locs ls h I hl
    unfold pX8_noSingle_J21 at h
    exact q_zret X I hr dX8_noSingle_21 h (by decide) (by decide)
  refine lv_if_ne (tgt := 20) X.1 X.2.1 dX8_noSingle_13 (by decide) (fun c13 => ?_) (fun c13 => ?_)
  · have h := h.1 c13
    refine lv_iconst (v := 0) X.1 X.2.1 dX8_noSingle_20 (by decide) ?_
    exact jn21 _ _ _ _ _ h I (lv_sub hl [] rfl)
  · have h := h.2 c13
    refine lv_iconst (v := 1) X.1 X.2.1 dX8_noSingle_16 (by decide) ?_
    refine lv_goto (tgt := 21) X.1 X.2.1 dX8_noSingle_17 (by decide) ?_
    exact jn21 _ _ _ _ _ h I (lv_sub hl [] rfl)

def pX8_noKind_J17  (post : Int32 → qS → Prop) (xp : String → qS → Prop) (t0 : Int32) (S : qS) : Prop :=
  ((t0 = 0 ∨ t0 = 1) ∧ post t0 S)
def pX8_noKind (x0 : Int32) (S : qS) (post : Int32 → qS → Prop) (xp : String → qS → Prop) : Prop :=
  pX8_in x0.toInt64 (0 : Int64) (3 : Int64) S (fun v6 S =>
  ((¬ v6 = 0 →
  pX8_noKind_J17 post xp (0 : Int32) S) ∧ (v6 = 0 →
  pX8_noKind_J17 post xp (1 : Int32) S))) xp
set_option maxHeartbeats 4000000 in
set_option maxRecDepth 100000 in
theorem kX8_noKind {l : Launch} (hl0 : l.stackTraces = false) {G : qG} {S : qS} {sz : Nat} {x0 : Int32} {post : Int32 → qS → Prop} {xp : String → qS → Prop} (h : pX8_noKind x0 S post xp) : q_M l yX8_noKind cX8_noKind 1 (some .boolean) 2 0 0 G S sz [.int x0] (q_Qi G post) xp := by
  refine q_of (lv := [(0, .int x0)]) hl0 (by decide) rfl (Nat.le_of_ble_eq_true rfl) (fun p e s m below meth c A ls X N hr hnm I hl => ?_)
  generalize ([.int x0] : List Value).toArray = av at X ⊢
  unfold pX8_noKind at h
  refine lv_iload_n X.1 X.2.1 dX8_noKind_0 rfl (lv_at hl 0 rfl) ?_
  refine lv_i2l X.1 X.2.1 dX8_noKind_1 rfl ?_
  refine lv_lconst (v := 0) X.1 X.2.1 dX8_noKind_2 (by decide) ?_
  refine lv_ldc2 X.1 X.2.1 X.2.2.1 (X.2.2.2.1 _ wd_969) dX8_noKind_3 ?_
  refine q_cSi (As := [.long x0.toInt64, .long (0 : Int64), .long (3 : Int64)]) (rest := []) (c1 := 0) (s1 := 0) (d := 1) (mc := 0) (ms := 0) X N I hl.1 mX8_in wd_963 dX8_noKind_6 rfl (kX8_in hl0 h) rfl (Nat.le_of_ble_eq_true rfl) ⟨by decide, by decide⟩ ⟨by decide, by decide⟩ ⟨by decide, by decide⟩ rfl rfl (fun v6 S H locs I h => ?_)
  have jn17 : ∀ (t0 : Int32) (S : qS) (H : Heap) (locs : List Loc) (ls : Array Slot), pX8_noKind_J17 post xp t0 S → q_H G A s H locs S → lv_has ls 1 [] → W p l e (q_rm 2 0 0) s m av below meth c H locs 0 0 (vx_MQ below (q_Qi G post A) (q_XC G A xp) av s 0 0 A) (F0 m 17 ls [.int t0]) := by
    intro t0 S H locs ls h I hl
    unfold pX8_noKind_J17 at h
    exact q_zret X I hr dX8_noKind_17 h (by decide) (by decide)
  refine lv_if_ne (tgt := 16) X.1 X.2.1 dX8_noKind_9 (by decide) (fun c9 => ?_) (fun c9 => ?_)
  · have h := h.1 c9
    refine lv_iconst (v := 0) X.1 X.2.1 dX8_noKind_16 (by decide) ?_
    exact jn17 _ _ _ _ _ h I (lv_sub hl [] rfl)
  · have h := h.2 c9
    refine lv_iconst (v := 1) X.1 X.2.1 dX8_noKind_12 (by decide) ?_
    refine lv_goto (tgt := 17) X.1 X.2.1 dX8_noKind_13 (by decide) ?_
    exact jn17 _ _ _ _ _ h I (lv_sub hl [] rfl)

def pX8_player_J20  (post : Int32 → qS → Prop) (xp : String → qS → Prop) (x0 : Option Nat) (t0 : Option Nat) (t1 : Int32) (S : qS) : Prop :=
  w_at S t0 9 (fun b21 => pX8_throwsIf b21 t1 (1 : Int32) S (fun v21 S =>
  ((v21 = 0 →
  w_getI S x0 9 5 (fun v31 =>
  w_putI S x0 9 5 (v31 + (1 : Int32)) (fun S =>
  w_getI S x0 9 5 (fun v40 =>
  post (v40 - (1 : Int32)) S)))) ∧ (¬ v21 = 0 →
  post (0 : Int32) S))) xp)
def pX8_player (x0 : Nat) (S : qS) (post : Int32 → qS → Prop) (xp : String → qS → Prop) : Prop :=
  w_putI S (some x0) 9 0 (0 : Int32) (fun S =>
  w_getI S (some x0) 9 5 (fun v7 =>
  ((¬ v7 = (10 : Int32) →
  pX8_player_J20 post xp (some x0) (some x0) (0 : Int32) S) ∧ (v7 = (10 : Int32) →
  pX8_player_J20 post xp (some x0) (some x0) (1 : Int32) S))))
set_option maxHeartbeats 4000000 in
set_option maxRecDepth 100000 in
theorem kX8_player {l : Launch} (hl0 : l.stackTraces = false) {G : qG} {S : qS} {sz : Nat} {x0 : Nat} {post : Int32 → qS → Prop} {xp : String → qS → Prop} (h : pX8_player x0 S post xp) : q_M l yX8_player cX8_player 1 (some .int) 2 0 0 G S sz [va_rf (some x0)] (q_Qi G post) xp := by
  refine q_of (lv := [(0, va_rf (some x0))]) hl0 (by decide) rfl (Nat.le_of_ble_eq_true rfl) (fun p e s m below meth c A ls X N hr hnm I hl => ?_)
  generalize ([va_rf (some x0)] : List Value).toArray = av at X ⊢
  unfold pX8_player at h
  refine q_aload_n X dX8_player_0 rfl (lv_at hl 0 rfl) ?_
  refine lv_iconst (v := 0) X.1 X.2.1 dX8_player_1 (by decide) ?_
  refine q_putI (ci := 9) (k := 0) X I rfl inb_TX8 tyX8_ok nmX8 wd_838 (by decide) (Or.inl rfl) qt_360 rfl dX8_player_2 h (fun S H locs I h => ?_)
  refine q_aload_n X dX8_player_5 rfl (lv_at hl 0 rfl) ?_
  refine q_aload_n X dX8_player_6 rfl (lv_at hl 0 rfl) ?_
  refine q_getI (ci := 9) (k := 5) X I rfl inb_TX8 wd_843 (by decide) qt_365 dX8_player_7 h (fun v7 h => ?_)
  refine lv_bipush (v := 10) X.1 X.2.1 dX8_player_10 (by decide) ?_
  have jn20 : ∀ (x0 : Option Nat) (t0 : Option Nat) (t1 : Int32) (S : qS) (H : Heap) (locs : List Loc) (ls : Array Slot), pX8_player_J20 post xp x0 t0 t1 S → q_H G A s H locs S → lv_has ls 1 [(0, va_rf x0)] → W p l e (q_rm 2 0 0) s m av below meth c H locs 0 0 (vx_MQ below (q_Qi G post A) (q_XC G A xp) av s 0 0 A) (F0 m 20 ls [.int t1, va_rf t0]) := by
    intro x0 t0 t1 S H locs ls h I hl
    unfold pX8_player_J20 at h
    refine lv_iconst (v := 1) X.1 X.2.1 dX8_player_20 (by decide) ?_
    refine q_cVi (As := [.int t1, .int (1 : Int32)]) (rest := []) (c1 := 0) (s1 := 0) (d := 1) (mc := 0) (ms := 0) X N I hl.1 mX8_throwsIf wd_947 dX8_player_21 rfl h (fun b h => kX8_throwsIf hl0 h) rfl (Nat.le_of_ble_eq_true rfl) ⟨by decide, by decide⟩ ⟨by decide, by decide⟩ ⟨by decide, by decide⟩ rfl rfl (fun v21 S H locs I h => ?_)
    refine lv_if_eq (tgt := 29) X.1 X.2.1 dX8_player_24 (by decide) (fun c24 => ?_) (fun c24 => ?_)
    · have h := h.1 c24
      refine q_aload_n X dX8_player_29 rfl (lv_at hl 0 rfl) ?_
      refine lv_dup X.1 X.2.1 dX8_player_30 (q_cat _) ?_
      refine q_getI (ci := 9) (k := 5) X I rfl inb_TX8 wd_843 (by decide) qt_365 dX8_player_31 h (fun v31 h => ?_)
      refine lv_iconst (v := 1) X.1 X.2.1 dX8_player_34 (by decide) ?_
      refine lv_iadd X.1 X.2.1 dX8_player_35 ?_
      refine q_putI (ci := 9) (k := 5) X I rfl inb_TX8 tyX8_ok nmX8 wd_843 (by decide) (Or.inl rfl) qt_365 rfl dX8_player_36 h (fun S H locs I h => ?_)
      refine q_aload_n X dX8_player_39 rfl (lv_at hl 0 rfl) ?_
      refine q_getI (ci := 9) (k := 5) X I rfl inb_TX8 wd_843 (by decide) qt_365 dX8_player_40 h (fun v40 h => ?_)
      refine lv_iconst (v := 1) X.1 X.2.1 dX8_player_43 (by decide) ?_
      refine lv_isub X.1 X.2.1 dX8_player_44 ?_
      exact q_iret X I hr dX8_player_45 h (by decide) (by decide)
    · have h := h.2 c24
      refine lv_iconst (v := 0) X.1 X.2.1 dX8_player_27 (by decide) ?_
      exact q_iret X I hr dX8_player_28 h (by decide) (by decide)
  refine lv_icmp_ne (tgt := 19) X.1 X.2.1 dX8_player_12 (by decide) (fun c12 => ?_) (fun c12 => ?_)
  · have h := h.1 c12
    refine lv_iconst (v := 0) X.1 X.2.1 dX8_player_19 (by decide) ?_
    exact jn20 _ _ _ _ _ _ _ h I (lv_sub hl [0] rfl)
  · have h := h.2 c12
    refine lv_iconst (v := 1) X.1 X.2.1 dX8_player_15 (by decide) ?_
    refine lv_goto (tgt := 20) X.1 X.2.1 dX8_player_16 (by decide) ?_
    exact jn20 _ _ _ _ _ _ _ h I (lv_sub hl [0] rfl)

def pX8_rule_J20  (post : Int32 → qS → Prop) (xp : String → qS → Prop) (x0 : Option Nat) (x1 : Int32) (t0 : Option Nat) (t1 : Int32) (S : qS) : Prop :=
  w_at S t0 9 (fun b21 => pX8_throwsIf b21 t1 (1 : Int32) S (fun v21 S =>
  ((v21 = 0 →
  w_getR S x0 9 9 (fun v30 =>
  w_getI S x0 9 12 (fun v34 =>
  w_stZ S v30 39 v34 x1 (fun S =>
  w_getI S x0 9 12 (fun v41 =>
  w_putI S x0 9 12 (v41 + (1 : Int32)) (fun S =>
  w_getI S x0 9 12 (fun v50 =>
  post (v50 - (1 : Int32)) S))))))) ∧ (¬ v21 = 0 →
  post (0 : Int32) S))) xp)
def pX8_rule (x0 : Nat) (x1 : Int32) (S : qS) (post : Int32 → qS → Prop) (xp : String → qS → Prop) : Prop :=
  w_putI S (some x0) 9 0 (0 : Int32) (fun S =>
  w_getI S (some x0) 9 12 (fun v7 =>
  ((¬ v7 = (10 : Int32) →
  pX8_rule_J20 post xp (some x0) x1 (some x0) (0 : Int32) S) ∧ (v7 = (10 : Int32) →
  pX8_rule_J20 post xp (some x0) x1 (some x0) (1 : Int32) S))))
set_option maxHeartbeats 4000000 in
set_option maxRecDepth 100000 in
theorem kX8_rule {l : Launch} (hl0 : l.stackTraces = false) {G : qG} {S : qS} {sz : Nat} {x0 : Nat} {x1 : Int32} {post : Int32 → qS → Prop} {xp : String → qS → Prop} (h : pX8_rule x0 x1 S post xp) : q_M l yX8_rule cX8_rule 2 (some .int) 2 0 0 G S sz [va_rf (some x0), .int x1] (q_Qi G post) xp := by
  refine q_of (lv := [(0, va_rf (some x0)), (1, .int x1)]) hl0 (by decide) rfl (Nat.le_of_ble_eq_true rfl) (fun p e s m below meth c A ls X N hr hnm I hl => ?_)
  generalize ([va_rf (some x0), .int x1] : List Value).toArray = av at X ⊢
  unfold pX8_rule at h
  refine q_aload_n X dX8_rule_0 rfl (lv_at hl 0 rfl) ?_
  refine lv_iconst (v := 0) X.1 X.2.1 dX8_rule_1 (by decide) ?_
  refine q_putI (ci := 9) (k := 0) X I rfl inb_TX8 tyX8_ok nmX8 wd_838 (by decide) (Or.inl rfl) qt_360 rfl dX8_rule_2 h (fun S H locs I h => ?_)
  refine q_aload_n X dX8_rule_5 rfl (lv_at hl 0 rfl) ?_
  refine q_aload_n X dX8_rule_6 rfl (lv_at hl 0 rfl) ?_
  refine q_getI (ci := 9) (k := 12) X I rfl inb_TX8 wd_850 (by decide) qt_372 dX8_rule_7 h (fun v7 h => ?_)
  refine lv_bipush (v := 10) X.1 X.2.1 dX8_rule_10 (by decide) ?_
  have jn20 : ∀ (x0 : Option Nat) (x1 : Int32) (t0 : Option Nat) (t1 : Int32) (S : qS) (H : Heap) (locs : List Loc) (ls : Array Slot), pX8_rule_J20 post xp x0 x1 t0 t1 S → q_H G A s H locs S → lv_has ls 2 [(0, va_rf x0), (1, .int x1)] → W p l e (q_rm 2 0 0) s m av below meth c H locs 0 0 (vx_MQ below (q_Qi G post A) (q_XC G A xp) av s 0 0 A) (F0 m 20 ls [.int t1, va_rf t0]) := by
    intro x0 x1 t0 t1 S H locs ls h I hl
    unfold pX8_rule_J20 at h
    refine lv_iconst (v := 1) X.1 X.2.1 dX8_rule_20 (by decide) ?_
    refine q_cVi (As := [.int t1, .int (1 : Int32)]) (rest := []) (c1 := 0) (s1 := 0) (d := 1) (mc := 0) (ms := 0) X N I hl.1 mX8_throwsIf wd_947 dX8_rule_21 rfl h (fun b h => kX8_throwsIf hl0 h) rfl (Nat.le_of_ble_eq_true rfl) ⟨by decide, by decide⟩ ⟨by decide, by decide⟩ ⟨by decide, by decide⟩ rfl rfl (fun v21 S H locs I h => ?_)
    refine lv_if_eq (tgt := 29) X.1 X.2.1 dX8_rule_24 (by decide) (fun c24 => ?_) (fun c24 => ?_)
    · have h := h.1 c24
      refine q_aload_n X dX8_rule_29 rfl (lv_at hl 0 rfl) ?_
      refine q_getR (ci := 9) (k := 9) X I rfl inb_TX8 wd_847 (by decide) qt_369 dX8_rule_30 h (fun v30 h => ?_)
      refine q_aload_n X dX8_rule_33 rfl (lv_at hl 0 rfl) ?_
      refine q_getI (ci := 9) (k := 12) X I rfl inb_TX8 wd_850 (by decide) qt_372 dX8_rule_34 h (fun v34 h => ?_)
      refine lv_iload_n X.1 X.2.1 dX8_rule_37 rfl (lv_at hl 1 rfl) ?_
      refine q_stZ X I (by decide) (by decide) dX8_rule_38 h (fun S H locs I h => ?_)
      refine q_aload_n X dX8_rule_39 rfl (lv_at hl 0 rfl) ?_
      refine lv_dup X.1 X.2.1 dX8_rule_40 (q_cat _) ?_
      refine q_getI (ci := 9) (k := 12) X I rfl inb_TX8 wd_850 (by decide) qt_372 dX8_rule_41 h (fun v41 h => ?_)
      refine lv_iconst (v := 1) X.1 X.2.1 dX8_rule_44 (by decide) ?_
      refine lv_iadd X.1 X.2.1 dX8_rule_45 ?_
      refine q_putI (ci := 9) (k := 12) X I rfl inb_TX8 tyX8_ok nmX8 wd_850 (by decide) (Or.inl rfl) qt_372 rfl dX8_rule_46 h (fun S H locs I h => ?_)
      refine q_aload_n X dX8_rule_49 rfl (lv_at hl 0 rfl) ?_
      refine q_getI (ci := 9) (k := 12) X I rfl inb_TX8 wd_850 (by decide) qt_372 dX8_rule_50 h (fun v50 h => ?_)
      refine lv_iconst (v := 1) X.1 X.2.1 dX8_rule_53 (by decide) ?_
      refine lv_isub X.1 X.2.1 dX8_rule_54 ?_
      exact q_iret X I hr dX8_rule_55 h (by decide) (by decide)
    · have h := h.2 c24
      refine lv_iconst (v := 0) X.1 X.2.1 dX8_rule_27 (by decide) ?_
      exact q_iret X I hr dX8_rule_28 h (by decide) (by decide)
  refine lv_icmp_ne (tgt := 19) X.1 X.2.1 dX8_rule_12 (by decide) (fun c12 => ?_) (fun c12 => ?_)
  · have h := h.1 c12
    refine lv_iconst (v := 0) X.1 X.2.1 dX8_rule_19 (by decide) ?_
    exact jn20 _ _ _ _ _ _ _ _ h I (lv_sub hl [0, 1] rfl)
  · have h := h.2 c12
    refine lv_iconst (v := 1) X.1 X.2.1 dX8_rule_15 (by decide) ?_
    refine lv_goto (tgt := 20) X.1 X.2.1 dX8_rule_16 (by decide) ?_
    exact jn20 _ _ _ _ _ _ _ _ h I (lv_sub hl [0, 1] rfl)

def pX8_part_J59  (post : qS → Prop) (xp : String → qS → Prop)  (S : qS) : Prop :=
  post S
def pX8_part_J91  (post : qS → Prop) (xp : String → qS → Prop)  (S : qS) : Prop :=
  post S
def pX8_part_J52  (post : qS → Prop) (xp : String → qS → Prop) (x0 : Option Nat) (x1 : Int32) (x2 : Int32) (x3 : Int32) (x4 : Int32) (t0 : Option Nat) (t1 : Int32) (S : qS) : Prop :=
  w_at S t0 9 (fun b53 => pX8_throwsIf b53 t1 (2 : Int32) S (fun v53 S =>
  ((v53 = 0 →
  ((x3 = 0 →
  w_getR S x0 9 7 (fun v80 =>
  w_stI S v80 37 (((4 : Int32) * x1) + x2) x4 (fun S =>
  pX8_part_J91 post xp S))) ∧ (¬ x3 = 0 →
  w_getR S x0 9 8 (fun v65 =>
  w_stI S v65 38 (((4 : Int32) * x1) + x2) x4 (fun S =>
  pX8_part_J91 post xp S))))) ∧ (¬ v53 = 0 →
  pX8_part_J59 post xp S))) xp)
def pX8_part_J26  (post : qS → Prop) (xp : String → qS → Prop) (x0 : Option Nat) (x1 : Int32) (x2 : Int32) (x3 : Int32) (x4 : Int32) (t0 : Option Nat) (t1 : Int32) (S : qS) : Prop :=
  w_at S t0 9 (fun b27 => pX8_throwsIf b27 t1 (1 : Int32) S (fun v27 S =>
  ((¬ v27 = 0 →
  pX8_part_J59 post xp S) ∧ (v27 = 0 →
  pX8_in x4.toInt64 (0 : Int64) (9 : Int64) S (fun v41 S =>
  ((¬ v41 = 0 →
  pX8_part_J52 post xp x0 x1 x2 x3 x4 x0 (0 : Int32) S) ∧ (v41 = 0 →
  pX8_part_J52 post xp x0 x1 x2 x3 x4 x0 (1 : Int32) S))) xp))) xp)
def pX8_part_J21  (post : qS → Prop) (xp : String → qS → Prop) (x0 : Option Nat) (x1 : Int32) (x2 : Int32) (x3 : Int32) (x4 : Int32) (t0 : Option Nat) (S : qS) : Prop :=
  pX8_part_J26 post xp x0 x1 x2 x3 x4 t0 (1 : Int32) S
def pX8_part (x0 : Nat) (x1 : Int32) (x2 : Int32) (x3 : Int32) (x4 : Int32) (S : qS) (post : qS → Prop) (xp : String → qS → Prop) : Prop :=
  w_putI S (some x0) 9 0 (0 : Int32) (fun S =>
  w_at S (some x0) 9 (fun b8 => pX8_noRule b8 x1 S (fun v8 S =>
  ((¬ v8 = 0 →
  pX8_part_J21 post xp (some x0) x1 x2 x3 x4 (some x0) S) ∧ (v8 = 0 →
  pX8_noKind x2 S (fun v15 S =>
  ((v15 = 0 →
  pX8_part_J26 post xp (some x0) x1 x2 x3 x4 (some x0) (0 : Int32) S) ∧ (¬ v15 = 0 →
  pX8_part_J21 post xp (some x0) x1 x2 x3 x4 (some x0) S))) xp))) xp))
set_option maxHeartbeats 4000000 in
set_option maxRecDepth 100000 in
theorem kX8_part {l : Launch} (hl0 : l.stackTraces = false) {G : qG} {S : qS} {sz : Nat} {x0 : Nat} {x1 : Int32} {x2 : Int32} {x3 : Int32} {x4 : Int32} {post : qS → Prop} {xp : String → qS → Prop} (h : pX8_part x0 x1 x2 x3 x4 S post xp) : q_M l yX8_part cX8_part 5 none 3 0 0 G S sz [va_rf (some x0), .int x1, .int x2, .int x3, .int x4] (q_Qv G post) xp := by
  refine q_of (lv := [(0, va_rf (some x0)), (1, .int x1), (2, .int x2), (3, .int x3), (4, .int x4)]) hl0 (by decide) rfl (Nat.le_of_ble_eq_true rfl) (fun p e s m below meth c A ls X N hr hnm I hl => ?_)
  generalize ([va_rf (some x0), .int x1, .int x2, .int x3, .int x4] : List Value).toArray = av at X ⊢
  unfold pX8_part at h
  refine q_aload_n X dX8_part_0 rfl (lv_at hl 0 rfl) ?_
  refine lv_iconst (v := 0) X.1 X.2.1 dX8_part_1 (by decide) ?_
  refine q_putI (ci := 9) (k := 0) X I rfl inb_TX8 tyX8_ok nmX8 wd_838 (by decide) (Or.inl rfl) qt_360 rfl dX8_part_2 h (fun S H locs I h => ?_)
  refine q_aload_n X dX8_part_5 rfl (lv_at hl 0 rfl) ?_
  refine q_aload_n X dX8_part_6 rfl (lv_at hl 0 rfl) ?_
  refine lv_iload_n X.1 X.2.1 dX8_part_7 rfl (lv_at hl 1 rfl) ?_
  refine q_cVi (As := [.int x1]) (rest := [va_rf (some x0)]) (c1 := 0) (s1 := 0) (d := 2) (mc := 0) (ms := 0) X N I hl.1 mX8_noRule wd_959 dX8_part_8 rfl h (fun b h => kX8_noRule hl0 h) rfl (Nat.le_of_ble_eq_true rfl) ⟨by decide, by decide⟩ ⟨by decide, by decide⟩ ⟨by decide, by decide⟩ rfl rfl (fun v8 S H locs I h => ?_)
  have jn26 : ∀ (x0 : Option Nat) (x1 : Int32) (x2 : Int32) (x3 : Int32) (x4 : Int32) (t0 : Option Nat) (t1 : Int32) (S : qS) (H : Heap) (locs : List Loc) (ls : Array Slot), pX8_part_J26 post xp x0 x1 x2 x3 x4 t0 t1 S → q_H G A s H locs S → lv_has ls 5 [(0, va_rf x0), (1, .int x1), (2, .int x2), (3, .int x3), (4, .int x4)] → W p l e (q_rm 3 0 0) s m av below meth c H locs 0 0 (vx_MQ below (q_Qv G post A) (q_XC G A xp) av s 0 0 A) (F0 m 26 ls [.int t1, va_rf t0]) := by
    intro x0 x1 x2 x3 x4 t0 t1 S H locs ls h I hl
    unfold pX8_part_J26 at h
    refine lv_iconst (v := 1) X.1 X.2.1 dX8_part_26 (by decide) ?_
    refine q_cVi (As := [.int t1, .int (1 : Int32)]) (rest := []) (c1 := 0) (s1 := 0) (d := 1) (mc := 0) (ms := 0) X N I hl.1 mX8_throwsIf wd_947 dX8_part_27 rfl h (fun b h => kX8_throwsIf hl0 h) rfl (Nat.le_of_ble_eq_true rfl) ⟨by decide, by decide⟩ ⟨by decide, by decide⟩ ⟨by decide, by decide⟩ rfl rfl (fun v27 S H locs I h => ?_)
    have jn59 : ∀ (S : qS) (H : Heap) (locs : List Loc) (ls : Array Slot), pX8_part_J59 post xp S → q_H G A s H locs S → lv_has ls 5 [] → W p l e (q_rm 3 0 0) s m av below meth c H locs 0 0 (vx_MQ below (q_Qv G post A) (q_XC G A xp) av s 0 0 A) (F0 m 59 ls []) := by
      intro S H locs ls h I hl
      unfold pX8_part_J59 at h
      exact q_vret X I hr dX8_part_59 h (by decide) (by decide)
    refine lv_if_ne (tgt := 59) X.1 X.2.1 dX8_part_30 (by decide) (fun c30 => ?_) (fun c30 => ?_)
    · have h := h.1 c30
      exact jn59 _ _ _ _ h I (lv_sub hl [] rfl)
    · have h := h.2 c30
      refine q_aload_n X dX8_part_33 rfl (lv_at hl 0 rfl) ?_
      refine lv_iload X.1 X.2.1 dX8_part_34 (lv_at hl 4 rfl) ?_
      refine lv_i2l X.1 X.2.1 dX8_part_36 rfl ?_
      refine lv_lconst (v := 0) X.1 X.2.1 dX8_part_37 (by decide) ?_
      refine lv_ldc2 X.1 X.2.1 X.2.2.1 (X.2.2.2.1 _ wd_970) dX8_part_38 ?_
      refine q_cSi (As := [.long x4.toInt64, .long (0 : Int64), .long (9 : Int64)]) (rest := [va_rf x0]) (c1 := 0) (s1 := 0) (d := 1) (mc := 0) (ms := 0) X N I hl.1 mX8_in wd_963 dX8_part_41 rfl (kX8_in hl0 h) rfl (by simp [q_cat, q_catI, q_catJ]) ⟨by decide, by decide⟩ ⟨by decide, by decide⟩ ⟨by decide, by decide⟩ rfl rfl (fun v41 S H locs I h => ?_)
      have jn52 : ∀ (x0 : Option Nat) (x1 : Int32) (x2 : Int32) (x3 : Int32) (x4 : Int32) (t0 : Option Nat) (t1 : Int32) (S : qS) (H : Heap) (locs : List Loc) (ls : Array Slot), pX8_part_J52 post xp x0 x1 x2 x3 x4 t0 t1 S → q_H G A s H locs S → lv_has ls 5 [(0, va_rf x0), (1, .int x1), (2, .int x2), (3, .int x3), (4, .int x4)] → W p l e (q_rm 3 0 0) s m av below meth c H locs 0 0 (vx_MQ below (q_Qv G post A) (q_XC G A xp) av s 0 0 A) (F0 m 52 ls [.int t1, va_rf t0]) := by
        intro x0 x1 x2 x3 x4 t0 t1 S H locs ls h I hl
        unfold pX8_part_J52 at h
        refine lv_iconst (v := 2) X.1 X.2.1 dX8_part_52 (by decide) ?_
        refine q_cVi (As := [.int t1, .int (2 : Int32)]) (rest := []) (c1 := 0) (s1 := 0) (d := 1) (mc := 0) (ms := 0) X N I hl.1 mX8_throwsIf wd_947 dX8_part_53 rfl h (fun b h => kX8_throwsIf hl0 h) rfl (Nat.le_of_ble_eq_true rfl) ⟨by decide, by decide⟩ ⟨by decide, by decide⟩ ⟨by decide, by decide⟩ rfl rfl (fun v53 S H locs I h => ?_)
        refine lv_if_eq (tgt := 60) X.1 X.2.1 dX8_part_56 (by decide) (fun c56 => ?_) (fun c56 => ?_)
        · have h := h.1 c56
          refine lv_iload_n X.1 X.2.1 dX8_part_60 rfl (lv_at hl 3 rfl) ?_
          have jn91 : ∀ (S : qS) (H : Heap) (locs : List Loc) (ls : Array Slot), pX8_part_J91 post xp S → q_H G A s H locs S → lv_has ls 5 [] → W p l e (q_rm 3 0 0) s m av below meth c H locs 0 0 (vx_MQ below (q_Qv G post A) (q_XC G A xp) av s 0 0 A) (F0 m 91 ls []) := by
            intro S H locs ls h I hl
            unfold pX8_part_J91 at h
            exact q_vret X I hr dX8_part_91 h (by decide) (by decide)
          refine lv_if_eq (tgt := 79) X.1 X.2.1 dX8_part_61 (by decide) (fun c61 => ?_) (fun c61 => ?_)
          · have h := h.1 c61
            refine q_aload_n X dX8_part_79 rfl (lv_at hl 0 rfl) ?_
            refine q_getR (ci := 9) (k := 7) X I rfl inb_TX8 wd_845 (by decide) qt_367 dX8_part_80 h (fun v80 h => ?_)
            refine lv_iconst (v := 4) X.1 X.2.1 dX8_part_83 (by decide) ?_
            refine lv_iload_n X.1 X.2.1 dX8_part_84 rfl (lv_at hl 1 rfl) ?_
            refine lv_imul X.1 X.2.1 dX8_part_85 ?_
            refine lv_iload_n X.1 X.2.1 dX8_part_86 rfl (lv_at hl 2 rfl) ?_
            refine lv_iadd X.1 X.2.1 dX8_part_87 ?_
            refine lv_iload X.1 X.2.1 dX8_part_88 (lv_at hl 4 rfl) ?_
            refine q_stI X I (by decide) (by decide) dX8_part_90 h (fun S H locs I h => ?_)
            exact jn91 _ _ _ _ h I (lv_sub hl [] rfl)
          · have h := h.2 c61
            refine q_aload_n X dX8_part_64 rfl (lv_at hl 0 rfl) ?_
            refine q_getR (ci := 9) (k := 8) X I rfl inb_TX8 wd_846 (by decide) qt_368 dX8_part_65 h (fun v65 h => ?_)
            refine lv_iconst (v := 4) X.1 X.2.1 dX8_part_68 (by decide) ?_
            refine lv_iload_n X.1 X.2.1 dX8_part_69 rfl (lv_at hl 1 rfl) ?_
            refine lv_imul X.1 X.2.1 dX8_part_70 ?_
            refine lv_iload_n X.1 X.2.1 dX8_part_71 rfl (lv_at hl 2 rfl) ?_
            refine lv_iadd X.1 X.2.1 dX8_part_72 ?_
            refine lv_iload X.1 X.2.1 dX8_part_73 (lv_at hl 4 rfl) ?_
            refine q_stI X I (by decide) (by decide) dX8_part_75 h (fun S H locs I h => ?_)
            refine lv_goto (tgt := 91) X.1 X.2.1 dX8_part_76 (by decide) ?_
            exact jn91 _ _ _ _ h I (lv_sub hl [] rfl)
        · have h := h.2 c56
          exact jn59 _ _ _ _ h I (lv_sub hl [] rfl)
      refine lv_if_ne (tgt := 51) X.1 X.2.1 dX8_part_44 (by decide) (fun c44 => ?_) (fun c44 => ?_)
      · have h := h.1 c44
        refine lv_iconst (v := 0) X.1 X.2.1 dX8_part_51 (by decide) ?_
        exact jn52 _ _ _ _ _ _ _ _ _ _ _ h I (lv_sub hl [0, 1, 2, 3, 4] rfl)
      · have h := h.2 c44
        refine lv_iconst (v := 1) X.1 X.2.1 dX8_part_47 (by decide) ?_
        refine lv_goto (tgt := 52) X.1 X.2.1 dX8_part_48 (by decide) ?_
        exact jn52 _ _ _ _ _ _ _ _ _ _ _ h I (lv_sub hl [0, 1, 2, 3, 4] rfl)
  have jn21 : ∀ (x0 : Option Nat) (x1 : Int32) (x2 : Int32) (x3 : Int32) (x4 : Int32) (t0 : Option Nat) (S : qS) (H : Heap) (locs : List Loc) (ls : Array Slot), pX8_part_J21 post xp x0 x1 x2 x3 x4 t0 S → q_H G A s H locs S → lv_has ls 5 [(0, va_rf x0), (1, .int x1), (2, .int x2), (3, .int x3), (4, .int x4)] → W p l e (q_rm 3 0 0) s m av below meth c H locs 0 0 (vx_MQ below (q_Qv G post A) (q_XC G A xp) av s 0 0 A) (F0 m 21 ls [va_rf t0]) := by
    intro x0 x1 x2 x3 x4 t0 S H locs ls h I hl
    unfold pX8_part_J21 at h
    refine lv_iconst (v := 1) X.1 X.2.1 dX8_part_21 (by decide) ?_
    refine lv_goto (tgt := 26) X.1 X.2.1 dX8_part_22 (by decide) ?_
    exact jn26 _ _ _ _ _ _ _ _ _ _ _ h I (lv_sub hl [0, 1, 2, 3, 4] rfl)
  refine lv_if_ne (tgt := 21) X.1 X.2.1 dX8_part_11 (by decide) (fun c11 => ?_) (fun c11 => ?_)
  · have h := h.1 c11
    exact jn21 _ _ _ _ _ _ _ _ _ _ h I (lv_sub hl [0, 1, 2, 3, 4] rfl)
  · have h := h.2 c11
    refine lv_iload_n X.1 X.2.1 dX8_part_14 rfl (lv_at hl 2 rfl) ?_
    refine q_cSi (As := [.int x2]) (rest := [va_rf (some x0)]) (c1 := 0) (s1 := 0) (d := 2) (mc := 0) (ms := 0) X N I hl.1 mX8_noKind wd_966 dX8_part_15 rfl (kX8_noKind hl0 h) rfl (Nat.le_of_ble_eq_true rfl) ⟨by decide, by decide⟩ ⟨by decide, by decide⟩ ⟨by decide, by decide⟩ rfl rfl (fun v15 S H locs I h => ?_)
    refine lv_if_eq (tgt := 25) X.1 X.2.1 dX8_part_18 (by decide) (fun c18 => ?_) (fun c18 => ?_)
    · have h := h.1 c18
      refine lv_iconst (v := 0) X.1 X.2.1 dX8_part_25 (by decide) ?_
      exact jn26 _ _ _ _ _ _ _ _ _ _ _ h I (lv_sub hl [0, 1, 2, 3, 4] rfl)
    · have h := h.2 c18
      exact jn21 _ _ _ _ _ _ _ _ _ _ h I (lv_sub hl [0, 1, 2, 3, 4] rfl)

def pX8_does_L129  (post : Int32 → qS → Prop) (xp : String → qS → Prop) : Nat → Option Nat → Int32 → Int32 → Int32 → Int32 → qS → Prop
  | 0, _, _, _, _, _, _ => False
  | n129 + 1, x0, x1, x2, x3, x6, S =>
  (((4 : Int32) ≤ x6 →
  w_getI S x0 9 6 (fun v232 =>
  w_putI S x0 9 6 (v232 + (1 : Int32)) (fun S =>
  post (0 : Int32) S))) ∧ (¬ (4 : Int32) ≤ x6 →
  w_getR S x0 9 2 (fun v136 =>
  w_ldI S v136 32 (((4 : Int32) * x1) + x6) (fun v146 =>
  w_getR S x0 9 8 (fun v148 =>
  w_ldI S v148 38 (((4 : Int32) * x2) + x6) (fun v157 =>
  w_getR S x0 9 7 (fun v159 =>
  w_ldI S v159 37 (((4 : Int32) * x2) + x6) (fun v168 =>
  w_stI S v136 32 (((4 : Int32) * x1) + x6) (v146 + ((v157 - v168) * x3)) (fun S =>
  w_getR S x0 9 13 (fun v175 =>
  w_ldJ S v175 43 x6 (fun v181 =>
  w_getR S x0 9 8 (fun v183 =>
  w_ldI S v183 38 (((4 : Int32) * x2) + x6) (fun v192 =>
  w_stJ S v175 43 x6 (v181 + (v192.toInt64 * x3.toInt64)) (fun S =>
  w_getR S x0 9 14 (fun v200 =>
  w_ldJ S v200 44 x6 (fun v206 =>
  w_getR S x0 9 7 (fun v208 =>
  w_ldI S v208 37 (((4 : Int32) * x2) + x6) (fun v217 =>
  w_stJ S v200 44 x6 (v206 + (v217.toInt64 * x3.toInt64)) (fun S =>
  (pX8_does_L129 post xp n129) x0 x1 x2 x3 (x6 + 1) S)))))))))))))))))))
def pX8_does_J112  (post : Int32 → qS → Prop) (xp : String → qS → Prop) (x0 : Option Nat) (x1 : Int32) (x2 : Int32) (x3 : Int32) (x4 : Int32) (x5 : Int32) (S : qS) : Prop :=
  ((x4 = 0 →
  ((x5 = 0 →
  ∃ n129, pX8_does_L129 post xp n129 x0 x1 x2 x3 (0 : Int32) S) ∧ (¬ x5 = 0 →
  post (2 : Int32) S))) ∧ (¬ x4 = 0 →
  post (1 : Int32) S))
def pX8_does_J104 (k9 : Option Nat → Int32 → Int32 → Int32 → Int32 → Int32 → Int32 → qS → Prop) (post : Int32 → qS → Prop) (xp : String → qS → Prop) (x0 : Option Nat) (x1 : Int32) (x2 : Int32) (x3 : Int32) (x4 : Int32) (x6 : Int32) (t0 : Int32) (S : qS) : Prop :=
  k9 x0 x1 x2 x3 x4 t0 (x6 + 1) S
def pX8_does_J99 (k9 : Option Nat → Int32 → Int32 → Int32 → Int32 → Int32 → Int32 → qS → Prop) (post : Int32 → qS → Prop) (xp : String → qS → Prop) (x0 : Option Nat) (x1 : Int32) (x2 : Int32) (x3 : Int32) (x4 : Int32) (x6 : Int32) (S : qS) : Prop :=
  pX8_does_J104 k9 post xp x0 x1 x2 x3 x4 x6 (1 : Int32) S
def pX8_does_J64 (k9 : Option Nat → Int32 → Int32 → Int32 → Int32 → Int32 → Int32 → qS → Prop) (post : Int32 → qS → Prop) (xp : String → qS → Prop) (x0 : Option Nat) (x1 : Int32) (x2 : Int32) (x3 : Int32) (x5 : Int32) (x6 : Int32) (x7 : Int64) (x9 : Int64) (t0 : Int32) (S : qS) : Prop :=
  ((¬ x5 = 0 →
  pX8_does_J99 k9 post xp x0 x1 x2 x3 t0 x6 S) ∧ (x5 = 0 →
  w_getR S x0 9 8 (fun v77 =>
  w_ldI S v77 38 (((4 : Int32) * x2) + x6) (fun v86 =>
  (((lg_cmp ((x7 - x9) + (v86.toInt64 * x3.toInt64)) (1000000000 : Int64)) ≤ 0 →
  pX8_does_J104 k9 post xp x0 x1 x2 x3 t0 x6 (0 : Int32) S) ∧ (¬ (lg_cmp ((x7 - x9) + (v86.toInt64 * x3.toInt64)) (1000000000 : Int64)) ≤ 0 →
  pX8_does_J99 k9 post xp x0 x1 x2 x3 t0 x6 S))))))
def pX8_does_J59 (k9 : Option Nat → Int32 → Int32 → Int32 → Int32 → Int32 → Int32 → qS → Prop) (post : Int32 → qS → Prop) (xp : String → qS → Prop) (x0 : Option Nat) (x1 : Int32) (x2 : Int32) (x3 : Int32) (x5 : Int32) (x6 : Int32) (x7 : Int64) (x9 : Int64) (S : qS) : Prop :=
  pX8_does_J64 k9 post xp x0 x1 x2 x3 x5 x6 x7 x9 (1 : Int32) S
def pX8_does_L9 (k112 : Option Nat → Int32 → Int32 → Int32 → Int32 → Int32 → qS → Prop) (post : Int32 → qS → Prop) (xp : String → qS → Prop) : Nat → Option Nat → Int32 → Int32 → Int32 → Int32 → Int32 → Int32 → qS → Prop
  | 0, _, _, _, _, _, _, _, _ => False
  | n9 + 1, x0, x1, x2, x3, x4, x5, x6, S =>
  (((4 : Int32) ≤ x6 →
  k112 x0 x1 x2 x3 x4 x5 S) ∧ (¬ (4 : Int32) ≤ x6 →
  w_getR S x0 9 2 (fun v16 =>
  w_ldI S v16 32 (((4 : Int32) * x1) + x6) (fun v25 =>
  w_getR S x0 9 7 (fun v30 =>
  w_ldI S v30 37 (((4 : Int32) * x2) + x6) (fun v39 =>
  ((¬ x4 = 0 →
  pX8_does_J59 (pX8_does_L9 k112 post xp n9) post xp x0 x1 x2 x3 x5 x6 v25.toInt64 (v39.toInt64 * x3.toInt64) S) ∧ (x4 = 0 →
  ((0 ≤ (lg_cmp v25.toInt64 (v39.toInt64 * x3.toInt64)) →
  pX8_does_J64 (pX8_does_L9 k112 post xp n9) post xp x0 x1 x2 x3 x5 x6 v25.toInt64 (v39.toInt64 * x3.toInt64) (0 : Int32) S) ∧ (¬ 0 ≤ (lg_cmp v25.toInt64 (v39.toInt64 * x3.toInt64)) →
  pX8_does_J59 (pX8_does_L9 k112 post xp n9) post xp x0 x1 x2 x3 x5 x6 v25.toInt64 (v39.toInt64 * x3.toInt64) S))))))))))
def pX8_does (x0 : Nat) (x1 : Int32) (x2 : Int32) (x3 : Int32) (S : qS) (post : Int32 → qS → Prop) (xp : String → qS → Prop) : Prop :=
  ∃ n9, pX8_does_L9 (pX8_does_J112 post xp) post xp n9 (some x0) x1 x2 x3 (0 : Int32) (0 : Int32) (0 : Int32) S
set_option maxHeartbeats 4000000 in
set_option maxRecDepth 100000 in
theorem kX8_does {l : Launch} (hl0 : l.stackTraces = false) {G : qG} {S : qS} {sz : Nat} {x0 : Nat} {x1 : Int32} {x2 : Int32} {x3 : Int32} {post : Int32 → qS → Prop} {xp : String → qS → Prop} (h : pX8_does x0 x1 x2 x3 S post xp) : q_M l yX8_does cX8_does 11 (some .int) 1 0 0 G S sz [va_rf (some x0), .int x1, .int x2, .int x3] (q_Qi G post) xp := by
  refine q_of (lv := [(0, va_rf (some x0)), (1, .int x1), (2, .int x2), (3, .int x3)]) hl0 (by decide) rfl (Nat.le_of_ble_eq_true rfl) (fun p e s m below meth c A ls X N hr hnm I hl => ?_)
  generalize ([va_rf (some x0), .int x1, .int x2, .int x3] : List Value).toArray = av at X ⊢
  unfold pX8_does at h
  refine lv_iconst (v := 0) X.1 X.2.1 dX8_does_0 (by decide) ?_
  refine lv_istore (i := 4) (lv' := [(4, .int (0 : Int32)), (0, va_rf (some x0)), (1, .int x1), (2, .int x2), (3, .int x3)]) X.1 X.2.1 dX8_does_1 hl (by decide) rfl (fun ls hl => ?_)
  refine lv_iconst (v := 0) X.1 X.2.1 dX8_does_3 (by decide) ?_
  refine lv_istore (i := 5) (lv' := [(5, .int (0 : Int32)), (4, .int (0 : Int32)), (0, va_rf (some x0)), (1, .int x1), (2, .int x2), (3, .int x3)]) X.1 X.2.1 dX8_does_4 hl (by decide) rfl (fun ls hl => ?_)
  refine lv_iconst (v := 0) X.1 X.2.1 dX8_does_6 (by decide) ?_
  refine lv_istore (i := 6) (lv' := [(6, .int (0 : Int32)), (5, .int (0 : Int32)), (4, .int (0 : Int32)), (0, va_rf (some x0)), (1, .int x1), (2, .int x2), (3, .int x3)]) X.1 X.2.1 dX8_does_7 hl (by decide) rfl (fun ls hl => ?_)
  have jn112 : ∀ (x0 : Option Nat) (x1 : Int32) (x2 : Int32) (x3 : Int32) (x4 : Int32) (x5 : Int32) (S : qS) (H : Heap) (locs : List Loc) (ls : Array Slot), pX8_does_J112 post xp x0 x1 x2 x3 x4 x5 S → q_H G A s H locs S → lv_has ls 11 [(0, va_rf x0), (1, .int x1), (2, .int x2), (3, .int x3), (4, .int x4), (5, .int x5)] → W p l e (q_rm 1 0 0) s m av below meth c H locs 0 0 (vx_MQ below (q_Qi G post A) (q_XC G A xp) av s 0 0 A) (F0 m 112 ls []) := by
    intro x0 x1 x2 x3 x4 x5 S H locs ls h I hl
    unfold pX8_does_J112 at h
    refine lv_iload X.1 X.2.1 dX8_does_112 (lv_at hl 4 rfl) ?_
    refine lv_if_eq (tgt := 119) X.1 X.2.1 dX8_does_114 (by decide) (fun c114 => ?_) (fun c114 => ?_)
    · have h := h.1 c114
      refine lv_iload X.1 X.2.1 dX8_does_119 (lv_at hl 5 rfl) ?_
      refine lv_if_eq (tgt := 126) X.1 X.2.1 dX8_does_121 (by decide) (fun c121 => ?_) (fun c121 => ?_)
      · have h := h.1 c121
        refine lv_iconst (v := 0) X.1 X.2.1 dX8_does_126 (by decide) ?_
        refine lv_istore (i := 6) (lv' := [(6, .int (0 : Int32)), (0, va_rf x0), (1, .int x1), (2, .int x2), (3, .int x3), (4, .int x4), (5, .int x5)]) X.1 X.2.1 dX8_does_127 hl (by decide) rfl (fun ls hl => ?_)
        obtain ⟨n129, h⟩ := h
        have lp129 : ∀ (n129 : Nat) (x0 : Option Nat) (x1 : Int32) (x2 : Int32) (x3 : Int32) (x6 : Int32) (S : qS) (H : Heap) (locs : List Loc) (ls : Array Slot), pX8_does_L129 post xp n129 x0 x1 x2 x3 x6 S → q_H G A s H locs S → lv_has ls 11 [(0, va_rf x0), (1, .int x1), (2, .int x2), (3, .int x3), (6, .int x6)] → W p l e (q_rm 1 0 0) s m av below meth c H locs 0 0 (vx_MQ below (q_Qi G post A) (q_XC G A xp) av s 0 0 A) (F0 m 129 ls []) := by
          intro n129
          induction n129 with
          | zero => intro x0 x1 x2 x3 x6 S H locs ls h I hl; exact h.elim
          | succ n129 ih129 =>
            intro x0 x1 x2 x3 x6 S H locs ls h I hl
            unfold pX8_does_L129 at h
            refine lv_iload X.1 X.2.1 dX8_does_129 (lv_at hl 4 rfl) ?_
            refine lv_iconst (v := 4) X.1 X.2.1 dX8_does_131 (by decide) ?_
            refine lv_icmp_ge (tgt := 230) X.1 X.2.1 dX8_does_132 (by decide) (fun c132 => ?_) (fun c132 => ?_)
            · have h := h.1 c132
              refine q_aload_n X dX8_does_230 rfl (lv_at hl 0 rfl) ?_
              refine lv_dup X.1 X.2.1 dX8_does_231 (q_cat _) ?_
              refine q_getI (ci := 9) (k := 6) X I rfl inb_TX8 wd_844 (by decide) qt_366 dX8_does_232 h (fun v232 h => ?_)
              refine lv_iconst (v := 1) X.1 X.2.1 dX8_does_235 (by decide) ?_
              refine lv_iadd X.1 X.2.1 dX8_does_236 ?_
              refine q_putI (ci := 9) (k := 6) X I rfl inb_TX8 tyX8_ok nmX8 wd_844 (by decide) (Or.inl rfl) qt_366 rfl dX8_does_237 h (fun S H locs I h => ?_)
              refine lv_iconst (v := 0) X.1 X.2.1 dX8_does_240 (by decide) ?_
              exact q_iret X I hr dX8_does_241 h (by decide) (by decide)
            · have h := h.2 c132
              refine q_aload_n X dX8_does_135 rfl (lv_at hl 0 rfl) ?_
              refine q_getR (ci := 9) (k := 2) X I rfl inb_TX8 wd_840 (by decide) qt_362 dX8_does_136 h (fun v136 h => ?_)
              refine lv_iconst (v := 4) X.1 X.2.1 dX8_does_139 (by decide) ?_
              refine lv_iload_n X.1 X.2.1 dX8_does_140 rfl (lv_at hl 1 rfl) ?_
              refine lv_imul X.1 X.2.1 dX8_does_141 ?_
              refine lv_iload X.1 X.2.1 dX8_does_142 (lv_at hl 4 rfl) ?_
              refine lv_iadd X.1 X.2.1 dX8_does_144 ?_
              refine lv_dup2_11 X.1 X.2.1 dX8_does_145 rfl (q_cat _) ?_
              refine q_ldI X I (by decide) (by decide) dX8_does_146 h (fun v146 h => ?_)
              refine q_aload_n X dX8_does_147 rfl (lv_at hl 0 rfl) ?_
              refine q_getR (ci := 9) (k := 8) X I rfl inb_TX8 wd_846 (by decide) qt_368 dX8_does_148 h (fun v148 h => ?_)
              refine lv_iconst (v := 4) X.1 X.2.1 dX8_does_151 (by decide) ?_
              refine lv_iload_n X.1 X.2.1 dX8_does_152 rfl (lv_at hl 2 rfl) ?_
              refine lv_imul X.1 X.2.1 dX8_does_153 ?_
              refine lv_iload X.1 X.2.1 dX8_does_154 (lv_at hl 4 rfl) ?_
              refine lv_iadd X.1 X.2.1 dX8_does_156 ?_
              refine q_ldI X I (by decide) (by decide) dX8_does_157 h (fun v157 h => ?_)
              refine q_aload_n X dX8_does_158 rfl (lv_at hl 0 rfl) ?_
              refine q_getR (ci := 9) (k := 7) X I rfl inb_TX8 wd_845 (by decide) qt_367 dX8_does_159 h (fun v159 h => ?_)
              refine lv_iconst (v := 4) X.1 X.2.1 dX8_does_162 (by decide) ?_
              refine lv_iload_n X.1 X.2.1 dX8_does_163 rfl (lv_at hl 2 rfl) ?_
              refine lv_imul X.1 X.2.1 dX8_does_164 ?_
              refine lv_iload X.1 X.2.1 dX8_does_165 (lv_at hl 4 rfl) ?_
              refine lv_iadd X.1 X.2.1 dX8_does_167 ?_
              refine q_ldI X I (by decide) (by decide) dX8_does_168 h (fun v168 h => ?_)
              refine lv_isub X.1 X.2.1 dX8_does_169 ?_
              refine lv_iload_n X.1 X.2.1 dX8_does_170 rfl (lv_at hl 3 rfl) ?_
              refine lv_imul X.1 X.2.1 dX8_does_171 ?_
              refine lv_iadd X.1 X.2.1 dX8_does_172 ?_
              refine q_stI X I (by decide) (by decide) dX8_does_173 h (fun S H locs I h => ?_)
              refine q_aload_n X dX8_does_174 rfl (lv_at hl 0 rfl) ?_
              refine q_getR (ci := 9) (k := 13) X I rfl inb_TX8 wd_851 (by decide) qt_373 dX8_does_175 h (fun v175 h => ?_)
              refine lv_iload X.1 X.2.1 dX8_does_178 (lv_at hl 4 rfl) ?_
              refine lv_dup2_11 X.1 X.2.1 dX8_does_180 rfl (q_cat _) ?_
              refine q_ldJ X I (by decide) (by decide) dX8_does_181 h (fun v181 h => ?_)
              refine q_aload_n X dX8_does_182 rfl (lv_at hl 0 rfl) ?_
              refine q_getR (ci := 9) (k := 8) X I rfl inb_TX8 wd_846 (by decide) qt_368 dX8_does_183 h (fun v183 h => ?_)
              refine lv_iconst (v := 4) X.1 X.2.1 dX8_does_186 (by decide) ?_
              refine lv_iload_n X.1 X.2.1 dX8_does_187 rfl (lv_at hl 2 rfl) ?_
              refine lv_imul X.1 X.2.1 dX8_does_188 ?_
              refine lv_iload X.1 X.2.1 dX8_does_189 (lv_at hl 4 rfl) ?_
              refine lv_iadd X.1 X.2.1 dX8_does_191 ?_
              refine q_ldI X I (by decide) (by decide) dX8_does_192 h (fun v192 h => ?_)
              refine lv_i2l X.1 X.2.1 dX8_does_193 rfl ?_
              refine lv_iload_n X.1 X.2.1 dX8_does_194 rfl (lv_at hl 3 rfl) ?_
              refine lv_i2l X.1 X.2.1 dX8_does_195 rfl ?_
              refine lv_lmul X.1 X.2.1 dX8_does_196 ?_
              refine lv_ladd X.1 X.2.1 dX8_does_197 ?_
              refine q_stJ X I (by decide) (by decide) dX8_does_198 h (fun S H locs I h => ?_)
              refine q_aload_n X dX8_does_199 rfl (lv_at hl 0 rfl) ?_
              refine q_getR (ci := 9) (k := 14) X I rfl inb_TX8 wd_852 (by decide) qt_374 dX8_does_200 h (fun v200 h => ?_)
              refine lv_iload X.1 X.2.1 dX8_does_203 (lv_at hl 4 rfl) ?_
              refine lv_dup2_11 X.1 X.2.1 dX8_does_205 rfl (q_cat _) ?_
              refine q_ldJ X I (by decide) (by decide) dX8_does_206 h (fun v206 h => ?_)
              refine q_aload_n X dX8_does_207 rfl (lv_at hl 0 rfl) ?_
              refine q_getR (ci := 9) (k := 7) X I rfl inb_TX8 wd_845 (by decide) qt_367 dX8_does_208 h (fun v208 h => ?_)
              refine lv_iconst (v := 4) X.1 X.2.1 dX8_does_211 (by decide) ?_
              refine lv_iload_n X.1 X.2.1 dX8_does_212 rfl (lv_at hl 2 rfl) ?_
              refine lv_imul X.1 X.2.1 dX8_does_213 ?_
              refine lv_iload X.1 X.2.1 dX8_does_214 (lv_at hl 4 rfl) ?_
              refine lv_iadd X.1 X.2.1 dX8_does_216 ?_
              refine q_ldI X I (by decide) (by decide) dX8_does_217 h (fun v217 h => ?_)
              refine lv_i2l X.1 X.2.1 dX8_does_218 rfl ?_
              refine lv_iload_n X.1 X.2.1 dX8_does_219 rfl (lv_at hl 3 rfl) ?_
              refine lv_i2l X.1 X.2.1 dX8_does_220 rfl ?_
              refine lv_lmul X.1 X.2.1 dX8_does_221 ?_
              refine lv_ladd X.1 X.2.1 dX8_does_222 ?_
              refine q_stJ X I (by decide) (by decide) dX8_does_223 h (fun S H locs I h => ?_)
              refine lv_iinc (v := (x6 + 1)) (lv' := [(6, .int (x6 + 1)), (0, va_rf x0), (1, .int x1), (2, .int x2), (3, .int x3)]) (k := 4) X.1 X.2.1 dX8_does_224 hl rfl rfl (by decide) rfl (fun ls hl => ?_)
              refine lv_goto (tgt := 129) X.1 X.2.1 dX8_does_227 (by decide) ?_
              exact ih129 _ _ _ _ _ _ _ _ _ h I (lv_sub hl [1, 2, 3, 4, 0] rfl)
        exact lp129 n129 _ _ _ _ _ _ _ _ _ h I (lv_sub hl [1, 2, 3, 4, 0] rfl)
      · have h := h.2 c121
        refine lv_iconst (v := 2) X.1 X.2.1 dX8_does_124 (by decide) ?_
        exact q_iret X I hr dX8_does_125 h (by decide) (by decide)
    · have h := h.2 c114
      refine lv_iconst (v := 1) X.1 X.2.1 dX8_does_117 (by decide) ?_
      exact q_iret X I hr dX8_does_118 h (by decide) (by decide)
  obtain ⟨n9, h⟩ := h
  have lp9 : ∀ (n9 : Nat) (x0 : Option Nat) (x1 : Int32) (x2 : Int32) (x3 : Int32) (x4 : Int32) (x5 : Int32) (x6 : Int32) (S : qS) (H : Heap) (locs : List Loc) (ls : Array Slot), pX8_does_L9 (pX8_does_J112 post xp) post xp n9 x0 x1 x2 x3 x4 x5 x6 S → q_H G A s H locs S → lv_has ls 11 [(0, va_rf x0), (1, .int x1), (2, .int x2), (3, .int x3), (4, .int x4), (5, .int x5), (6, .int x6)] → W p l e (q_rm 1 0 0) s m av below meth c H locs 0 0 (vx_MQ below (q_Qi G post A) (q_XC G A xp) av s 0 0 A) (F0 m 9 ls []) := by
    intro n9
    induction n9 with
    | zero => intro x0 x1 x2 x3 x4 x5 x6 S H locs ls h I hl; exact h.elim
    | succ n9 ih9 =>
      intro x0 x1 x2 x3 x4 x5 x6 S H locs ls h I hl
      unfold pX8_does_L9 at h
      refine lv_iload X.1 X.2.1 dX8_does_9 (lv_at hl 6 rfl) ?_
      refine lv_iconst (v := 4) X.1 X.2.1 dX8_does_11 (by decide) ?_
      refine lv_icmp_ge (tgt := 112) X.1 X.2.1 dX8_does_12 (by decide) (fun c12 => ?_) (fun c12 => ?_)
      · have h := h.1 c12
        exact jn112 _ _ _ _ _ _ _ _ _ _ h I (lv_sub hl [0, 1, 2, 3, 4, 5] rfl)
      · have h := h.2 c12
        refine q_aload_n X dX8_does_15 rfl (lv_at hl 0 rfl) ?_
        refine q_getR (ci := 9) (k := 2) X I rfl inb_TX8 wd_840 (by decide) qt_362 dX8_does_16 h (fun v16 h => ?_)
        refine lv_iconst (v := 4) X.1 X.2.1 dX8_does_19 (by decide) ?_
        refine lv_iload_n X.1 X.2.1 dX8_does_20 rfl (lv_at hl 1 rfl) ?_
        refine lv_imul X.1 X.2.1 dX8_does_21 ?_
        refine lv_iload X.1 X.2.1 dX8_does_22 (lv_at hl 6 rfl) ?_
        refine lv_iadd X.1 X.2.1 dX8_does_24 ?_
        refine q_ldI X I (by decide) (by decide) dX8_does_25 h (fun v25 h => ?_)
        refine lv_i2l X.1 X.2.1 dX8_does_26 rfl ?_
        refine lv_lstore (i := 7) (lv' := [(7, .long v25.toInt64), (0, va_rf x0), (1, .int x1), (2, .int x2), (3, .int x3), (4, .int x4), (5, .int x5), (6, .int x6)]) X.1 X.2.1 dX8_does_27 hl (by decide) rfl (fun ls hl => ?_)
        refine q_aload_n X dX8_does_29 rfl (lv_at hl 1 rfl) ?_
        refine q_getR (ci := 9) (k := 7) X I rfl inb_TX8 wd_845 (by decide) qt_367 dX8_does_30 h (fun v30 h => ?_)
        refine lv_iconst (v := 4) X.1 X.2.1 dX8_does_33 (by decide) ?_
        refine lv_iload_n X.1 X.2.1 dX8_does_34 rfl (lv_at hl 3 rfl) ?_
        refine lv_imul X.1 X.2.1 dX8_does_35 ?_
        refine lv_iload X.1 X.2.1 dX8_does_36 (lv_at hl 7 rfl) ?_
        refine lv_iadd X.1 X.2.1 dX8_does_38 ?_
        refine q_ldI X I (by decide) (by decide) dX8_does_39 h (fun v39 h => ?_)
        refine lv_i2l X.1 X.2.1 dX8_does_40 rfl ?_
        refine lv_iload_n X.1 X.2.1 dX8_does_41 rfl (lv_at hl 4 rfl) ?_
        refine lv_i2l X.1 X.2.1 dX8_does_42 rfl ?_
        refine lv_lmul X.1 X.2.1 dX8_does_43 ?_
        refine lv_lstore (i := 9) (lv' := [(9, .long (v39.toInt64 * x3.toInt64)), (7, .long v25.toInt64), (0, va_rf x0), (1, .int x1), (2, .int x2), (3, .int x3), (4, .int x4), (5, .int x5), (6, .int x6)]) X.1 X.2.1 dX8_does_44 hl (by decide) rfl (fun ls hl => ?_)
        refine lv_iload X.1 X.2.1 dX8_does_46 (lv_at hl 6 rfl) ?_
        have jn64 : ∀ (x0 : Option Nat) (x1 : Int32) (x2 : Int32) (x3 : Int32) (x5 : Int32) (x6 : Int32) (x7 : Int64) (x9 : Int64) (t0 : Int32) (S : qS) (H : Heap) (locs : List Loc) (ls : Array Slot), pX8_does_J64 (pX8_does_L9 (pX8_does_J112 post xp) post xp n9) post xp x0 x1 x2 x3 x5 x6 x7 x9 t0 S → q_H G A s H locs S → lv_has ls 11 [(0, va_rf x0), (1, .int x1), (2, .int x2), (3, .int x3), (5, .int x5), (6, .int x6), (7, .long x7), (9, .long x9)] → W p l e (q_rm 1 0 0) s m av below meth c H locs 0 0 (vx_MQ below (q_Qi G post A) (q_XC G A xp) av s 0 0 A) (F0 m 64 ls [.int t0]) := by
          intro x0 x1 x2 x3 x5 x6 x7 x9 t0 S H locs ls h I hl
          unfold pX8_does_J64 at h
          refine lv_istore (i := 4) (lv' := [(4, .int t0), (0, va_rf x0), (1, .int x1), (2, .int x2), (3, .int x3), (5, .int x5), (6, .int x6), (7, .long x7), (9, .long x9)]) X.1 X.2.1 dX8_does_64 hl (by decide) rfl (fun ls hl => ?_)
          refine lv_iload X.1 X.2.1 dX8_does_66 (lv_at hl 5 rfl) ?_
          have jn104 : ∀ (x0 : Option Nat) (x1 : Int32) (x2 : Int32) (x3 : Int32) (x4 : Int32) (x6 : Int32) (t0 : Int32) (S : qS) (H : Heap) (locs : List Loc) (ls : Array Slot), pX8_does_J104 (pX8_does_L9 (pX8_does_J112 post xp) post xp n9) post xp x0 x1 x2 x3 x4 x6 t0 S → q_H G A s H locs S → lv_has ls 11 [(0, va_rf x0), (1, .int x1), (2, .int x2), (3, .int x3), (4, .int x4), (6, .int x6)] → W p l e (q_rm 1 0 0) s m av below meth c H locs 0 0 (vx_MQ below (q_Qi G post A) (q_XC G A xp) av s 0 0 A) (F0 m 104 ls [.int t0]) := by
            intro x0 x1 x2 x3 x4 x6 t0 S H locs ls h I hl
            unfold pX8_does_J104 at h
            refine lv_istore (i := 5) (lv' := [(5, .int t0), (0, va_rf x0), (1, .int x1), (2, .int x2), (3, .int x3), (4, .int x4), (6, .int x6)]) X.1 X.2.1 dX8_does_104 hl (by decide) rfl (fun ls hl => ?_)
            refine lv_iinc (v := (x6 + 1)) (lv' := [(6, .int (x6 + 1)), (5, .int t0), (0, va_rf x0), (1, .int x1), (2, .int x2), (3, .int x3), (4, .int x4)]) (k := 6) X.1 X.2.1 dX8_does_106 hl rfl rfl (by decide) rfl (fun ls hl => ?_)
            refine lv_goto (tgt := 9) X.1 X.2.1 dX8_does_109 (by decide) ?_
            exact ih9 _ _ _ _ _ _ _ _ _ _ _ h I (lv_sub hl [2, 3, 4, 5, 6, 1, 0] rfl)
          have jn99 : ∀ (x0 : Option Nat) (x1 : Int32) (x2 : Int32) (x3 : Int32) (x4 : Int32) (x6 : Int32) (S : qS) (H : Heap) (locs : List Loc) (ls : Array Slot), pX8_does_J99 (pX8_does_L9 (pX8_does_J112 post xp) post xp n9) post xp x0 x1 x2 x3 x4 x6 S → q_H G A s H locs S → lv_has ls 11 [(0, va_rf x0), (1, .int x1), (2, .int x2), (3, .int x3), (4, .int x4), (6, .int x6)] → W p l e (q_rm 1 0 0) s m av below meth c H locs 0 0 (vx_MQ below (q_Qi G post A) (q_XC G A xp) av s 0 0 A) (F0 m 99 ls []) := by
            intro x0 x1 x2 x3 x4 x6 S H locs ls h I hl
            unfold pX8_does_J99 at h
            refine lv_iconst (v := 1) X.1 X.2.1 dX8_does_99 (by decide) ?_
            refine lv_goto (tgt := 104) X.1 X.2.1 dX8_does_100 (by decide) ?_
            exact jn104 _ _ _ _ _ _ _ _ _ _ _ h I (lv_sub hl [0, 1, 2, 3, 4, 5] rfl)
          refine lv_if_ne (tgt := 99) X.1 X.2.1 dX8_does_68 (by decide) (fun c68 => ?_) (fun c68 => ?_)
          · have h := h.1 c68
            exact jn99 _ _ _ _ _ _ _ _ _ _ h I (lv_sub hl [1, 2, 3, 4, 0, 6] rfl)
          · have h := h.2 c68
            refine lv_lload X.1 X.2.1 dX8_does_71 (lv_at hl 7 rfl) ?_
            refine lv_lload X.1 X.2.1 dX8_does_73 (lv_at hl 8 rfl) ?_
            refine lv_lsub X.1 X.2.1 dX8_does_75 ?_
            refine q_aload_n X dX8_does_76 rfl (lv_at hl 1 rfl) ?_
            refine q_getR (ci := 9) (k := 8) X I rfl inb_TX8 wd_846 (by decide) qt_368 dX8_does_77 h (fun v77 h => ?_)
            refine lv_iconst (v := 4) X.1 X.2.1 dX8_does_80 (by decide) ?_
            refine lv_iload_n X.1 X.2.1 dX8_does_81 rfl (lv_at hl 3 rfl) ?_
            refine lv_imul X.1 X.2.1 dX8_does_82 ?_
            refine lv_iload X.1 X.2.1 dX8_does_83 (lv_at hl 6 rfl) ?_
            refine lv_iadd X.1 X.2.1 dX8_does_85 ?_
            refine q_ldI X I (by decide) (by decide) dX8_does_86 h (fun v86 h => ?_)
            refine lv_i2l X.1 X.2.1 dX8_does_87 rfl ?_
            refine lv_iload_n X.1 X.2.1 dX8_does_88 rfl (lv_at hl 4 rfl) ?_
            refine lv_i2l X.1 X.2.1 dX8_does_89 rfl ?_
            refine lv_lmul X.1 X.2.1 dX8_does_90 ?_
            refine lv_ladd X.1 X.2.1 dX8_does_91 ?_
            refine lv_ldc2 X.1 X.2.1 X.2.2.1 (X.2.2.2.1 _ wd_984) dX8_does_92 ?_
            refine W.lcmp X.1 X.2.1 dX8_does_95 ?_
            refine lv_if_le (tgt := 103) X.1 X.2.1 dX8_does_96 (by decide) (fun c96 => ?_) (fun c96 => ?_)
            · have h := h.1 c96
              refine lv_iconst (v := 0) X.1 X.2.1 dX8_does_103 (by decide) ?_
              exact jn104 _ _ _ _ _ _ _ _ _ _ _ h I (lv_sub hl [1, 2, 3, 4, 0, 6] rfl)
            · have h := h.2 c96
              exact jn99 _ _ _ _ _ _ _ _ _ _ h I (lv_sub hl [1, 2, 3, 4, 0, 6] rfl)
        have jn59 : ∀ (x0 : Option Nat) (x1 : Int32) (x2 : Int32) (x3 : Int32) (x5 : Int32) (x6 : Int32) (x7 : Int64) (x9 : Int64) (S : qS) (H : Heap) (locs : List Loc) (ls : Array Slot), pX8_does_J59 (pX8_does_L9 (pX8_does_J112 post xp) post xp n9) post xp x0 x1 x2 x3 x5 x6 x7 x9 S → q_H G A s H locs S → lv_has ls 11 [(0, va_rf x0), (1, .int x1), (2, .int x2), (3, .int x3), (5, .int x5), (6, .int x6), (7, .long x7), (9, .long x9)] → W p l e (q_rm 1 0 0) s m av below meth c H locs 0 0 (vx_MQ below (q_Qi G post A) (q_XC G A xp) av s 0 0 A) (F0 m 59 ls []) := by
          intro x0 x1 x2 x3 x5 x6 x7 x9 S H locs ls h I hl
          unfold pX8_does_J59 at h
          refine lv_iconst (v := 1) X.1 X.2.1 dX8_does_59 (by decide) ?_
          refine lv_goto (tgt := 64) X.1 X.2.1 dX8_does_60 (by decide) ?_
          exact jn64 _ _ _ _ _ _ _ _ _ _ _ _ _ h I (lv_sub hl [0, 1, 2, 3, 4, 5, 6, 7] rfl)
        refine lv_if_ne (tgt := 59) X.1 X.2.1 dX8_does_48 (by decide) (fun c48 => ?_) (fun c48 => ?_)
        · have h := h.1 c48
          exact jn59 _ _ _ _ _ _ _ _ _ _ _ _ h I (lv_sub hl [2, 3, 4, 5, 7, 8, 1, 0] rfl)
        · have h := h.2 c48
          refine lv_lload X.1 X.2.1 dX8_does_51 (lv_at hl 1 rfl) ?_
          refine lv_lload X.1 X.2.1 dX8_does_53 (lv_at hl 0 rfl) ?_
          refine W.lcmp X.1 X.2.1 dX8_does_55 ?_
          refine lv_if_ge (tgt := 63) X.1 X.2.1 dX8_does_56 (by decide) (fun c56 => ?_) (fun c56 => ?_)
          · have h := h.1 c56
            refine lv_iconst (v := 0) X.1 X.2.1 dX8_does_63 (by decide) ?_
            exact jn64 _ _ _ _ _ _ _ _ _ _ _ _ _ h I (lv_sub hl [2, 3, 4, 5, 7, 8, 1, 0] rfl)
          · have h := h.2 c56
            exact jn59 _ _ _ _ _ _ _ _ _ _ _ _ h I (lv_sub hl [2, 3, 4, 5, 7, 8, 1, 0] rfl)
  exact lp9 n9 _ _ _ _ _ _ _ _ _ _ _ h I (lv_sub hl [3, 4, 5, 6, 2, 1, 0] rfl)

def pX8_deed_J60  (post : Int32 → qS → Prop) (xp : String → qS → Prop)  (S : qS) : Prop :=
  post (0 : Int32) S
def pX8_deed_J88  (post : Int32 → qS → Prop) (xp : String → qS → Prop) (x0 : Option Nat) (x1 : Int32) (x2 : Int32) (x3 : Int32) (x4 : Int32) (S : qS) : Prop :=
  w_getR S x0 9 3 (fun v90 =>
  w_ldI S v90 33 x1 (fun v94 =>
  ((x2 = (v94 + (1 : Int32)) →
  w_getR S x0 9 3 (fun v103 =>
  w_stI S v103 33 x1 x2 (fun S =>
  w_getR S x0 9 4 (fun v110 =>
  w_at S x0 9 (fun b119 => pX8_does b119 x1 x3 x4 S (fun v119 S =>
  w_stI S v110 34 x1 v119 (fun S =>
  w_getR S x0 9 4 (fun v124 =>
  w_ldI S v124 34 x1 (fun v128 =>
  post v128 S)))) xp))))) ∧ (¬ x2 = (v94 + (1 : Int32)) →
  post (3 : Int32) S))))
def pX8_deed_J53  (post : Int32 → qS → Prop) (xp : String → qS → Prop) (x0 : Option Nat) (x1 : Int32) (x2 : Int32) (x3 : Int32) (x4 : Int32) (t0 : Option Nat) (t1 : Int32) (S : qS) : Prop :=
  w_at S t0 9 (fun b54 => pX8_throwsIf b54 t1 (2 : Int32) S (fun v54 S =>
  ((v54 = 0 →
  w_getR S x0 9 3 (fun v63 =>
  w_ldI S v63 33 x1 (fun v67 =>
  ((v67 ≤ 0 →
  pX8_deed_J88 post xp x0 x1 x2 x3 x4 S) ∧ (¬ v67 ≤ 0 →
  w_getR S x0 9 3 (fun v73 =>
  w_ldI S v73 33 x1 (fun v77 =>
  ((¬ x2 = v77 →
  pX8_deed_J88 post xp x0 x1 x2 x3 x4 S) ∧ (x2 = v77 →
  w_getR S x0 9 4 (fun v82 =>
  w_ldI S v82 34 x1 (fun v86 =>
  post v86 S))))))))))) ∧ (¬ v54 = 0 →
  pX8_deed_J60 post xp S))) xp)
def pX8_deed_J27  (post : Int32 → qS → Prop) (xp : String → qS → Prop) (x0 : Option Nat) (x1 : Int32) (x2 : Int32) (x3 : Int32) (x4 : Int32) (t0 : Option Nat) (t1 : Int32) (S : qS) : Prop :=
  w_at S t0 9 (fun b28 => pX8_throwsIf b28 t1 (1 : Int32) S (fun v28 S =>
  ((¬ v28 = 0 →
  pX8_deed_J60 post xp S) ∧ (v28 = 0 →
  pX8_in x4.toInt64 (1 : Int64) (1000 : Int64) S (fun v42 S =>
  ((¬ v42 = 0 →
  pX8_deed_J53 post xp x0 x1 x2 x3 x4 x0 (0 : Int32) S) ∧ (v42 = 0 →
  pX8_deed_J53 post xp x0 x1 x2 x3 x4 x0 (1 : Int32) S))) xp))) xp)
def pX8_deed_J22  (post : Int32 → qS → Prop) (xp : String → qS → Prop) (x0 : Option Nat) (x1 : Int32) (x2 : Int32) (x3 : Int32) (x4 : Int32) (t0 : Option Nat) (S : qS) : Prop :=
  pX8_deed_J27 post xp x0 x1 x2 x3 x4 t0 (1 : Int32) S
def pX8_deed (x0 : Nat) (x1 : Int32) (x2 : Int32) (x3 : Int32) (x4 : Int32) (S : qS) (post : Int32 → qS → Prop) (xp : String → qS → Prop) : Prop :=
  w_putI S (some x0) 9 0 (0 : Int32) (fun S =>
  w_at S (some x0) 9 (fun b8 => pX8_noPlayer b8 x1 S (fun v8 S =>
  ((¬ v8 = 0 →
  pX8_deed_J22 post xp (some x0) x1 x2 x3 x4 (some x0) S) ∧ (v8 = 0 →
  w_at S (some x0) 9 (fun b16 => pX8_noRule b16 x3 S (fun v16 S =>
  ((v16 = 0 →
  pX8_deed_J27 post xp (some x0) x1 x2 x3 x4 (some x0) (0 : Int32) S) ∧ (¬ v16 = 0 →
  pX8_deed_J22 post xp (some x0) x1 x2 x3 x4 (some x0) S))) xp)))) xp))
set_option maxHeartbeats 4000000 in
set_option maxRecDepth 100000 in
theorem kX8_deed {l : Launch} (hl0 : l.stackTraces = false) {G : qG} {S : qS} {sz : Nat} {x0 : Nat} {x1 : Int32} {x2 : Int32} {x3 : Int32} {x4 : Int32} {post : Int32 → qS → Prop} {xp : String → qS → Prop} (h : pX8_deed x0 x1 x2 x3 x4 S post xp) : q_M l yX8_deed cX8_deed 5 (some .int) 3 0 0 G S sz [va_rf (some x0), .int x1, .int x2, .int x3, .int x4] (q_Qi G post) xp := by
  refine q_of (lv := [(0, va_rf (some x0)), (1, .int x1), (2, .int x2), (3, .int x3), (4, .int x4)]) hl0 (by decide) rfl (Nat.le_of_ble_eq_true rfl) (fun p e s m below meth c A ls X N hr hnm I hl => ?_)
  generalize ([va_rf (some x0), .int x1, .int x2, .int x3, .int x4] : List Value).toArray = av at X ⊢
  unfold pX8_deed at h
  refine q_aload_n X dX8_deed_0 rfl (lv_at hl 0 rfl) ?_
  refine lv_iconst (v := 0) X.1 X.2.1 dX8_deed_1 (by decide) ?_
  refine q_putI (ci := 9) (k := 0) X I rfl inb_TX8 tyX8_ok nmX8 wd_838 (by decide) (Or.inl rfl) qt_360 rfl dX8_deed_2 h (fun S H locs I h => ?_)
  refine q_aload_n X dX8_deed_5 rfl (lv_at hl 0 rfl) ?_
  refine q_aload_n X dX8_deed_6 rfl (lv_at hl 0 rfl) ?_
  refine lv_iload_n X.1 X.2.1 dX8_deed_7 rfl (lv_at hl 1 rfl) ?_
  refine q_cVi (As := [.int x1]) (rest := [va_rf (some x0)]) (c1 := 0) (s1 := 0) (d := 2) (mc := 0) (ms := 0) X N I hl.1 mX8_noPlayer wd_975 dX8_deed_8 rfl h (fun b h => kX8_noPlayer hl0 h) rfl (Nat.le_of_ble_eq_true rfl) ⟨by decide, by decide⟩ ⟨by decide, by decide⟩ ⟨by decide, by decide⟩ rfl rfl (fun v8 S H locs I h => ?_)
  have jn27 : ∀ (x0 : Option Nat) (x1 : Int32) (x2 : Int32) (x3 : Int32) (x4 : Int32) (t0 : Option Nat) (t1 : Int32) (S : qS) (H : Heap) (locs : List Loc) (ls : Array Slot), pX8_deed_J27 post xp x0 x1 x2 x3 x4 t0 t1 S → q_H G A s H locs S → lv_has ls 5 [(0, va_rf x0), (1, .int x1), (2, .int x2), (3, .int x3), (4, .int x4)] → W p l e (q_rm 3 0 0) s m av below meth c H locs 0 0 (vx_MQ below (q_Qi G post A) (q_XC G A xp) av s 0 0 A) (F0 m 27 ls [.int t1, va_rf t0]) := by
    intro x0 x1 x2 x3 x4 t0 t1 S H locs ls h I hl
    unfold pX8_deed_J27 at h
    refine lv_iconst (v := 1) X.1 X.2.1 dX8_deed_27 (by decide) ?_
    refine q_cVi (As := [.int t1, .int (1 : Int32)]) (rest := []) (c1 := 0) (s1 := 0) (d := 1) (mc := 0) (ms := 0) X N I hl.1 mX8_throwsIf wd_947 dX8_deed_28 rfl h (fun b h => kX8_throwsIf hl0 h) rfl (Nat.le_of_ble_eq_true rfl) ⟨by decide, by decide⟩ ⟨by decide, by decide⟩ ⟨by decide, by decide⟩ rfl rfl (fun v28 S H locs I h => ?_)
    have jn60 : ∀ (S : qS) (H : Heap) (locs : List Loc) (ls : Array Slot), pX8_deed_J60 post xp S → q_H G A s H locs S → lv_has ls 5 [] → W p l e (q_rm 3 0 0) s m av below meth c H locs 0 0 (vx_MQ below (q_Qi G post A) (q_XC G A xp) av s 0 0 A) (F0 m 60 ls []) := by
      intro S H locs ls h I hl
      unfold pX8_deed_J60 at h
      refine lv_iconst (v := 0) X.1 X.2.1 dX8_deed_60 (by decide) ?_
      exact q_iret X I hr dX8_deed_61 h (by decide) (by decide)
    refine lv_if_ne (tgt := 60) X.1 X.2.1 dX8_deed_31 (by decide) (fun c31 => ?_) (fun c31 => ?_)
    · have h := h.1 c31
      exact jn60 _ _ _ _ h I (lv_sub hl [] rfl)
    · have h := h.2 c31
      refine q_aload_n X dX8_deed_34 rfl (lv_at hl 0 rfl) ?_
      refine lv_iload X.1 X.2.1 dX8_deed_35 (lv_at hl 4 rfl) ?_
      refine lv_i2l X.1 X.2.1 dX8_deed_37 rfl ?_
      refine lv_lconst (v := 1) X.1 X.2.1 dX8_deed_38 (by decide) ?_
      refine lv_ldc2 X.1 X.2.1 X.2.2.1 (X.2.2.2.1 _ wd_979) dX8_deed_39 ?_
      refine q_cSi (As := [.long x4.toInt64, .long (1 : Int64), .long (1000 : Int64)]) (rest := [va_rf x0]) (c1 := 0) (s1 := 0) (d := 1) (mc := 0) (ms := 0) X N I hl.1 mX8_in wd_963 dX8_deed_42 rfl (kX8_in hl0 h) rfl (by simp [q_cat, q_catI, q_catJ]) ⟨by decide, by decide⟩ ⟨by decide, by decide⟩ ⟨by decide, by decide⟩ rfl rfl (fun v42 S H locs I h => ?_)
      have jn53 : ∀ (x0 : Option Nat) (x1 : Int32) (x2 : Int32) (x3 : Int32) (x4 : Int32) (t0 : Option Nat) (t1 : Int32) (S : qS) (H : Heap) (locs : List Loc) (ls : Array Slot), pX8_deed_J53 post xp x0 x1 x2 x3 x4 t0 t1 S → q_H G A s H locs S → lv_has ls 5 [(0, va_rf x0), (1, .int x1), (2, .int x2), (3, .int x3), (4, .int x4)] → W p l e (q_rm 3 0 0) s m av below meth c H locs 0 0 (vx_MQ below (q_Qi G post A) (q_XC G A xp) av s 0 0 A) (F0 m 53 ls [.int t1, va_rf t0]) := by
        intro x0 x1 x2 x3 x4 t0 t1 S H locs ls h I hl
        unfold pX8_deed_J53 at h
        refine lv_iconst (v := 2) X.1 X.2.1 dX8_deed_53 (by decide) ?_
        refine q_cVi (As := [.int t1, .int (2 : Int32)]) (rest := []) (c1 := 0) (s1 := 0) (d := 1) (mc := 0) (ms := 0) X N I hl.1 mX8_throwsIf wd_947 dX8_deed_54 rfl h (fun b h => kX8_throwsIf hl0 h) rfl (Nat.le_of_ble_eq_true rfl) ⟨by decide, by decide⟩ ⟨by decide, by decide⟩ ⟨by decide, by decide⟩ rfl rfl (fun v54 S H locs I h => ?_)
        refine lv_if_eq (tgt := 62) X.1 X.2.1 dX8_deed_57 (by decide) (fun c57 => ?_) (fun c57 => ?_)
        · have h := h.1 c57
          refine q_aload_n X dX8_deed_62 rfl (lv_at hl 0 rfl) ?_
          refine q_getR (ci := 9) (k := 3) X I rfl inb_TX8 wd_841 (by decide) qt_363 dX8_deed_63 h (fun v63 h => ?_)
          refine lv_iload_n X.1 X.2.1 dX8_deed_66 rfl (lv_at hl 1 rfl) ?_
          refine q_ldI X I (by decide) (by decide) dX8_deed_67 h (fun v67 h => ?_)
          have jn88 : ∀ (x0 : Option Nat) (x1 : Int32) (x2 : Int32) (x3 : Int32) (x4 : Int32) (S : qS) (H : Heap) (locs : List Loc) (ls : Array Slot), pX8_deed_J88 post xp x0 x1 x2 x3 x4 S → q_H G A s H locs S → lv_has ls 5 [(0, va_rf x0), (1, .int x1), (2, .int x2), (3, .int x3), (4, .int x4)] → W p l e (q_rm 3 0 0) s m av below meth c H locs 0 0 (vx_MQ below (q_Qi G post A) (q_XC G A xp) av s 0 0 A) (F0 m 88 ls []) := by
            intro x0 x1 x2 x3 x4 S H locs ls h I hl
            unfold pX8_deed_J88 at h
            refine lv_iload_n X.1 X.2.1 dX8_deed_88 rfl (lv_at hl 2 rfl) ?_
            refine q_aload_n X dX8_deed_89 rfl (lv_at hl 0 rfl) ?_
            refine q_getR (ci := 9) (k := 3) X I rfl inb_TX8 wd_841 (by decide) qt_363 dX8_deed_90 h (fun v90 h => ?_)
            refine lv_iload_n X.1 X.2.1 dX8_deed_93 rfl (lv_at hl 1 rfl) ?_
            refine q_ldI X I (by decide) (by decide) dX8_deed_94 h (fun v94 h => ?_)
            refine lv_iconst (v := 1) X.1 X.2.1 dX8_deed_95 (by decide) ?_
            refine lv_iadd X.1 X.2.1 dX8_deed_96 ?_
            refine lv_icmp_eq (tgt := 102) X.1 X.2.1 dX8_deed_97 (by decide) (fun c97 => ?_) (fun c97 => ?_)
            · have h := h.1 c97
              refine q_aload_n X dX8_deed_102 rfl (lv_at hl 0 rfl) ?_
              refine q_getR (ci := 9) (k := 3) X I rfl inb_TX8 wd_841 (by decide) qt_363 dX8_deed_103 h (fun v103 h => ?_)
              refine lv_iload_n X.1 X.2.1 dX8_deed_106 rfl (lv_at hl 1 rfl) ?_
              refine lv_iload_n X.1 X.2.1 dX8_deed_107 rfl (lv_at hl 2 rfl) ?_
              refine q_stI X I (by decide) (by decide) dX8_deed_108 h (fun S H locs I h => ?_)
              refine q_aload_n X dX8_deed_109 rfl (lv_at hl 0 rfl) ?_
              refine q_getR (ci := 9) (k := 4) X I rfl inb_TX8 wd_842 (by decide) qt_364 dX8_deed_110 h (fun v110 h => ?_)
              refine lv_iload_n X.1 X.2.1 dX8_deed_113 rfl (lv_at hl 1 rfl) ?_
              refine q_aload_n X dX8_deed_114 rfl (lv_at hl 0 rfl) ?_
              refine lv_iload_n X.1 X.2.1 dX8_deed_115 rfl (lv_at hl 1 rfl) ?_
              refine lv_iload_n X.1 X.2.1 dX8_deed_116 rfl (lv_at hl 3 rfl) ?_
              refine lv_iload X.1 X.2.1 dX8_deed_117 (lv_at hl 4 rfl) ?_
              refine q_cVi (As := [.int x1, .int x3, .int x4]) (rest := [.int x1, va_rf v110]) (c1 := 0) (s1 := 0) (d := 1) (mc := 0) (ms := 0) X N I hl.1 mX8_does wd_980 dX8_deed_119 rfl h (fun b h => kX8_does hl0 h) rfl (by simp [q_cat, q_catI, q_catJ]) ⟨by decide, by decide⟩ ⟨by decide, by decide⟩ ⟨by decide, by decide⟩ rfl rfl (fun v119 S H locs I h => ?_)
              refine q_stI X I (by decide) (by decide) dX8_deed_122 h (fun S H locs I h => ?_)
              refine q_aload_n X dX8_deed_123 rfl (lv_at hl 0 rfl) ?_
              refine q_getR (ci := 9) (k := 4) X I rfl inb_TX8 wd_842 (by decide) qt_364 dX8_deed_124 h (fun v124 h => ?_)
              refine lv_iload_n X.1 X.2.1 dX8_deed_127 rfl (lv_at hl 1 rfl) ?_
              refine q_ldI X I (by decide) (by decide) dX8_deed_128 h (fun v128 h => ?_)
              exact q_iret X I hr dX8_deed_129 h (by decide) (by decide)
            · have h := h.2 c97
              refine lv_iconst (v := 3) X.1 X.2.1 dX8_deed_100 (by decide) ?_
              exact q_iret X I hr dX8_deed_101 h (by decide) (by decide)
          refine lv_if_le (tgt := 88) X.1 X.2.1 dX8_deed_68 (by decide) (fun c68 => ?_) (fun c68 => ?_)
          · have h := h.1 c68
            exact jn88 _ _ _ _ _ _ _ _ _ h I (lv_sub hl [0, 1, 2, 3, 4] rfl)
          · have h := h.2 c68
            refine lv_iload_n X.1 X.2.1 dX8_deed_71 rfl (lv_at hl 2 rfl) ?_
            refine q_aload_n X dX8_deed_72 rfl (lv_at hl 0 rfl) ?_
            refine q_getR (ci := 9) (k := 3) X I rfl inb_TX8 wd_841 (by decide) qt_363 dX8_deed_73 h (fun v73 h => ?_)
            refine lv_iload_n X.1 X.2.1 dX8_deed_76 rfl (lv_at hl 1 rfl) ?_
            refine q_ldI X I (by decide) (by decide) dX8_deed_77 h (fun v77 h => ?_)
            refine lv_icmp_ne (tgt := 88) X.1 X.2.1 dX8_deed_78 (by decide) (fun c78 => ?_) (fun c78 => ?_)
            · have h := h.1 c78
              exact jn88 _ _ _ _ _ _ _ _ _ h I (lv_sub hl [0, 1, 2, 3, 4] rfl)
            · have h := h.2 c78
              refine q_aload_n X dX8_deed_81 rfl (lv_at hl 0 rfl) ?_
              refine q_getR (ci := 9) (k := 4) X I rfl inb_TX8 wd_842 (by decide) qt_364 dX8_deed_82 h (fun v82 h => ?_)
              refine lv_iload_n X.1 X.2.1 dX8_deed_85 rfl (lv_at hl 1 rfl) ?_
              refine q_ldI X I (by decide) (by decide) dX8_deed_86 h (fun v86 h => ?_)
              exact q_iret X I hr dX8_deed_87 h (by decide) (by decide)
        · have h := h.2 c57
          exact jn60 _ _ _ _ h I (lv_sub hl [] rfl)
      refine lv_if_ne (tgt := 52) X.1 X.2.1 dX8_deed_45 (by decide) (fun c45 => ?_) (fun c45 => ?_)
      · have h := h.1 c45
        refine lv_iconst (v := 0) X.1 X.2.1 dX8_deed_52 (by decide) ?_
        exact jn53 _ _ _ _ _ _ _ _ _ _ _ h I (lv_sub hl [0, 1, 2, 3, 4] rfl)
      · have h := h.2 c45
        refine lv_iconst (v := 1) X.1 X.2.1 dX8_deed_48 (by decide) ?_
        refine lv_goto (tgt := 53) X.1 X.2.1 dX8_deed_49 (by decide) ?_
        exact jn53 _ _ _ _ _ _ _ _ _ _ _ h I (lv_sub hl [0, 1, 2, 3, 4] rfl)
  have jn22 : ∀ (x0 : Option Nat) (x1 : Int32) (x2 : Int32) (x3 : Int32) (x4 : Int32) (t0 : Option Nat) (S : qS) (H : Heap) (locs : List Loc) (ls : Array Slot), pX8_deed_J22 post xp x0 x1 x2 x3 x4 t0 S → q_H G A s H locs S → lv_has ls 5 [(0, va_rf x0), (1, .int x1), (2, .int x2), (3, .int x3), (4, .int x4)] → W p l e (q_rm 3 0 0) s m av below meth c H locs 0 0 (vx_MQ below (q_Qi G post A) (q_XC G A xp) av s 0 0 A) (F0 m 22 ls [va_rf t0]) := by
    intro x0 x1 x2 x3 x4 t0 S H locs ls h I hl
    unfold pX8_deed_J22 at h
    refine lv_iconst (v := 1) X.1 X.2.1 dX8_deed_22 (by decide) ?_
    refine lv_goto (tgt := 27) X.1 X.2.1 dX8_deed_23 (by decide) ?_
    exact jn27 _ _ _ _ _ _ _ _ _ _ _ h I (lv_sub hl [0, 1, 2, 3, 4] rfl)
  refine lv_if_ne (tgt := 22) X.1 X.2.1 dX8_deed_11 (by decide) (fun c11 => ?_) (fun c11 => ?_)
  · have h := h.1 c11
    exact jn22 _ _ _ _ _ _ _ _ _ _ h I (lv_sub hl [0, 1, 2, 3, 4] rfl)
  · have h := h.2 c11
    refine q_aload_n X dX8_deed_14 rfl (lv_at hl 0 rfl) ?_
    refine lv_iload_n X.1 X.2.1 dX8_deed_15 rfl (lv_at hl 3 rfl) ?_
    refine q_cVi (As := [.int x3]) (rest := [va_rf (some x0)]) (c1 := 0) (s1 := 0) (d := 2) (mc := 0) (ms := 0) X N I hl.1 mX8_noRule wd_959 dX8_deed_16 rfl h (fun b h => kX8_noRule hl0 h) rfl (Nat.le_of_ble_eq_true rfl) ⟨by decide, by decide⟩ ⟨by decide, by decide⟩ ⟨by decide, by decide⟩ rfl rfl (fun v16 S H locs I h => ?_)
    refine lv_if_eq (tgt := 26) X.1 X.2.1 dX8_deed_19 (by decide) (fun c19 => ?_) (fun c19 => ?_)
    · have h := h.1 c19
      refine lv_iconst (v := 0) X.1 X.2.1 dX8_deed_26 (by decide) ?_
      exact jn27 _ _ _ _ _ _ _ _ _ _ _ h I (lv_sub hl [0, 1, 2, 3, 4] rfl)
    · have h := h.2 c19
      exact jn22 _ _ _ _ _ _ _ _ _ _ h I (lv_sub hl [0, 1, 2, 3, 4] rfl)

def pX8_has_J47  (post : Int32 → qS → Prop) (xp : String → qS → Prop) (t0 : Int32) (S : qS) : Prop :=
  post t0 S
def pX8_has_J26  (post : Int32 → qS → Prop) (xp : String → qS → Prop) (x0 : Option Nat) (x1 : Int32) (x2 : Int32) (t0 : Option Nat) (t1 : Int32) (S : qS) : Prop :=
  w_at S t0 9 (fun b27 => pX8_throwsIf b27 t1 (1 : Int32) S (fun v27 S =>
  ((v27 = 0 →
  w_getR S x0 9 2 (fun v38 =>
  w_ldI S v38 32 (((4 : Int32) * x1) + x2) (fun v46 =>
  pX8_has_J47 post xp v46 S))) ∧ (¬ v27 = 0 →
  pX8_has_J47 post xp (0 : Int32) S))) xp)
def pX8_has_J21  (post : Int32 → qS → Prop) (xp : String → qS → Prop) (x0 : Option Nat) (x1 : Int32) (x2 : Int32) (t0 : Option Nat) (S : qS) : Prop :=
  pX8_has_J26 post xp x0 x1 x2 t0 (1 : Int32) S
def pX8_has (x0 : Nat) (x1 : Int32) (x2 : Int32) (S : qS) (post : Int32 → qS → Prop) (xp : String → qS → Prop) : Prop :=
  w_putI S (some x0) 9 0 (0 : Int32) (fun S =>
  w_at S (some x0) 9 (fun b8 => pX8_noPlayer b8 x1 S (fun v8 S =>
  ((¬ v8 = 0 →
  pX8_has_J21 post xp (some x0) x1 x2 (some x0) S) ∧ (v8 = 0 →
  pX8_noKind x2 S (fun v15 S =>
  ((v15 = 0 →
  pX8_has_J26 post xp (some x0) x1 x2 (some x0) (0 : Int32) S) ∧ (¬ v15 = 0 →
  pX8_has_J21 post xp (some x0) x1 x2 (some x0) S))) xp))) xp))
set_option maxHeartbeats 4000000 in
set_option maxRecDepth 100000 in
theorem kX8_has {l : Launch} (hl0 : l.stackTraces = false) {G : qG} {S : qS} {sz : Nat} {x0 : Nat} {x1 : Int32} {x2 : Int32} {post : Int32 → qS → Prop} {xp : String → qS → Prop} (h : pX8_has x0 x1 x2 S post xp) : q_M l yX8_has cX8_has 3 (some .int) 3 0 0 G S sz [va_rf (some x0), .int x1, .int x2] (q_Qi G post) xp := by
  refine q_of (lv := [(0, va_rf (some x0)), (1, .int x1), (2, .int x2)]) hl0 (by decide) rfl (Nat.le_of_ble_eq_true rfl) (fun p e s m below meth c A ls X N hr hnm I hl => ?_)
  generalize ([va_rf (some x0), .int x1, .int x2] : List Value).toArray = av at X ⊢
  unfold pX8_has at h
  refine q_aload_n X dX8_has_0 rfl (lv_at hl 0 rfl) ?_
  refine lv_iconst (v := 0) X.1 X.2.1 dX8_has_1 (by decide) ?_
  refine q_putI (ci := 9) (k := 0) X I rfl inb_TX8 tyX8_ok nmX8 wd_838 (by decide) (Or.inl rfl) qt_360 rfl dX8_has_2 h (fun S H locs I h => ?_)
  refine q_aload_n X dX8_has_5 rfl (lv_at hl 0 rfl) ?_
  refine q_aload_n X dX8_has_6 rfl (lv_at hl 0 rfl) ?_
  refine lv_iload_n X.1 X.2.1 dX8_has_7 rfl (lv_at hl 1 rfl) ?_
  refine q_cVi (As := [.int x1]) (rest := [va_rf (some x0)]) (c1 := 0) (s1 := 0) (d := 2) (mc := 0) (ms := 0) X N I hl.1 mX8_noPlayer wd_975 dX8_has_8 rfl h (fun b h => kX8_noPlayer hl0 h) rfl (Nat.le_of_ble_eq_true rfl) ⟨by decide, by decide⟩ ⟨by decide, by decide⟩ ⟨by decide, by decide⟩ rfl rfl (fun v8 S H locs I h => ?_)
  have jn26 : ∀ (x0 : Option Nat) (x1 : Int32) (x2 : Int32) (t0 : Option Nat) (t1 : Int32) (S : qS) (H : Heap) (locs : List Loc) (ls : Array Slot), pX8_has_J26 post xp x0 x1 x2 t0 t1 S → q_H G A s H locs S → lv_has ls 3 [(0, va_rf x0), (1, .int x1), (2, .int x2)] → W p l e (q_rm 3 0 0) s m av below meth c H locs 0 0 (vx_MQ below (q_Qi G post A) (q_XC G A xp) av s 0 0 A) (F0 m 26 ls [.int t1, va_rf t0]) := by
    intro x0 x1 x2 t0 t1 S H locs ls h I hl
    unfold pX8_has_J26 at h
    refine lv_iconst (v := 1) X.1 X.2.1 dX8_has_26 (by decide) ?_
    refine q_cVi (As := [.int t1, .int (1 : Int32)]) (rest := []) (c1 := 0) (s1 := 0) (d := 1) (mc := 0) (ms := 0) X N I hl.1 mX8_throwsIf wd_947 dX8_has_27 rfl h (fun b h => kX8_throwsIf hl0 h) rfl (Nat.le_of_ble_eq_true rfl) ⟨by decide, by decide⟩ ⟨by decide, by decide⟩ ⟨by decide, by decide⟩ rfl rfl (fun v27 S H locs I h => ?_)
    have jn47 : ∀ (t0 : Int32) (S : qS) (H : Heap) (locs : List Loc) (ls : Array Slot), pX8_has_J47 post xp t0 S → q_H G A s H locs S → lv_has ls 3 [] → W p l e (q_rm 3 0 0) s m av below meth c H locs 0 0 (vx_MQ below (q_Qi G post A) (q_XC G A xp) av s 0 0 A) (F0 m 47 ls [.int t0]) := by
      intro t0 S H locs ls h I hl
      unfold pX8_has_J47 at h
      exact q_iret X I hr dX8_has_47 h (by decide) (by decide)
    refine lv_if_eq (tgt := 37) X.1 X.2.1 dX8_has_30 (by decide) (fun c30 => ?_) (fun c30 => ?_)
    · have h := h.1 c30
      refine q_aload_n X dX8_has_37 rfl (lv_at hl 0 rfl) ?_
      refine q_getR (ci := 9) (k := 2) X I rfl inb_TX8 wd_840 (by decide) qt_362 dX8_has_38 h (fun v38 h => ?_)
      refine lv_iconst (v := 4) X.1 X.2.1 dX8_has_41 (by decide) ?_
      refine lv_iload_n X.1 X.2.1 dX8_has_42 rfl (lv_at hl 1 rfl) ?_
      refine lv_imul X.1 X.2.1 dX8_has_43 ?_
      refine lv_iload_n X.1 X.2.1 dX8_has_44 rfl (lv_at hl 2 rfl) ?_
      refine lv_iadd X.1 X.2.1 dX8_has_45 ?_
      refine q_ldI X I (by decide) (by decide) dX8_has_46 h (fun v46 h => ?_)
      exact jn47 _ _ _ _ _ h I (lv_sub hl [] rfl)
    · have h := h.2 c30
      refine lv_iconst (v := 0) X.1 X.2.1 dX8_has_33 (by decide) ?_
      refine lv_goto (tgt := 47) X.1 X.2.1 dX8_has_34 (by decide) ?_
      exact jn47 _ _ _ _ _ h I (lv_sub hl [] rfl)
  have jn21 : ∀ (x0 : Option Nat) (x1 : Int32) (x2 : Int32) (t0 : Option Nat) (S : qS) (H : Heap) (locs : List Loc) (ls : Array Slot), pX8_has_J21 post xp x0 x1 x2 t0 S → q_H G A s H locs S → lv_has ls 3 [(0, va_rf x0), (1, .int x1), (2, .int x2)] → W p l e (q_rm 3 0 0) s m av below meth c H locs 0 0 (vx_MQ below (q_Qi G post A) (q_XC G A xp) av s 0 0 A) (F0 m 21 ls [va_rf t0]) := by
    intro x0 x1 x2 t0 S H locs ls h I hl
    unfold pX8_has_J21 at h
    refine lv_iconst (v := 1) X.1 X.2.1 dX8_has_21 (by decide) ?_
    refine lv_goto (tgt := 26) X.1 X.2.1 dX8_has_22 (by decide) ?_
    exact jn26 _ _ _ _ _ _ _ _ _ h I (lv_sub hl [0, 1, 2] rfl)
  refine lv_if_ne (tgt := 21) X.1 X.2.1 dX8_has_11 (by decide) (fun c11 => ?_) (fun c11 => ?_)
  · have h := h.1 c11
    exact jn21 _ _ _ _ _ _ _ _ h I (lv_sub hl [0, 1, 2] rfl)
  · have h := h.2 c11
    refine lv_iload_n X.1 X.2.1 dX8_has_14 rfl (lv_at hl 2 rfl) ?_
    refine q_cSi (As := [.int x2]) (rest := [va_rf (some x0)]) (c1 := 0) (s1 := 0) (d := 2) (mc := 0) (ms := 0) X N I hl.1 mX8_noKind wd_966 dX8_has_15 rfl (kX8_noKind hl0 h) rfl (Nat.le_of_ble_eq_true rfl) ⟨by decide, by decide⟩ ⟨by decide, by decide⟩ ⟨by decide, by decide⟩ rfl rfl (fun v15 S H locs I h => ?_)
    refine lv_if_eq (tgt := 25) X.1 X.2.1 dX8_has_18 (by decide) (fun c18 => ?_) (fun c18 => ?_)
    · have h := h.1 c18
      refine lv_iconst (v := 0) X.1 X.2.1 dX8_has_25 (by decide) ?_
      exact jn26 _ _ _ _ _ _ _ _ _ h I (lv_sub hl [0, 1, 2] rfl)
    · have h := h.2 c18
      exact jn21 _ _ _ _ _ _ _ _ h I (lv_sub hl [0, 1, 2] rfl)

def pX8_sum_J40  (post : Int64 → qS → Prop) (xp : String → qS → Prop) (t0 : Int64) (S : qS) : Prop :=
  post t0 S
def pX8_sum (x0 : Nat) (x1 : Int32) (x2 : Int32) (S : qS) (post : Int64 → qS → Prop) (xp : String → qS → Prop) : Prop :=
  w_putI S (some x0) 9 0 (0 : Int32) (fun S =>
  pX8_noKind x1 S (fun v7 S =>
  w_at S (some x0) 9 (fun b11 => pX8_throwsIf b11 v7 (1 : Int32) S (fun v11 S =>
  ((v11 = 0 →
  ((x2 = 0 →
  w_getR S (some x0) 9 13 (fun v35 =>
  w_ldJ S v35 43 x1 (fun v39 =>
  pX8_sum_J40 post xp v39 S))) ∧ (¬ x2 = 0 →
  w_getR S (some x0) 9 14 (fun v26 =>
  w_ldJ S v26 44 x1 (fun v30 =>
  pX8_sum_J40 post xp v30 S))))) ∧ (¬ v11 = 0 →
  pX8_sum_J40 post xp (0 : Int64) S))) xp)) xp)
set_option maxHeartbeats 4000000 in
set_option maxRecDepth 100000 in
theorem kX8_sum {l : Launch} (hl0 : l.stackTraces = false) {G : qG} {S : qS} {sz : Nat} {x0 : Nat} {x1 : Int32} {x2 : Int32} {post : Int64 → qS → Prop} {xp : String → qS → Prop} (h : pX8_sum x0 x1 x2 S post xp) : q_M l yX8_sum cX8_sum 3 (some .long) 3 0 0 G S sz [va_rf (some x0), .int x1, .int x2] (q_Qj G post) xp := by
  refine q_of (lv := [(0, va_rf (some x0)), (1, .int x1), (2, .int x2)]) hl0 (by decide) rfl (Nat.le_of_ble_eq_true rfl) (fun p e s m below meth c A ls X N hr hnm I hl => ?_)
  generalize ([va_rf (some x0), .int x1, .int x2] : List Value).toArray = av at X ⊢
  unfold pX8_sum at h
  refine q_aload_n X dX8_sum_0 rfl (lv_at hl 0 rfl) ?_
  refine lv_iconst (v := 0) X.1 X.2.1 dX8_sum_1 (by decide) ?_
  refine q_putI (ci := 9) (k := 0) X I rfl inb_TX8 tyX8_ok nmX8 wd_838 (by decide) (Or.inl rfl) qt_360 rfl dX8_sum_2 h (fun S H locs I h => ?_)
  refine q_aload_n X dX8_sum_5 rfl (lv_at hl 0 rfl) ?_
  refine lv_iload_n X.1 X.2.1 dX8_sum_6 rfl (lv_at hl 1 rfl) ?_
  refine q_cSi (As := [.int x1]) (rest := [va_rf (some x0)]) (c1 := 0) (s1 := 0) (d := 2) (mc := 0) (ms := 0) X N I hl.1 mX8_noKind wd_966 dX8_sum_7 rfl (kX8_noKind hl0 h) rfl (Nat.le_of_ble_eq_true rfl) ⟨by decide, by decide⟩ ⟨by decide, by decide⟩ ⟨by decide, by decide⟩ rfl rfl (fun v7 S H locs I h => ?_)
  refine lv_iconst (v := 1) X.1 X.2.1 dX8_sum_10 (by decide) ?_
  refine q_cVi (As := [.int v7, .int (1 : Int32)]) (rest := []) (c1 := 0) (s1 := 0) (d := 1) (mc := 0) (ms := 0) X N I hl.1 mX8_throwsIf wd_947 dX8_sum_11 rfl h (fun b h => kX8_throwsIf hl0 h) rfl (Nat.le_of_ble_eq_true rfl) ⟨by decide, by decide⟩ ⟨by decide, by decide⟩ ⟨by decide, by decide⟩ rfl rfl (fun v11 S H locs I h => ?_)
  have jn40 : ∀ (t0 : Int64) (S : qS) (H : Heap) (locs : List Loc) (ls : Array Slot), pX8_sum_J40 post xp t0 S → q_H G A s H locs S → lv_has ls 3 [] → W p l e (q_rm 3 0 0) s m av below meth c H locs 0 0 (vx_MQ below (q_Qj G post A) (q_XC G A xp) av s 0 0 A) (F0 m 40 ls [.long t0]) := by
    intro t0 S H locs ls h I hl
    unfold pX8_sum_J40 at h
    exact q_lret X I hr dX8_sum_40 h (by decide) (by decide)
  refine lv_if_eq (tgt := 21) X.1 X.2.1 dX8_sum_14 (by decide) (fun c14 => ?_) (fun c14 => ?_)
  · have h := h.1 c14
    refine lv_iload_n X.1 X.2.1 dX8_sum_21 rfl (lv_at hl 2 rfl) ?_
    refine lv_if_eq (tgt := 34) X.1 X.2.1 dX8_sum_22 (by decide) (fun c22 => ?_) (fun c22 => ?_)
    · have h := h.1 c22
      refine q_aload_n X dX8_sum_34 rfl (lv_at hl 0 rfl) ?_
      refine q_getR (ci := 9) (k := 13) X I rfl inb_TX8 wd_851 (by decide) qt_373 dX8_sum_35 h (fun v35 h => ?_)
      refine lv_iload_n X.1 X.2.1 dX8_sum_38 rfl (lv_at hl 1 rfl) ?_
      refine q_ldJ X I (by decide) (by decide) dX8_sum_39 h (fun v39 h => ?_)
      exact jn40 _ _ _ _ _ h I (lv_sub hl [] rfl)
    · have h := h.2 c22
      refine q_aload_n X dX8_sum_25 rfl (lv_at hl 0 rfl) ?_
      refine q_getR (ci := 9) (k := 14) X I rfl inb_TX8 wd_852 (by decide) qt_374 dX8_sum_26 h (fun v26 h => ?_)
      refine lv_iload_n X.1 X.2.1 dX8_sum_29 rfl (lv_at hl 1 rfl) ?_
      refine q_ldJ X I (by decide) (by decide) dX8_sum_30 h (fun v30 h => ?_)
      refine lv_goto (tgt := 40) X.1 X.2.1 dX8_sum_31 (by decide) ?_
      exact jn40 _ _ _ _ _ h I (lv_sub hl [] rfl)
  · have h := h.2 c14
    refine lv_lconst (v := 0) X.1 X.2.1 dX8_sum_17 (by decide) ?_
    refine lv_goto (tgt := 40) X.1 X.2.1 dX8_sum_18 (by decide) ?_
    exact jn40 _ _ _ _ _ h I (lv_sub hl [] rfl)

def pX8_isWithin_J35  (post : Int32 → qS → Prop) (xp : String → qS → Prop) (t0 : Int32) (S : qS) : Prop :=
  ((t0 = 0 ∨ t0 = 1) ∧ post t0 S)
def pX8_isWithin_J26  (post : Int32 → qS → Prop) (xp : String → qS → Prop) (x3 : Int32) (S : qS) : Prop :=
  ((x3 < 0 →
  pX8_isWithin_J35 post xp (0 : Int32) S) ∧ (¬ x3 < 0 →
  pX8_isWithin_J35 post xp (1 : Int32) S))
def pX8_isWithin_L7 (k26 : Int32 → qS → Prop) (post : Int32 → qS → Prop) (xp : String → qS → Prop) : Nat → Option Nat → Int32 → Int32 → qS → Prop
  | 0, _, _, _, _ => False
  | n7 + 1, x0, x2, x3, S =>
  ((x3 < 0 →
  k26 x3 S) ∧ (¬ x3 < 0 →
  ((x3 = x2 →
  k26 x3 S) ∧ (¬ x3 = x2 →
  w_getR S x0 9 18 (fun v17 =>
  w_ldI S v17 48 x3 (fun v21 =>
  (pX8_isWithin_L7 k26 post xp n7) x0 x2 v21 S))))))
def pX8_isWithin (x0 : Nat) (x1 : Int32) (x2 : Int32) (S : qS) (post : Int32 → qS → Prop) (xp : String → qS → Prop) : Prop :=
  w_getR S (some x0) 9 18 (fun v1 =>
  w_ldI S v1 48 x1 (fun v5 =>
  ∃ n7, pX8_isWithin_L7 (pX8_isWithin_J26 post xp) post xp n7 (some x0) x2 v5 S))
set_option maxHeartbeats 4000000 in
set_option maxRecDepth 100000 in
theorem kX8_isWithin {l : Launch} (hl0 : l.stackTraces = false) {G : qG} {S : qS} {sz : Nat} {x0 : Nat} {x1 : Int32} {x2 : Int32} {post : Int32 → qS → Prop} {xp : String → qS → Prop} (h : pX8_isWithin x0 x1 x2 S post xp) : q_M l yX8_isWithin cX8_isWithin 4 (some .boolean) 1 0 0 G S sz [va_rf (some x0), .int x1, .int x2] (q_Qi G post) xp := by
  refine q_of (lv := [(0, va_rf (some x0)), (1, .int x1), (2, .int x2)]) hl0 (by decide) rfl (Nat.le_of_ble_eq_true rfl) (fun p e s m below meth c A ls X N hr hnm I hl => ?_)
  generalize ([va_rf (some x0), .int x1, .int x2] : List Value).toArray = av at X ⊢
  unfold pX8_isWithin at h
  refine q_aload_n X dX8_isWithin_0 rfl (lv_at hl 0 rfl) ?_
  refine q_getR (ci := 9) (k := 18) X I rfl inb_TX8 wd_856 (by decide) qt_378 dX8_isWithin_1 h (fun v1 h => ?_)
  refine lv_iload_n X.1 X.2.1 dX8_isWithin_4 rfl (lv_at hl 1 rfl) ?_
  refine q_ldI X I (by decide) (by decide) dX8_isWithin_5 h (fun v5 h => ?_)
  refine lv_istore_n (i := 3) (lv' := [(3, .int v5), (0, va_rf (some x0)), (1, .int x1), (2, .int x2)]) X.1 X.2.1 dX8_isWithin_6 rfl hl (by decide) rfl (fun ls hl => ?_)
  have jn26 : ∀ (x3 : Int32) (S : qS) (H : Heap) (locs : List Loc) (ls : Array Slot), pX8_isWithin_J26 post xp x3 S → q_H G A s H locs S → lv_has ls 4 [(3, .int x3)] → W p l e (q_rm 1 0 0) s m av below meth c H locs 0 0 (vx_MQ below (q_Qi G post A) (q_XC G A xp) av s 0 0 A) (F0 m 26 ls []) := by
    intro x3 S H locs ls h I hl
    unfold pX8_isWithin_J26 at h
    refine lv_iload_n X.1 X.2.1 dX8_isWithin_26 rfl (lv_at hl 0 rfl) ?_
    have jn35 : ∀ (t0 : Int32) (S : qS) (H : Heap) (locs : List Loc) (ls : Array Slot), pX8_isWithin_J35 post xp t0 S → q_H G A s H locs S → lv_has ls 4 [] → W p l e (q_rm 1 0 0) s m av below meth c H locs 0 0 (vx_MQ below (q_Qi G post A) (q_XC G A xp) av s 0 0 A) (F0 m 35 ls [.int t0]) := by
      intro t0 S H locs ls h I hl
      unfold pX8_isWithin_J35 at h
      exact q_zret X I hr dX8_isWithin_35 h (by decide) (by decide)
    refine lv_if_lt (tgt := 34) X.1 X.2.1 dX8_isWithin_27 (by decide) (fun c27 => ?_) (fun c27 => ?_)
    · have h := h.1 c27
      refine lv_iconst (v := 0) X.1 X.2.1 dX8_isWithin_34 (by decide) ?_
      exact jn35 _ _ _ _ _ h I (lv_sub hl [] rfl)
    · have h := h.2 c27
      refine lv_iconst (v := 1) X.1 X.2.1 dX8_isWithin_30 (by decide) ?_
      refine lv_goto (tgt := 35) X.1 X.2.1 dX8_isWithin_31 (by decide) ?_
      exact jn35 _ _ _ _ _ h I (lv_sub hl [] rfl)
  obtain ⟨n7, h⟩ := h
  have lp7 : ∀ (n7 : Nat) (x0 : Option Nat) (x2 : Int32) (x3 : Int32) (S : qS) (H : Heap) (locs : List Loc) (ls : Array Slot), pX8_isWithin_L7 (pX8_isWithin_J26 post xp) post xp n7 x0 x2 x3 S → q_H G A s H locs S → lv_has ls 4 [(0, va_rf x0), (2, .int x2), (3, .int x3)] → W p l e (q_rm 1 0 0) s m av below meth c H locs 0 0 (vx_MQ below (q_Qi G post A) (q_XC G A xp) av s 0 0 A) (F0 m 7 ls []) := by
    intro n7
    induction n7 with
    | zero => intro x0 x2 x3 S H locs ls h I hl; exact h.elim
    | succ n7 ih7 =>
      intro x0 x2 x3 S H locs ls h I hl
      unfold pX8_isWithin_L7 at h
      refine lv_iload_n X.1 X.2.1 dX8_isWithin_7 rfl (lv_at hl 2 rfl) ?_
      refine lv_if_lt (tgt := 26) X.1 X.2.1 dX8_isWithin_8 (by decide) (fun c8 => ?_) (fun c8 => ?_)
      · have h := h.1 c8
        exact jn26 _ _ _ _ _ h I (lv_sub hl [2] rfl)
      · have h := h.2 c8
        refine lv_iload_n X.1 X.2.1 dX8_isWithin_11 rfl (lv_at hl 2 rfl) ?_
        refine lv_iload_n X.1 X.2.1 dX8_isWithin_12 rfl (lv_at hl 1 rfl) ?_
        refine lv_icmp_eq (tgt := 26) X.1 X.2.1 dX8_isWithin_13 (by decide) (fun c13 => ?_) (fun c13 => ?_)
        · have h := h.1 c13
          exact jn26 _ _ _ _ _ h I (lv_sub hl [2] rfl)
        · have h := h.2 c13
          refine q_aload_n X dX8_isWithin_16 rfl (lv_at hl 0 rfl) ?_
          refine q_getR (ci := 9) (k := 18) X I rfl inb_TX8 wd_856 (by decide) qt_378 dX8_isWithin_17 h (fun v17 h => ?_)
          refine lv_iload_n X.1 X.2.1 dX8_isWithin_20 rfl (lv_at hl 2 rfl) ?_
          refine q_ldI X I (by decide) (by decide) dX8_isWithin_21 h (fun v21 h => ?_)
          refine lv_istore_n (i := 3) (lv' := [(3, .int v21), (0, va_rf x0), (2, .int x2)]) X.1 X.2.1 dX8_isWithin_22 rfl hl (by decide) rfl (fun ls hl => ?_)
          refine lv_goto (tgt := 7) X.1 X.2.1 dX8_isWithin_23 (by decide) ?_
          exact ih7 _ _ _ _ _ _ _ h I (lv_sub hl [1, 2, 0] rfl)
  exact lp7 n7 _ _ _ _ _ _ _ h I (lv_sub hl [1, 3, 0] rfl)

def pX8_right_J28 (k4 : Option Nat → Int32 → Int32 → Int32 → qS → Prop) (post : Int32 → qS → Prop) (xp : String → qS → Prop) (x0 : Option Nat) (x1 : Int32) (x3 : Int32) (t0 : Int32) (t1 : Int32) (S : qS) : Prop :=
  k4 x0 x1 (t0 + t1) (x3 + 1) S
def pX8_right_L4  (post : Int32 → qS → Prop) (xp : String → qS → Prop) : Nat → Option Nat → Int32 → Int32 → Int32 → qS → Prop
  | 0, _, _, _, _, _ => False
  | n4 + 1, x0, x1, x2, x3, S =>
  w_getI S x0 9 25 (fun v6 =>
  ((v6 ≤ x3 →
  post x2 S) ∧ (¬ v6 ≤ x3 →
  w_getR S x0 9 18 (fun v14 =>
  w_ldI S v14 48 x3 (fun v18 =>
  ((¬ v18 = x1 →
  pX8_right_J28 (pX8_right_L4 post xp n4) post xp x0 x1 x3 x2 (0 : Int32) S) ∧ (v18 = x1 →
  pX8_right_J28 (pX8_right_L4 post xp n4) post xp x0 x1 x3 x2 (1 : Int32) S)))))))
def pX8_right (x0 : Nat) (x1 : Int32) (S : qS) (post : Int32 → qS → Prop) (xp : String → qS → Prop) : Prop :=
  ∃ n4, pX8_right_L4 post xp n4 (some x0) x1 (0 : Int32) (0 : Int32) S
set_option maxHeartbeats 4000000 in
set_option maxRecDepth 100000 in
theorem kX8_right {l : Launch} (hl0 : l.stackTraces = false) {G : qG} {S : qS} {sz : Nat} {x0 : Nat} {x1 : Int32} {post : Int32 → qS → Prop} {xp : String → qS → Prop} (h : pX8_right x0 x1 S post xp) : q_M l yX8_right cX8_right 4 (some .int) 1 0 0 G S sz [va_rf (some x0), .int x1] (q_Qi G post) xp := by
  refine q_of (lv := [(0, va_rf (some x0)), (1, .int x1)]) hl0 (by decide) rfl (Nat.le_of_ble_eq_true rfl) (fun p e s m below meth c A ls X N hr hnm I hl => ?_)
  generalize ([va_rf (some x0), .int x1] : List Value).toArray = av at X ⊢
  unfold pX8_right at h
  refine lv_iconst (v := 0) X.1 X.2.1 dX8_right_0 (by decide) ?_
  refine lv_istore_n (i := 2) (lv' := [(2, .int (0 : Int32)), (0, va_rf (some x0)), (1, .int x1)]) X.1 X.2.1 dX8_right_1 rfl hl (by decide) rfl (fun ls hl => ?_)
  refine lv_iconst (v := 0) X.1 X.2.1 dX8_right_2 (by decide) ?_
  refine lv_istore_n (i := 3) (lv' := [(3, .int (0 : Int32)), (2, .int (0 : Int32)), (0, va_rf (some x0)), (1, .int x1)]) X.1 X.2.1 dX8_right_3 rfl hl (by decide) rfl (fun ls hl => ?_)
  obtain ⟨n4, h⟩ := h
  have lp4 : ∀ (n4 : Nat) (x0 : Option Nat) (x1 : Int32) (x2 : Int32) (x3 : Int32) (S : qS) (H : Heap) (locs : List Loc) (ls : Array Slot), pX8_right_L4 post xp n4 x0 x1 x2 x3 S → q_H G A s H locs S → lv_has ls 4 [(0, va_rf x0), (1, .int x1), (2, .int x2), (3, .int x3)] → W p l e (q_rm 1 0 0) s m av below meth c H locs 0 0 (vx_MQ below (q_Qi G post A) (q_XC G A xp) av s 0 0 A) (F0 m 4 ls []) := by
    intro n4
    induction n4 with
    | zero => intro x0 x1 x2 x3 S H locs ls h I hl; exact h.elim
    | succ n4 ih4 =>
      intro x0 x1 x2 x3 S H locs ls h I hl
      unfold pX8_right_L4 at h
      refine lv_iload_n X.1 X.2.1 dX8_right_4 rfl (lv_at hl 3 rfl) ?_
      refine q_aload_n X dX8_right_5 rfl (lv_at hl 0 rfl) ?_
      refine q_getI (ci := 9) (k := 25) X I rfl inb_TX8 wd_863 (by decide) qt_385 dX8_right_6 h (fun v6 h => ?_)
      refine lv_icmp_ge (tgt := 36) X.1 X.2.1 dX8_right_9 (by decide) (fun c9 => ?_) (fun c9 => ?_)
      · have h := h.1 c9
        refine lv_iload_n X.1 X.2.1 dX8_right_36 rfl (lv_at hl 2 rfl) ?_
        exact q_iret X I hr dX8_right_37 h (by decide) (by decide)
      · have h := h.2 c9
        refine lv_iload_n X.1 X.2.1 dX8_right_12 rfl (lv_at hl 2 rfl) ?_
        refine q_aload_n X dX8_right_13 rfl (lv_at hl 0 rfl) ?_
        refine q_getR (ci := 9) (k := 18) X I rfl inb_TX8 wd_856 (by decide) qt_378 dX8_right_14 h (fun v14 h => ?_)
        refine lv_iload_n X.1 X.2.1 dX8_right_17 rfl (lv_at hl 3 rfl) ?_
        refine q_ldI X I (by decide) (by decide) dX8_right_18 h (fun v18 h => ?_)
        refine lv_iload_n X.1 X.2.1 dX8_right_19 rfl (lv_at hl 1 rfl) ?_
        have jn28 : ∀ (x0 : Option Nat) (x1 : Int32) (x3 : Int32) (t0 : Int32) (t1 : Int32) (S : qS) (H : Heap) (locs : List Loc) (ls : Array Slot), pX8_right_J28 (pX8_right_L4 post xp n4) post xp x0 x1 x3 t0 t1 S → q_H G A s H locs S → lv_has ls 4 [(0, va_rf x0), (1, .int x1), (3, .int x3)] → W p l e (q_rm 1 0 0) s m av below meth c H locs 0 0 (vx_MQ below (q_Qi G post A) (q_XC G A xp) av s 0 0 A) (F0 m 28 ls [.int t1, .int t0]) := by
          intro x0 x1 x3 t0 t1 S H locs ls h I hl
          unfold pX8_right_J28 at h
          refine lv_iadd X.1 X.2.1 dX8_right_28 ?_
          refine lv_istore_n (i := 2) (lv' := [(2, .int (t0 + t1)), (0, va_rf x0), (1, .int x1), (3, .int x3)]) X.1 X.2.1 dX8_right_29 rfl hl (by decide) rfl (fun ls hl => ?_)
          refine lv_iinc (v := (x3 + 1)) (lv' := [(3, .int (x3 + 1)), (2, .int (t0 + t1)), (0, va_rf x0), (1, .int x1)]) (k := 3) X.1 X.2.1 dX8_right_30 hl rfl rfl (by decide) rfl (fun ls hl => ?_)
          refine lv_goto (tgt := 4) X.1 X.2.1 dX8_right_33 (by decide) ?_
          exact ih4 _ _ _ _ _ _ _ _ h I (lv_sub hl [2, 3, 1, 0] rfl)
        refine lv_icmp_ne (tgt := 27) X.1 X.2.1 dX8_right_20 (by decide) (fun c20 => ?_) (fun c20 => ?_)
        · have h := h.1 c20
          refine lv_iconst (v := 0) X.1 X.2.1 dX8_right_27 (by decide) ?_
          exact jn28 _ _ _ _ _ _ _ _ _ h I (lv_sub hl [0, 1, 3] rfl)
        · have h := h.2 c20
          refine lv_iconst (v := 1) X.1 X.2.1 dX8_right_23 (by decide) ?_
          refine lv_goto (tgt := 28) X.1 X.2.1 dX8_right_24 (by decide) ?_
          exact jn28 _ _ _ _ _ _ _ _ _ h I (lv_sub hl [0, 1, 3] rfl)
  exact lp4 n4 _ _ _ _ _ _ _ _ h I (lv_sub hl [2, 3, 1, 0] rfl)

def pX8_isBroken_J14  (post : Int32 → qS → Prop) (xp : String → qS → Prop) (t0 : Int32) (S : qS) : Prop :=
  ((t0 = 0 ∨ t0 = 1) ∧ post t0 S)
def pX8_isBroken (x0 : Nat) (x1 : Int32) (S : qS) (post : Int32 → qS → Prop) (xp : String → qS → Prop) : Prop :=
  w_getR S (some x0) 9 19 (fun v1 =>
  w_ldI S v1 49 x1 (fun v5 =>
  ((0 ≤ v5 →
  pX8_isBroken_J14 post xp (0 : Int32) S) ∧ (¬ 0 ≤ v5 →
  pX8_isBroken_J14 post xp (1 : Int32) S))))
set_option maxHeartbeats 4000000 in
set_option maxRecDepth 100000 in
theorem kX8_isBroken {l : Launch} (hl0 : l.stackTraces = false) {G : qG} {S : qS} {sz : Nat} {x0 : Nat} {x1 : Int32} {post : Int32 → qS → Prop} {xp : String → qS → Prop} (h : pX8_isBroken x0 x1 S post xp) : q_M l yX8_isBroken cX8_isBroken 2 (some .boolean) 1 0 0 G S sz [va_rf (some x0), .int x1] (q_Qi G post) xp := by
  refine q_of (lv := [(0, va_rf (some x0)), (1, .int x1)]) hl0 (by decide) rfl (Nat.le_of_ble_eq_true rfl) (fun p e s m below meth c A ls X N hr hnm I hl => ?_)
  generalize ([va_rf (some x0), .int x1] : List Value).toArray = av at X ⊢
  unfold pX8_isBroken at h
  refine q_aload_n X dX8_isBroken_0 rfl (lv_at hl 0 rfl) ?_
  refine q_getR (ci := 9) (k := 19) X I rfl inb_TX8 wd_857 (by decide) qt_379 dX8_isBroken_1 h (fun v1 h => ?_)
  refine lv_iload_n X.1 X.2.1 dX8_isBroken_4 rfl (lv_at hl 1 rfl) ?_
  refine q_ldI X I (by decide) (by decide) dX8_isBroken_5 h (fun v5 h => ?_)
  have jn14 : ∀ (t0 : Int32) (S : qS) (H : Heap) (locs : List Loc) (ls : Array Slot), pX8_isBroken_J14 post xp t0 S → q_H G A s H locs S → lv_has ls 2 [] → W p l e (q_rm 1 0 0) s m av below meth c H locs 0 0 (vx_MQ below (q_Qi G post A) (q_XC G A xp) av s 0 0 A) (F0 m 14 ls [.int t0]) := by
    intro t0 S H locs ls h I hl
    unfold pX8_isBroken_J14 at h
    exact q_zret X I hr dX8_isBroken_14 h (by decide) (by decide)
  refine lv_if_ge (tgt := 13) X.1 X.2.1 dX8_isBroken_6 (by decide) (fun c6 => ?_) (fun c6 => ?_)
  · have h := h.1 c6
    refine lv_iconst (v := 0) X.1 X.2.1 dX8_isBroken_13 (by decide) ?_
    exact jn14 _ _ _ _ _ h I (lv_sub hl [] rfl)
  · have h := h.2 c6
    refine lv_iconst (v := 1) X.1 X.2.1 dX8_isBroken_9 (by decide) ?_
    refine lv_goto (tgt := 14) X.1 X.2.1 dX8_isBroken_10 (by decide) ?_
    exact jn14 _ _ _ _ _ h I (lv_sub hl [] rfl)

def pX8_isLent_J14  (post : Int32 → qS → Prop) (xp : String → qS → Prop) (t0 : Int32) (S : qS) : Prop :=
  ((t0 = 0 ∨ t0 = 1) ∧ post t0 S)
def pX8_isLent (x0 : Nat) (x1 : Int32) (S : qS) (post : Int32 → qS → Prop) (xp : String → qS → Prop) : Prop :=
  w_getR S (some x0) 9 20 (fun v1 =>
  w_ldI S v1 50 x1 (fun v5 =>
  ((v5 < 0 →
  pX8_isLent_J14 post xp (0 : Int32) S) ∧ (¬ v5 < 0 →
  pX8_isLent_J14 post xp (1 : Int32) S))))
set_option maxHeartbeats 4000000 in
set_option maxRecDepth 100000 in
theorem kX8_isLent {l : Launch} (hl0 : l.stackTraces = false) {G : qG} {S : qS} {sz : Nat} {x0 : Nat} {x1 : Int32} {post : Int32 → qS → Prop} {xp : String → qS → Prop} (h : pX8_isLent x0 x1 S post xp) : q_M l yX8_isLent cX8_isLent 2 (some .boolean) 1 0 0 G S sz [va_rf (some x0), .int x1] (q_Qi G post) xp := by
  refine q_of (lv := [(0, va_rf (some x0)), (1, .int x1)]) hl0 (by decide) rfl (Nat.le_of_ble_eq_true rfl) (fun p e s m below meth c A ls X N hr hnm I hl => ?_)
  generalize ([va_rf (some x0), .int x1] : List Value).toArray = av at X ⊢
  unfold pX8_isLent at h
  refine q_aload_n X dX8_isLent_0 rfl (lv_at hl 0 rfl) ?_
  refine q_getR (ci := 9) (k := 20) X I rfl inb_TX8 wd_858 (by decide) qt_380 dX8_isLent_1 h (fun v1 h => ?_)
  refine lv_iload_n X.1 X.2.1 dX8_isLent_4 rfl (lv_at hl 1 rfl) ?_
  refine q_ldI X I (by decide) (by decide) dX8_isLent_5 h (fun v5 h => ?_)
  have jn14 : ∀ (t0 : Int32) (S : qS) (H : Heap) (locs : List Loc) (ls : Array Slot), pX8_isLent_J14 post xp t0 S → q_H G A s H locs S → lv_has ls 2 [] → W p l e (q_rm 1 0 0) s m av below meth c H locs 0 0 (vx_MQ below (q_Qi G post A) (q_XC G A xp) av s 0 0 A) (F0 m 14 ls [.int t0]) := by
    intro t0 S H locs ls h I hl
    unfold pX8_isLent_J14 at h
    exact q_zret X I hr dX8_isLent_14 h (by decide) (by decide)
  refine lv_if_lt (tgt := 13) X.1 X.2.1 dX8_isLent_6 (by decide) (fun c6 => ?_) (fun c6 => ?_)
  · have h := h.1 c6
    refine lv_iconst (v := 0) X.1 X.2.1 dX8_isLent_13 (by decide) ?_
    exact jn14 _ _ _ _ _ h I (lv_sub hl [] rfl)
  · have h := h.2 c6
    refine lv_iconst (v := 1) X.1 X.2.1 dX8_isLent_9 (by decide) ?_
    refine lv_goto (tgt := 14) X.1 X.2.1 dX8_isLent_10 (by decide) ?_
    exact jn14 _ _ _ _ _ h I (lv_sub hl [] rfl)

def pX8_lines_J48  (post : qS → Prop) (xp : String → qS → Prop) (x0 : Option Nat) (x1 : Int32) (S : qS) : Prop :=
  w_getR S x0 9 24 (fun v49 =>
  w_ldI S v49 54 x1 (fun v54 =>
  w_stI S v49 54 x1 (v54 + (1 : Int32)) (fun S =>
  post S)))
def pX8_lines (x0 : Nat) (x1 : Int32) (x2 : Int32) (S : qS) (post : qS → Prop) (xp : String → qS → Prop) : Prop :=
  w_getR S (some x0) 9 24 (fun v1 =>
  w_ldI S v1 54 x1 (fun v5 =>
  (((30 : Int32) ≤ v5 →
  pX8_lines_J48 post xp (some x0) x1 S) ∧ (¬ (30 : Int32) ≤ v5 →
  w_getR S (some x0) 9 22 (fun v12 =>
  w_getR S (some x0) 9 24 (fun v20 =>
  w_ldI S v20 54 x1 (fun v24 =>
  w_stI S v12 52 (((30 : Int32) * x1) + v24) x2 (fun S =>
  w_getR S (some x0) 9 23 (fun v29 =>
  w_getR S (some x0) 9 24 (fun v37 =>
  w_ldI S v37 54 x1 (fun v41 =>
  w_getI S (some x0) 9 1 (fun v44 =>
  w_stI S v29 53 (((30 : Int32) * x1) + v41) v44 (fun S =>
  pX8_lines_J48 post xp (some x0) x1 S)))))))))))))
set_option maxHeartbeats 4000000 in
set_option maxRecDepth 100000 in
theorem kX8_lines {l : Launch} (hl0 : l.stackTraces = false) {G : qG} {S : qS} {sz : Nat} {x0 : Nat} {x1 : Int32} {x2 : Int32} {post : qS → Prop} {xp : String → qS → Prop} (h : pX8_lines x0 x1 x2 S post xp) : q_M l yX8_lines cX8_lines 3 none 1 0 0 G S sz [va_rf (some x0), .int x1, .int x2] (q_Qv G post) xp := by
  refine q_of (lv := [(0, va_rf (some x0)), (1, .int x1), (2, .int x2)]) hl0 (by decide) rfl (Nat.le_of_ble_eq_true rfl) (fun p e s m below meth c A ls X N hr hnm I hl => ?_)
  generalize ([va_rf (some x0), .int x1, .int x2] : List Value).toArray = av at X ⊢
  unfold pX8_lines at h
  refine q_aload_n X dX8_lines_0 rfl (lv_at hl 0 rfl) ?_
  refine q_getR (ci := 9) (k := 24) X I rfl inb_TX8 wd_862 (by decide) qt_384 dX8_lines_1 h (fun v1 h => ?_)
  refine lv_iload_n X.1 X.2.1 dX8_lines_4 rfl (lv_at hl 1 rfl) ?_
  refine q_ldI X I (by decide) (by decide) dX8_lines_5 h (fun v5 h => ?_)
  refine lv_bipush (v := 30) X.1 X.2.1 dX8_lines_6 (by decide) ?_
  have jn48 : ∀ (x0 : Option Nat) (x1 : Int32) (S : qS) (H : Heap) (locs : List Loc) (ls : Array Slot), pX8_lines_J48 post xp x0 x1 S → q_H G A s H locs S → lv_has ls 3 [(0, va_rf x0), (1, .int x1)] → W p l e (q_rm 1 0 0) s m av below meth c H locs 0 0 (vx_MQ below (q_Qv G post A) (q_XC G A xp) av s 0 0 A) (F0 m 48 ls []) := by
    intro x0 x1 S H locs ls h I hl
    unfold pX8_lines_J48 at h
    refine q_aload_n X dX8_lines_48 rfl (lv_at hl 0 rfl) ?_
    refine q_getR (ci := 9) (k := 24) X I rfl inb_TX8 wd_862 (by decide) qt_384 dX8_lines_49 h (fun v49 h => ?_)
    refine lv_iload_n X.1 X.2.1 dX8_lines_52 rfl (lv_at hl 1 rfl) ?_
    refine lv_dup2_11 X.1 X.2.1 dX8_lines_53 rfl (q_cat _) ?_
    refine q_ldI X I (by decide) (by decide) dX8_lines_54 h (fun v54 h => ?_)
    refine lv_iconst (v := 1) X.1 X.2.1 dX8_lines_55 (by decide) ?_
    refine lv_iadd X.1 X.2.1 dX8_lines_56 ?_
    refine q_stI X I (by decide) (by decide) dX8_lines_57 h (fun S H locs I h => ?_)
    exact q_vret X I hr dX8_lines_58 h (by decide) (by decide)
  refine lv_icmp_ge (tgt := 48) X.1 X.2.1 dX8_lines_8 (by decide) (fun c8 => ?_) (fun c8 => ?_)
  · have h := h.1 c8
    exact jn48 _ _ _ _ _ _ h I (lv_sub hl [0, 1] rfl)
  · have h := h.2 c8
    refine q_aload_n X dX8_lines_11 rfl (lv_at hl 0 rfl) ?_
    refine q_getR (ci := 9) (k := 22) X I rfl inb_TX8 wd_860 (by decide) qt_382 dX8_lines_12 h (fun v12 h => ?_)
    refine lv_bipush (v := 30) X.1 X.2.1 dX8_lines_15 (by decide) ?_
    refine lv_iload_n X.1 X.2.1 dX8_lines_17 rfl (lv_at hl 1 rfl) ?_
    refine lv_imul X.1 X.2.1 dX8_lines_18 ?_
    refine q_aload_n X dX8_lines_19 rfl (lv_at hl 0 rfl) ?_
    refine q_getR (ci := 9) (k := 24) X I rfl inb_TX8 wd_862 (by decide) qt_384 dX8_lines_20 h (fun v20 h => ?_)
    refine lv_iload_n X.1 X.2.1 dX8_lines_23 rfl (lv_at hl 1 rfl) ?_
    refine q_ldI X I (by decide) (by decide) dX8_lines_24 h (fun v24 h => ?_)
    refine lv_iadd X.1 X.2.1 dX8_lines_25 ?_
    refine lv_iload_n X.1 X.2.1 dX8_lines_26 rfl (lv_at hl 2 rfl) ?_
    refine q_stI X I (by decide) (by decide) dX8_lines_27 h (fun S H locs I h => ?_)
    refine q_aload_n X dX8_lines_28 rfl (lv_at hl 0 rfl) ?_
    refine q_getR (ci := 9) (k := 23) X I rfl inb_TX8 wd_861 (by decide) qt_383 dX8_lines_29 h (fun v29 h => ?_)
    refine lv_bipush (v := 30) X.1 X.2.1 dX8_lines_32 (by decide) ?_
    refine lv_iload_n X.1 X.2.1 dX8_lines_34 rfl (lv_at hl 1 rfl) ?_
    refine lv_imul X.1 X.2.1 dX8_lines_35 ?_
    refine q_aload_n X dX8_lines_36 rfl (lv_at hl 0 rfl) ?_
    refine q_getR (ci := 9) (k := 24) X I rfl inb_TX8 wd_862 (by decide) qt_384 dX8_lines_37 h (fun v37 h => ?_)
    refine lv_iload_n X.1 X.2.1 dX8_lines_40 rfl (lv_at hl 1 rfl) ?_
    refine q_ldI X I (by decide) (by decide) dX8_lines_41 h (fun v41 h => ?_)
    refine lv_iadd X.1 X.2.1 dX8_lines_42 ?_
    refine q_aload_n X dX8_lines_43 rfl (lv_at hl 0 rfl) ?_
    refine q_getI (ci := 9) (k := 1) X I rfl inb_TX8 wd_839 (by decide) qt_361 dX8_lines_44 h (fun v44 h => ?_)
    refine q_stI X I (by decide) (by decide) dX8_lines_47 h (fun S H locs I h => ?_)
    exact jn48 _ _ _ _ _ _ h I (lv_sub hl [0, 1] rfl)

def pX8_single_J65  (post : Int32 → qS → Prop) (xp : String → qS → Prop)  (S : qS) : Prop :=
  post (0 : Int32) S
def pX8_single_J58  (post : Int32 → qS → Prop) (xp : String → qS → Prop) (x0 : Option Nat) (x1 : Int32) (x2 : Int32) (x3 : Int32) (t0 : Option Nat) (t1 : Int32) (S : qS) : Prop :=
  w_at S t0 9 (fun b59 => pX8_throwsIf b59 t1 (3 : Int32) S (fun v59 S =>
  ((v59 = 0 →
  w_getI S x0 9 25 (fun v68 =>
  w_getI S x0 9 25 (fun v75 =>
  w_putI S x0 9 25 (v75 + (1 : Int32)) (fun S =>
  w_getR S x0 9 16 (fun v84 =>
  w_stZ S v84 46 v68 x2 (fun S =>
  w_getR S x0 9 17 (fun v92 =>
  w_stI S v92 47 v68 x3 (fun S =>
  w_getR S x0 9 18 (fun v100 =>
  w_stI S v100 48 v68 (-1 : Int32) (fun S =>
  w_getR S x0 9 19 (fun v108 =>
  w_stI S v108 49 v68 x1 (fun S =>
  w_getR S x0 9 20 (fun v116 =>
  w_stI S v116 50 v68 (-1 : Int32) (fun S =>
  w_getR S x0 9 21 (fun v124 =>
  w_stI S v124 51 v68 (-1 : Int32) (fun S =>
  w_at S x0 9 (fun b135 => pX8_lines b135 v68 x1 S (fun S =>
  post v68 S) xp))))))))))))))))) ∧ (¬ v59 = 0 →
  pX8_single_J65 post xp S))) xp)
def pX8_single_J36  (post : Int32 → qS → Prop) (xp : String → qS → Prop) (x0 : Option Nat) (x1 : Int32) (x2 : Int32) (x3 : Int32) (t0 : Option Nat) (t1 : Int32) (S : qS) : Prop :=
  w_at S t0 9 (fun b37 => pX8_throwsIf b37 t1 (2 : Int32) S (fun v37 S =>
  ((¬ v37 = 0 →
  pX8_single_J65 post xp S) ∧ (v37 = 0 →
  w_getI S x0 9 25 (fun v45 =>
  ((¬ v45 = (40 : Int32) →
  pX8_single_J58 post xp x0 x1 x2 x3 x0 (0 : Int32) S) ∧ (v45 = (40 : Int32) →
  pX8_single_J58 post xp x0 x1 x2 x3 x0 (1 : Int32) S)))))) xp)
def pX8_single (x0 : Nat) (x1 : Int32) (x2 : Int32) (x3 : Int32) (S : qS) (post : Int32 → qS → Prop) (xp : String → qS → Prop) : Prop :=
  w_putI S (some x0) 9 0 (0 : Int32) (fun S =>
  w_at S (some x0) 9 (fun b8 => pX8_noPlayer b8 x1 S (fun v8 S =>
  w_at S (some x0) 9 (fun b12 => pX8_throwsIf b12 v8 (1 : Int32) S (fun v12 S =>
  ((¬ v12 = 0 →
  pX8_single_J65 post xp S) ∧ (v12 = 0 →
  pX8_in x3.toInt64 (0 : Int64) (8 : Int64) S (fun v25 S =>
  ((¬ v25 = 0 →
  pX8_single_J36 post xp (some x0) x1 x2 x3 (some x0) (0 : Int32) S) ∧ (v25 = 0 →
  pX8_single_J36 post xp (some x0) x1 x2 x3 (some x0) (1 : Int32) S))) xp))) xp)) xp))
set_option maxHeartbeats 4000000 in
set_option maxRecDepth 100000 in
theorem kX8_single {l : Launch} (hl0 : l.stackTraces = false) {G : qG} {S : qS} {sz : Nat} {x0 : Nat} {x1 : Int32} {x2 : Int32} {x3 : Int32} {post : Int32 → qS → Prop} {xp : String → qS → Prop} (h : pX8_single x0 x1 x2 x3 S post xp) : q_M l yX8_single cX8_single 5 (some .int) 3 0 0 G S sz [va_rf (some x0), .int x1, .int x2, .int x3] (q_Qi G post) xp := by
  refine q_of (lv := [(0, va_rf (some x0)), (1, .int x1), (2, .int x2), (3, .int x3)]) hl0 (by decide) rfl (Nat.le_of_ble_eq_true rfl) (fun p e s m below meth c A ls X N hr hnm I hl => ?_)
  generalize ([va_rf (some x0), .int x1, .int x2, .int x3] : List Value).toArray = av at X ⊢
  unfold pX8_single at h
  refine q_aload_n X dX8_single_0 rfl (lv_at hl 0 rfl) ?_
  refine lv_iconst (v := 0) X.1 X.2.1 dX8_single_1 (by decide) ?_
  refine q_putI (ci := 9) (k := 0) X I rfl inb_TX8 tyX8_ok nmX8 wd_838 (by decide) (Or.inl rfl) qt_360 rfl dX8_single_2 h (fun S H locs I h => ?_)
  refine q_aload_n X dX8_single_5 rfl (lv_at hl 0 rfl) ?_
  refine q_aload_n X dX8_single_6 rfl (lv_at hl 0 rfl) ?_
  refine lv_iload_n X.1 X.2.1 dX8_single_7 rfl (lv_at hl 1 rfl) ?_
  refine q_cVi (As := [.int x1]) (rest := [va_rf (some x0)]) (c1 := 0) (s1 := 0) (d := 2) (mc := 0) (ms := 0) X N I hl.1 mX8_noPlayer wd_975 dX8_single_8 rfl h (fun b h => kX8_noPlayer hl0 h) rfl (Nat.le_of_ble_eq_true rfl) ⟨by decide, by decide⟩ ⟨by decide, by decide⟩ ⟨by decide, by decide⟩ rfl rfl (fun v8 S H locs I h => ?_)
  refine lv_iconst (v := 1) X.1 X.2.1 dX8_single_11 (by decide) ?_
  refine q_cVi (As := [.int v8, .int (1 : Int32)]) (rest := []) (c1 := 0) (s1 := 0) (d := 1) (mc := 0) (ms := 0) X N I hl.1 mX8_throwsIf wd_947 dX8_single_12 rfl h (fun b h => kX8_throwsIf hl0 h) rfl (Nat.le_of_ble_eq_true rfl) ⟨by decide, by decide⟩ ⟨by decide, by decide⟩ ⟨by decide, by decide⟩ rfl rfl (fun v12 S H locs I h => ?_)
  have jn65 : ∀ (S : qS) (H : Heap) (locs : List Loc) (ls : Array Slot), pX8_single_J65 post xp S → q_H G A s H locs S → lv_has ls 5 [] → W p l e (q_rm 3 0 0) s m av below meth c H locs 0 0 (vx_MQ below (q_Qi G post A) (q_XC G A xp) av s 0 0 A) (F0 m 65 ls []) := by
    intro S H locs ls h I hl
    unfold pX8_single_J65 at h
    refine lv_iconst (v := 0) X.1 X.2.1 dX8_single_65 (by decide) ?_
    exact q_iret X I hr dX8_single_66 h (by decide) (by decide)
  refine lv_if_ne (tgt := 65) X.1 X.2.1 dX8_single_15 (by decide) (fun c15 => ?_) (fun c15 => ?_)
  · have h := h.1 c15
    exact jn65 _ _ _ _ h I (lv_sub hl [] rfl)
  · have h := h.2 c15
    refine q_aload_n X dX8_single_18 rfl (lv_at hl 0 rfl) ?_
    refine lv_iload_n X.1 X.2.1 dX8_single_19 rfl (lv_at hl 3 rfl) ?_
    refine lv_i2l X.1 X.2.1 dX8_single_20 rfl ?_
    refine lv_lconst (v := 0) X.1 X.2.1 dX8_single_21 (by decide) ?_
    refine lv_ldc2 X.1 X.2.1 X.2.2.1 (X.2.2.2.1 _ wd_997) dX8_single_22 ?_
    refine q_cSi (As := [.long x3.toInt64, .long (0 : Int64), .long (8 : Int64)]) (rest := [va_rf (some x0)]) (c1 := 0) (s1 := 0) (d := 1) (mc := 0) (ms := 0) X N I hl.1 mX8_in wd_963 dX8_single_25 rfl (kX8_in hl0 h) rfl (Nat.le_of_ble_eq_true rfl) ⟨by decide, by decide⟩ ⟨by decide, by decide⟩ ⟨by decide, by decide⟩ rfl rfl (fun v25 S H locs I h => ?_)
    have jn36 : ∀ (x0 : Option Nat) (x1 : Int32) (x2 : Int32) (x3 : Int32) (t0 : Option Nat) (t1 : Int32) (S : qS) (H : Heap) (locs : List Loc) (ls : Array Slot), pX8_single_J36 post xp x0 x1 x2 x3 t0 t1 S → q_H G A s H locs S → lv_has ls 5 [(0, va_rf x0), (1, .int x1), (2, .int x2), (3, .int x3)] → W p l e (q_rm 3 0 0) s m av below meth c H locs 0 0 (vx_MQ below (q_Qi G post A) (q_XC G A xp) av s 0 0 A) (F0 m 36 ls [.int t1, va_rf t0]) := by
      intro x0 x1 x2 x3 t0 t1 S H locs ls h I hl
      unfold pX8_single_J36 at h
      refine lv_iconst (v := 2) X.1 X.2.1 dX8_single_36 (by decide) ?_
      refine q_cVi (As := [.int t1, .int (2 : Int32)]) (rest := []) (c1 := 0) (s1 := 0) (d := 1) (mc := 0) (ms := 0) X N I hl.1 mX8_throwsIf wd_947 dX8_single_37 rfl h (fun b h => kX8_throwsIf hl0 h) rfl (Nat.le_of_ble_eq_true rfl) ⟨by decide, by decide⟩ ⟨by decide, by decide⟩ ⟨by decide, by decide⟩ rfl rfl (fun v37 S H locs I h => ?_)
      refine lv_if_ne (tgt := 65) X.1 X.2.1 dX8_single_40 (by decide) (fun c40 => ?_) (fun c40 => ?_)
      · have h := h.1 c40
        exact jn65 _ _ _ _ h I (lv_sub hl [] rfl)
      · have h := h.2 c40
        refine q_aload_n X dX8_single_43 rfl (lv_at hl 0 rfl) ?_
        refine q_aload_n X dX8_single_44 rfl (lv_at hl 0 rfl) ?_
        refine q_getI (ci := 9) (k := 25) X I rfl inb_TX8 wd_863 (by decide) qt_385 dX8_single_45 h (fun v45 h => ?_)
        refine lv_bipush (v := 40) X.1 X.2.1 dX8_single_48 (by decide) ?_
        have jn58 : ∀ (x0 : Option Nat) (x1 : Int32) (x2 : Int32) (x3 : Int32) (t0 : Option Nat) (t1 : Int32) (S : qS) (H : Heap) (locs : List Loc) (ls : Array Slot), pX8_single_J58 post xp x0 x1 x2 x3 t0 t1 S → q_H G A s H locs S → lv_has ls 5 [(0, va_rf x0), (1, .int x1), (2, .int x2), (3, .int x3)] → W p l e (q_rm 3 0 0) s m av below meth c H locs 0 0 (vx_MQ below (q_Qi G post A) (q_XC G A xp) av s 0 0 A) (F0 m 58 ls [.int t1, va_rf t0]) := by
          intro x0 x1 x2 x3 t0 t1 S H locs ls h I hl
          unfold pX8_single_J58 at h
          refine lv_iconst (v := 3) X.1 X.2.1 dX8_single_58 (by decide) ?_
          refine q_cVi (As := [.int t1, .int (3 : Int32)]) (rest := []) (c1 := 0) (s1 := 0) (d := 1) (mc := 0) (ms := 0) X N I hl.1 mX8_throwsIf wd_947 dX8_single_59 rfl h (fun b h => kX8_throwsIf hl0 h) rfl (Nat.le_of_ble_eq_true rfl) ⟨by decide, by decide⟩ ⟨by decide, by decide⟩ ⟨by decide, by decide⟩ rfl rfl (fun v59 S H locs I h => ?_)
          refine lv_if_eq (tgt := 67) X.1 X.2.1 dX8_single_62 (by decide) (fun c62 => ?_) (fun c62 => ?_)
          · have h := h.1 c62
            refine q_aload_n X dX8_single_67 rfl (lv_at hl 0 rfl) ?_
            refine q_getI (ci := 9) (k := 25) X I rfl inb_TX8 wd_863 (by decide) qt_385 dX8_single_68 h (fun v68 h => ?_)
            refine lv_istore (i := 4) (lv' := [(4, .int v68), (0, va_rf x0), (1, .int x1), (2, .int x2), (3, .int x3)]) X.1 X.2.1 dX8_single_71 hl (by decide) rfl (fun ls hl => ?_)
            refine q_aload_n X dX8_single_73 rfl (lv_at hl 1 rfl) ?_
            refine lv_dup X.1 X.2.1 dX8_single_74 (q_cat _) ?_
            refine q_getI (ci := 9) (k := 25) X I rfl inb_TX8 wd_863 (by decide) qt_385 dX8_single_75 h (fun v75 h => ?_)
            refine lv_iconst (v := 1) X.1 X.2.1 dX8_single_78 (by decide) ?_
            refine lv_iadd X.1 X.2.1 dX8_single_79 ?_
            refine q_putI (ci := 9) (k := 25) X I rfl inb_TX8 tyX8_ok nmX8 wd_863 (by decide) (Or.inl rfl) qt_385 rfl dX8_single_80 h (fun S H locs I h => ?_)
            refine q_aload_n X dX8_single_83 rfl (lv_at hl 1 rfl) ?_
            refine q_getR (ci := 9) (k := 16) X I rfl inb_TX8 wd_854 (by decide) qt_376 dX8_single_84 h (fun v84 h => ?_)
            refine lv_iload X.1 X.2.1 dX8_single_87 (lv_at hl 0 rfl) ?_
            refine lv_iload_n X.1 X.2.1 dX8_single_89 rfl (lv_at hl 3 rfl) ?_
            refine q_stZ X I (by decide) (by decide) dX8_single_90 h (fun S H locs I h => ?_)
            refine q_aload_n X dX8_single_91 rfl (lv_at hl 1 rfl) ?_
            refine q_getR (ci := 9) (k := 17) X I rfl inb_TX8 wd_855 (by decide) qt_377 dX8_single_92 h (fun v92 h => ?_)
            refine lv_iload X.1 X.2.1 dX8_single_95 (lv_at hl 0 rfl) ?_
            refine lv_iload_n X.1 X.2.1 dX8_single_97 rfl (lv_at hl 4 rfl) ?_
            refine q_stI X I (by decide) (by decide) dX8_single_98 h (fun S H locs I h => ?_)
            refine q_aload_n X dX8_single_99 rfl (lv_at hl 1 rfl) ?_
            refine q_getR (ci := 9) (k := 18) X I rfl inb_TX8 wd_856 (by decide) qt_378 dX8_single_100 h (fun v100 h => ?_)
            refine lv_iload X.1 X.2.1 dX8_single_103 (lv_at hl 0 rfl) ?_
            refine lv_iconst (v := -1) X.1 X.2.1 dX8_single_105 (by decide) ?_
            refine q_stI X I (by decide) (by decide) dX8_single_106 h (fun S H locs I h => ?_)
            refine q_aload_n X dX8_single_107 rfl (lv_at hl 1 rfl) ?_
            refine q_getR (ci := 9) (k := 19) X I rfl inb_TX8 wd_857 (by decide) qt_379 dX8_single_108 h (fun v108 h => ?_)
            refine lv_iload X.1 X.2.1 dX8_single_111 (lv_at hl 0 rfl) ?_
            refine lv_iload_n X.1 X.2.1 dX8_single_113 rfl (lv_at hl 2 rfl) ?_
            refine q_stI X I (by decide) (by decide) dX8_single_114 h (fun S H locs I h => ?_)
            refine q_aload_n X dX8_single_115 rfl (lv_at hl 1 rfl) ?_
            refine q_getR (ci := 9) (k := 20) X I rfl inb_TX8 wd_858 (by decide) qt_380 dX8_single_116 h (fun v116 h => ?_)
            refine lv_iload X.1 X.2.1 dX8_single_119 (lv_at hl 0 rfl) ?_
            refine lv_iconst (v := -1) X.1 X.2.1 dX8_single_121 (by decide) ?_
            refine q_stI X I (by decide) (by decide) dX8_single_122 h (fun S H locs I h => ?_)
            refine q_aload_n X dX8_single_123 rfl (lv_at hl 1 rfl) ?_
            refine q_getR (ci := 9) (k := 21) X I rfl inb_TX8 wd_859 (by decide) qt_381 dX8_single_124 h (fun v124 h => ?_)
            refine lv_iload X.1 X.2.1 dX8_single_127 (lv_at hl 0 rfl) ?_
            refine lv_iconst (v := -1) X.1 X.2.1 dX8_single_129 (by decide) ?_
            refine q_stI X I (by decide) (by decide) dX8_single_130 h (fun S H locs I h => ?_)
            refine q_aload_n X dX8_single_131 rfl (lv_at hl 1 rfl) ?_
            refine lv_iload X.1 X.2.1 dX8_single_132 (lv_at hl 0 rfl) ?_
            refine lv_iload_n X.1 X.2.1 dX8_single_134 rfl (lv_at hl 2 rfl) ?_
            refine q_cVv (As := [.int v68, .int x1]) (rest := []) (c1 := 0) (s1 := 0) (d := 1) (mc := 0) (ms := 0) X N I hl.1 mX8_lines wd_998 dX8_single_135 rfl h (fun b h => kX8_lines hl0 h) rfl (Nat.le_of_ble_eq_true rfl) ⟨by decide, by decide⟩ ⟨by decide, by decide⟩ ⟨by decide, by decide⟩ rfl rfl (fun S H locs I h => ?_)
            refine lv_iload X.1 X.2.1 dX8_single_138 (lv_at hl 0 rfl) ?_
            exact q_iret X I hr dX8_single_140 h (by decide) (by decide)
          · have h := h.2 c62
            exact jn65 _ _ _ _ h I (lv_sub hl [] rfl)
        refine lv_icmp_ne (tgt := 57) X.1 X.2.1 dX8_single_50 (by decide) (fun c50 => ?_) (fun c50 => ?_)
        · have h := h.1 c50
          refine lv_iconst (v := 0) X.1 X.2.1 dX8_single_57 (by decide) ?_
          exact jn58 _ _ _ _ _ _ _ _ _ _ h I (lv_sub hl [0, 1, 2, 3] rfl)
        · have h := h.2 c50
          refine lv_iconst (v := 1) X.1 X.2.1 dX8_single_53 (by decide) ?_
          refine lv_goto (tgt := 58) X.1 X.2.1 dX8_single_54 (by decide) ?_
          exact jn58 _ _ _ _ _ _ _ _ _ _ h I (lv_sub hl [0, 1, 2, 3] rfl)
    refine lv_if_ne (tgt := 35) X.1 X.2.1 dX8_single_28 (by decide) (fun c28 => ?_) (fun c28 => ?_)
    · have h := h.1 c28
      refine lv_iconst (v := 0) X.1 X.2.1 dX8_single_35 (by decide) ?_
      exact jn36 _ _ _ _ _ _ _ _ _ _ h I (lv_sub hl [0, 1, 2, 3] rfl)
    · have h := h.2 c28
      refine lv_iconst (v := 1) X.1 X.2.1 dX8_single_31 (by decide) ?_
      refine lv_goto (tgt := 36) X.1 X.2.1 dX8_single_32 (by decide) ?_
      exact jn36 _ _ _ _ _ _ _ _ _ _ h I (lv_sub hl [0, 1, 2, 3] rfl)

def pX8_put_J96  (post : Int32 → qS → Prop) (xp : String → qS → Prop)  (S : qS) : Prop :=
  (((0 : Int32) = 0 ∨ (0 : Int32) = 1) ∧ post (0 : Int32) S)
def pX8_put_J27  (post : Int32 → qS → Prop) (xp : String → qS → Prop) (x0 : Option Nat) (x1 : Int32) (x2 : Int32) (t0 : Option Nat) (t1 : Int32) (S : qS) : Prop :=
  w_at S t0 9 (fun b28 => pX8_throwsIf b28 t1 (1 : Int32) S (fun v28 S =>
  ((v28 = 0 →
  w_at S x0 9 (fun b38 => pX8_isBroken b38 x1 S (fun v38 S =>
  ((¬ v38 = 0 →
  pX8_put_J96 post xp S) ∧ (v38 = 0 →
  w_getR S x0 9 19 (fun v45 =>
  w_ldI S v45 49 x1 (fun v49 =>
  w_getR S x0 9 19 (fun v51 =>
  w_ldI S v51 49 x2 (fun v55 =>
  ((¬ v49 = v55 →
  pX8_put_J96 post xp S) ∧ (v49 = v55 →
  w_getR S x0 9 18 (fun v60 =>
  w_ldI S v60 48 x1 (fun v64 =>
  ((0 ≤ v64 →
  pX8_put_J96 post xp S) ∧ (¬ 0 ≤ v64 →
  ((x1 = x2 →
  pX8_put_J96 post xp S) ∧ (¬ x1 = x2 →
  w_at S x0 9 (fun b76 => pX8_isWithin b76 x2 x1 S (fun v76 S =>
  ((¬ v76 = 0 →
  pX8_put_J96 post xp S) ∧ (v76 = 0 →
  w_at S x0 9 (fun b84 => pX8_right b84 x2 S (fun v84 S =>
  w_getR S x0 9 17 (fun v88 =>
  w_ldI S v88 47 x2 (fun v92 =>
  ((v84 < v92 →
  w_getR S x0 9 18 (fun v99 =>
  w_stI S v99 48 x1 x2 (fun S =>
  (((1 : Int32) = 0 ∨ (1 : Int32) = 1) ∧ post (1 : Int32) S)))) ∧ (¬ v84 < v92 →
  pX8_put_J96 post xp S))))) xp)))) xp)))))))))))))))) xp)) ∧ (¬ v28 = 0 →
  (((0 : Int32) = 0 ∨ (0 : Int32) = 1) ∧ post (0 : Int32) S)))) xp)
def pX8_put_J22  (post : Int32 → qS → Prop) (xp : String → qS → Prop) (x0 : Option Nat) (x1 : Int32) (x2 : Int32) (t0 : Option Nat) (S : qS) : Prop :=
  pX8_put_J27 post xp x0 x1 x2 t0 (1 : Int32) S
def pX8_put (x0 : Nat) (x1 : Int32) (x2 : Int32) (S : qS) (post : Int32 → qS → Prop) (xp : String → qS → Prop) : Prop :=
  w_putI S (some x0) 9 0 (0 : Int32) (fun S =>
  w_at S (some x0) 9 (fun b8 => pX8_noSingle b8 x1 S (fun v8 S =>
  ((¬ v8 = 0 →
  pX8_put_J22 post xp (some x0) x1 x2 (some x0) S) ∧ (v8 = 0 →
  w_at S (some x0) 9 (fun b16 => pX8_noSingle b16 x2 S (fun v16 S =>
  ((v16 = 0 →
  pX8_put_J27 post xp (some x0) x1 x2 (some x0) (0 : Int32) S) ∧ (¬ v16 = 0 →
  pX8_put_J22 post xp (some x0) x1 x2 (some x0) S))) xp)))) xp))
set_option maxHeartbeats 4000000 in
set_option maxRecDepth 100000 in
theorem kX8_put {l : Launch} (hl0 : l.stackTraces = false) {G : qG} {S : qS} {sz : Nat} {x0 : Nat} {x1 : Int32} {x2 : Int32} {post : Int32 → qS → Prop} {xp : String → qS → Prop} (h : pX8_put x0 x1 x2 S post xp) : q_M l yX8_put cX8_put 3 (some .boolean) 3 0 0 G S sz [va_rf (some x0), .int x1, .int x2] (q_Qi G post) xp := by
  refine q_of (lv := [(0, va_rf (some x0)), (1, .int x1), (2, .int x2)]) hl0 (by decide) rfl (Nat.le_of_ble_eq_true rfl) (fun p e s m below meth c A ls X N hr hnm I hl => ?_)
  generalize ([va_rf (some x0), .int x1, .int x2] : List Value).toArray = av at X ⊢
  unfold pX8_put at h
  refine q_aload_n X dX8_put_0 rfl (lv_at hl 0 rfl) ?_
  refine lv_iconst (v := 0) X.1 X.2.1 dX8_put_1 (by decide) ?_
  refine q_putI (ci := 9) (k := 0) X I rfl inb_TX8 tyX8_ok nmX8 wd_838 (by decide) (Or.inl rfl) qt_360 rfl dX8_put_2 h (fun S H locs I h => ?_)
  refine q_aload_n X dX8_put_5 rfl (lv_at hl 0 rfl) ?_
  refine q_aload_n X dX8_put_6 rfl (lv_at hl 0 rfl) ?_
  refine lv_iload_n X.1 X.2.1 dX8_put_7 rfl (lv_at hl 1 rfl) ?_
  refine q_cVi (As := [.int x1]) (rest := [va_rf (some x0)]) (c1 := 0) (s1 := 0) (d := 2) (mc := 0) (ms := 0) X N I hl.1 mX8_noSingle wd_1006 dX8_put_8 rfl h (fun b h => kX8_noSingle hl0 h) rfl (Nat.le_of_ble_eq_true rfl) ⟨by decide, by decide⟩ ⟨by decide, by decide⟩ ⟨by decide, by decide⟩ rfl rfl (fun v8 S H locs I h => ?_)
  have jn27 : ∀ (x0 : Option Nat) (x1 : Int32) (x2 : Int32) (t0 : Option Nat) (t1 : Int32) (S : qS) (H : Heap) (locs : List Loc) (ls : Array Slot), pX8_put_J27 post xp x0 x1 x2 t0 t1 S → q_H G A s H locs S → lv_has ls 3 [(0, va_rf x0), (1, .int x1), (2, .int x2)] → W p l e (q_rm 3 0 0) s m av below meth c H locs 0 0 (vx_MQ below (q_Qi G post A) (q_XC G A xp) av s 0 0 A) (F0 m 27 ls [.int t1, va_rf t0]) := by
    intro x0 x1 x2 t0 t1 S H locs ls h I hl
    unfold pX8_put_J27 at h
    refine lv_iconst (v := 1) X.1 X.2.1 dX8_put_27 (by decide) ?_
    refine q_cVi (As := [.int t1, .int (1 : Int32)]) (rest := []) (c1 := 0) (s1 := 0) (d := 1) (mc := 0) (ms := 0) X N I hl.1 mX8_throwsIf wd_947 dX8_put_28 rfl h (fun b h => kX8_throwsIf hl0 h) rfl (Nat.le_of_ble_eq_true rfl) ⟨by decide, by decide⟩ ⟨by decide, by decide⟩ ⟨by decide, by decide⟩ rfl rfl (fun v28 S H locs I h => ?_)
    refine lv_if_eq (tgt := 36) X.1 X.2.1 dX8_put_31 (by decide) (fun c31 => ?_) (fun c31 => ?_)
    · have h := h.1 c31
      refine q_aload_n X dX8_put_36 rfl (lv_at hl 0 rfl) ?_
      refine lv_iload_n X.1 X.2.1 dX8_put_37 rfl (lv_at hl 1 rfl) ?_
      refine q_cVi (As := [.int x1]) (rest := []) (c1 := 0) (s1 := 0) (d := 1) (mc := 0) (ms := 0) X N I hl.1 mX8_isBroken wd_1010 dX8_put_38 rfl h (fun b h => kX8_isBroken hl0 h) rfl (Nat.le_of_ble_eq_true rfl) ⟨by decide, by decide⟩ ⟨by decide, by decide⟩ ⟨by decide, by decide⟩ rfl rfl (fun v38 S H locs I h => ?_)
      have jn96 : ∀ (S : qS) (H : Heap) (locs : List Loc) (ls : Array Slot), pX8_put_J96 post xp S → q_H G A s H locs S → lv_has ls 3 [] → W p l e (q_rm 3 0 0) s m av below meth c H locs 0 0 (vx_MQ below (q_Qi G post A) (q_XC G A xp) av s 0 0 A) (F0 m 96 ls []) := by
        intro S H locs ls h I hl
        unfold pX8_put_J96 at h
        refine lv_iconst (v := 0) X.1 X.2.1 dX8_put_96 (by decide) ?_
        exact q_zret X I hr dX8_put_97 h (by decide) (by decide)
      refine lv_if_ne (tgt := 96) X.1 X.2.1 dX8_put_41 (by decide) (fun c41 => ?_) (fun c41 => ?_)
      · have h := h.1 c41
        exact jn96 _ _ _ _ h I (lv_sub hl [] rfl)
      · have h := h.2 c41
        refine q_aload_n X dX8_put_44 rfl (lv_at hl 0 rfl) ?_
        refine q_getR (ci := 9) (k := 19) X I rfl inb_TX8 wd_857 (by decide) qt_379 dX8_put_45 h (fun v45 h => ?_)
        refine lv_iload_n X.1 X.2.1 dX8_put_48 rfl (lv_at hl 1 rfl) ?_
        refine q_ldI X I (by decide) (by decide) dX8_put_49 h (fun v49 h => ?_)
        refine q_aload_n X dX8_put_50 rfl (lv_at hl 0 rfl) ?_
        refine q_getR (ci := 9) (k := 19) X I rfl inb_TX8 wd_857 (by decide) qt_379 dX8_put_51 h (fun v51 h => ?_)
        refine lv_iload_n X.1 X.2.1 dX8_put_54 rfl (lv_at hl 2 rfl) ?_
        refine q_ldI X I (by decide) (by decide) dX8_put_55 h (fun v55 h => ?_)
        refine lv_icmp_ne (tgt := 96) X.1 X.2.1 dX8_put_56 (by decide) (fun c56 => ?_) (fun c56 => ?_)
        · have h := h.1 c56
          exact jn96 _ _ _ _ h I (lv_sub hl [] rfl)
        · have h := h.2 c56
          refine q_aload_n X dX8_put_59 rfl (lv_at hl 0 rfl) ?_
          refine q_getR (ci := 9) (k := 18) X I rfl inb_TX8 wd_856 (by decide) qt_378 dX8_put_60 h (fun v60 h => ?_)
          refine lv_iload_n X.1 X.2.1 dX8_put_63 rfl (lv_at hl 1 rfl) ?_
          refine q_ldI X I (by decide) (by decide) dX8_put_64 h (fun v64 h => ?_)
          refine lv_if_ge (tgt := 96) X.1 X.2.1 dX8_put_65 (by decide) (fun c65 => ?_) (fun c65 => ?_)
          · have h := h.1 c65
            exact jn96 _ _ _ _ h I (lv_sub hl [] rfl)
          · have h := h.2 c65
            refine lv_iload_n X.1 X.2.1 dX8_put_68 rfl (lv_at hl 1 rfl) ?_
            refine lv_iload_n X.1 X.2.1 dX8_put_69 rfl (lv_at hl 2 rfl) ?_
            refine lv_icmp_eq (tgt := 96) X.1 X.2.1 dX8_put_70 (by decide) (fun c70 => ?_) (fun c70 => ?_)
            · have h := h.1 c70
              exact jn96 _ _ _ _ h I (lv_sub hl [] rfl)
            · have h := h.2 c70
              refine q_aload_n X dX8_put_73 rfl (lv_at hl 0 rfl) ?_
              refine lv_iload_n X.1 X.2.1 dX8_put_74 rfl (lv_at hl 2 rfl) ?_
              refine lv_iload_n X.1 X.2.1 dX8_put_75 rfl (lv_at hl 1 rfl) ?_
              refine q_cVi (As := [.int x2, .int x1]) (rest := []) (c1 := 0) (s1 := 0) (d := 1) (mc := 0) (ms := 0) X N I hl.1 mX8_isWithin wd_1014 dX8_put_76 rfl h (fun b h => kX8_isWithin hl0 h) rfl (Nat.le_of_ble_eq_true rfl) ⟨by decide, by decide⟩ ⟨by decide, by decide⟩ ⟨by decide, by decide⟩ rfl rfl (fun v76 S H locs I h => ?_)
              refine lv_if_ne (tgt := 96) X.1 X.2.1 dX8_put_79 (by decide) (fun c79 => ?_) (fun c79 => ?_)
              · have h := h.1 c79
                exact jn96 _ _ _ _ h I (lv_sub hl [] rfl)
              · have h := h.2 c79
                refine q_aload_n X dX8_put_82 rfl (lv_at hl 0 rfl) ?_
                refine lv_iload_n X.1 X.2.1 dX8_put_83 rfl (lv_at hl 2 rfl) ?_
                refine q_cVi (As := [.int x2]) (rest := []) (c1 := 0) (s1 := 0) (d := 1) (mc := 0) (ms := 0) X N I hl.1 mX8_right wd_1018 dX8_put_84 rfl h (fun b h => kX8_right hl0 h) rfl (Nat.le_of_ble_eq_true rfl) ⟨by decide, by decide⟩ ⟨by decide, by decide⟩ ⟨by decide, by decide⟩ rfl rfl (fun v84 S H locs I h => ?_)
                refine q_aload_n X dX8_put_87 rfl (lv_at hl 0 rfl) ?_
                refine q_getR (ci := 9) (k := 17) X I rfl inb_TX8 wd_855 (by decide) qt_377 dX8_put_88 h (fun v88 h => ?_)
                refine lv_iload_n X.1 X.2.1 dX8_put_91 rfl (lv_at hl 2 rfl) ?_
                refine q_ldI X I (by decide) (by decide) dX8_put_92 h (fun v92 h => ?_)
                refine lv_icmp_lt (tgt := 98) X.1 X.2.1 dX8_put_93 (by decide) (fun c93 => ?_) (fun c93 => ?_)
                · have h := h.1 c93
                  refine q_aload_n X dX8_put_98 rfl (lv_at hl 0 rfl) ?_
                  refine q_getR (ci := 9) (k := 18) X I rfl inb_TX8 wd_856 (by decide) qt_378 dX8_put_99 h (fun v99 h => ?_)
                  refine lv_iload_n X.1 X.2.1 dX8_put_102 rfl (lv_at hl 1 rfl) ?_
                  refine lv_iload_n X.1 X.2.1 dX8_put_103 rfl (lv_at hl 2 rfl) ?_
                  refine q_stI X I (by decide) (by decide) dX8_put_104 h (fun S H locs I h => ?_)
                  refine lv_iconst (v := 1) X.1 X.2.1 dX8_put_105 (by decide) ?_
                  exact q_zret X I hr dX8_put_106 h (by decide) (by decide)
                · have h := h.2 c93
                  exact jn96 _ _ _ _ h I (lv_sub hl [] rfl)
    · have h := h.2 c31
      refine lv_iconst (v := 0) X.1 X.2.1 dX8_put_34 (by decide) ?_
      exact q_zret X I hr dX8_put_35 h (by decide) (by decide)
  have jn22 : ∀ (x0 : Option Nat) (x1 : Int32) (x2 : Int32) (t0 : Option Nat) (S : qS) (H : Heap) (locs : List Loc) (ls : Array Slot), pX8_put_J22 post xp x0 x1 x2 t0 S → q_H G A s H locs S → lv_has ls 3 [(0, va_rf x0), (1, .int x1), (2, .int x2)] → W p l e (q_rm 3 0 0) s m av below meth c H locs 0 0 (vx_MQ below (q_Qi G post A) (q_XC G A xp) av s 0 0 A) (F0 m 22 ls [va_rf t0]) := by
    intro x0 x1 x2 t0 S H locs ls h I hl
    unfold pX8_put_J22 at h
    refine lv_iconst (v := 1) X.1 X.2.1 dX8_put_22 (by decide) ?_
    refine lv_goto (tgt := 27) X.1 X.2.1 dX8_put_23 (by decide) ?_
    exact jn27 _ _ _ _ _ _ _ _ _ h I (lv_sub hl [0, 1, 2] rfl)
  refine lv_if_ne (tgt := 22) X.1 X.2.1 dX8_put_11 (by decide) (fun c11 => ?_) (fun c11 => ?_)
  · have h := h.1 c11
    exact jn22 _ _ _ _ _ _ _ _ h I (lv_sub hl [0, 1, 2] rfl)
  · have h := h.2 c11
    refine q_aload_n X dX8_put_14 rfl (lv_at hl 0 rfl) ?_
    refine lv_iload_n X.1 X.2.1 dX8_put_15 rfl (lv_at hl 2 rfl) ?_
    refine q_cVi (As := [.int x2]) (rest := [va_rf (some x0)]) (c1 := 0) (s1 := 0) (d := 2) (mc := 0) (ms := 0) X N I hl.1 mX8_noSingle wd_1006 dX8_put_16 rfl h (fun b h => kX8_noSingle hl0 h) rfl (Nat.le_of_ble_eq_true rfl) ⟨by decide, by decide⟩ ⟨by decide, by decide⟩ ⟨by decide, by decide⟩ rfl rfl (fun v16 S H locs I h => ?_)
    refine lv_if_eq (tgt := 26) X.1 X.2.1 dX8_put_19 (by decide) (fun c19 => ?_) (fun c19 => ?_)
    · have h := h.1 c19
      refine lv_iconst (v := 0) X.1 X.2.1 dX8_put_26 (by decide) ?_
      exact jn27 _ _ _ _ _ _ _ _ _ h I (lv_sub hl [0, 1, 2] rfl)
    · have h := h.2 c19
      exact jn22 _ _ _ _ _ _ _ _ h I (lv_sub hl [0, 1, 2] rfl)

def pX8_take_J27  (post : Int32 → qS → Prop) (xp : String → qS → Prop)  (S : qS) : Prop :=
  (((0 : Int32) = 0 ∨ (0 : Int32) = 1) ∧ post (0 : Int32) S)
def pX8_take (x0 : Nat) (x1 : Int32) (S : qS) (post : Int32 → qS → Prop) (xp : String → qS → Prop) : Prop :=
  w_putI S (some x0) 9 0 (0 : Int32) (fun S =>
  w_at S (some x0) 9 (fun b8 => pX8_noSingle b8 x1 S (fun v8 S =>
  w_at S (some x0) 9 (fun b12 => pX8_throwsIf b12 v8 (1 : Int32) S (fun v12 S =>
  ((¬ v12 = 0 →
  pX8_take_J27 post xp S) ∧ (v12 = 0 →
  w_getR S (some x0) 9 18 (fun v19 =>
  w_ldI S v19 48 x1 (fun v23 =>
  ((0 ≤ v23 →
  w_getR S (some x0) 9 18 (fun v30 =>
  w_stI S v30 48 x1 (-1 : Int32) (fun S =>
  (((1 : Int32) = 0 ∨ (1 : Int32) = 1) ∧ post (1 : Int32) S)))) ∧ (¬ 0 ≤ v23 →
  pX8_take_J27 post xp S))))))) xp)) xp))
set_option maxHeartbeats 4000000 in
set_option maxRecDepth 100000 in
theorem kX8_take {l : Launch} (hl0 : l.stackTraces = false) {G : qG} {S : qS} {sz : Nat} {x0 : Nat} {x1 : Int32} {post : Int32 → qS → Prop} {xp : String → qS → Prop} (h : pX8_take x0 x1 S post xp) : q_M l yX8_take cX8_take 2 (some .boolean) 3 0 0 G S sz [va_rf (some x0), .int x1] (q_Qi G post) xp := by
  refine q_of (lv := [(0, va_rf (some x0)), (1, .int x1)]) hl0 (by decide) rfl (Nat.le_of_ble_eq_true rfl) (fun p e s m below meth c A ls X N hr hnm I hl => ?_)
  generalize ([va_rf (some x0), .int x1] : List Value).toArray = av at X ⊢
  unfold pX8_take at h
  refine q_aload_n X dX8_take_0 rfl (lv_at hl 0 rfl) ?_
  refine lv_iconst (v := 0) X.1 X.2.1 dX8_take_1 (by decide) ?_
  refine q_putI (ci := 9) (k := 0) X I rfl inb_TX8 tyX8_ok nmX8 wd_838 (by decide) (Or.inl rfl) qt_360 rfl dX8_take_2 h (fun S H locs I h => ?_)
  refine q_aload_n X dX8_take_5 rfl (lv_at hl 0 rfl) ?_
  refine q_aload_n X dX8_take_6 rfl (lv_at hl 0 rfl) ?_
  refine lv_iload_n X.1 X.2.1 dX8_take_7 rfl (lv_at hl 1 rfl) ?_
  refine q_cVi (As := [.int x1]) (rest := [va_rf (some x0)]) (c1 := 0) (s1 := 0) (d := 2) (mc := 0) (ms := 0) X N I hl.1 mX8_noSingle wd_1006 dX8_take_8 rfl h (fun b h => kX8_noSingle hl0 h) rfl (Nat.le_of_ble_eq_true rfl) ⟨by decide, by decide⟩ ⟨by decide, by decide⟩ ⟨by decide, by decide⟩ rfl rfl (fun v8 S H locs I h => ?_)
  refine lv_iconst (v := 1) X.1 X.2.1 dX8_take_11 (by decide) ?_
  refine q_cVi (As := [.int v8, .int (1 : Int32)]) (rest := []) (c1 := 0) (s1 := 0) (d := 1) (mc := 0) (ms := 0) X N I hl.1 mX8_throwsIf wd_947 dX8_take_12 rfl h (fun b h => kX8_throwsIf hl0 h) rfl (Nat.le_of_ble_eq_true rfl) ⟨by decide, by decide⟩ ⟨by decide, by decide⟩ ⟨by decide, by decide⟩ rfl rfl (fun v12 S H locs I h => ?_)
  have jn27 : ∀ (S : qS) (H : Heap) (locs : List Loc) (ls : Array Slot), pX8_take_J27 post xp S → q_H G A s H locs S → lv_has ls 2 [] → W p l e (q_rm 3 0 0) s m av below meth c H locs 0 0 (vx_MQ below (q_Qi G post A) (q_XC G A xp) av s 0 0 A) (F0 m 27 ls []) := by
    intro S H locs ls h I hl
    unfold pX8_take_J27 at h
    refine lv_iconst (v := 0) X.1 X.2.1 dX8_take_27 (by decide) ?_
    exact q_zret X I hr dX8_take_28 h (by decide) (by decide)
  refine lv_if_ne (tgt := 27) X.1 X.2.1 dX8_take_15 (by decide) (fun c15 => ?_) (fun c15 => ?_)
  · have h := h.1 c15
    exact jn27 _ _ _ _ h I (lv_sub hl [] rfl)
  · have h := h.2 c15
    refine q_aload_n X dX8_take_18 rfl (lv_at hl 0 rfl) ?_
    refine q_getR (ci := 9) (k := 18) X I rfl inb_TX8 wd_856 (by decide) qt_378 dX8_take_19 h (fun v19 h => ?_)
    refine lv_iload_n X.1 X.2.1 dX8_take_22 rfl (lv_at hl 1 rfl) ?_
    refine q_ldI X I (by decide) (by decide) dX8_take_23 h (fun v23 h => ?_)
    refine lv_if_ge (tgt := 29) X.1 X.2.1 dX8_take_24 (by decide) (fun c24 => ?_) (fun c24 => ?_)
    · have h := h.1 c24
      refine q_aload_n X dX8_take_29 rfl (lv_at hl 0 rfl) ?_
      refine q_getR (ci := 9) (k := 18) X I rfl inb_TX8 wd_856 (by decide) qt_378 dX8_take_30 h (fun v30 h => ?_)
      refine lv_iload_n X.1 X.2.1 dX8_take_33 rfl (lv_at hl 1 rfl) ?_
      refine lv_iconst (v := -1) X.1 X.2.1 dX8_take_34 (by decide) ?_
      refine q_stI X I (by decide) (by decide) dX8_take_35 h (fun S H locs I h => ?_)
      refine lv_iconst (v := 1) X.1 X.2.1 dX8_take_36 (by decide) ?_
      exact q_zret X I hr dX8_take_37 h (by decide) (by decide)
    · have h := h.2 c24
      exact jn27 _ _ _ _ h I (lv_sub hl [] rfl)

def pX8_mayGo_J17  (post : Int32 → qS → Prop) (xp : String → qS → Prop)  (S : qS) : Prop :=
  (((0 : Int32) = 0 ∨ (0 : Int32) = 1) ∧ post (0 : Int32) S)
def pX8_mayGo_J72 (k23 : Option Nat → Int32 → Int32 → Int32 → qS → Prop) (post : Int32 → qS → Prop) (xp : String → qS → Prop) (x0 : Option Nat) (x1 : Int32) (x2 : Int32) (x3 : Int32) (S : qS) : Prop :=
  k23 x0 x1 x2 (x3 + 1) S
def pX8_mayGo_J71 (k23 : Option Nat → Int32 → Int32 → Int32 → qS → Prop) (post : Int32 → qS → Prop) (xp : String → qS → Prop) (x0 : Option Nat) (x1 : Int32) (x3 : Int32) (t0 : Int32) (S : qS) : Prop :=
  pX8_mayGo_J72 k23 post xp x0 x1 t0 x3 S
def pX8_mayGo_J70 (k23 : Option Nat → Int32 → Int32 → Int32 → qS → Prop) (post : Int32 → qS → Prop) (xp : String → qS → Prop) (x0 : Option Nat) (x1 : Int32) (x3 : Int32) (S : qS) : Prop :=
  pX8_mayGo_J71 k23 post xp x0 x1 x3 (0 : Int32) S
def pX8_mayGo_J45 (k23 : Option Nat → Int32 → Int32 → Int32 → qS → Prop) (post : Int32 → qS → Prop) (xp : String → qS → Prop) (x0 : Option Nat) (x1 : Int32) (x2 : Int32) (x3 : Int32) (S : qS) : Prop :=
  ((x2 = 0 →
  pX8_mayGo_J70 k23 post xp x0 x1 x3 S) ∧ (¬ x2 = 0 →
  w_getR S x0 9 16 (fun v50 =>
  w_ldI S v50 46 x3 (fun v54 =>
  ((¬ v54 = 0 →
  pX8_mayGo_J70 k23 post xp x0 x1 x3 S) ∧ (v54 = 0 →
  w_at S x0 9 (fun b60 => pX8_isLent b60 x3 S (fun v60 S =>
  ((¬ v60 = 0 →
  pX8_mayGo_J70 k23 post xp x0 x1 x3 S) ∧ (v60 = 0 →
  pX8_mayGo_J71 k23 post xp x0 x1 x3 (1 : Int32) S))) xp)))))))
def pX8_mayGo_L23  (post : Int32 → qS → Prop) (xp : String → qS → Prop) : Nat → Option Nat → Int32 → Int32 → Int32 → qS → Prop
  | 0, _, _, _, _, _ => False
  | n23 + 1, x0, x1, x2, x3, S =>
  w_getI S x0 9 25 (fun v25 =>
  ((v25 ≤ x3 →
  ((x2 = 0 ∨ x2 = 1) ∧ post x2 S)) ∧ (¬ v25 ≤ x3 →
  ((x3 = x1 →
  pX8_mayGo_J45 (pX8_mayGo_L23 post xp n23) post xp x0 x1 x2 x3 S) ∧ (¬ x3 = x1 →
  w_at S x0 9 (fun b39 => pX8_isWithin b39 x3 x1 S (fun v39 S =>
  ((v39 = 0 →
  pX8_mayGo_J72 (pX8_mayGo_L23 post xp n23) post xp x0 x1 x2 x3 S) ∧ (¬ v39 = 0 →
  pX8_mayGo_J45 (pX8_mayGo_L23 post xp n23) post xp x0 x1 x2 x3 S))) xp))))))
def pX8_mayGo (x0 : Nat) (x1 : Int32) (S : qS) (post : Int32 → qS → Prop) (xp : String → qS → Prop) : Prop :=
  w_at S (some x0) 9 (fun b2 => pX8_isBroken b2 x1 S (fun v2 S =>
  ((¬ v2 = 0 →
  pX8_mayGo_J17 post xp S) ∧ (v2 = 0 →
  w_getR S (some x0) 9 18 (fun v9 =>
  w_ldI S v9 48 x1 (fun v13 =>
  ((v13 < 0 →
  ∃ n23, pX8_mayGo_L23 post xp n23 (some x0) x1 (1 : Int32) (0 : Int32) S) ∧ (¬ v13 < 0 →
  pX8_mayGo_J17 post xp S))))))) xp)
set_option maxHeartbeats 4000000 in
set_option maxRecDepth 100000 in
theorem kX8_mayGo {l : Launch} (hl0 : l.stackTraces = false) {G : qG} {S : qS} {sz : Nat} {x0 : Nat} {x1 : Int32} {post : Int32 → qS → Prop} {xp : String → qS → Prop} (h : pX8_mayGo x0 x1 S post xp) : q_M l yX8_mayGo cX8_mayGo 4 (some .boolean) 2 0 0 G S sz [va_rf (some x0), .int x1] (q_Qi G post) xp := by
  refine q_of (lv := [(0, va_rf (some x0)), (1, .int x1)]) hl0 (by decide) rfl (Nat.le_of_ble_eq_true rfl) (fun p e s m below meth c A ls X N hr hnm I hl => ?_)
  generalize ([va_rf (some x0), .int x1] : List Value).toArray = av at X ⊢
  unfold pX8_mayGo at h
  refine q_aload_n X dX8_mayGo_0 rfl (lv_at hl 0 rfl) ?_
  refine lv_iload_n X.1 X.2.1 dX8_mayGo_1 rfl (lv_at hl 1 rfl) ?_
  refine q_cVi (As := [.int x1]) (rest := []) (c1 := 0) (s1 := 0) (d := 1) (mc := 0) (ms := 0) X N I hl.1 mX8_isBroken wd_1010 dX8_mayGo_2 rfl h (fun b h => kX8_isBroken hl0 h) rfl (Nat.le_of_ble_eq_true rfl) ⟨by decide, by decide⟩ ⟨by decide, by decide⟩ ⟨by decide, by decide⟩ rfl rfl (fun v2 S H locs I h => ?_)
  have jn17 : ∀ (S : qS) (H : Heap) (locs : List Loc) (ls : Array Slot), pX8_mayGo_J17 post xp S → q_H G A s H locs S → lv_has ls 4 [] → W p l e (q_rm 2 0 0) s m av below meth c H locs 0 0 (vx_MQ below (q_Qi G post A) (q_XC G A xp) av s 0 0 A) (F0 m 17 ls []) := by
    intro S H locs ls h I hl
    unfold pX8_mayGo_J17 at h
    refine lv_iconst (v := 0) X.1 X.2.1 dX8_mayGo_17 (by decide) ?_
    exact q_zret X I hr dX8_mayGo_18 h (by decide) (by decide)
  refine lv_if_ne (tgt := 17) X.1 X.2.1 dX8_mayGo_5 (by decide) (fun c5 => ?_) (fun c5 => ?_)
  · have h := h.1 c5
    exact jn17 _ _ _ _ h I (lv_sub hl [] rfl)
  · have h := h.2 c5
    refine q_aload_n X dX8_mayGo_8 rfl (lv_at hl 0 rfl) ?_
    refine q_getR (ci := 9) (k := 18) X I rfl inb_TX8 wd_856 (by decide) qt_378 dX8_mayGo_9 h (fun v9 h => ?_)
    refine lv_iload_n X.1 X.2.1 dX8_mayGo_12 rfl (lv_at hl 1 rfl) ?_
    refine q_ldI X I (by decide) (by decide) dX8_mayGo_13 h (fun v13 h => ?_)
    refine lv_if_lt (tgt := 19) X.1 X.2.1 dX8_mayGo_14 (by decide) (fun c14 => ?_) (fun c14 => ?_)
    · have h := h.1 c14
      refine lv_iconst (v := 1) X.1 X.2.1 dX8_mayGo_19 (by decide) ?_
      refine lv_istore_n (i := 2) (lv' := [(2, .int (1 : Int32)), (0, va_rf (some x0)), (1, .int x1)]) X.1 X.2.1 dX8_mayGo_20 rfl hl (by decide) rfl (fun ls hl => ?_)
      refine lv_iconst (v := 0) X.1 X.2.1 dX8_mayGo_21 (by decide) ?_
      refine lv_istore_n (i := 3) (lv' := [(3, .int (0 : Int32)), (2, .int (1 : Int32)), (0, va_rf (some x0)), (1, .int x1)]) X.1 X.2.1 dX8_mayGo_22 rfl hl (by decide) rfl (fun ls hl => ?_)
      obtain ⟨n23, h⟩ := h
      have lp23 : ∀ (n23 : Nat) (x0 : Option Nat) (x1 : Int32) (x2 : Int32) (x3 : Int32) (S : qS) (H : Heap) (locs : List Loc) (ls : Array Slot), pX8_mayGo_L23 post xp n23 x0 x1 x2 x3 S → q_H G A s H locs S → lv_has ls 4 [(0, va_rf x0), (1, .int x1), (2, .int x2), (3, .int x3)] → W p l e (q_rm 2 0 0) s m av below meth c H locs 0 0 (vx_MQ below (q_Qi G post A) (q_XC G A xp) av s 0 0 A) (F0 m 23 ls []) := by
        intro n23
        induction n23 with
        | zero => intro x0 x1 x2 x3 S H locs ls h I hl; exact h.elim
        | succ n23 ih23 =>
          intro x0 x1 x2 x3 S H locs ls h I hl
          unfold pX8_mayGo_L23 at h
          refine lv_iload_n X.1 X.2.1 dX8_mayGo_23 rfl (lv_at hl 3 rfl) ?_
          refine q_aload_n X dX8_mayGo_24 rfl (lv_at hl 0 rfl) ?_
          refine q_getI (ci := 9) (k := 25) X I rfl inb_TX8 wd_863 (by decide) qt_385 dX8_mayGo_25 h (fun v25 h => ?_)
          refine lv_icmp_ge (tgt := 78) X.1 X.2.1 dX8_mayGo_28 (by decide) (fun c28 => ?_) (fun c28 => ?_)
          · have h := h.1 c28
            refine lv_iload_n X.1 X.2.1 dX8_mayGo_78 rfl (lv_at hl 2 rfl) ?_
            exact q_zret X I hr dX8_mayGo_79 h (by decide) (by decide)
          · have h := h.2 c28
            refine lv_iload_n X.1 X.2.1 dX8_mayGo_31 rfl (lv_at hl 3 rfl) ?_
            refine lv_iload_n X.1 X.2.1 dX8_mayGo_32 rfl (lv_at hl 1 rfl) ?_
            have jn72 : ∀ (x0 : Option Nat) (x1 : Int32) (x2 : Int32) (x3 : Int32) (S : qS) (H : Heap) (locs : List Loc) (ls : Array Slot), pX8_mayGo_J72 (pX8_mayGo_L23 post xp n23) post xp x0 x1 x2 x3 S → q_H G A s H locs S → lv_has ls 4 [(0, va_rf x0), (1, .int x1), (2, .int x2), (3, .int x3)] → W p l e (q_rm 2 0 0) s m av below meth c H locs 0 0 (vx_MQ below (q_Qi G post A) (q_XC G A xp) av s 0 0 A) (F0 m 72 ls []) := by
              intro x0 x1 x2 x3 S H locs ls h I hl
              unfold pX8_mayGo_J72 at h
              refine lv_iinc (v := (x3 + 1)) (lv' := [(3, .int (x3 + 1)), (0, va_rf x0), (1, .int x1), (2, .int x2)]) (k := 3) X.1 X.2.1 dX8_mayGo_72 hl rfl rfl (by decide) rfl (fun ls hl => ?_)
              refine lv_goto (tgt := 23) X.1 X.2.1 dX8_mayGo_75 (by decide) ?_
              exact ih23 _ _ _ _ _ _ _ _ h I (lv_sub hl [1, 2, 3, 0] rfl)
            have jn45 : ∀ (x0 : Option Nat) (x1 : Int32) (x2 : Int32) (x3 : Int32) (S : qS) (H : Heap) (locs : List Loc) (ls : Array Slot), pX8_mayGo_J45 (pX8_mayGo_L23 post xp n23) post xp x0 x1 x2 x3 S → q_H G A s H locs S → lv_has ls 4 [(0, va_rf x0), (1, .int x1), (2, .int x2), (3, .int x3)] → W p l e (q_rm 2 0 0) s m av below meth c H locs 0 0 (vx_MQ below (q_Qi G post A) (q_XC G A xp) av s 0 0 A) (F0 m 45 ls []) := by
              intro x0 x1 x2 x3 S H locs ls h I hl
              unfold pX8_mayGo_J45 at h
              refine lv_iload_n X.1 X.2.1 dX8_mayGo_45 rfl (lv_at hl 2 rfl) ?_
              have jn71 : ∀ (x0 : Option Nat) (x1 : Int32) (x3 : Int32) (t0 : Int32) (S : qS) (H : Heap) (locs : List Loc) (ls : Array Slot), pX8_mayGo_J71 (pX8_mayGo_L23 post xp n23) post xp x0 x1 x3 t0 S → q_H G A s H locs S → lv_has ls 4 [(0, va_rf x0), (1, .int x1), (3, .int x3)] → W p l e (q_rm 2 0 0) s m av below meth c H locs 0 0 (vx_MQ below (q_Qi G post A) (q_XC G A xp) av s 0 0 A) (F0 m 71 ls [.int t0]) := by
                intro x0 x1 x3 t0 S H locs ls h I hl
                unfold pX8_mayGo_J71 at h
                refine lv_istore_n (i := 2) (lv' := [(2, .int t0), (0, va_rf x0), (1, .int x1), (3, .int x3)]) X.1 X.2.1 dX8_mayGo_71 rfl hl (by decide) rfl (fun ls hl => ?_)
                exact jn72 _ _ _ _ _ _ _ _ h I (lv_sub hl [1, 2, 0, 3] rfl)
              have jn70 : ∀ (x0 : Option Nat) (x1 : Int32) (x3 : Int32) (S : qS) (H : Heap) (locs : List Loc) (ls : Array Slot), pX8_mayGo_J70 (pX8_mayGo_L23 post xp n23) post xp x0 x1 x3 S → q_H G A s H locs S → lv_has ls 4 [(0, va_rf x0), (1, .int x1), (3, .int x3)] → W p l e (q_rm 2 0 0) s m av below meth c H locs 0 0 (vx_MQ below (q_Qi G post A) (q_XC G A xp) av s 0 0 A) (F0 m 70 ls []) := by
                intro x0 x1 x3 S H locs ls h I hl
                unfold pX8_mayGo_J70 at h
                refine lv_iconst (v := 0) X.1 X.2.1 dX8_mayGo_70 (by decide) ?_
                exact jn71 _ _ _ _ _ _ _ _ h I (lv_sub hl [0, 1, 2] rfl)
              refine lv_if_eq (tgt := 70) X.1 X.2.1 dX8_mayGo_46 (by decide) (fun c46 => ?_) (fun c46 => ?_)
              · have h := h.1 c46
                exact jn70 _ _ _ _ _ _ _ h I (lv_sub hl [0, 1, 3] rfl)
              · have h := h.2 c46
                refine q_aload_n X dX8_mayGo_49 rfl (lv_at hl 0 rfl) ?_
                refine q_getR (ci := 9) (k := 16) X I rfl inb_TX8 wd_854 (by decide) qt_376 dX8_mayGo_50 h (fun v50 h => ?_)
                refine lv_iload_n X.1 X.2.1 dX8_mayGo_53 rfl (lv_at hl 3 rfl) ?_
                refine q_ldZ X I (by decide) (by decide) dX8_mayGo_54 h (fun v54 h => ?_)
                refine lv_if_ne (tgt := 70) X.1 X.2.1 dX8_mayGo_55 (by decide) (fun c55 => ?_) (fun c55 => ?_)
                · have h := h.1 c55
                  exact jn70 _ _ _ _ _ _ _ h I (lv_sub hl [0, 1, 3] rfl)
                · have h := h.2 c55
                  refine q_aload_n X dX8_mayGo_58 rfl (lv_at hl 0 rfl) ?_
                  refine lv_iload_n X.1 X.2.1 dX8_mayGo_59 rfl (lv_at hl 3 rfl) ?_
                  refine q_cVi (As := [.int x3]) (rest := []) (c1 := 0) (s1 := 0) (d := 1) (mc := 0) (ms := 0) X N I hl.1 mX8_isLent wd_1034 dX8_mayGo_60 rfl h (fun b h => kX8_isLent hl0 h) rfl (Nat.le_of_ble_eq_true rfl) ⟨by decide, by decide⟩ ⟨by decide, by decide⟩ ⟨by decide, by decide⟩ rfl rfl (fun v60 S H locs I h => ?_)
                  refine lv_if_ne (tgt := 70) X.1 X.2.1 dX8_mayGo_63 (by decide) (fun c63 => ?_) (fun c63 => ?_)
                  · have h := h.1 c63
                    exact jn70 _ _ _ _ _ _ _ h I (lv_sub hl [0, 1, 3] rfl)
                  · have h := h.2 c63
                    refine lv_iconst (v := 1) X.1 X.2.1 dX8_mayGo_66 (by decide) ?_
                    refine lv_goto (tgt := 71) X.1 X.2.1 dX8_mayGo_67 (by decide) ?_
                    exact jn71 _ _ _ _ _ _ _ _ h I (lv_sub hl [0, 1, 3] rfl)
            refine lv_icmp_eq (tgt := 45) X.1 X.2.1 dX8_mayGo_33 (by decide) (fun c33 => ?_) (fun c33 => ?_)
            · have h := h.1 c33
              exact jn45 _ _ _ _ _ _ _ _ h I (lv_sub hl [0, 1, 2, 3] rfl)
            · have h := h.2 c33
              refine q_aload_n X dX8_mayGo_36 rfl (lv_at hl 0 rfl) ?_
              refine lv_iload_n X.1 X.2.1 dX8_mayGo_37 rfl (lv_at hl 3 rfl) ?_
              refine lv_iload_n X.1 X.2.1 dX8_mayGo_38 rfl (lv_at hl 1 rfl) ?_
              refine q_cVi (As := [.int x3, .int x1]) (rest := []) (c1 := 0) (s1 := 0) (d := 1) (mc := 0) (ms := 0) X N I hl.1 mX8_isWithin wd_1014 dX8_mayGo_39 rfl h (fun b h => kX8_isWithin hl0 h) rfl (Nat.le_of_ble_eq_true rfl) ⟨by decide, by decide⟩ ⟨by decide, by decide⟩ ⟨by decide, by decide⟩ rfl rfl (fun v39 S H locs I h => ?_)
              refine lv_if_eq (tgt := 72) X.1 X.2.1 dX8_mayGo_42 (by decide) (fun c42 => ?_) (fun c42 => ?_)
              · have h := h.1 c42
                exact jn72 _ _ _ _ _ _ _ _ h I (lv_sub hl [0, 1, 2, 3] rfl)
              · have h := h.2 c42
                exact jn45 _ _ _ _ _ _ _ _ h I (lv_sub hl [0, 1, 2, 3] rfl)
      exact lp23 n23 _ _ _ _ _ _ _ _ h I (lv_sub hl [2, 3, 1, 0] rfl)
    · have h := h.2 c14
      exact jn17 _ _ _ _ h I (lv_sub hl [] rfl)

def pX8_goes_J40 (k2 : Option Nat → Int32 → Int32 → Int32 → qS → Prop) (post : qS → Prop) (xp : String → qS → Prop) (x0 : Option Nat) (x1 : Int32) (x2 : Int32) (x3 : Int32) (S : qS) : Prop :=
  k2 x0 x1 x2 (x3 + 1) S
def pX8_goes_J27 (k2 : Option Nat → Int32 → Int32 → Int32 → qS → Prop) (post : qS → Prop) (xp : String → qS → Prop) (x0 : Option Nat) (x1 : Int32) (x2 : Int32) (x3 : Int32) (S : qS) : Prop :=
  w_getR S x0 9 19 (fun v28 =>
  w_stI S v28 49 x3 x2 (fun S =>
  w_at S x0 9 (fun b37 => pX8_lines b37 x3 x2 S (fun S =>
  pX8_goes_J40 k2 post xp x0 x1 x2 x3 S) xp)))
def pX8_goes_L2  (post : qS → Prop) (xp : String → qS → Prop) : Nat → Option Nat → Int32 → Int32 → Int32 → qS → Prop
  | 0, _, _, _, _, _ => False
  | n2 + 1, x0, x1, x2, x3, S =>
  w_getI S x0 9 25 (fun v4 =>
  ((v4 ≤ x3 →
  post S) ∧ (¬ v4 ≤ x3 →
  ((x3 = x1 →
  pX8_goes_J27 (pX8_goes_L2 post xp n2) post xp x0 x1 x2 x3 S) ∧ (¬ x3 = x1 →
  w_at S x0 9 (fun b18 => pX8_isWithin b18 x3 x1 S (fun v18 S =>
  ((¬ v18 = 0 →
  pX8_goes_J27 (pX8_goes_L2 post xp n2) post xp x0 x1 x2 x3 S) ∧ (v18 = 0 →
  pX8_goes_J40 (pX8_goes_L2 post xp n2) post xp x0 x1 x2 x3 S))) xp))))))
def pX8_goes (x0 : Nat) (x1 : Int32) (x2 : Int32) (S : qS) (post : qS → Prop) (xp : String → qS → Prop) : Prop :=
  ∃ n2, pX8_goes_L2 post xp n2 (some x0) x1 x2 (0 : Int32) S
set_option maxHeartbeats 4000000 in
set_option maxRecDepth 100000 in
theorem kX8_goes {l : Launch} (hl0 : l.stackTraces = false) {G : qG} {S : qS} {sz : Nat} {x0 : Nat} {x1 : Int32} {x2 : Int32} {post : qS → Prop} {xp : String → qS → Prop} (h : pX8_goes x0 x1 x2 S post xp) : q_M l yX8_goes cX8_goes 4 none 2 0 0 G S sz [va_rf (some x0), .int x1, .int x2] (q_Qv G post) xp := by
  refine q_of (lv := [(0, va_rf (some x0)), (1, .int x1), (2, .int x2)]) hl0 (by decide) rfl (Nat.le_of_ble_eq_true rfl) (fun p e s m below meth c A ls X N hr hnm I hl => ?_)
  generalize ([va_rf (some x0), .int x1, .int x2] : List Value).toArray = av at X ⊢
  unfold pX8_goes at h
  refine lv_iconst (v := 0) X.1 X.2.1 dX8_goes_0 (by decide) ?_
  refine lv_istore_n (i := 3) (lv' := [(3, .int (0 : Int32)), (0, va_rf (some x0)), (1, .int x1), (2, .int x2)]) X.1 X.2.1 dX8_goes_1 rfl hl (by decide) rfl (fun ls hl => ?_)
  obtain ⟨n2, h⟩ := h
  have lp2 : ∀ (n2 : Nat) (x0 : Option Nat) (x1 : Int32) (x2 : Int32) (x3 : Int32) (S : qS) (H : Heap) (locs : List Loc) (ls : Array Slot), pX8_goes_L2 post xp n2 x0 x1 x2 x3 S → q_H G A s H locs S → lv_has ls 4 [(0, va_rf x0), (1, .int x1), (2, .int x2), (3, .int x3)] → W p l e (q_rm 2 0 0) s m av below meth c H locs 0 0 (vx_MQ below (q_Qv G post A) (q_XC G A xp) av s 0 0 A) (F0 m 2 ls []) := by
    intro n2
    induction n2 with
    | zero => intro x0 x1 x2 x3 S H locs ls h I hl; exact h.elim
    | succ n2 ih2 =>
      intro x0 x1 x2 x3 S H locs ls h I hl
      unfold pX8_goes_L2 at h
      refine lv_iload_n X.1 X.2.1 dX8_goes_2 rfl (lv_at hl 3 rfl) ?_
      refine q_aload_n X dX8_goes_3 rfl (lv_at hl 0 rfl) ?_
      refine q_getI (ci := 9) (k := 25) X I rfl inb_TX8 wd_863 (by decide) qt_385 dX8_goes_4 h (fun v4 h => ?_)
      refine lv_icmp_ge (tgt := 46) X.1 X.2.1 dX8_goes_7 (by decide) (fun c7 => ?_) (fun c7 => ?_)
      · have h := h.1 c7
        exact q_vret X I hr dX8_goes_46 h (by decide) (by decide)
      · have h := h.2 c7
        refine lv_iload_n X.1 X.2.1 dX8_goes_10 rfl (lv_at hl 3 rfl) ?_
        refine lv_iload_n X.1 X.2.1 dX8_goes_11 rfl (lv_at hl 1 rfl) ?_
        have jn40 : ∀ (x0 : Option Nat) (x1 : Int32) (x2 : Int32) (x3 : Int32) (S : qS) (H : Heap) (locs : List Loc) (ls : Array Slot), pX8_goes_J40 (pX8_goes_L2 post xp n2) post xp x0 x1 x2 x3 S → q_H G A s H locs S → lv_has ls 4 [(0, va_rf x0), (1, .int x1), (2, .int x2), (3, .int x3)] → W p l e (q_rm 2 0 0) s m av below meth c H locs 0 0 (vx_MQ below (q_Qv G post A) (q_XC G A xp) av s 0 0 A) (F0 m 40 ls []) := by
          intro x0 x1 x2 x3 S H locs ls h I hl
          unfold pX8_goes_J40 at h
          refine lv_iinc (v := (x3 + 1)) (lv' := [(3, .int (x3 + 1)), (0, va_rf x0), (1, .int x1), (2, .int x2)]) (k := 3) X.1 X.2.1 dX8_goes_40 hl rfl rfl (by decide) rfl (fun ls hl => ?_)
          refine lv_goto (tgt := 2) X.1 X.2.1 dX8_goes_43 (by decide) ?_
          exact ih2 _ _ _ _ _ _ _ _ h I (lv_sub hl [1, 2, 3, 0] rfl)
        have jn27 : ∀ (x0 : Option Nat) (x1 : Int32) (x2 : Int32) (x3 : Int32) (S : qS) (H : Heap) (locs : List Loc) (ls : Array Slot), pX8_goes_J27 (pX8_goes_L2 post xp n2) post xp x0 x1 x2 x3 S → q_H G A s H locs S → lv_has ls 4 [(0, va_rf x0), (1, .int x1), (2, .int x2), (3, .int x3)] → W p l e (q_rm 2 0 0) s m av below meth c H locs 0 0 (vx_MQ below (q_Qv G post A) (q_XC G A xp) av s 0 0 A) (F0 m 27 ls []) := by
          intro x0 x1 x2 x3 S H locs ls h I hl
          unfold pX8_goes_J27 at h
          refine q_aload_n X dX8_goes_27 rfl (lv_at hl 0 rfl) ?_
          refine q_getR (ci := 9) (k := 19) X I rfl inb_TX8 wd_857 (by decide) qt_379 dX8_goes_28 h (fun v28 h => ?_)
          refine lv_iload_n X.1 X.2.1 dX8_goes_31 rfl (lv_at hl 3 rfl) ?_
          refine lv_iload_n X.1 X.2.1 dX8_goes_32 rfl (lv_at hl 2 rfl) ?_
          refine q_stI X I (by decide) (by decide) dX8_goes_33 h (fun S H locs I h => ?_)
          refine q_aload_n X dX8_goes_34 rfl (lv_at hl 0 rfl) ?_
          refine lv_iload_n X.1 X.2.1 dX8_goes_35 rfl (lv_at hl 3 rfl) ?_
          refine lv_iload_n X.1 X.2.1 dX8_goes_36 rfl (lv_at hl 2 rfl) ?_
          refine q_cVv (As := [.int x3, .int x2]) (rest := []) (c1 := 0) (s1 := 0) (d := 1) (mc := 0) (ms := 0) X N I hl.1 mX8_lines wd_998 dX8_goes_37 rfl h (fun b h => kX8_lines hl0 h) rfl (Nat.le_of_ble_eq_true rfl) ⟨by decide, by decide⟩ ⟨by decide, by decide⟩ ⟨by decide, by decide⟩ rfl rfl (fun S H locs I h => ?_)
          exact jn40 _ _ _ _ _ _ _ _ h I (lv_sub hl [0, 1, 2, 3] rfl)
        refine lv_icmp_eq (tgt := 27) X.1 X.2.1 dX8_goes_12 (by decide) (fun c12 => ?_) (fun c12 => ?_)
        · have h := h.1 c12
          exact jn27 _ _ _ _ _ _ _ _ h I (lv_sub hl [0, 1, 2, 3] rfl)
        · have h := h.2 c12
          refine q_aload_n X dX8_goes_15 rfl (lv_at hl 0 rfl) ?_
          refine lv_iload_n X.1 X.2.1 dX8_goes_16 rfl (lv_at hl 3 rfl) ?_
          refine lv_iload_n X.1 X.2.1 dX8_goes_17 rfl (lv_at hl 1 rfl) ?_
          refine q_cVi (As := [.int x3, .int x1]) (rest := []) (c1 := 0) (s1 := 0) (d := 1) (mc := 0) (ms := 0) X N I hl.1 mX8_isWithin wd_1014 dX8_goes_18 rfl h (fun b h => kX8_isWithin hl0 h) rfl (Nat.le_of_ble_eq_true rfl) ⟨by decide, by decide⟩ ⟨by decide, by decide⟩ ⟨by decide, by decide⟩ rfl rfl (fun v18 S H locs I h => ?_)
          refine lv_if_ne (tgt := 27) X.1 X.2.1 dX8_goes_21 (by decide) (fun c21 => ?_) (fun c21 => ?_)
          · have h := h.1 c21
            exact jn27 _ _ _ _ _ _ _ _ h I (lv_sub hl [0, 1, 2, 3] rfl)
          · have h := h.2 c21
            refine lv_goto (tgt := 40) X.1 X.2.1 dX8_goes_24 (by decide) ?_
            exact jn40 _ _ _ _ _ _ _ _ h I (lv_sub hl [0, 1, 2, 3] rfl)
  exact lp2 n2 _ _ _ _ _ _ _ _ h I (lv_sub hl [1, 2, 3, 0] rfl)

def pX8_give_J52  (post : Int32 → qS → Prop) (xp : String → qS → Prop)  (S : qS) : Prop :=
  (((0 : Int32) = 0 ∨ (0 : Int32) = 1) ∧ post (0 : Int32) S)
def pX8_give_J27  (post : Int32 → qS → Prop) (xp : String → qS → Prop) (x0 : Option Nat) (x1 : Int32) (x2 : Int32) (t0 : Option Nat) (t1 : Int32) (S : qS) : Prop :=
  w_at S t0 9 (fun b28 => pX8_throwsIf b28 t1 (1 : Int32) S (fun v28 S =>
  ((¬ v28 = 0 →
  pX8_give_J52 post xp S) ∧ (v28 = 0 →
  w_at S x0 9 (fun b36 => pX8_mayGo b36 x1 S (fun v36 S =>
  ((v36 = 0 →
  pX8_give_J52 post xp S) ∧ (¬ v36 = 0 →
  w_getR S x0 9 19 (fun v43 =>
  w_ldI S v43 49 x1 (fun v47 =>
  ((¬ v47 = x2 →
  w_at S x0 9 (fun b57 => pX8_goes b57 x1 x2 S (fun S =>
  (((1 : Int32) = 0 ∨ (1 : Int32) = 1) ∧ post (1 : Int32) S)) xp)) ∧ (v47 = x2 →
  pX8_give_J52 post xp S))))))) xp)))) xp)
def pX8_give_J22  (post : Int32 → qS → Prop) (xp : String → qS → Prop) (x0 : Option Nat) (x1 : Int32) (x2 : Int32) (t0 : Option Nat) (S : qS) : Prop :=
  pX8_give_J27 post xp x0 x1 x2 t0 (1 : Int32) S
def pX8_give (x0 : Nat) (x1 : Int32) (x2 : Int32) (S : qS) (post : Int32 → qS → Prop) (xp : String → qS → Prop) : Prop :=
  w_putI S (some x0) 9 0 (0 : Int32) (fun S =>
  w_at S (some x0) 9 (fun b8 => pX8_noSingle b8 x1 S (fun v8 S =>
  ((¬ v8 = 0 →
  pX8_give_J22 post xp (some x0) x1 x2 (some x0) S) ∧ (v8 = 0 →
  w_at S (some x0) 9 (fun b16 => pX8_noPlayer b16 x2 S (fun v16 S =>
  ((v16 = 0 →
  pX8_give_J27 post xp (some x0) x1 x2 (some x0) (0 : Int32) S) ∧ (¬ v16 = 0 →
  pX8_give_J22 post xp (some x0) x1 x2 (some x0) S))) xp)))) xp))
set_option maxHeartbeats 4000000 in
set_option maxRecDepth 100000 in
theorem kX8_give {l : Launch} (hl0 : l.stackTraces = false) {G : qG} {S : qS} {sz : Nat} {x0 : Nat} {x1 : Int32} {x2 : Int32} {post : Int32 → qS → Prop} {xp : String → qS → Prop} (h : pX8_give x0 x1 x2 S post xp) : q_M l yX8_give cX8_give 3 (some .boolean) 3 0 0 G S sz [va_rf (some x0), .int x1, .int x2] (q_Qi G post) xp := by
  refine q_of (lv := [(0, va_rf (some x0)), (1, .int x1), (2, .int x2)]) hl0 (by decide) rfl (Nat.le_of_ble_eq_true rfl) (fun p e s m below meth c A ls X N hr hnm I hl => ?_)
  generalize ([va_rf (some x0), .int x1, .int x2] : List Value).toArray = av at X ⊢
  unfold pX8_give at h
  refine q_aload_n X dX8_give_0 rfl (lv_at hl 0 rfl) ?_
  refine lv_iconst (v := 0) X.1 X.2.1 dX8_give_1 (by decide) ?_
  refine q_putI (ci := 9) (k := 0) X I rfl inb_TX8 tyX8_ok nmX8 wd_838 (by decide) (Or.inl rfl) qt_360 rfl dX8_give_2 h (fun S H locs I h => ?_)
  refine q_aload_n X dX8_give_5 rfl (lv_at hl 0 rfl) ?_
  refine q_aload_n X dX8_give_6 rfl (lv_at hl 0 rfl) ?_
  refine lv_iload_n X.1 X.2.1 dX8_give_7 rfl (lv_at hl 1 rfl) ?_
  refine q_cVi (As := [.int x1]) (rest := [va_rf (some x0)]) (c1 := 0) (s1 := 0) (d := 2) (mc := 0) (ms := 0) X N I hl.1 mX8_noSingle wd_1006 dX8_give_8 rfl h (fun b h => kX8_noSingle hl0 h) rfl (Nat.le_of_ble_eq_true rfl) ⟨by decide, by decide⟩ ⟨by decide, by decide⟩ ⟨by decide, by decide⟩ rfl rfl (fun v8 S H locs I h => ?_)
  have jn27 : ∀ (x0 : Option Nat) (x1 : Int32) (x2 : Int32) (t0 : Option Nat) (t1 : Int32) (S : qS) (H : Heap) (locs : List Loc) (ls : Array Slot), pX8_give_J27 post xp x0 x1 x2 t0 t1 S → q_H G A s H locs S → lv_has ls 3 [(0, va_rf x0), (1, .int x1), (2, .int x2)] → W p l e (q_rm 3 0 0) s m av below meth c H locs 0 0 (vx_MQ below (q_Qi G post A) (q_XC G A xp) av s 0 0 A) (F0 m 27 ls [.int t1, va_rf t0]) := by
    intro x0 x1 x2 t0 t1 S H locs ls h I hl
    unfold pX8_give_J27 at h
    refine lv_iconst (v := 1) X.1 X.2.1 dX8_give_27 (by decide) ?_
    refine q_cVi (As := [.int t1, .int (1 : Int32)]) (rest := []) (c1 := 0) (s1 := 0) (d := 1) (mc := 0) (ms := 0) X N I hl.1 mX8_throwsIf wd_947 dX8_give_28 rfl h (fun b h => kX8_throwsIf hl0 h) rfl (Nat.le_of_ble_eq_true rfl) ⟨by decide, by decide⟩ ⟨by decide, by decide⟩ ⟨by decide, by decide⟩ rfl rfl (fun v28 S H locs I h => ?_)
    have jn52 : ∀ (S : qS) (H : Heap) (locs : List Loc) (ls : Array Slot), pX8_give_J52 post xp S → q_H G A s H locs S → lv_has ls 3 [] → W p l e (q_rm 3 0 0) s m av below meth c H locs 0 0 (vx_MQ below (q_Qi G post A) (q_XC G A xp) av s 0 0 A) (F0 m 52 ls []) := by
      intro S H locs ls h I hl
      unfold pX8_give_J52 at h
      refine lv_iconst (v := 0) X.1 X.2.1 dX8_give_52 (by decide) ?_
      exact q_zret X I hr dX8_give_53 h (by decide) (by decide)
    refine lv_if_ne (tgt := 52) X.1 X.2.1 dX8_give_31 (by decide) (fun c31 => ?_) (fun c31 => ?_)
    · have h := h.1 c31
      exact jn52 _ _ _ _ h I (lv_sub hl [] rfl)
    · have h := h.2 c31
      refine q_aload_n X dX8_give_34 rfl (lv_at hl 0 rfl) ?_
      refine lv_iload_n X.1 X.2.1 dX8_give_35 rfl (lv_at hl 1 rfl) ?_
      refine q_cVi (As := [.int x1]) (rest := []) (c1 := 0) (s1 := 0) (d := 2) (mc := 0) (ms := 0) X N I hl.1 mX8_mayGo wd_1030 dX8_give_36 rfl h (fun b h => kX8_mayGo hl0 h) rfl (Nat.le_of_ble_eq_true rfl) ⟨by decide, by decide⟩ ⟨by decide, by decide⟩ ⟨by decide, by decide⟩ rfl rfl (fun v36 S H locs I h => ?_)
      refine lv_if_eq (tgt := 52) X.1 X.2.1 dX8_give_39 (by decide) (fun c39 => ?_) (fun c39 => ?_)
      · have h := h.1 c39
        exact jn52 _ _ _ _ h I (lv_sub hl [] rfl)
      · have h := h.2 c39
        refine q_aload_n X dX8_give_42 rfl (lv_at hl 0 rfl) ?_
        refine q_getR (ci := 9) (k := 19) X I rfl inb_TX8 wd_857 (by decide) qt_379 dX8_give_43 h (fun v43 h => ?_)
        refine lv_iload_n X.1 X.2.1 dX8_give_46 rfl (lv_at hl 1 rfl) ?_
        refine q_ldI X I (by decide) (by decide) dX8_give_47 h (fun v47 h => ?_)
        refine lv_iload_n X.1 X.2.1 dX8_give_48 rfl (lv_at hl 2 rfl) ?_
        refine lv_icmp_ne (tgt := 54) X.1 X.2.1 dX8_give_49 (by decide) (fun c49 => ?_) (fun c49 => ?_)
        · have h := h.1 c49
          refine q_aload_n X dX8_give_54 rfl (lv_at hl 0 rfl) ?_
          refine lv_iload_n X.1 X.2.1 dX8_give_55 rfl (lv_at hl 1 rfl) ?_
          refine lv_iload_n X.1 X.2.1 dX8_give_56 rfl (lv_at hl 2 rfl) ?_
          refine q_cVv (As := [.int x1, .int x2]) (rest := []) (c1 := 0) (s1 := 0) (d := 2) (mc := 0) (ms := 0) X N I hl.1 mX8_goes wd_1038 dX8_give_57 rfl h (fun b h => kX8_goes hl0 h) rfl (Nat.le_of_ble_eq_true rfl) ⟨by decide, by decide⟩ ⟨by decide, by decide⟩ ⟨by decide, by decide⟩ rfl rfl (fun S H locs I h => ?_)
          refine lv_iconst (v := 1) X.1 X.2.1 dX8_give_60 (by decide) ?_
          exact q_zret X I hr dX8_give_61 h (by decide) (by decide)
        · have h := h.2 c49
          exact jn52 _ _ _ _ h I (lv_sub hl [] rfl)
  have jn22 : ∀ (x0 : Option Nat) (x1 : Int32) (x2 : Int32) (t0 : Option Nat) (S : qS) (H : Heap) (locs : List Loc) (ls : Array Slot), pX8_give_J22 post xp x0 x1 x2 t0 S → q_H G A s H locs S → lv_has ls 3 [(0, va_rf x0), (1, .int x1), (2, .int x2)] → W p l e (q_rm 3 0 0) s m av below meth c H locs 0 0 (vx_MQ below (q_Qi G post A) (q_XC G A xp) av s 0 0 A) (F0 m 22 ls [va_rf t0]) := by
    intro x0 x1 x2 t0 S H locs ls h I hl
    unfold pX8_give_J22 at h
    refine lv_iconst (v := 1) X.1 X.2.1 dX8_give_22 (by decide) ?_
    refine lv_goto (tgt := 27) X.1 X.2.1 dX8_give_23 (by decide) ?_
    exact jn27 _ _ _ _ _ _ _ _ _ h I (lv_sub hl [0, 1, 2] rfl)
  refine lv_if_ne (tgt := 22) X.1 X.2.1 dX8_give_11 (by decide) (fun c11 => ?_) (fun c11 => ?_)
  · have h := h.1 c11
    exact jn22 _ _ _ _ _ _ _ _ h I (lv_sub hl [0, 1, 2] rfl)
  · have h := h.2 c11
    refine q_aload_n X dX8_give_14 rfl (lv_at hl 0 rfl) ?_
    refine lv_iload_n X.1 X.2.1 dX8_give_15 rfl (lv_at hl 2 rfl) ?_
    refine q_cVi (As := [.int x2]) (rest := [va_rf (some x0)]) (c1 := 0) (s1 := 0) (d := 2) (mc := 0) (ms := 0) X N I hl.1 mX8_noPlayer wd_975 dX8_give_16 rfl h (fun b h => kX8_noPlayer hl0 h) rfl (Nat.le_of_ble_eq_true rfl) ⟨by decide, by decide⟩ ⟨by decide, by decide⟩ ⟨by decide, by decide⟩ rfl rfl (fun v16 S H locs I h => ?_)
    refine lv_if_eq (tgt := 26) X.1 X.2.1 dX8_give_19 (by decide) (fun c19 => ?_) (fun c19 => ?_)
    · have h := h.1 c19
      refine lv_iconst (v := 0) X.1 X.2.1 dX8_give_26 (by decide) ?_
      exact jn27 _ _ _ _ _ _ _ _ _ h I (lv_sub hl [0, 1, 2] rfl)
    · have h := h.2 c19
      exact jn22 _ _ _ _ _ _ _ _ h I (lv_sub hl [0, 1, 2] rfl)

def pX8_lend_J60  (post : Int32 → qS → Prop) (xp : String → qS → Prop)  (S : qS) : Prop :=
  (((0 : Int32) = 0 ∨ (0 : Int32) = 1) ∧ post (0 : Int32) S)
def pX8_lend_J27  (post : Int32 → qS → Prop) (xp : String → qS → Prop) (x0 : Option Nat) (x1 : Int32) (x2 : Int32) (x3 : Int32) (t0 : Option Nat) (t1 : Int32) (S : qS) : Prop :=
  w_at S t0 9 (fun b28 => pX8_throwsIf b28 t1 (1 : Int32) S (fun v28 S =>
  ((¬ v28 = 0 →
  pX8_lend_J60 post xp S) ∧ (v28 = 0 →
  w_at S x0 9 (fun b36 => pX8_mayGo b36 x1 S (fun v36 S =>
  ((v36 = 0 →
  pX8_lend_J60 post xp S) ∧ (¬ v36 = 0 →
  w_getR S x0 9 19 (fun v43 =>
  w_ldI S v43 49 x1 (fun v47 =>
  ((v47 = x2 →
  pX8_lend_J60 post xp S) ∧ (¬ v47 = x2 →
  w_getI S x0 9 1 (fun v54 =>
  ((v54 < x3 →
  w_getR S x0 9 21 (fun v63 =>
  w_getR S x0 9 19 (fun v68 =>
  w_ldI S v68 49 x1 (fun v72 =>
  w_stI S v63 51 x1 v72 (fun S =>
  w_getR S x0 9 20 (fun v75 =>
  w_stI S v75 50 x1 x3 (fun S =>
  w_at S x0 9 (fun b84 => pX8_goes b84 x1 x2 S (fun S =>
  (((1 : Int32) = 0 ∨ (1 : Int32) = 1) ∧ post (1 : Int32) S)) xp)))))))) ∧ (¬ v54 < x3 →
  pX8_lend_J60 post xp S)))))))))) xp)))) xp)
def pX8_lend_J22  (post : Int32 → qS → Prop) (xp : String → qS → Prop) (x0 : Option Nat) (x1 : Int32) (x2 : Int32) (x3 : Int32) (t0 : Option Nat) (S : qS) : Prop :=
  pX8_lend_J27 post xp x0 x1 x2 x3 t0 (1 : Int32) S
def pX8_lend (x0 : Nat) (x1 : Int32) (x2 : Int32) (x3 : Int32) (S : qS) (post : Int32 → qS → Prop) (xp : String → qS → Prop) : Prop :=
  w_putI S (some x0) 9 0 (0 : Int32) (fun S =>
  w_at S (some x0) 9 (fun b8 => pX8_noSingle b8 x1 S (fun v8 S =>
  ((¬ v8 = 0 →
  pX8_lend_J22 post xp (some x0) x1 x2 x3 (some x0) S) ∧ (v8 = 0 →
  w_at S (some x0) 9 (fun b16 => pX8_noPlayer b16 x2 S (fun v16 S =>
  ((v16 = 0 →
  pX8_lend_J27 post xp (some x0) x1 x2 x3 (some x0) (0 : Int32) S) ∧ (¬ v16 = 0 →
  pX8_lend_J22 post xp (some x0) x1 x2 x3 (some x0) S))) xp)))) xp))
set_option maxHeartbeats 4000000 in
set_option maxRecDepth 100000 in
theorem kX8_lend {l : Launch} (hl0 : l.stackTraces = false) {G : qG} {S : qS} {sz : Nat} {x0 : Nat} {x1 : Int32} {x2 : Int32} {x3 : Int32} {post : Int32 → qS → Prop} {xp : String → qS → Prop} (h : pX8_lend x0 x1 x2 x3 S post xp) : q_M l yX8_lend cX8_lend 4 (some .boolean) 3 0 0 G S sz [va_rf (some x0), .int x1, .int x2, .int x3] (q_Qi G post) xp := by
  refine q_of (lv := [(0, va_rf (some x0)), (1, .int x1), (2, .int x2), (3, .int x3)]) hl0 (by decide) rfl (Nat.le_of_ble_eq_true rfl) (fun p e s m below meth c A ls X N hr hnm I hl => ?_)
  generalize ([va_rf (some x0), .int x1, .int x2, .int x3] : List Value).toArray = av at X ⊢
  unfold pX8_lend at h
  refine q_aload_n X dX8_lend_0 rfl (lv_at hl 0 rfl) ?_
  refine lv_iconst (v := 0) X.1 X.2.1 dX8_lend_1 (by decide) ?_
  refine q_putI (ci := 9) (k := 0) X I rfl inb_TX8 tyX8_ok nmX8 wd_838 (by decide) (Or.inl rfl) qt_360 rfl dX8_lend_2 h (fun S H locs I h => ?_)
  refine q_aload_n X dX8_lend_5 rfl (lv_at hl 0 rfl) ?_
  refine q_aload_n X dX8_lend_6 rfl (lv_at hl 0 rfl) ?_
  refine lv_iload_n X.1 X.2.1 dX8_lend_7 rfl (lv_at hl 1 rfl) ?_
  refine q_cVi (As := [.int x1]) (rest := [va_rf (some x0)]) (c1 := 0) (s1 := 0) (d := 2) (mc := 0) (ms := 0) X N I hl.1 mX8_noSingle wd_1006 dX8_lend_8 rfl h (fun b h => kX8_noSingle hl0 h) rfl (Nat.le_of_ble_eq_true rfl) ⟨by decide, by decide⟩ ⟨by decide, by decide⟩ ⟨by decide, by decide⟩ rfl rfl (fun v8 S H locs I h => ?_)
  have jn27 : ∀ (x0 : Option Nat) (x1 : Int32) (x2 : Int32) (x3 : Int32) (t0 : Option Nat) (t1 : Int32) (S : qS) (H : Heap) (locs : List Loc) (ls : Array Slot), pX8_lend_J27 post xp x0 x1 x2 x3 t0 t1 S → q_H G A s H locs S → lv_has ls 4 [(0, va_rf x0), (1, .int x1), (2, .int x2), (3, .int x3)] → W p l e (q_rm 3 0 0) s m av below meth c H locs 0 0 (vx_MQ below (q_Qi G post A) (q_XC G A xp) av s 0 0 A) (F0 m 27 ls [.int t1, va_rf t0]) := by
    intro x0 x1 x2 x3 t0 t1 S H locs ls h I hl
    unfold pX8_lend_J27 at h
    refine lv_iconst (v := 1) X.1 X.2.1 dX8_lend_27 (by decide) ?_
    refine q_cVi (As := [.int t1, .int (1 : Int32)]) (rest := []) (c1 := 0) (s1 := 0) (d := 1) (mc := 0) (ms := 0) X N I hl.1 mX8_throwsIf wd_947 dX8_lend_28 rfl h (fun b h => kX8_throwsIf hl0 h) rfl (Nat.le_of_ble_eq_true rfl) ⟨by decide, by decide⟩ ⟨by decide, by decide⟩ ⟨by decide, by decide⟩ rfl rfl (fun v28 S H locs I h => ?_)
    have jn60 : ∀ (S : qS) (H : Heap) (locs : List Loc) (ls : Array Slot), pX8_lend_J60 post xp S → q_H G A s H locs S → lv_has ls 4 [] → W p l e (q_rm 3 0 0) s m av below meth c H locs 0 0 (vx_MQ below (q_Qi G post A) (q_XC G A xp) av s 0 0 A) (F0 m 60 ls []) := by
      intro S H locs ls h I hl
      unfold pX8_lend_J60 at h
      refine lv_iconst (v := 0) X.1 X.2.1 dX8_lend_60 (by decide) ?_
      exact q_zret X I hr dX8_lend_61 h (by decide) (by decide)
    refine lv_if_ne (tgt := 60) X.1 X.2.1 dX8_lend_31 (by decide) (fun c31 => ?_) (fun c31 => ?_)
    · have h := h.1 c31
      exact jn60 _ _ _ _ h I (lv_sub hl [] rfl)
    · have h := h.2 c31
      refine q_aload_n X dX8_lend_34 rfl (lv_at hl 0 rfl) ?_
      refine lv_iload_n X.1 X.2.1 dX8_lend_35 rfl (lv_at hl 1 rfl) ?_
      refine q_cVi (As := [.int x1]) (rest := []) (c1 := 0) (s1 := 0) (d := 2) (mc := 0) (ms := 0) X N I hl.1 mX8_mayGo wd_1030 dX8_lend_36 rfl h (fun b h => kX8_mayGo hl0 h) rfl (Nat.le_of_ble_eq_true rfl) ⟨by decide, by decide⟩ ⟨by decide, by decide⟩ ⟨by decide, by decide⟩ rfl rfl (fun v36 S H locs I h => ?_)
      refine lv_if_eq (tgt := 60) X.1 X.2.1 dX8_lend_39 (by decide) (fun c39 => ?_) (fun c39 => ?_)
      · have h := h.1 c39
        exact jn60 _ _ _ _ h I (lv_sub hl [] rfl)
      · have h := h.2 c39
        refine q_aload_n X dX8_lend_42 rfl (lv_at hl 0 rfl) ?_
        refine q_getR (ci := 9) (k := 19) X I rfl inb_TX8 wd_857 (by decide) qt_379 dX8_lend_43 h (fun v43 h => ?_)
        refine lv_iload_n X.1 X.2.1 dX8_lend_46 rfl (lv_at hl 1 rfl) ?_
        refine q_ldI X I (by decide) (by decide) dX8_lend_47 h (fun v47 h => ?_)
        refine lv_iload_n X.1 X.2.1 dX8_lend_48 rfl (lv_at hl 2 rfl) ?_
        refine lv_icmp_eq (tgt := 60) X.1 X.2.1 dX8_lend_49 (by decide) (fun c49 => ?_) (fun c49 => ?_)
        · have h := h.1 c49
          exact jn60 _ _ _ _ h I (lv_sub hl [] rfl)
        · have h := h.2 c49
          refine lv_iload_n X.1 X.2.1 dX8_lend_52 rfl (lv_at hl 3 rfl) ?_
          refine q_aload_n X dX8_lend_53 rfl (lv_at hl 0 rfl) ?_
          refine q_getI (ci := 9) (k := 1) X I rfl inb_TX8 wd_839 (by decide) qt_361 dX8_lend_54 h (fun v54 h => ?_)
          refine lv_icmp_gt (tgt := 62) X.1 X.2.1 dX8_lend_57 (by decide) (fun c57 => ?_) (fun c57 => ?_)
          · have h := h.1 c57
            refine q_aload_n X dX8_lend_62 rfl (lv_at hl 0 rfl) ?_
            refine q_getR (ci := 9) (k := 21) X I rfl inb_TX8 wd_859 (by decide) qt_381 dX8_lend_63 h (fun v63 h => ?_)
            refine lv_iload_n X.1 X.2.1 dX8_lend_66 rfl (lv_at hl 1 rfl) ?_
            refine q_aload_n X dX8_lend_67 rfl (lv_at hl 0 rfl) ?_
            refine q_getR (ci := 9) (k := 19) X I rfl inb_TX8 wd_857 (by decide) qt_379 dX8_lend_68 h (fun v68 h => ?_)
            refine lv_iload_n X.1 X.2.1 dX8_lend_71 rfl (lv_at hl 1 rfl) ?_
            refine q_ldI X I (by decide) (by decide) dX8_lend_72 h (fun v72 h => ?_)
            refine q_stI X I (by decide) (by decide) dX8_lend_73 h (fun S H locs I h => ?_)
            refine q_aload_n X dX8_lend_74 rfl (lv_at hl 0 rfl) ?_
            refine q_getR (ci := 9) (k := 20) X I rfl inb_TX8 wd_858 (by decide) qt_380 dX8_lend_75 h (fun v75 h => ?_)
            refine lv_iload_n X.1 X.2.1 dX8_lend_78 rfl (lv_at hl 1 rfl) ?_
            refine lv_iload_n X.1 X.2.1 dX8_lend_79 rfl (lv_at hl 3 rfl) ?_
            refine q_stI X I (by decide) (by decide) dX8_lend_80 h (fun S H locs I h => ?_)
            refine q_aload_n X dX8_lend_81 rfl (lv_at hl 0 rfl) ?_
            refine lv_iload_n X.1 X.2.1 dX8_lend_82 rfl (lv_at hl 1 rfl) ?_
            refine lv_iload_n X.1 X.2.1 dX8_lend_83 rfl (lv_at hl 2 rfl) ?_
            refine q_cVv (As := [.int x1, .int x2]) (rest := []) (c1 := 0) (s1 := 0) (d := 2) (mc := 0) (ms := 0) X N I hl.1 mX8_goes wd_1038 dX8_lend_84 rfl h (fun b h => kX8_goes hl0 h) rfl (Nat.le_of_ble_eq_true rfl) ⟨by decide, by decide⟩ ⟨by decide, by decide⟩ ⟨by decide, by decide⟩ rfl rfl (fun S H locs I h => ?_)
            refine lv_iconst (v := 1) X.1 X.2.1 dX8_lend_87 (by decide) ?_
            exact q_zret X I hr dX8_lend_88 h (by decide) (by decide)
          · have h := h.2 c57
            exact jn60 _ _ _ _ h I (lv_sub hl [] rfl)
  have jn22 : ∀ (x0 : Option Nat) (x1 : Int32) (x2 : Int32) (x3 : Int32) (t0 : Option Nat) (S : qS) (H : Heap) (locs : List Loc) (ls : Array Slot), pX8_lend_J22 post xp x0 x1 x2 x3 t0 S → q_H G A s H locs S → lv_has ls 4 [(0, va_rf x0), (1, .int x1), (2, .int x2), (3, .int x3)] → W p l e (q_rm 3 0 0) s m av below meth c H locs 0 0 (vx_MQ below (q_Qi G post A) (q_XC G A xp) av s 0 0 A) (F0 m 22 ls [va_rf t0]) := by
    intro x0 x1 x2 x3 t0 S H locs ls h I hl
    unfold pX8_lend_J22 at h
    refine lv_iconst (v := 1) X.1 X.2.1 dX8_lend_22 (by decide) ?_
    refine lv_goto (tgt := 27) X.1 X.2.1 dX8_lend_23 (by decide) ?_
    exact jn27 _ _ _ _ _ _ _ _ _ _ h I (lv_sub hl [0, 1, 2, 3] rfl)
  refine lv_if_ne (tgt := 22) X.1 X.2.1 dX8_lend_11 (by decide) (fun c11 => ?_) (fun c11 => ?_)
  · have h := h.1 c11
    exact jn22 _ _ _ _ _ _ _ _ _ h I (lv_sub hl [0, 1, 2, 3] rfl)
  · have h := h.2 c11
    refine q_aload_n X dX8_lend_14 rfl (lv_at hl 0 rfl) ?_
    refine lv_iload_n X.1 X.2.1 dX8_lend_15 rfl (lv_at hl 2 rfl) ?_
    refine q_cVi (As := [.int x2]) (rest := [va_rf (some x0)]) (c1 := 0) (s1 := 0) (d := 2) (mc := 0) (ms := 0) X N I hl.1 mX8_noPlayer wd_975 dX8_lend_16 rfl h (fun b h => kX8_noPlayer hl0 h) rfl (Nat.le_of_ble_eq_true rfl) ⟨by decide, by decide⟩ ⟨by decide, by decide⟩ ⟨by decide, by decide⟩ rfl rfl (fun v16 S H locs I h => ?_)
    refine lv_if_eq (tgt := 26) X.1 X.2.1 dX8_lend_19 (by decide) (fun c19 => ?_) (fun c19 => ?_)
    · have h := h.1 c19
      refine lv_iconst (v := 0) X.1 X.2.1 dX8_lend_26 (by decide) ?_
      exact jn27 _ _ _ _ _ _ _ _ _ _ h I (lv_sub hl [0, 1, 2, 3] rfl)
    · have h := h.2 c19
      exact jn22 _ _ _ _ _ _ _ _ _ h I (lv_sub hl [0, 1, 2, 3] rfl)

def pX8_wear_J43  (post : Int32 → qS → Prop) (xp : String → qS → Prop)  (S : qS) : Prop :=
  post (0 : Int32) S
def pX8_wear_J125  (post : Int32 → qS → Prop) (xp : String → qS → Prop) (x0 : Option Nat) (x1 : Int32) (S : qS) : Prop :=
  w_getR S x0 9 18 (fun v126 =>
  w_stI S v126 48 x1 (-1 : Int32) (fun S =>
  w_getR S x0 9 19 (fun v133 =>
  w_stI S v133 49 x1 (-1 : Int32) (fun S =>
  w_getR S x0 9 20 (fun v140 =>
  w_stI S v140 50 x1 (-1 : Int32) (fun S =>
  w_getR S x0 9 21 (fun v147 =>
  w_stI S v147 51 x1 (-1 : Int32) (fun S =>
  post (100 : Int32) S))))))))
def pX8_wear_J119 (k94 : Option Nat → Int32 → Int32 → qS → Prop) (post : Int32 → qS → Prop) (xp : String → qS → Prop) (x0 : Option Nat) (x1 : Int32) (x3 : Int32) (S : qS) : Prop :=
  k94 x0 x1 (x3 + 1) S
def pX8_wear_L94 (k125 : Option Nat → Int32 → qS → Prop) (post : Int32 → qS → Prop) (xp : String → qS → Prop) : Nat → Option Nat → Int32 → Int32 → qS → Prop
  | 0, _, _, _, _ => False
  | n94 + 1, x0, x1, x3, S =>
  w_getI S x0 9 25 (fun v96 =>
  ((v96 ≤ x3 →
  k125 x0 x1 S) ∧ (¬ v96 ≤ x3 →
  w_getR S x0 9 18 (fun v103 =>
  w_ldI S v103 48 x3 (fun v107 =>
  ((¬ v107 = x1 →
  pX8_wear_J119 (pX8_wear_L94 k125 post xp n94) post xp x0 x1 x3 S) ∧ (v107 = x1 →
  w_getR S x0 9 18 (fun v113 =>
  w_stI S v113 48 x3 (-1 : Int32) (fun S =>
  pX8_wear_J119 (pX8_wear_L94 k125 post xp n94) post xp x0 x1 x3 S)))))))))
def pX8_wear_J36  (post : Int32 → qS → Prop) (xp : String → qS → Prop) (x0 : Option Nat) (x1 : Int32) (x2 : Int32) (t0 : Option Nat) (t1 : Int32) (S : qS) : Prop :=
  w_at S t0 9 (fun b37 => pX8_throwsIf b37 t1 (2 : Int32) S (fun v37 S =>
  ((v37 = 0 →
  w_at S x0 9 (fun b47 => pX8_isBroken b47 x1 S (fun v47 S =>
  ((v47 = 0 →
  w_getR S x0 9 15 (fun v56 =>
  w_getR S x0 9 15 (fun v63 =>
  w_ldI S v63 45 x1 (fun v67 =>
  w_stI S v56 45 x1 (if (v67 + x2) < (100 : Int32) then (v67 + x2) else (100 : Int32)) (fun S =>
  w_getR S x0 9 15 (fun v75 =>
  w_ldI S v75 45 x1 (fun v79 =>
  (((100 : Int32) ≤ v79 →
  ∃ n94, pX8_wear_L94 (pX8_wear_J125 post xp) post xp n94 x0 x1 (0 : Int32) S) ∧ (¬ (100 : Int32) ≤ v79 →
  w_getR S x0 9 15 (fun v86 =>
  w_ldI S v86 45 x1 (fun v90 =>
  post v90 S))))))))))) ∧ (¬ v47 = 0 →
  post (-1 : Int32) S))) xp)) ∧ (¬ v37 = 0 →
  pX8_wear_J43 post xp S))) xp)
def pX8_wear (x0 : Nat) (x1 : Int32) (x2 : Int32) (S : qS) (post : Int32 → qS → Prop) (xp : String → qS → Prop) : Prop :=
  w_putI S (some x0) 9 0 (0 : Int32) (fun S =>
  w_at S (some x0) 9 (fun b8 => pX8_noSingle b8 x1 S (fun v8 S =>
  w_at S (some x0) 9 (fun b12 => pX8_throwsIf b12 v8 (1 : Int32) S (fun v12 S =>
  ((¬ v12 = 0 →
  pX8_wear_J43 post xp S) ∧ (v12 = 0 →
  pX8_in x2.toInt64 (1 : Int64) (100 : Int64) S (fun v25 S =>
  ((¬ v25 = 0 →
  pX8_wear_J36 post xp (some x0) x1 x2 (some x0) (0 : Int32) S) ∧ (v25 = 0 →
  pX8_wear_J36 post xp (some x0) x1 x2 (some x0) (1 : Int32) S))) xp))) xp)) xp))
set_option maxHeartbeats 4000000 in
set_option maxRecDepth 100000 in
theorem kX8_wear {l : Launch} (hl0 : l.stackTraces = false) {G : qG} {S : qS} {sz : Nat} {x0 : Nat} {x1 : Int32} {x2 : Int32} {post : Int32 → qS → Prop} {xp : String → qS → Prop} (h : pX8_wear x0 x1 x2 S post xp) : q_M l yX8_wear cX8_wear 4 (some .int) 3 0 0 G S sz [va_rf (some x0), .int x1, .int x2] (q_Qi G post) xp := by
  refine q_of (lv := [(0, va_rf (some x0)), (1, .int x1), (2, .int x2)]) hl0 (by decide) rfl (Nat.le_of_ble_eq_true rfl) (fun p e s m below meth c A ls X N hr hnm I hl => ?_)
  generalize ([va_rf (some x0), .int x1, .int x2] : List Value).toArray = av at X ⊢
  unfold pX8_wear at h
  refine q_aload_n X dX8_wear_0 rfl (lv_at hl 0 rfl) ?_
  refine lv_iconst (v := 0) X.1 X.2.1 dX8_wear_1 (by decide) ?_
  refine q_putI (ci := 9) (k := 0) X I rfl inb_TX8 tyX8_ok nmX8 wd_838 (by decide) (Or.inl rfl) qt_360 rfl dX8_wear_2 h (fun S H locs I h => ?_)
  refine q_aload_n X dX8_wear_5 rfl (lv_at hl 0 rfl) ?_
  refine q_aload_n X dX8_wear_6 rfl (lv_at hl 0 rfl) ?_
  refine lv_iload_n X.1 X.2.1 dX8_wear_7 rfl (lv_at hl 1 rfl) ?_
  refine q_cVi (As := [.int x1]) (rest := [va_rf (some x0)]) (c1 := 0) (s1 := 0) (d := 2) (mc := 0) (ms := 0) X N I hl.1 mX8_noSingle wd_1006 dX8_wear_8 rfl h (fun b h => kX8_noSingle hl0 h) rfl (Nat.le_of_ble_eq_true rfl) ⟨by decide, by decide⟩ ⟨by decide, by decide⟩ ⟨by decide, by decide⟩ rfl rfl (fun v8 S H locs I h => ?_)
  refine lv_iconst (v := 1) X.1 X.2.1 dX8_wear_11 (by decide) ?_
  refine q_cVi (As := [.int v8, .int (1 : Int32)]) (rest := []) (c1 := 0) (s1 := 0) (d := 1) (mc := 0) (ms := 0) X N I hl.1 mX8_throwsIf wd_947 dX8_wear_12 rfl h (fun b h => kX8_throwsIf hl0 h) rfl (Nat.le_of_ble_eq_true rfl) ⟨by decide, by decide⟩ ⟨by decide, by decide⟩ ⟨by decide, by decide⟩ rfl rfl (fun v12 S H locs I h => ?_)
  have jn43 : ∀ (S : qS) (H : Heap) (locs : List Loc) (ls : Array Slot), pX8_wear_J43 post xp S → q_H G A s H locs S → lv_has ls 4 [] → W p l e (q_rm 3 0 0) s m av below meth c H locs 0 0 (vx_MQ below (q_Qi G post A) (q_XC G A xp) av s 0 0 A) (F0 m 43 ls []) := by
    intro S H locs ls h I hl
    unfold pX8_wear_J43 at h
    refine lv_iconst (v := 0) X.1 X.2.1 dX8_wear_43 (by decide) ?_
    exact q_iret X I hr dX8_wear_44 h (by decide) (by decide)
  refine lv_if_ne (tgt := 43) X.1 X.2.1 dX8_wear_15 (by decide) (fun c15 => ?_) (fun c15 => ?_)
  · have h := h.1 c15
    exact jn43 _ _ _ _ h I (lv_sub hl [] rfl)
  · have h := h.2 c15
    refine q_aload_n X dX8_wear_18 rfl (lv_at hl 0 rfl) ?_
    refine lv_iload_n X.1 X.2.1 dX8_wear_19 rfl (lv_at hl 2 rfl) ?_
    refine lv_i2l X.1 X.2.1 dX8_wear_20 rfl ?_
    refine lv_lconst (v := 1) X.1 X.2.1 dX8_wear_21 (by decide) ?_
    refine lv_ldc2 X.1 X.2.1 X.2.2.1 (X.2.2.2.1 _ wd_1050) dX8_wear_22 ?_
    refine q_cSi (As := [.long x2.toInt64, .long (1 : Int64), .long (100 : Int64)]) (rest := [va_rf (some x0)]) (c1 := 0) (s1 := 0) (d := 1) (mc := 0) (ms := 0) X N I hl.1 mX8_in wd_963 dX8_wear_25 rfl (kX8_in hl0 h) rfl (Nat.le_of_ble_eq_true rfl) ⟨by decide, by decide⟩ ⟨by decide, by decide⟩ ⟨by decide, by decide⟩ rfl rfl (fun v25 S H locs I h => ?_)
    have jn36 : ∀ (x0 : Option Nat) (x1 : Int32) (x2 : Int32) (t0 : Option Nat) (t1 : Int32) (S : qS) (H : Heap) (locs : List Loc) (ls : Array Slot), pX8_wear_J36 post xp x0 x1 x2 t0 t1 S → q_H G A s H locs S → lv_has ls 4 [(0, va_rf x0), (1, .int x1), (2, .int x2)] → W p l e (q_rm 3 0 0) s m av below meth c H locs 0 0 (vx_MQ below (q_Qi G post A) (q_XC G A xp) av s 0 0 A) (F0 m 36 ls [.int t1, va_rf t0]) := by
      intro x0 x1 x2 t0 t1 S H locs ls h I hl
      unfold pX8_wear_J36 at h
      refine lv_iconst (v := 2) X.1 X.2.1 dX8_wear_36 (by decide) ?_
      refine q_cVi (As := [.int t1, .int (2 : Int32)]) (rest := []) (c1 := 0) (s1 := 0) (d := 1) (mc := 0) (ms := 0) X N I hl.1 mX8_throwsIf wd_947 dX8_wear_37 rfl h (fun b h => kX8_throwsIf hl0 h) rfl (Nat.le_of_ble_eq_true rfl) ⟨by decide, by decide⟩ ⟨by decide, by decide⟩ ⟨by decide, by decide⟩ rfl rfl (fun v37 S H locs I h => ?_)
      refine lv_if_eq (tgt := 45) X.1 X.2.1 dX8_wear_40 (by decide) (fun c40 => ?_) (fun c40 => ?_)
      · have h := h.1 c40
        refine q_aload_n X dX8_wear_45 rfl (lv_at hl 0 rfl) ?_
        refine lv_iload_n X.1 X.2.1 dX8_wear_46 rfl (lv_at hl 1 rfl) ?_
        refine q_cVi (As := [.int x1]) (rest := []) (c1 := 0) (s1 := 0) (d := 1) (mc := 0) (ms := 0) X N I hl.1 mX8_isBroken wd_1010 dX8_wear_47 rfl h (fun b h => kX8_isBroken hl0 h) rfl (Nat.le_of_ble_eq_true rfl) ⟨by decide, by decide⟩ ⟨by decide, by decide⟩ ⟨by decide, by decide⟩ rfl rfl (fun v47 S H locs I h => ?_)
        refine lv_if_eq (tgt := 55) X.1 X.2.1 dX8_wear_50 (by decide) (fun c50 => ?_) (fun c50 => ?_)
        · have h := h.1 c50
          refine q_aload_n X dX8_wear_55 rfl (lv_at hl 0 rfl) ?_
          refine q_getR (ci := 9) (k := 15) X I rfl inb_TX8 wd_853 (by decide) qt_375 dX8_wear_56 h (fun v56 h => ?_)
          refine lv_iload_n X.1 X.2.1 dX8_wear_59 rfl (lv_at hl 1 rfl) ?_
          refine lv_bipush (v := 100) X.1 X.2.1 dX8_wear_60 (by decide) ?_
          refine q_aload_n X dX8_wear_62 rfl (lv_at hl 0 rfl) ?_
          refine q_getR (ci := 9) (k := 15) X I rfl inb_TX8 wd_853 (by decide) qt_375 dX8_wear_63 h (fun v63 h => ?_)
          refine lv_iload_n X.1 X.2.1 dX8_wear_66 rfl (lv_at hl 1 rfl) ?_
          refine q_ldI X I (by decide) (by decide) dX8_wear_67 h (fun v67 h => ?_)
          refine lv_iload_n X.1 X.2.1 dX8_wear_68 rfl (lv_at hl 2 rfl) ?_
          refine lv_iadd X.1 X.2.1 dX8_wear_69 ?_
          refine va_mmin X.1 X.2.1 (X.2.2.2.2.1.trans hl.1.symm) X.2.2.1 (X.2.2.2.1 _ wd_1051) (X.2.2.2.1 _ wd_387) (X.2.2.2.1 _ wd_14) (X.2.2.2.1 _ wd_388) (by decide) (by simp [q_cat, q_catI, q_catJ, q_rm]) (by decide) (by decide) dX8_wear_70 ?_
          refine q_stI X I (by decide) (by decide) dX8_wear_73 h (fun S H locs I h => ?_)
          refine q_aload_n X dX8_wear_74 rfl (lv_at hl 0 rfl) ?_
          refine q_getR (ci := 9) (k := 15) X I rfl inb_TX8 wd_853 (by decide) qt_375 dX8_wear_75 h (fun v75 h => ?_)
          refine lv_iload_n X.1 X.2.1 dX8_wear_78 rfl (lv_at hl 1 rfl) ?_
          refine q_ldI X I (by decide) (by decide) dX8_wear_79 h (fun v79 h => ?_)
          refine lv_bipush (v := 100) X.1 X.2.1 dX8_wear_80 (by decide) ?_
          refine lv_icmp_ge (tgt := 92) X.1 X.2.1 dX8_wear_82 (by decide) (fun c82 => ?_) (fun c82 => ?_)
          · have h := h.1 c82
            refine lv_iconst (v := 0) X.1 X.2.1 dX8_wear_92 (by decide) ?_
            refine lv_istore_n (i := 3) (lv' := [(3, .int (0 : Int32)), (0, va_rf x0), (1, .int x1), (2, .int x2)]) X.1 X.2.1 dX8_wear_93 rfl hl (by decide) rfl (fun ls hl => ?_)
            have jn125 : ∀ (x0 : Option Nat) (x1 : Int32) (S : qS) (H : Heap) (locs : List Loc) (ls : Array Slot), pX8_wear_J125 post xp x0 x1 S → q_H G A s H locs S → lv_has ls 4 [(0, va_rf x0), (1, .int x1)] → W p l e (q_rm 3 0 0) s m av below meth c H locs 0 0 (vx_MQ below (q_Qi G post A) (q_XC G A xp) av s 0 0 A) (F0 m 125 ls []) := by
              intro x0 x1 S H locs ls h I hl
              unfold pX8_wear_J125 at h
              refine q_aload_n X dX8_wear_125 rfl (lv_at hl 0 rfl) ?_
              refine q_getR (ci := 9) (k := 18) X I rfl inb_TX8 wd_856 (by decide) qt_378 dX8_wear_126 h (fun v126 h => ?_)
              refine lv_iload_n X.1 X.2.1 dX8_wear_129 rfl (lv_at hl 1 rfl) ?_
              refine lv_iconst (v := -1) X.1 X.2.1 dX8_wear_130 (by decide) ?_
              refine q_stI X I (by decide) (by decide) dX8_wear_131 h (fun S H locs I h => ?_)
              refine q_aload_n X dX8_wear_132 rfl (lv_at hl 0 rfl) ?_
              refine q_getR (ci := 9) (k := 19) X I rfl inb_TX8 wd_857 (by decide) qt_379 dX8_wear_133 h (fun v133 h => ?_)
              refine lv_iload_n X.1 X.2.1 dX8_wear_136 rfl (lv_at hl 1 rfl) ?_
              refine lv_iconst (v := -1) X.1 X.2.1 dX8_wear_137 (by decide) ?_
              refine q_stI X I (by decide) (by decide) dX8_wear_138 h (fun S H locs I h => ?_)
              refine q_aload_n X dX8_wear_139 rfl (lv_at hl 0 rfl) ?_
              refine q_getR (ci := 9) (k := 20) X I rfl inb_TX8 wd_858 (by decide) qt_380 dX8_wear_140 h (fun v140 h => ?_)
              refine lv_iload_n X.1 X.2.1 dX8_wear_143 rfl (lv_at hl 1 rfl) ?_
              refine lv_iconst (v := -1) X.1 X.2.1 dX8_wear_144 (by decide) ?_
              refine q_stI X I (by decide) (by decide) dX8_wear_145 h (fun S H locs I h => ?_)
              refine q_aload_n X dX8_wear_146 rfl (lv_at hl 0 rfl) ?_
              refine q_getR (ci := 9) (k := 21) X I rfl inb_TX8 wd_859 (by decide) qt_381 dX8_wear_147 h (fun v147 h => ?_)
              refine lv_iload_n X.1 X.2.1 dX8_wear_150 rfl (lv_at hl 1 rfl) ?_
              refine lv_iconst (v := -1) X.1 X.2.1 dX8_wear_151 (by decide) ?_
              refine q_stI X I (by decide) (by decide) dX8_wear_152 h (fun S H locs I h => ?_)
              refine lv_bipush (v := 100) X.1 X.2.1 dX8_wear_153 (by decide) ?_
              exact q_iret X I hr dX8_wear_155 h (by decide) (by decide)
            obtain ⟨n94, h⟩ := h
            have lp94 : ∀ (n94 : Nat) (x0 : Option Nat) (x1 : Int32) (x3 : Int32) (S : qS) (H : Heap) (locs : List Loc) (ls : Array Slot), pX8_wear_L94 (pX8_wear_J125 post xp) post xp n94 x0 x1 x3 S → q_H G A s H locs S → lv_has ls 4 [(0, va_rf x0), (1, .int x1), (3, .int x3)] → W p l e (q_rm 3 0 0) s m av below meth c H locs 0 0 (vx_MQ below (q_Qi G post A) (q_XC G A xp) av s 0 0 A) (F0 m 94 ls []) := by
              intro n94
              induction n94 with
              | zero => intro x0 x1 x3 S H locs ls h I hl; exact h.elim
              | succ n94 ih94 =>
                intro x0 x1 x3 S H locs ls h I hl
                unfold pX8_wear_L94 at h
                refine lv_iload_n X.1 X.2.1 dX8_wear_94 rfl (lv_at hl 2 rfl) ?_
                refine q_aload_n X dX8_wear_95 rfl (lv_at hl 0 rfl) ?_
                refine q_getI (ci := 9) (k := 25) X I rfl inb_TX8 wd_863 (by decide) qt_385 dX8_wear_96 h (fun v96 h => ?_)
                refine lv_icmp_ge (tgt := 125) X.1 X.2.1 dX8_wear_99 (by decide) (fun c99 => ?_) (fun c99 => ?_)
                · have h := h.1 c99
                  exact jn125 _ _ _ _ _ _ h I (lv_sub hl [0, 1] rfl)
                · have h := h.2 c99
                  refine q_aload_n X dX8_wear_102 rfl (lv_at hl 0 rfl) ?_
                  refine q_getR (ci := 9) (k := 18) X I rfl inb_TX8 wd_856 (by decide) qt_378 dX8_wear_103 h (fun v103 h => ?_)
                  refine lv_iload_n X.1 X.2.1 dX8_wear_106 rfl (lv_at hl 2 rfl) ?_
                  refine q_ldI X I (by decide) (by decide) dX8_wear_107 h (fun v107 h => ?_)
                  refine lv_iload_n X.1 X.2.1 dX8_wear_108 rfl (lv_at hl 1 rfl) ?_
                  have jn119 : ∀ (x0 : Option Nat) (x1 : Int32) (x3 : Int32) (S : qS) (H : Heap) (locs : List Loc) (ls : Array Slot), pX8_wear_J119 (pX8_wear_L94 (pX8_wear_J125 post xp) post xp n94) post xp x0 x1 x3 S → q_H G A s H locs S → lv_has ls 4 [(0, va_rf x0), (1, .int x1), (3, .int x3)] → W p l e (q_rm 3 0 0) s m av below meth c H locs 0 0 (vx_MQ below (q_Qi G post A) (q_XC G A xp) av s 0 0 A) (F0 m 119 ls []) := by
                    intro x0 x1 x3 S H locs ls h I hl
                    unfold pX8_wear_J119 at h
                    refine lv_iinc (v := (x3 + 1)) (lv' := [(3, .int (x3 + 1)), (0, va_rf x0), (1, .int x1)]) (k := 2) X.1 X.2.1 dX8_wear_119 hl rfl rfl (by decide) rfl (fun ls hl => ?_)
                    refine lv_goto (tgt := 94) X.1 X.2.1 dX8_wear_122 (by decide) ?_
                    exact ih94 _ _ _ _ _ _ _ h I (lv_sub hl [1, 2, 0] rfl)
                  refine lv_icmp_ne (tgt := 119) X.1 X.2.1 dX8_wear_109 (by decide) (fun c109 => ?_) (fun c109 => ?_)
                  · have h := h.1 c109
                    exact jn119 _ _ _ _ _ _ _ h I (lv_sub hl [0, 1, 2] rfl)
                  · have h := h.2 c109
                    refine q_aload_n X dX8_wear_112 rfl (lv_at hl 0 rfl) ?_
                    refine q_getR (ci := 9) (k := 18) X I rfl inb_TX8 wd_856 (by decide) qt_378 dX8_wear_113 h (fun v113 h => ?_)
                    refine lv_iload_n X.1 X.2.1 dX8_wear_116 rfl (lv_at hl 2 rfl) ?_
                    refine lv_iconst (v := -1) X.1 X.2.1 dX8_wear_117 (by decide) ?_
                    refine q_stI X I (by decide) (by decide) dX8_wear_118 h (fun S H locs I h => ?_)
                    exact jn119 _ _ _ _ _ _ _ h I (lv_sub hl [0, 1, 2] rfl)
            exact lp94 n94 _ _ _ _ _ _ _ h I (lv_sub hl [1, 2, 0] rfl)
          · have h := h.2 c82
            refine q_aload_n X dX8_wear_85 rfl (lv_at hl 0 rfl) ?_
            refine q_getR (ci := 9) (k := 15) X I rfl inb_TX8 wd_853 (by decide) qt_375 dX8_wear_86 h (fun v86 h => ?_)
            refine lv_iload_n X.1 X.2.1 dX8_wear_89 rfl (lv_at hl 1 rfl) ?_
            refine q_ldI X I (by decide) (by decide) dX8_wear_90 h (fun v90 h => ?_)
            exact q_iret X I hr dX8_wear_91 h (by decide) (by decide)
        · have h := h.2 c50
          refine lv_iconst (v := -1) X.1 X.2.1 dX8_wear_53 (by decide) ?_
          exact q_iret X I hr dX8_wear_54 h (by decide) (by decide)
      · have h := h.2 c40
        exact jn43 _ _ _ _ h I (lv_sub hl [] rfl)
    refine lv_if_ne (tgt := 35) X.1 X.2.1 dX8_wear_28 (by decide) (fun c28 => ?_) (fun c28 => ?_)
    · have h := h.1 c28
      refine lv_iconst (v := 0) X.1 X.2.1 dX8_wear_35 (by decide) ?_
      exact jn36 _ _ _ _ _ _ _ _ _ h I (lv_sub hl [0, 1, 2] rfl)
    · have h := h.2 c28
      refine lv_iconst (v := 1) X.1 X.2.1 dX8_wear_31 (by decide) ?_
      refine lv_goto (tgt := 36) X.1 X.2.1 dX8_wear_32 (by decide) ?_
      exact jn36 _ _ _ _ _ _ _ _ _ h I (lv_sub hl [0, 1, 2] rfl)

def pX8_days_J117 (k34 : Option Nat → Int32 → Int32 → qS → Prop) (post : Int32 → qS → Prop) (xp : String → qS → Prop) (x0 : Option Nat) (x1 : Int32) (x2 : Int32) (S : qS) : Prop :=
  k34 x0 x1 (x2 + 1) S
def pX8_days_J111 (k51 : Option Nat → Int32 → Int32 → Int32 → qS → Prop) (post : Int32 → qS → Prop) (xp : String → qS → Prop) (x0 : Option Nat) (x1 : Int32) (x2 : Int32) (x3 : Int32) (S : qS) : Prop :=
  k51 x0 x1 x2 (x3 + 1) S
def pX8_days_L51 (k117 : Option Nat → Int32 → Int32 → qS → Prop) (post : Int32 → qS → Prop) (xp : String → qS → Prop) : Nat → Option Nat → Int32 → Int32 → Int32 → qS → Prop
  | 0, _, _, _, _, _ => False
  | n51 + 1, x0, x1, x2, x3, S =>
  w_getI S x0 9 25 (fun v53 =>
  ((v53 ≤ x3 →
  k117 x0 x1 x2 S) ∧ (¬ v53 ≤ x3 →
  w_getR S x0 9 20 (fun v60 =>
  w_ldI S v60 50 x3 (fun v64 =>
  w_getI S x0 9 1 (fun v66 =>
  ((v64 = v66 →
  w_getR S x0 9 18 (fun v76 =>
  w_stI S v76 48 x3 (-1 : Int32) (fun S =>
  w_getR S x0 9 21 (fun v83 =>
  w_ldI S v83 51 x3 (fun v87 =>
  w_getR S x0 9 20 (fun v91 =>
  w_stI S v91 50 x3 (-1 : Int32) (fun S =>
  w_getR S x0 9 21 (fun v98 =>
  w_stI S v98 51 x3 (-1 : Int32) (fun S =>
  w_at S x0 9 (fun b108 => pX8_goes b108 x3 v87 S (fun S =>
  pX8_days_J111 (pX8_days_L51 k117 post xp n51) post xp x0 x1 x2 x3 S) xp)))))))))) ∧ (¬ v64 = v66 →
  pX8_days_J111 (pX8_days_L51 k117 post xp n51) post xp x0 x1 x2 x3 S))))))))
def pX8_days_L34  (post : Int32 → qS → Prop) (xp : String → qS → Prop) : Nat → Option Nat → Int32 → Int32 → qS → Prop
  | 0, _, _, _, _ => False
  | n34 + 1, x0, x1, x2, S =>
  ((x1 ≤ x2 →
  w_getI S x0 9 1 (fun v124 =>
  post v124 S)) ∧ (¬ x1 ≤ x2 →
  w_getI S x0 9 1 (fun v41 =>
  w_putI S x0 9 1 (v41 + (1 : Int32)) (fun S =>
  ∃ n51, pX8_days_L51 (pX8_days_J117 (pX8_days_L34 post xp n34) post xp) post xp n51 x0 x1 x2 (0 : Int32) S))))
def pX8_days_J23  (post : Int32 → qS → Prop) (xp : String → qS → Prop) (x0 : Option Nat) (x1 : Int32) (t0 : Option Nat) (t1 : Int32) (S : qS) : Prop :=
  w_at S t0 9 (fun b24 => pX8_throwsIf b24 t1 (1 : Int32) S (fun v24 S =>
  ((v24 = 0 →
  ∃ n34, pX8_days_L34 post xp n34 x0 x1 (0 : Int32) S) ∧ (¬ v24 = 0 →
  post (0 : Int32) S))) xp)
def pX8_days (x0 : Nat) (x1 : Int32) (S : qS) (post : Int32 → qS → Prop) (xp : String → qS → Prop) : Prop :=
  w_putI S (some x0) 9 0 (0 : Int32) (fun S =>
  pX8_in x1.toInt64 (0 : Int64) (1000 : Int64) S (fun v12 S =>
  ((¬ v12 = 0 →
  pX8_days_J23 post xp (some x0) x1 (some x0) (0 : Int32) S) ∧ (v12 = 0 →
  pX8_days_J23 post xp (some x0) x1 (some x0) (1 : Int32) S))) xp)
set_option maxHeartbeats 4000000 in
set_option maxRecDepth 100000 in
theorem kX8_days {l : Launch} (hl0 : l.stackTraces = false) {G : qG} {S : qS} {sz : Nat} {x0 : Nat} {x1 : Int32} {post : Int32 → qS → Prop} {xp : String → qS → Prop} (h : pX8_days x0 x1 S post xp) : q_M l yX8_days cX8_days 5 (some .int) 3 0 0 G S sz [va_rf (some x0), .int x1] (q_Qi G post) xp := by
  refine q_of (lv := [(0, va_rf (some x0)), (1, .int x1)]) hl0 (by decide) rfl (Nat.le_of_ble_eq_true rfl) (fun p e s m below meth c A ls X N hr hnm I hl => ?_)
  generalize ([va_rf (some x0), .int x1] : List Value).toArray = av at X ⊢
  unfold pX8_days at h
  refine q_aload_n X dX8_days_0 rfl (lv_at hl 0 rfl) ?_
  refine lv_iconst (v := 0) X.1 X.2.1 dX8_days_1 (by decide) ?_
  refine q_putI (ci := 9) (k := 0) X I rfl inb_TX8 tyX8_ok nmX8 wd_838 (by decide) (Or.inl rfl) qt_360 rfl dX8_days_2 h (fun S H locs I h => ?_)
  refine q_aload_n X dX8_days_5 rfl (lv_at hl 0 rfl) ?_
  refine lv_iload_n X.1 X.2.1 dX8_days_6 rfl (lv_at hl 1 rfl) ?_
  refine lv_i2l X.1 X.2.1 dX8_days_7 rfl ?_
  refine lv_lconst (v := 0) X.1 X.2.1 dX8_days_8 (by decide) ?_
  refine lv_ldc2 X.1 X.2.1 X.2.2.1 (X.2.2.2.1 _ wd_979) dX8_days_9 ?_
  refine q_cSi (As := [.long x1.toInt64, .long (0 : Int64), .long (1000 : Int64)]) (rest := [va_rf (some x0)]) (c1 := 0) (s1 := 0) (d := 1) (mc := 0) (ms := 0) X N I hl.1 mX8_in wd_963 dX8_days_12 rfl (kX8_in hl0 h) rfl (Nat.le_of_ble_eq_true rfl) ⟨by decide, by decide⟩ ⟨by decide, by decide⟩ ⟨by decide, by decide⟩ rfl rfl (fun v12 S H locs I h => ?_)
  have jn23 : ∀ (x0 : Option Nat) (x1 : Int32) (t0 : Option Nat) (t1 : Int32) (S : qS) (H : Heap) (locs : List Loc) (ls : Array Slot), pX8_days_J23 post xp x0 x1 t0 t1 S → q_H G A s H locs S → lv_has ls 5 [(0, va_rf x0), (1, .int x1)] → W p l e (q_rm 3 0 0) s m av below meth c H locs 0 0 (vx_MQ below (q_Qi G post A) (q_XC G A xp) av s 0 0 A) (F0 m 23 ls [.int t1, va_rf t0]) := by
    intro x0 x1 t0 t1 S H locs ls h I hl
    unfold pX8_days_J23 at h
    refine lv_iconst (v := 1) X.1 X.2.1 dX8_days_23 (by decide) ?_
    refine q_cVi (As := [.int t1, .int (1 : Int32)]) (rest := []) (c1 := 0) (s1 := 0) (d := 1) (mc := 0) (ms := 0) X N I hl.1 mX8_throwsIf wd_947 dX8_days_24 rfl h (fun b h => kX8_throwsIf hl0 h) rfl (Nat.le_of_ble_eq_true rfl) ⟨by decide, by decide⟩ ⟨by decide, by decide⟩ ⟨by decide, by decide⟩ rfl rfl (fun v24 S H locs I h => ?_)
    refine lv_if_eq (tgt := 32) X.1 X.2.1 dX8_days_27 (by decide) (fun c27 => ?_) (fun c27 => ?_)
    · have h := h.1 c27
      refine lv_iconst (v := 0) X.1 X.2.1 dX8_days_32 (by decide) ?_
      refine lv_istore_n (i := 2) (lv' := [(2, .int (0 : Int32)), (0, va_rf x0), (1, .int x1)]) X.1 X.2.1 dX8_days_33 rfl hl (by decide) rfl (fun ls hl => ?_)
      obtain ⟨n34, h⟩ := h
      have lp34 : ∀ (n34 : Nat) (x0 : Option Nat) (x1 : Int32) (x2 : Int32) (S : qS) (H : Heap) (locs : List Loc) (ls : Array Slot), pX8_days_L34 post xp n34 x0 x1 x2 S → q_H G A s H locs S → lv_has ls 5 [(0, va_rf x0), (1, .int x1), (2, .int x2)] → W p l e (q_rm 3 0 0) s m av below meth c H locs 0 0 (vx_MQ below (q_Qi G post A) (q_XC G A xp) av s 0 0 A) (F0 m 34 ls []) := by
        intro n34
        induction n34 with
        | zero => intro x0 x1 x2 S H locs ls h I hl; exact h.elim
        | succ n34 ih34 =>
          intro x0 x1 x2 S H locs ls h I hl
          unfold pX8_days_L34 at h
          refine lv_iload_n X.1 X.2.1 dX8_days_34 rfl (lv_at hl 2 rfl) ?_
          refine lv_iload_n X.1 X.2.1 dX8_days_35 rfl (lv_at hl 1 rfl) ?_
          refine lv_icmp_ge (tgt := 123) X.1 X.2.1 dX8_days_36 (by decide) (fun c36 => ?_) (fun c36 => ?_)
          · have h := h.1 c36
            refine q_aload_n X dX8_days_123 rfl (lv_at hl 0 rfl) ?_
            refine q_getI (ci := 9) (k := 1) X I rfl inb_TX8 wd_839 (by decide) qt_361 dX8_days_124 h (fun v124 h => ?_)
            exact q_iret X I hr dX8_days_127 h (by decide) (by decide)
          · have h := h.2 c36
            refine q_aload_n X dX8_days_39 rfl (lv_at hl 0 rfl) ?_
            refine lv_dup X.1 X.2.1 dX8_days_40 (q_cat _) ?_
            refine q_getI (ci := 9) (k := 1) X I rfl inb_TX8 wd_839 (by decide) qt_361 dX8_days_41 h (fun v41 h => ?_)
            refine lv_iconst (v := 1) X.1 X.2.1 dX8_days_44 (by decide) ?_
            refine lv_iadd X.1 X.2.1 dX8_days_45 ?_
            refine q_putI (ci := 9) (k := 1) X I rfl inb_TX8 tyX8_ok nmX8 wd_839 (by decide) (Or.inl rfl) qt_361 rfl dX8_days_46 h (fun S H locs I h => ?_)
            refine lv_iconst (v := 0) X.1 X.2.1 dX8_days_49 (by decide) ?_
            refine lv_istore_n (i := 3) (lv' := [(3, .int (0 : Int32)), (0, va_rf x0), (1, .int x1), (2, .int x2)]) X.1 X.2.1 dX8_days_50 rfl hl (by decide) rfl (fun ls hl => ?_)
            have jn117 : ∀ (x0 : Option Nat) (x1 : Int32) (x2 : Int32) (S : qS) (H : Heap) (locs : List Loc) (ls : Array Slot), pX8_days_J117 (pX8_days_L34 post xp n34) post xp x0 x1 x2 S → q_H G A s H locs S → lv_has ls 5 [(0, va_rf x0), (1, .int x1), (2, .int x2)] → W p l e (q_rm 3 0 0) s m av below meth c H locs 0 0 (vx_MQ below (q_Qi G post A) (q_XC G A xp) av s 0 0 A) (F0 m 117 ls []) := by
              intro x0 x1 x2 S H locs ls h I hl
              unfold pX8_days_J117 at h
              refine lv_iinc (v := (x2 + 1)) (lv' := [(2, .int (x2 + 1)), (0, va_rf x0), (1, .int x1)]) (k := 2) X.1 X.2.1 dX8_days_117 hl rfl rfl (by decide) rfl (fun ls hl => ?_)
              refine lv_goto (tgt := 34) X.1 X.2.1 dX8_days_120 (by decide) ?_
              exact ih34 _ _ _ _ _ _ _ h I (lv_sub hl [1, 2, 0] rfl)
            obtain ⟨n51, h⟩ := h
            have lp51 : ∀ (n51 : Nat) (x0 : Option Nat) (x1 : Int32) (x2 : Int32) (x3 : Int32) (S : qS) (H : Heap) (locs : List Loc) (ls : Array Slot), pX8_days_L51 (pX8_days_J117 (pX8_days_L34 post xp n34) post xp) post xp n51 x0 x1 x2 x3 S → q_H G A s H locs S → lv_has ls 5 [(0, va_rf x0), (1, .int x1), (2, .int x2), (3, .int x3)] → W p l e (q_rm 3 0 0) s m av below meth c H locs 0 0 (vx_MQ below (q_Qi G post A) (q_XC G A xp) av s 0 0 A) (F0 m 51 ls []) := by
              intro n51
              induction n51 with
              | zero => intro x0 x1 x2 x3 S H locs ls h I hl; exact h.elim
              | succ n51 ih51 =>
                intro x0 x1 x2 x3 S H locs ls h I hl
                unfold pX8_days_L51 at h
                refine lv_iload_n X.1 X.2.1 dX8_days_51 rfl (lv_at hl 3 rfl) ?_
                refine q_aload_n X dX8_days_52 rfl (lv_at hl 0 rfl) ?_
                refine q_getI (ci := 9) (k := 25) X I rfl inb_TX8 wd_863 (by decide) qt_385 dX8_days_53 h (fun v53 h => ?_)
                refine lv_icmp_ge (tgt := 117) X.1 X.2.1 dX8_days_56 (by decide) (fun c56 => ?_) (fun c56 => ?_)
                · have h := h.1 c56
                  exact jn117 _ _ _ _ _ _ _ h I (lv_sub hl [0, 1, 2] rfl)
                · have h := h.2 c56
                  refine q_aload_n X dX8_days_59 rfl (lv_at hl 0 rfl) ?_
                  refine q_getR (ci := 9) (k := 20) X I rfl inb_TX8 wd_858 (by decide) qt_380 dX8_days_60 h (fun v60 h => ?_)
                  refine lv_iload_n X.1 X.2.1 dX8_days_63 rfl (lv_at hl 3 rfl) ?_
                  refine q_ldI X I (by decide) (by decide) dX8_days_64 h (fun v64 h => ?_)
                  refine q_aload_n X dX8_days_65 rfl (lv_at hl 0 rfl) ?_
                  refine q_getI (ci := 9) (k := 1) X I rfl inb_TX8 wd_839 (by decide) qt_361 dX8_days_66 h (fun v66 h => ?_)
                  have jn111 : ∀ (x0 : Option Nat) (x1 : Int32) (x2 : Int32) (x3 : Int32) (S : qS) (H : Heap) (locs : List Loc) (ls : Array Slot), pX8_days_J111 (pX8_days_L51 (pX8_days_J117 (pX8_days_L34 post xp n34) post xp) post xp n51) post xp x0 x1 x2 x3 S → q_H G A s H locs S → lv_has ls 5 [(0, va_rf x0), (1, .int x1), (2, .int x2), (3, .int x3)] → W p l e (q_rm 3 0 0) s m av below meth c H locs 0 0 (vx_MQ below (q_Qi G post A) (q_XC G A xp) av s 0 0 A) (F0 m 111 ls []) := by
                    intro x0 x1 x2 x3 S H locs ls h I hl
                    unfold pX8_days_J111 at h
                    refine lv_iinc (v := (x3 + 1)) (lv' := [(3, .int (x3 + 1)), (0, va_rf x0), (1, .int x1), (2, .int x2)]) (k := 3) X.1 X.2.1 dX8_days_111 hl rfl rfl (by decide) rfl (fun ls hl => ?_)
                    refine lv_goto (tgt := 51) X.1 X.2.1 dX8_days_114 (by decide) ?_
                    exact ih51 _ _ _ _ _ _ _ _ h I (lv_sub hl [1, 2, 3, 0] rfl)
                  refine lv_icmp_eq (tgt := 75) X.1 X.2.1 dX8_days_69 (by decide) (fun c69 => ?_) (fun c69 => ?_)
                  · have h := h.1 c69
                    refine q_aload_n X dX8_days_75 rfl (lv_at hl 0 rfl) ?_
                    refine q_getR (ci := 9) (k := 18) X I rfl inb_TX8 wd_856 (by decide) qt_378 dX8_days_76 h (fun v76 h => ?_)
                    refine lv_iload_n X.1 X.2.1 dX8_days_79 rfl (lv_at hl 3 rfl) ?_
                    refine lv_iconst (v := -1) X.1 X.2.1 dX8_days_80 (by decide) ?_
                    refine q_stI X I (by decide) (by decide) dX8_days_81 h (fun S H locs I h => ?_)
                    refine q_aload_n X dX8_days_82 rfl (lv_at hl 0 rfl) ?_
                    refine q_getR (ci := 9) (k := 21) X I rfl inb_TX8 wd_859 (by decide) qt_381 dX8_days_83 h (fun v83 h => ?_)
                    refine lv_iload_n X.1 X.2.1 dX8_days_86 rfl (lv_at hl 3 rfl) ?_
                    refine q_ldI X I (by decide) (by decide) dX8_days_87 h (fun v87 h => ?_)
                    refine lv_istore (i := 4) (lv' := [(4, .int v87), (0, va_rf x0), (1, .int x1), (2, .int x2), (3, .int x3)]) X.1 X.2.1 dX8_days_88 hl (by decide) rfl (fun ls hl => ?_)
                    refine q_aload_n X dX8_days_90 rfl (lv_at hl 1 rfl) ?_
                    refine q_getR (ci := 9) (k := 20) X I rfl inb_TX8 wd_858 (by decide) qt_380 dX8_days_91 h (fun v91 h => ?_)
                    refine lv_iload_n X.1 X.2.1 dX8_days_94 rfl (lv_at hl 4 rfl) ?_
                    refine lv_iconst (v := -1) X.1 X.2.1 dX8_days_95 (by decide) ?_
                    refine q_stI X I (by decide) (by decide) dX8_days_96 h (fun S H locs I h => ?_)
                    refine q_aload_n X dX8_days_97 rfl (lv_at hl 1 rfl) ?_
                    refine q_getR (ci := 9) (k := 21) X I rfl inb_TX8 wd_859 (by decide) qt_381 dX8_days_98 h (fun v98 h => ?_)
                    refine lv_iload_n X.1 X.2.1 dX8_days_101 rfl (lv_at hl 4 rfl) ?_
                    refine lv_iconst (v := -1) X.1 X.2.1 dX8_days_102 (by decide) ?_
                    refine q_stI X I (by decide) (by decide) dX8_days_103 h (fun S H locs I h => ?_)
                    refine q_aload_n X dX8_days_104 rfl (lv_at hl 1 rfl) ?_
                    refine lv_iload_n X.1 X.2.1 dX8_days_105 rfl (lv_at hl 4 rfl) ?_
                    refine lv_iload X.1 X.2.1 dX8_days_106 (lv_at hl 0 rfl) ?_
                    refine q_cVv (As := [.int x3, .int v87]) (rest := []) (c1 := 0) (s1 := 0) (d := 2) (mc := 0) (ms := 0) X N I hl.1 mX8_goes wd_1038 dX8_days_108 rfl h (fun b h => kX8_goes hl0 h) rfl (Nat.le_of_ble_eq_true rfl) ⟨by decide, by decide⟩ ⟨by decide, by decide⟩ ⟨by decide, by decide⟩ rfl rfl (fun S H locs I h => ?_)
                    exact jn111 _ _ _ _ _ _ _ _ h I (lv_sub hl [1, 2, 3, 4] rfl)
                  · have h := h.2 c69
                    refine lv_goto (tgt := 111) X.1 X.2.1 dX8_days_72 (by decide) ?_
                    exact jn111 _ _ _ _ _ _ _ _ h I (lv_sub hl [0, 1, 2, 3] rfl)
            exact lp51 n51 _ _ _ _ _ _ _ _ h I (lv_sub hl [1, 2, 3, 0] rfl)
      exact lp34 n34 _ _ _ _ _ _ _ h I (lv_sub hl [1, 2, 0] rfl)
    · have h := h.2 c27
      refine lv_iconst (v := 0) X.1 X.2.1 dX8_days_30 (by decide) ?_
      exact q_iret X I hr dX8_days_31 h (by decide) (by decide)
  refine lv_if_ne (tgt := 22) X.1 X.2.1 dX8_days_15 (by decide) (fun c15 => ?_) (fun c15 => ?_)
  · have h := h.1 c15
    refine lv_iconst (v := 0) X.1 X.2.1 dX8_days_22 (by decide) ?_
    exact jn23 _ _ _ _ _ _ _ _ h I (lv_sub hl [0, 1] rfl)
  · have h := h.2 c15
    refine lv_iconst (v := 1) X.1 X.2.1 dX8_days_18 (by decide) ?_
    refine lv_goto (tgt := 23) X.1 X.2.1 dX8_days_19 (by decide) ?_
    exact jn23 _ _ _ _ _ _ _ _ h I (lv_sub hl [0, 1] rfl)

def pX8_look_J129 (k104 : Option Nat → Int32 → Int32 → Int32 → qS → Prop) (post : Int32 → qS → Prop) (xp : String → qS → Prop) (x0 : Option Nat) (x1 : Int32) (x4 : Int32) (t0 : Int32) (t1 : Int32) (S : qS) : Prop :=
  k104 x0 x1 (t0 + t1) (x4 + 1) S
def pX8_look_L104  (post : Int32 → qS → Prop) (xp : String → qS → Prop) : Nat → Option Nat → Int32 → Int32 → Int32 → qS → Prop
  | 0, _, _, _, _, _ => False
  | n104 + 1, x0, x1, x3, x4, S =>
  w_getI S x0 9 25 (fun v107 =>
  ((v107 ≤ x4 →
  post x3 S) ∧ (¬ v107 ≤ x4 →
  w_at S x0 9 (fun b118 => pX8_isWithin b118 x4 x1 S (fun v118 S =>
  ((v118 = 0 →
  pX8_look_J129 (pX8_look_L104 post xp n104) post xp x0 x1 x4 x3 (0 : Int32) S) ∧ (¬ v118 = 0 →
  pX8_look_J129 (pX8_look_L104 post xp n104) post xp x0 x1 x4 x3 (1 : Int32) S))) xp))))
def pX8_look_J152  (post : Int32 → qS → Prop) (xp : String → qS → Prop) (t0 : Int32) (S : qS) : Prop :=
  post t0 S
def pX8_look (x0 : Nat) (x1 : Int32) (x2 : Int32) (S : qS) (post : Int32 → qS → Prop) (xp : String → qS → Prop) : Prop :=
  w_putI S (some x0) 9 0 (0 : Int32) (fun S =>
  w_at S (some x0) 9 (fun b8 => pX8_noSingle b8 x1 S (fun v8 S =>
  w_at S (some x0) 9 (fun b12 => pX8_throwsIf b12 v8 (1 : Int32) S (fun v12 S =>
  ((v12 = 0 →
  ((x2 = 0 →
  w_getR S (some x0) 9 19 (fun v73 =>
  w_ldI S v73 49 x1 (fun v77 =>
  post v77 S))) ∧
  (x2 = 1 →
  w_getR S (some x0) 9 18 (fun v80 =>
  w_ldI S v80 48 x1 (fun v84 =>
  post v84 S))) ∧
  (x2 = 2 →
  w_getR S (some x0) 9 15 (fun v87 =>
  w_ldI S v87 45 x1 (fun v91 =>
  post v91 S))) ∧
  (x2 = 3 →
  w_at S (some x0) 9 (fun b95 => pX8_right b95 x1 S (fun v95 S =>
  post v95 S) xp)) ∧
  (x2 = 4 →
  ∃ n104, pX8_look_L104 post xp n104 (some x0) x1 (0 : Int32) (0 : Int32) S) ∧
  (x2 = 5 →
  w_at S (some x0) 9 (fun b141 => pX8_isLent b141 x1 S (fun v141 S =>
  ((v141 = 0 →
  pX8_look_J152 post xp (0 : Int32) S) ∧ (¬ v141 = 0 →
  pX8_look_J152 post xp (1 : Int32) S))) xp)) ∧
  (x2 = 6 →
  w_getR S (some x0) 9 20 (fun v154 =>
  w_ldI S v154 50 x1 (fun v158 =>
  post v158 S))) ∧
  (x2 = 7 →
  w_getR S (some x0) 9 21 (fun v161 =>
  w_ldI S v161 51 x1 (fun v165 =>
  post v165 S))) ∧
  (x2 = 8 →
  w_getR S (some x0) 9 24 (fun v168 =>
  w_ldI S v168 54 x1 (fun v172 =>
  post v172 S))) ∧
  ((x2.toInt < 0 ∨ 8 < x2.toInt) →
  w_putI S (some x0) 9 0 (2 : Int32) (fun S =>
  post (0 : Int32) S)))) ∧ (¬ v12 = 0 →
  post (0 : Int32) S))) xp)) xp))
set_option maxHeartbeats 4000000 in
set_option maxRecDepth 100000 in
theorem kX8_look {l : Launch} (hl0 : l.stackTraces = false) {G : qG} {S : qS} {sz : Nat} {x0 : Nat} {x1 : Int32} {x2 : Int32} {post : Int32 → qS → Prop} {xp : String → qS → Prop} (h : pX8_look x0 x1 x2 S post xp) : q_M l yX8_look cX8_look 5 (some .int) 3 0 0 G S sz [va_rf (some x0), .int x1, .int x2] (q_Qi G post) xp := by
  refine q_of (lv := [(0, va_rf (some x0)), (1, .int x1), (2, .int x2)]) hl0 (by decide) rfl (Nat.le_of_ble_eq_true rfl) (fun p e s m below meth c A ls X N hr hnm I hl => ?_)
  generalize ([va_rf (some x0), .int x1, .int x2] : List Value).toArray = av at X ⊢
  unfold pX8_look at h
  refine q_aload_n X dX8_look_0 rfl (lv_at hl 0 rfl) ?_
  refine lv_iconst (v := 0) X.1 X.2.1 dX8_look_1 (by decide) ?_
  refine q_putI (ci := 9) (k := 0) X I rfl inb_TX8 tyX8_ok nmX8 wd_838 (by decide) (Or.inl rfl) qt_360 rfl dX8_look_2 h (fun S H locs I h => ?_)
  refine q_aload_n X dX8_look_5 rfl (lv_at hl 0 rfl) ?_
  refine q_aload_n X dX8_look_6 rfl (lv_at hl 0 rfl) ?_
  refine lv_iload_n X.1 X.2.1 dX8_look_7 rfl (lv_at hl 1 rfl) ?_
  refine q_cVi (As := [.int x1]) (rest := [va_rf (some x0)]) (c1 := 0) (s1 := 0) (d := 2) (mc := 0) (ms := 0) X N I hl.1 mX8_noSingle wd_1006 dX8_look_8 rfl h (fun b h => kX8_noSingle hl0 h) rfl (Nat.le_of_ble_eq_true rfl) ⟨by decide, by decide⟩ ⟨by decide, by decide⟩ ⟨by decide, by decide⟩ rfl rfl (fun v8 S H locs I h => ?_)
  refine lv_iconst (v := 1) X.1 X.2.1 dX8_look_11 (by decide) ?_
  refine q_cVi (As := [.int v8, .int (1 : Int32)]) (rest := []) (c1 := 0) (s1 := 0) (d := 1) (mc := 0) (ms := 0) X N I hl.1 mX8_throwsIf wd_947 dX8_look_12 rfl h (fun b h => kX8_throwsIf hl0 h) rfl (Nat.le_of_ble_eq_true rfl) ⟨by decide, by decide⟩ ⟨by decide, by decide⟩ ⟨by decide, by decide⟩ rfl rfl (fun v12 S H locs I h => ?_)
  refine lv_if_eq (tgt := 20) X.1 X.2.1 dX8_look_15 (by decide) (fun c15 => ?_) (fun c15 => ?_)
  · have h := h.1 c15
    refine lv_iload_n X.1 X.2.1 dX8_look_20 rfl (lv_at hl 2 rfl) ?_
    by_cases c21_0 : x2 = 0
    · have h := h.1 c21_0
      refine lv_tableIn (tgt := 72) X.1 X.2.1 dX8_look_21 (by rw [c21_0]; decide) (by rw [c21_0]; decide) (by rw [c21_0]; rfl) (by decide) ?_
      refine q_aload_n X dX8_look_72 rfl (lv_at hl 0 rfl) ?_
      refine q_getR (ci := 9) (k := 19) X I rfl inb_TX8 wd_857 (by decide) qt_379 dX8_look_73 h (fun v73 h => ?_)
      refine lv_iload_n X.1 X.2.1 dX8_look_76 rfl (lv_at hl 1 rfl) ?_
      refine q_ldI X I (by decide) (by decide) dX8_look_77 h (fun v77 h => ?_)
      exact q_iret X I hr dX8_look_78 h (by decide) (by decide)
    by_cases c21_1 : x2 = 1
    · have h := h.2.1 c21_1
      refine lv_tableIn (tgt := 79) X.1 X.2.1 dX8_look_21 (by rw [c21_1]; decide) (by rw [c21_1]; decide) (by rw [c21_1]; rfl) (by decide) ?_
      refine q_aload_n X dX8_look_79 rfl (lv_at hl 0 rfl) ?_
      refine q_getR (ci := 9) (k := 18) X I rfl inb_TX8 wd_856 (by decide) qt_378 dX8_look_80 h (fun v80 h => ?_)
      refine lv_iload_n X.1 X.2.1 dX8_look_83 rfl (lv_at hl 1 rfl) ?_
      refine q_ldI X I (by decide) (by decide) dX8_look_84 h (fun v84 h => ?_)
      exact q_iret X I hr dX8_look_85 h (by decide) (by decide)
    by_cases c21_2 : x2 = 2
    · have h := h.2.2.1 c21_2
      refine lv_tableIn (tgt := 86) X.1 X.2.1 dX8_look_21 (by rw [c21_2]; decide) (by rw [c21_2]; decide) (by rw [c21_2]; rfl) (by decide) ?_
      refine q_aload_n X dX8_look_86 rfl (lv_at hl 0 rfl) ?_
      refine q_getR (ci := 9) (k := 15) X I rfl inb_TX8 wd_853 (by decide) qt_375 dX8_look_87 h (fun v87 h => ?_)
      refine lv_iload_n X.1 X.2.1 dX8_look_90 rfl (lv_at hl 1 rfl) ?_
      refine q_ldI X I (by decide) (by decide) dX8_look_91 h (fun v91 h => ?_)
      exact q_iret X I hr dX8_look_92 h (by decide) (by decide)
    by_cases c21_3 : x2 = 3
    · have h := h.2.2.2.1 c21_3
      refine lv_tableIn (tgt := 93) X.1 X.2.1 dX8_look_21 (by rw [c21_3]; decide) (by rw [c21_3]; decide) (by rw [c21_3]; rfl) (by decide) ?_
      refine q_aload_n X dX8_look_93 rfl (lv_at hl 0 rfl) ?_
      refine lv_iload_n X.1 X.2.1 dX8_look_94 rfl (lv_at hl 1 rfl) ?_
      refine q_cVi (As := [.int x1]) (rest := []) (c1 := 0) (s1 := 0) (d := 1) (mc := 0) (ms := 0) X N I hl.1 mX8_right wd_1018 dX8_look_95 rfl h (fun b h => kX8_right hl0 h) rfl (Nat.le_of_ble_eq_true rfl) ⟨by decide, by decide⟩ ⟨by decide, by decide⟩ ⟨by decide, by decide⟩ rfl rfl (fun v95 S H locs I h => ?_)
      exact q_iret X I hr dX8_look_98 h (by decide) (by decide)
    by_cases c21_4 : x2 = 4
    · have h := h.2.2.2.2.1 c21_4
      refine lv_tableIn (tgt := 99) X.1 X.2.1 dX8_look_21 (by rw [c21_4]; decide) (by rw [c21_4]; decide) (by rw [c21_4]; rfl) (by decide) ?_
      refine lv_iconst (v := 0) X.1 X.2.1 dX8_look_99 (by decide) ?_
      refine lv_istore_n (i := 3) (lv' := [(3, .int (0 : Int32)), (0, va_rf (some x0)), (1, .int x1), (2, .int x2)]) X.1 X.2.1 dX8_look_100 rfl hl (by decide) rfl (fun ls hl => ?_)
      refine lv_iconst (v := 0) X.1 X.2.1 dX8_look_101 (by decide) ?_
      refine lv_istore (i := 4) (lv' := [(4, .int (0 : Int32)), (3, .int (0 : Int32)), (0, va_rf (some x0)), (1, .int x1), (2, .int x2)]) X.1 X.2.1 dX8_look_102 hl (by decide) rfl (fun ls hl => ?_)
      obtain ⟨n104, h⟩ := h
      have lp104 : ∀ (n104 : Nat) (x0 : Option Nat) (x1 : Int32) (x3 : Int32) (x4 : Int32) (S : qS) (H : Heap) (locs : List Loc) (ls : Array Slot), pX8_look_L104 post xp n104 x0 x1 x3 x4 S → q_H G A s H locs S → lv_has ls 5 [(0, va_rf x0), (1, .int x1), (3, .int x3), (4, .int x4)] → W p l e (q_rm 3 0 0) s m av below meth c H locs 0 0 (vx_MQ below (q_Qi G post A) (q_XC G A xp) av s 0 0 A) (F0 m 104 ls []) := by
        intro n104
        induction n104 with
        | zero => intro x0 x1 x3 x4 S H locs ls h I hl; exact h.elim
        | succ n104 ih104 =>
          intro x0 x1 x3 x4 S H locs ls h I hl
          unfold pX8_look_L104 at h
          refine lv_iload X.1 X.2.1 dX8_look_104 (lv_at hl 3 rfl) ?_
          refine q_aload_n X dX8_look_106 rfl (lv_at hl 0 rfl) ?_
          refine q_getI (ci := 9) (k := 25) X I rfl inb_TX8 wd_863 (by decide) qt_385 dX8_look_107 h (fun v107 h => ?_)
          refine lv_icmp_ge (tgt := 137) X.1 X.2.1 dX8_look_110 (by decide) (fun c110 => ?_) (fun c110 => ?_)
          · have h := h.1 c110
            refine lv_iload_n X.1 X.2.1 dX8_look_137 rfl (lv_at hl 2 rfl) ?_
            exact q_iret X I hr dX8_look_138 h (by decide) (by decide)
          · have h := h.2 c110
            refine lv_iload_n X.1 X.2.1 dX8_look_113 rfl (lv_at hl 2 rfl) ?_
            refine q_aload_n X dX8_look_114 rfl (lv_at hl 0 rfl) ?_
            refine lv_iload X.1 X.2.1 dX8_look_115 (lv_at hl 3 rfl) ?_
            refine lv_iload_n X.1 X.2.1 dX8_look_117 rfl (lv_at hl 1 rfl) ?_
            refine q_cVi (As := [.int x4, .int x1]) (rest := [.int x3]) (c1 := 0) (s1 := 0) (d := 1) (mc := 0) (ms := 0) X N I hl.1 mX8_isWithin wd_1014 dX8_look_118 rfl h (fun b h => kX8_isWithin hl0 h) rfl (Nat.le_of_ble_eq_true rfl) ⟨by decide, by decide⟩ ⟨by decide, by decide⟩ ⟨by decide, by decide⟩ rfl rfl (fun v118 S H locs I h => ?_)
            have jn129 : ∀ (x0 : Option Nat) (x1 : Int32) (x4 : Int32) (t0 : Int32) (t1 : Int32) (S : qS) (H : Heap) (locs : List Loc) (ls : Array Slot), pX8_look_J129 (pX8_look_L104 post xp n104) post xp x0 x1 x4 t0 t1 S → q_H G A s H locs S → lv_has ls 5 [(0, va_rf x0), (1, .int x1), (4, .int x4)] → W p l e (q_rm 3 0 0) s m av below meth c H locs 0 0 (vx_MQ below (q_Qi G post A) (q_XC G A xp) av s 0 0 A) (F0 m 129 ls [.int t1, .int t0]) := by
              intro x0 x1 x4 t0 t1 S H locs ls h I hl
              unfold pX8_look_J129 at h
              refine lv_iadd X.1 X.2.1 dX8_look_129 ?_
              refine lv_istore_n (i := 3) (lv' := [(3, .int (t0 + t1)), (0, va_rf x0), (1, .int x1), (4, .int x4)]) X.1 X.2.1 dX8_look_130 rfl hl (by decide) rfl (fun ls hl => ?_)
              refine lv_iinc (v := (x4 + 1)) (lv' := [(4, .int (x4 + 1)), (3, .int (t0 + t1)), (0, va_rf x0), (1, .int x1)]) (k := 3) X.1 X.2.1 dX8_look_131 hl rfl rfl (by decide) rfl (fun ls hl => ?_)
              refine lv_goto (tgt := 104) X.1 X.2.1 dX8_look_134 (by decide) ?_
              exact ih104 _ _ _ _ _ _ _ _ h I (lv_sub hl [2, 3, 1, 0] rfl)
            refine lv_if_eq (tgt := 128) X.1 X.2.1 dX8_look_121 (by decide) (fun c121 => ?_) (fun c121 => ?_)
            · have h := h.1 c121
              refine lv_iconst (v := 0) X.1 X.2.1 dX8_look_128 (by decide) ?_
              exact jn129 _ _ _ _ _ _ _ _ _ h I (lv_sub hl [0, 1, 3] rfl)
            · have h := h.2 c121
              refine lv_iconst (v := 1) X.1 X.2.1 dX8_look_124 (by decide) ?_
              refine lv_goto (tgt := 129) X.1 X.2.1 dX8_look_125 (by decide) ?_
              exact jn129 _ _ _ _ _ _ _ _ _ h I (lv_sub hl [0, 1, 3] rfl)
      exact lp104 n104 _ _ _ _ _ _ _ _ h I (lv_sub hl [2, 3, 1, 0] rfl)
    by_cases c21_5 : x2 = 5
    · have h := h.2.2.2.2.2.1 c21_5
      refine lv_tableIn (tgt := 139) X.1 X.2.1 dX8_look_21 (by rw [c21_5]; decide) (by rw [c21_5]; decide) (by rw [c21_5]; rfl) (by decide) ?_
      refine q_aload_n X dX8_look_139 rfl (lv_at hl 0 rfl) ?_
      refine lv_iload_n X.1 X.2.1 dX8_look_140 rfl (lv_at hl 1 rfl) ?_
      refine q_cVi (As := [.int x1]) (rest := []) (c1 := 0) (s1 := 0) (d := 1) (mc := 0) (ms := 0) X N I hl.1 mX8_isLent wd_1034 dX8_look_141 rfl h (fun b h => kX8_isLent hl0 h) rfl (Nat.le_of_ble_eq_true rfl) ⟨by decide, by decide⟩ ⟨by decide, by decide⟩ ⟨by decide, by decide⟩ rfl rfl (fun v141 S H locs I h => ?_)
      have jn152 : ∀ (t0 : Int32) (S : qS) (H : Heap) (locs : List Loc) (ls : Array Slot), pX8_look_J152 post xp t0 S → q_H G A s H locs S → lv_has ls 5 [] → W p l e (q_rm 3 0 0) s m av below meth c H locs 0 0 (vx_MQ below (q_Qi G post A) (q_XC G A xp) av s 0 0 A) (F0 m 152 ls [.int t0]) := by
        intro t0 S H locs ls h I hl
        unfold pX8_look_J152 at h
        exact q_iret X I hr dX8_look_152 h (by decide) (by decide)
      refine lv_if_eq (tgt := 151) X.1 X.2.1 dX8_look_144 (by decide) (fun c144 => ?_) (fun c144 => ?_)
      · have h := h.1 c144
        refine lv_iconst (v := 0) X.1 X.2.1 dX8_look_151 (by decide) ?_
        exact jn152 _ _ _ _ _ h I (lv_sub hl [] rfl)
      · have h := h.2 c144
        refine lv_iconst (v := 1) X.1 X.2.1 dX8_look_147 (by decide) ?_
        refine lv_goto (tgt := 152) X.1 X.2.1 dX8_look_148 (by decide) ?_
        exact jn152 _ _ _ _ _ h I (lv_sub hl [] rfl)
    by_cases c21_6 : x2 = 6
    · have h := h.2.2.2.2.2.2.1 c21_6
      refine lv_tableIn (tgt := 153) X.1 X.2.1 dX8_look_21 (by rw [c21_6]; decide) (by rw [c21_6]; decide) (by rw [c21_6]; rfl) (by decide) ?_
      refine q_aload_n X dX8_look_153 rfl (lv_at hl 0 rfl) ?_
      refine q_getR (ci := 9) (k := 20) X I rfl inb_TX8 wd_858 (by decide) qt_380 dX8_look_154 h (fun v154 h => ?_)
      refine lv_iload_n X.1 X.2.1 dX8_look_157 rfl (lv_at hl 1 rfl) ?_
      refine q_ldI X I (by decide) (by decide) dX8_look_158 h (fun v158 h => ?_)
      exact q_iret X I hr dX8_look_159 h (by decide) (by decide)
    by_cases c21_7 : x2 = 7
    · have h := h.2.2.2.2.2.2.2.1 c21_7
      refine lv_tableIn (tgt := 160) X.1 X.2.1 dX8_look_21 (by rw [c21_7]; decide) (by rw [c21_7]; decide) (by rw [c21_7]; rfl) (by decide) ?_
      refine q_aload_n X dX8_look_160 rfl (lv_at hl 0 rfl) ?_
      refine q_getR (ci := 9) (k := 21) X I rfl inb_TX8 wd_859 (by decide) qt_381 dX8_look_161 h (fun v161 h => ?_)
      refine lv_iload_n X.1 X.2.1 dX8_look_164 rfl (lv_at hl 1 rfl) ?_
      refine q_ldI X I (by decide) (by decide) dX8_look_165 h (fun v165 h => ?_)
      exact q_iret X I hr dX8_look_166 h (by decide) (by decide)
    by_cases c21_8 : x2 = 8
    · have h := h.2.2.2.2.2.2.2.2.1 c21_8
      refine lv_tableIn (tgt := 167) X.1 X.2.1 dX8_look_21 (by rw [c21_8]; decide) (by rw [c21_8]; decide) (by rw [c21_8]; rfl) (by decide) ?_
      refine q_aload_n X dX8_look_167 rfl (lv_at hl 0 rfl) ?_
      refine q_getR (ci := 9) (k := 24) X I rfl inb_TX8 wd_862 (by decide) qt_384 dX8_look_168 h (fun v168 h => ?_)
      refine lv_iload_n X.1 X.2.1 dX8_look_171 rfl (lv_at hl 1 rfl) ?_
      refine q_ldI X I (by decide) (by decide) dX8_look_172 h (fun v172 h => ?_)
      exact q_iret X I hr dX8_look_173 h (by decide) (by decide)
    have co21 : x2.toInt < 0 ∨ 8 < x2.toInt := by
      have e0 := q_ne c21_0 (z := 0) (by decide)
      have e1 := q_ne c21_1 (z := 1) (by decide)
      have e2 := q_ne c21_2 (z := 2) (by decide)
      have e3 := q_ne c21_3 (z := 3) (by decide)
      have e4 := q_ne c21_4 (z := 4) (by decide)
      have e5 := q_ne c21_5 (z := 5) (by decide)
      have e6 := q_ne c21_6 (z := 6) (by decide)
      have e7 := q_ne c21_7 (z := 7) (by decide)
      have e8 := q_ne c21_8 (z := 8) (by decide)
      omega
    have h := h.2.2.2.2.2.2.2.2.2 co21
    refine lv_tableOut (tgt := 174) X.1 X.2.1 dX8_look_21 co21 (by decide) ?_
    refine q_aload_n X dX8_look_174 rfl (lv_at hl 0 rfl) ?_
    refine lv_iconst (v := 2) X.1 X.2.1 dX8_look_175 (by decide) ?_
    refine q_putI (ci := 9) (k := 0) X I rfl inb_TX8 tyX8_ok nmX8 wd_838 (by decide) (Or.inl rfl) qt_360 rfl dX8_look_176 h (fun S H locs I h => ?_)
    refine lv_iconst (v := 0) X.1 X.2.1 dX8_look_179 (by decide) ?_
    exact q_iret X I hr dX8_look_180 h (by decide) (by decide)
  · have h := h.2 c15
    refine lv_iconst (v := 0) X.1 X.2.1 dX8_look_18 (by decide) ?_
    exact q_iret X I hr dX8_look_19 h (by decide) (by decide)

def pX8_line_J40  (post : Int32 → qS → Prop) (xp : String → qS → Prop)  (S : qS) : Prop :=
  post (-1 : Int32) S
def pX8_line_J71  (post : Int32 → qS → Prop) (xp : String → qS → Prop) (t0 : Int32) (S : qS) : Prop :=
  post t0 S
def pX8_line (x0 : Nat) (x1 : Int32) (x2 : Int32) (x3 : Int32) (S : qS) (post : Int32 → qS → Prop) (xp : String → qS → Prop) : Prop :=
  w_putI S (some x0) 9 0 (0 : Int32) (fun S =>
  w_at S (some x0) 9 (fun b8 => pX8_noSingle b8 x1 S (fun v8 S =>
  w_at S (some x0) 9 (fun b12 => pX8_throwsIf b12 v8 (1 : Int32) S (fun v12 S =>
  ((v12 = 0 →
  ((x2 < 0 →
  pX8_line_J40 post xp S) ∧ (¬ x2 < 0 →
  w_getR S (some x0) 9 24 (fun v26 =>
  w_ldI S v26 54 x1 (fun v30 =>
  ((v30 ≤ x2 →
  pX8_line_J40 post xp S) ∧ (¬ v30 ≤ x2 →
  ((x2 < (30 : Int32) →
  ((x3 = 0 →
  w_getR S (some x0) 9 22 (fun v61 =>
  w_ldI S v61 52 (((30 : Int32) * x1) + x2) (fun v70 =>
  pX8_line_J71 post xp v70 S))) ∧ (¬ x3 = 0 →
  w_getR S (some x0) 9 23 (fun v47 =>
  w_ldI S v47 53 (((30 : Int32) * x1) + x2) (fun v56 =>
  pX8_line_J71 post xp v56 S))))) ∧ (¬ x2 < (30 : Int32) →
  pX8_line_J40 post xp S))))))))) ∧ (¬ v12 = 0 →
  post (0 : Int32) S))) xp)) xp))
set_option maxHeartbeats 4000000 in
set_option maxRecDepth 100000 in
theorem kX8_line {l : Launch} (hl0 : l.stackTraces = false) {G : qG} {S : qS} {sz : Nat} {x0 : Nat} {x1 : Int32} {x2 : Int32} {x3 : Int32} {post : Int32 → qS → Prop} {xp : String → qS → Prop} (h : pX8_line x0 x1 x2 x3 S post xp) : q_M l yX8_line cX8_line 4 (some .int) 3 0 0 G S sz [va_rf (some x0), .int x1, .int x2, .int x3] (q_Qi G post) xp := by
  refine q_of (lv := [(0, va_rf (some x0)), (1, .int x1), (2, .int x2), (3, .int x3)]) hl0 (by decide) rfl (Nat.le_of_ble_eq_true rfl) (fun p e s m below meth c A ls X N hr hnm I hl => ?_)
  generalize ([va_rf (some x0), .int x1, .int x2, .int x3] : List Value).toArray = av at X ⊢
  unfold pX8_line at h
  refine q_aload_n X dX8_line_0 rfl (lv_at hl 0 rfl) ?_
  refine lv_iconst (v := 0) X.1 X.2.1 dX8_line_1 (by decide) ?_
  refine q_putI (ci := 9) (k := 0) X I rfl inb_TX8 tyX8_ok nmX8 wd_838 (by decide) (Or.inl rfl) qt_360 rfl dX8_line_2 h (fun S H locs I h => ?_)
  refine q_aload_n X dX8_line_5 rfl (lv_at hl 0 rfl) ?_
  refine q_aload_n X dX8_line_6 rfl (lv_at hl 0 rfl) ?_
  refine lv_iload_n X.1 X.2.1 dX8_line_7 rfl (lv_at hl 1 rfl) ?_
  refine q_cVi (As := [.int x1]) (rest := [va_rf (some x0)]) (c1 := 0) (s1 := 0) (d := 2) (mc := 0) (ms := 0) X N I hl.1 mX8_noSingle wd_1006 dX8_line_8 rfl h (fun b h => kX8_noSingle hl0 h) rfl (Nat.le_of_ble_eq_true rfl) ⟨by decide, by decide⟩ ⟨by decide, by decide⟩ ⟨by decide, by decide⟩ rfl rfl (fun v8 S H locs I h => ?_)
  refine lv_iconst (v := 1) X.1 X.2.1 dX8_line_11 (by decide) ?_
  refine q_cVi (As := [.int v8, .int (1 : Int32)]) (rest := []) (c1 := 0) (s1 := 0) (d := 1) (mc := 0) (ms := 0) X N I hl.1 mX8_throwsIf wd_947 dX8_line_12 rfl h (fun b h => kX8_throwsIf hl0 h) rfl (Nat.le_of_ble_eq_true rfl) ⟨by decide, by decide⟩ ⟨by decide, by decide⟩ ⟨by decide, by decide⟩ rfl rfl (fun v12 S H locs I h => ?_)
  refine lv_if_eq (tgt := 20) X.1 X.2.1 dX8_line_15 (by decide) (fun c15 => ?_) (fun c15 => ?_)
  · have h := h.1 c15
    refine lv_iload_n X.1 X.2.1 dX8_line_20 rfl (lv_at hl 2 rfl) ?_
    have jn40 : ∀ (S : qS) (H : Heap) (locs : List Loc) (ls : Array Slot), pX8_line_J40 post xp S → q_H G A s H locs S → lv_has ls 4 [] → W p l e (q_rm 3 0 0) s m av below meth c H locs 0 0 (vx_MQ below (q_Qi G post A) (q_XC G A xp) av s 0 0 A) (F0 m 40 ls []) := by
      intro S H locs ls h I hl
      unfold pX8_line_J40 at h
      refine lv_iconst (v := -1) X.1 X.2.1 dX8_line_40 (by decide) ?_
      exact q_iret X I hr dX8_line_41 h (by decide) (by decide)
    refine lv_if_lt (tgt := 40) X.1 X.2.1 dX8_line_21 (by decide) (fun c21 => ?_) (fun c21 => ?_)
    · have h := h.1 c21
      exact jn40 _ _ _ _ h I (lv_sub hl [] rfl)
    · have h := h.2 c21
      refine lv_iload_n X.1 X.2.1 dX8_line_24 rfl (lv_at hl 2 rfl) ?_
      refine q_aload_n X dX8_line_25 rfl (lv_at hl 0 rfl) ?_
      refine q_getR (ci := 9) (k := 24) X I rfl inb_TX8 wd_862 (by decide) qt_384 dX8_line_26 h (fun v26 h => ?_)
      refine lv_iload_n X.1 X.2.1 dX8_line_29 rfl (lv_at hl 1 rfl) ?_
      refine q_ldI X I (by decide) (by decide) dX8_line_30 h (fun v30 h => ?_)
      refine lv_icmp_ge (tgt := 40) X.1 X.2.1 dX8_line_31 (by decide) (fun c31 => ?_) (fun c31 => ?_)
      · have h := h.1 c31
        exact jn40 _ _ _ _ h I (lv_sub hl [] rfl)
      · have h := h.2 c31
        refine lv_iload_n X.1 X.2.1 dX8_line_34 rfl (lv_at hl 2 rfl) ?_
        refine lv_bipush (v := 30) X.1 X.2.1 dX8_line_35 (by decide) ?_
        refine lv_icmp_lt (tgt := 42) X.1 X.2.1 dX8_line_37 (by decide) (fun c37 => ?_) (fun c37 => ?_)
        · have h := h.1 c37
          refine lv_iload_n X.1 X.2.1 dX8_line_42 rfl (lv_at hl 3 rfl) ?_
          have jn71 : ∀ (t0 : Int32) (S : qS) (H : Heap) (locs : List Loc) (ls : Array Slot), pX8_line_J71 post xp t0 S → q_H G A s H locs S → lv_has ls 4 [] → W p l e (q_rm 3 0 0) s m av below meth c H locs 0 0 (vx_MQ below (q_Qi G post A) (q_XC G A xp) av s 0 0 A) (F0 m 71 ls [.int t0]) := by
            intro t0 S H locs ls h I hl
            unfold pX8_line_J71 at h
            exact q_iret X I hr dX8_line_71 h (by decide) (by decide)
          refine lv_if_eq (tgt := 60) X.1 X.2.1 dX8_line_43 (by decide) (fun c43 => ?_) (fun c43 => ?_)
          · have h := h.1 c43
            refine q_aload_n X dX8_line_60 rfl (lv_at hl 0 rfl) ?_
            refine q_getR (ci := 9) (k := 22) X I rfl inb_TX8 wd_860 (by decide) qt_382 dX8_line_61 h (fun v61 h => ?_)
            refine lv_bipush (v := 30) X.1 X.2.1 dX8_line_64 (by decide) ?_
            refine lv_iload_n X.1 X.2.1 dX8_line_66 rfl (lv_at hl 1 rfl) ?_
            refine lv_imul X.1 X.2.1 dX8_line_67 ?_
            refine lv_iload_n X.1 X.2.1 dX8_line_68 rfl (lv_at hl 2 rfl) ?_
            refine lv_iadd X.1 X.2.1 dX8_line_69 ?_
            refine q_ldI X I (by decide) (by decide) dX8_line_70 h (fun v70 h => ?_)
            exact jn71 _ _ _ _ _ h I (lv_sub hl [] rfl)
          · have h := h.2 c43
            refine q_aload_n X dX8_line_46 rfl (lv_at hl 0 rfl) ?_
            refine q_getR (ci := 9) (k := 23) X I rfl inb_TX8 wd_861 (by decide) qt_383 dX8_line_47 h (fun v47 h => ?_)
            refine lv_bipush (v := 30) X.1 X.2.1 dX8_line_50 (by decide) ?_
            refine lv_iload_n X.1 X.2.1 dX8_line_52 rfl (lv_at hl 1 rfl) ?_
            refine lv_imul X.1 X.2.1 dX8_line_53 ?_
            refine lv_iload_n X.1 X.2.1 dX8_line_54 rfl (lv_at hl 2 rfl) ?_
            refine lv_iadd X.1 X.2.1 dX8_line_55 ?_
            refine q_ldI X I (by decide) (by decide) dX8_line_56 h (fun v56 h => ?_)
            refine lv_goto (tgt := 71) X.1 X.2.1 dX8_line_57 (by decide) ?_
            exact jn71 _ _ _ _ _ h I (lv_sub hl [] rfl)
        · have h := h.2 c37
          exact jn40 _ _ _ _ h I (lv_sub hl [] rfl)
  · have h := h.2 c15
    refine lv_iconst (v := 0) X.1 X.2.1 dX8_line_18 (by decide) ?_
    exact q_iret X I hr dX8_line_19 h (by decide) (by decide)

def pX8_offer_J149  (post : Int32 → qS → Prop) (xp : String → qS → Prop)  (S : qS) : Prop :=
  post (0 : Int32) S
def pX8_offer_J296  (post : Int32 → qS → Prop) (xp : String → qS → Prop) (x0 : Option Nat) (t0 : Option Nat) (t1 : Int32) (t2 : Int32) (S : qS) : Prop :=
  w_stI S t0 56 t1 t2 (fun S =>
  w_getR S x0 9 27 (fun v298 =>
  w_getI S x0 9 28 (fun v302 =>
  w_stZ S v298 57 v302 (1 : Int32) (fun S =>
  w_getI S x0 9 28 (fun v309 =>
  w_putI S x0 9 28 (v309 + (1 : Int32)) (fun S =>
  w_getI S x0 9 28 (fun v318 =>
  post (v318 - (1 : Int32)) S)))))))
def pX8_offer_J270  (post : Int32 → qS → Prop) (xp : String → qS → Prop) (x0 : Option Nat) (x8 : Int32) (x10 : Int32) (t0 : Option Nat) (t1 : Int32) (t2 : Int32) (S : qS) : Prop :=
  w_stI S t0 56 t1 t2 (fun S =>
  w_getR S x0 9 26 (fun v272 =>
  ((0 ≤ x8 →
  w_getR S x0 9 15 (fun v290 =>
  w_ldI S v290 45 x8 (fun v295 =>
  pX8_offer_J296 post xp x0 v272 (x10 + (9 : Int32)) v295 S))) ∧ (¬ 0 ≤ x8 →
  pX8_offer_J296 post xp x0 v272 (x10 + (9 : Int32)) (0 : Int32) S))))
def pX8_offer_J142  (post : Int32 → qS → Prop) (xp : String → qS → Prop) (x0 : Option Nat) (x1 : Int32) (x2 : Int32) (x3 : Int32) (x4 : Int32) (x5 : Int32) (x6 : Int32) (x7 : Int32) (x8 : Int32) (t0 : Option Nat) (t1 : Int32) (S : qS) : Prop :=
  w_at S t0 9 (fun b143 => pX8_throwsIf b143 t1 (3 : Int32) S (fun v143 S =>
  ((v143 = 0 →
  w_getI S x0 9 28 (fun v154 =>
  w_getR S x0 9 26 (fun v161 =>
  w_stI S v161 56 ((10 : Int32) * v154) x1 (fun S =>
  w_getR S x0 9 26 (fun v169 =>
  w_stI S v169 56 (((10 : Int32) * v154) + (1 : Int32)) x2 (fun S =>
  w_getR S x0 9 26 (fun v179 =>
  w_stI S v179 56 (((10 : Int32) * v154) + (2 : Int32)) x3 (fun S =>
  w_getR S x0 9 26 (fun v189 =>
  w_stI S v189 56 (((10 : Int32) * v154) + (3 : Int32)) x4 (fun S =>
  w_getR S x0 9 26 (fun v200 =>
  w_stI S v200 56 (((10 : Int32) * v154) + (4 : Int32)) x5 (fun S =>
  w_getR S x0 9 26 (fun v211 =>
  w_stI S v211 56 (((10 : Int32) * v154) + (5 : Int32)) x6 (fun S =>
  w_getR S x0 9 26 (fun v222 =>
  w_stI S v222 56 (((10 : Int32) * v154) + (6 : Int32)) x7 (fun S =>
  w_getR S x0 9 26 (fun v234 =>
  w_stI S v234 56 (((10 : Int32) * v154) + (7 : Int32)) x8 (fun S =>
  w_getR S x0 9 26 (fun v246 =>
  ((0 ≤ x5 →
  w_getR S x0 9 15 (fun v264 =>
  w_ldI S v264 45 x5 (fun v269 =>
  pX8_offer_J270 post xp x0 x8 ((10 : Int32) * v154) v246 (((10 : Int32) * v154) + (8 : Int32)) v269 S))) ∧ (¬ 0 ≤ x5 →
  pX8_offer_J270 post xp x0 x8 ((10 : Int32) * v154) v246 (((10 : Int32) * v154) + (8 : Int32)) (0 : Int32) S))))))))))))))))))))) ∧ (¬ v143 = 0 →
  pX8_offer_J149 post xp S))) xp)
def pX8_offer_J120  (post : Int32 → qS → Prop) (xp : String → qS → Prop) (x0 : Option Nat) (x1 : Int32) (x2 : Int32) (x3 : Int32) (x4 : Int32) (x5 : Int32) (x6 : Int32) (x7 : Int32) (x8 : Int32) (t0 : Option Nat) (t1 : Int32) (S : qS) : Prop :=
  w_at S t0 9 (fun b121 => pX8_throwsIf b121 t1 (2 : Int32) S (fun v121 S =>
  ((¬ v121 = 0 →
  pX8_offer_J149 post xp S) ∧ (v121 = 0 →
  w_getI S x0 9 28 (fun v129 =>
  ((¬ v129 = (60 : Int32) →
  pX8_offer_J142 post xp x0 x1 x2 x3 x4 x5 x6 x7 x8 x0 (0 : Int32) S) ∧ (v129 = (60 : Int32) →
  pX8_offer_J142 post xp x0 x1 x2 x3 x4 x5 x6 x7 x8 x0 (1 : Int32) S)))))) xp)
def pX8_offer_J115  (post : Int32 → qS → Prop) (xp : String → qS → Prop) (x0 : Option Nat) (x1 : Int32) (x2 : Int32) (x3 : Int32) (x4 : Int32) (x5 : Int32) (x6 : Int32) (x7 : Int32) (x8 : Int32) (t0 : Option Nat) (S : qS) : Prop :=
  pX8_offer_J120 post xp x0 x1 x2 x3 x4 x5 x6 x7 x8 t0 (1 : Int32) S
def pX8_offer_J72  (post : Int32 → qS → Prop) (xp : String → qS → Prop) (x0 : Option Nat) (x1 : Int32) (x2 : Int32) (x3 : Int32) (x4 : Int32) (x5 : Int32) (x6 : Int32) (x7 : Int32) (x8 : Int32) (t0 : Int32) (S : qS) : Prop :=
  w_at S x0 9 (fun b78 => pX8_throwsIf b78 t0 (1 : Int32) S (fun v78 S =>
  ((¬ v78 = 0 →
  pX8_offer_J149 post xp S) ∧ (v78 = 0 →
  ((x1 = x2 →
  pX8_offer_J115 post xp x0 x1 x2 x3 x4 x5 x6 x7 x8 x0 S) ∧ (¬ x1 = x2 →
  pX8_in x3.toInt64 (0 : Int64) (1000000 : Int64) S (fun v96 S =>
  ((v96 = 0 →
  pX8_offer_J115 post xp x0 x1 x2 x3 x4 x5 x6 x7 x8 x0 S) ∧ (¬ v96 = 0 →
  pX8_in x6.toInt64 (0 : Int64) (1000000 : Int64) S (fun v109 S =>
  ((¬ v109 = 0 →
  pX8_offer_J120 post xp x0 x1 x2 x3 x4 x5 x6 x7 x8 x0 (0 : Int32) S) ∧ (v109 = 0 →
  pX8_offer_J115 post xp x0 x1 x2 x3 x4 x5 x6 x7 x8 x0 S))) xp))) xp))))) xp)
def pX8_offer_J67  (post : Int32 → qS → Prop) (xp : String → qS → Prop) (x0 : Option Nat) (x1 : Int32) (x2 : Int32) (x3 : Int32) (x4 : Int32) (x5 : Int32) (x6 : Int32) (x7 : Int32) (x8 : Int32) (S : qS) : Prop :=
  pX8_offer_J72 post xp x0 x1 x2 x3 x4 x5 x6 x7 x8 (1 : Int32) S
def pX8_offer_J71  (post : Int32 → qS → Prop) (xp : String → qS → Prop) (x0 : Option Nat) (x1 : Int32) (x2 : Int32) (x3 : Int32) (x4 : Int32) (x5 : Int32) (x6 : Int32) (x7 : Int32) (x8 : Int32) (S : qS) : Prop :=
  pX8_offer_J72 post xp x0 x1 x2 x3 x4 x5 x6 x7 x8 (0 : Int32) S
def pX8_offer_J52  (post : Int32 → qS → Prop) (xp : String → qS → Prop) (x0 : Option Nat) (x1 : Int32) (x2 : Int32) (x3 : Int32) (x4 : Int32) (x5 : Int32) (x6 : Int32) (x7 : Int32) (x8 : Int32) (S : qS) : Prop :=
  ((x8 = (-1 : Int32) →
  pX8_offer_J71 post xp x0 x1 x2 x3 x4 x5 x6 x7 x8 S) ∧ (¬ x8 = (-1 : Int32) →
  w_at S x0 9 (fun b61 => pX8_noSingle b61 x8 S (fun v61 S =>
  ((v61 = 0 →
  pX8_offer_J71 post xp x0 x1 x2 x3 x4 x5 x6 x7 x8 S) ∧ (¬ v61 = 0 →
  pX8_offer_J67 post xp x0 x1 x2 x3 x4 x5 x6 x7 x8 S))) xp)))
def pX8_offer (x0 : Nat) (x1 : Int32) (x2 : Int32) (x3 : Int32) (x4 : Int32) (x5 : Int32) (x6 : Int32) (x7 : Int32) (x8 : Int32) (S : qS) (post : Int32 → qS → Prop) (xp : String → qS → Prop) : Prop :=
  w_putI S (some x0) 9 0 (0 : Int32) (fun S =>
  w_at S (some x0) 9 (fun b7 => pX8_noPlayer b7 x1 S (fun v7 S =>
  ((¬ v7 = 0 →
  pX8_offer_J67 post xp (some x0) x1 x2 x3 x4 x5 x6 x7 x8 S) ∧ (v7 = 0 →
  w_at S (some x0) 9 (fun b15 => pX8_noPlayer b15 x2 S (fun v15 S =>
  ((¬ v15 = 0 →
  pX8_offer_J67 post xp (some x0) x1 x2 x3 x4 x5 x6 x7 x8 S) ∧ (v15 = 0 →
  pX8_noKind x4 S (fun v23 S =>
  ((¬ v23 = 0 →
  pX8_offer_J67 post xp (some x0) x1 x2 x3 x4 x5 x6 x7 x8 S) ∧ (v23 = 0 →
  pX8_noKind x7 S (fun v31 S =>
  ((¬ v31 = 0 →
  pX8_offer_J67 post xp (some x0) x1 x2 x3 x4 x5 x6 x7 x8 S) ∧ (v31 = 0 →
  ((x5 = (-1 : Int32) →
  pX8_offer_J52 post xp (some x0) x1 x2 x3 x4 x5 x6 x7 x8 S) ∧ (¬ x5 = (-1 : Int32) →
  w_at S (some x0) 9 (fun b46 => pX8_noSingle b46 x5 S (fun v46 S =>
  ((¬ v46 = 0 →
  pX8_offer_J67 post xp (some x0) x1 x2 x3 x4 x5 x6 x7 x8 S) ∧ (v46 = 0 →
  pX8_offer_J52 post xp (some x0) x1 x2 x3 x4 x5 x6 x7 x8 S))) xp)))))) xp))) xp))) xp)))) xp))
set_option maxHeartbeats 4000000 in
set_option maxRecDepth 100000 in
theorem kX8_offer {l : Launch} (hl0 : l.stackTraces = false) {G : qG} {S : qS} {sz : Nat} {x0 : Nat} {x1 : Int32} {x2 : Int32} {x3 : Int32} {x4 : Int32} {x5 : Int32} {x6 : Int32} {x7 : Int32} {x8 : Int32} {post : Int32 → qS → Prop} {xp : String → qS → Prop} (h : pX8_offer x0 x1 x2 x3 x4 x5 x6 x7 x8 S post xp) : q_M l yX8_offer cX8_offer 11 (some .int) 3 0 0 G S sz [va_rf (some x0), .int x1, .int x2, .int x3, .int x4, .int x5, .int x6, .int x7, .int x8] (q_Qi G post) xp := by
  refine q_of (lv := [(0, va_rf (some x0)), (1, .int x1), (2, .int x2), (3, .int x3), (4, .int x4), (5, .int x5), (6, .int x6), (7, .int x7), (8, .int x8)]) hl0 (by decide) rfl (Nat.le_of_ble_eq_true rfl) (fun p e s m below meth c A ls X N hr hnm I hl => ?_)
  generalize ([va_rf (some x0), .int x1, .int x2, .int x3, .int x4, .int x5, .int x6, .int x7, .int x8] : List Value).toArray = av at X ⊢
  unfold pX8_offer at h
  refine q_aload_n X dX8_offer_0 rfl (lv_at hl 0 rfl) ?_
  refine lv_iconst (v := 0) X.1 X.2.1 dX8_offer_1 (by decide) ?_
  refine q_putI (ci := 9) (k := 0) X I rfl inb_TX8 tyX8_ok nmX8 wd_838 (by decide) (Or.inl rfl) qt_360 rfl dX8_offer_2 h (fun S H locs I h => ?_)
  refine q_aload_n X dX8_offer_5 rfl (lv_at hl 0 rfl) ?_
  refine lv_iload_n X.1 X.2.1 dX8_offer_6 rfl (lv_at hl 1 rfl) ?_
  refine q_cVi (As := [.int x1]) (rest := []) (c1 := 0) (s1 := 0) (d := 2) (mc := 0) (ms := 0) X N I hl.1 mX8_noPlayer wd_975 dX8_offer_7 rfl h (fun b h => kX8_noPlayer hl0 h) rfl (Nat.le_of_ble_eq_true rfl) ⟨by decide, by decide⟩ ⟨by decide, by decide⟩ ⟨by decide, by decide⟩ rfl rfl (fun v7 S H locs I h => ?_)
  have jn72 : ∀ (x0 : Option Nat) (x1 : Int32) (x2 : Int32) (x3 : Int32) (x4 : Int32) (x5 : Int32) (x6 : Int32) (x7 : Int32) (x8 : Int32) (t0 : Int32) (S : qS) (H : Heap) (locs : List Loc) (ls : Array Slot), pX8_offer_J72 post xp x0 x1 x2 x3 x4 x5 x6 x7 x8 t0 S → q_H G A s H locs S → lv_has ls 11 [(0, va_rf x0), (1, .int x1), (2, .int x2), (3, .int x3), (4, .int x4), (5, .int x5), (6, .int x6), (7, .int x7), (8, .int x8)] → W p l e (q_rm 3 0 0) s m av below meth c H locs 0 0 (vx_MQ below (q_Qi G post A) (q_XC G A xp) av s 0 0 A) (F0 m 72 ls [.int t0]) := by
    intro x0 x1 x2 x3 x4 x5 x6 x7 x8 t0 S H locs ls h I hl
    unfold pX8_offer_J72 at h
    refine lv_istore (i := 9) (lv' := [(9, .int t0), (0, va_rf x0), (1, .int x1), (2, .int x2), (3, .int x3), (4, .int x4), (5, .int x5), (6, .int x6), (7, .int x7), (8, .int x8)]) X.1 X.2.1 dX8_offer_72 hl (by decide) rfl (fun ls hl => ?_)
    refine q_aload_n X dX8_offer_74 rfl (lv_at hl 1 rfl) ?_
    refine lv_iload X.1 X.2.1 dX8_offer_75 (lv_at hl 0 rfl) ?_
    refine lv_iconst (v := 1) X.1 X.2.1 dX8_offer_77 (by decide) ?_
    refine q_cVi (As := [.int t0, .int (1 : Int32)]) (rest := []) (c1 := 0) (s1 := 0) (d := 1) (mc := 0) (ms := 0) X N I hl.1 mX8_throwsIf wd_947 dX8_offer_78 rfl h (fun b h => kX8_throwsIf hl0 h) rfl (Nat.le_of_ble_eq_true rfl) ⟨by decide, by decide⟩ ⟨by decide, by decide⟩ ⟨by decide, by decide⟩ rfl rfl (fun v78 S H locs I h => ?_)
    have jn149 : ∀ (S : qS) (H : Heap) (locs : List Loc) (ls : Array Slot), pX8_offer_J149 post xp S → q_H G A s H locs S → lv_has ls 11 [] → W p l e (q_rm 3 0 0) s m av below meth c H locs 0 0 (vx_MQ below (q_Qi G post A) (q_XC G A xp) av s 0 0 A) (F0 m 149 ls []) := by
      intro S H locs ls h I hl
      unfold pX8_offer_J149 at h
      refine lv_iconst (v := 0) X.1 X.2.1 dX8_offer_149 (by decide) ?_
      exact q_iret X I hr dX8_offer_150 h (by decide) (by decide)
    refine lv_if_ne (tgt := 149) X.1 X.2.1 dX8_offer_81 (by decide) (fun c81 => ?_) (fun c81 => ?_)
    · have h := h.1 c81
      exact jn149 _ _ _ _ h I (lv_sub hl [] rfl)
    · have h := h.2 c81
      refine q_aload_n X dX8_offer_84 rfl (lv_at hl 1 rfl) ?_
      refine lv_iload_n X.1 X.2.1 dX8_offer_85 rfl (lv_at hl 2 rfl) ?_
      refine lv_iload_n X.1 X.2.1 dX8_offer_86 rfl (lv_at hl 3 rfl) ?_
      have jn120 : ∀ (x0 : Option Nat) (x1 : Int32) (x2 : Int32) (x3 : Int32) (x4 : Int32) (x5 : Int32) (x6 : Int32) (x7 : Int32) (x8 : Int32) (t0 : Option Nat) (t1 : Int32) (S : qS) (H : Heap) (locs : List Loc) (ls : Array Slot), pX8_offer_J120 post xp x0 x1 x2 x3 x4 x5 x6 x7 x8 t0 t1 S → q_H G A s H locs S → lv_has ls 11 [(0, va_rf x0), (1, .int x1), (2, .int x2), (3, .int x3), (4, .int x4), (5, .int x5), (6, .int x6), (7, .int x7), (8, .int x8)] → W p l e (q_rm 3 0 0) s m av below meth c H locs 0 0 (vx_MQ below (q_Qi G post A) (q_XC G A xp) av s 0 0 A) (F0 m 120 ls [.int t1, va_rf t0]) := by
        intro x0 x1 x2 x3 x4 x5 x6 x7 x8 t0 t1 S H locs ls h I hl
        unfold pX8_offer_J120 at h
        refine lv_iconst (v := 2) X.1 X.2.1 dX8_offer_120 (by decide) ?_
        refine q_cVi (As := [.int t1, .int (2 : Int32)]) (rest := []) (c1 := 0) (s1 := 0) (d := 1) (mc := 0) (ms := 0) X N I hl.1 mX8_throwsIf wd_947 dX8_offer_121 rfl h (fun b h => kX8_throwsIf hl0 h) rfl (Nat.le_of_ble_eq_true rfl) ⟨by decide, by decide⟩ ⟨by decide, by decide⟩ ⟨by decide, by decide⟩ rfl rfl (fun v121 S H locs I h => ?_)
        refine lv_if_ne (tgt := 149) X.1 X.2.1 dX8_offer_124 (by decide) (fun c124 => ?_) (fun c124 => ?_)
        · have h := h.1 c124
          exact jn149 _ _ _ _ h I (lv_sub hl [] rfl)
        · have h := h.2 c124
          refine q_aload_n X dX8_offer_127 rfl (lv_at hl 0 rfl) ?_
          refine q_aload_n X dX8_offer_128 rfl (lv_at hl 0 rfl) ?_
          refine q_getI (ci := 9) (k := 28) X I rfl inb_TX8 wd_866 (by decide) qt_388 dX8_offer_129 h (fun v129 h => ?_)
          refine lv_bipush (v := 60) X.1 X.2.1 dX8_offer_132 (by decide) ?_
          have jn142 : ∀ (x0 : Option Nat) (x1 : Int32) (x2 : Int32) (x3 : Int32) (x4 : Int32) (x5 : Int32) (x6 : Int32) (x7 : Int32) (x8 : Int32) (t0 : Option Nat) (t1 : Int32) (S : qS) (H : Heap) (locs : List Loc) (ls : Array Slot), pX8_offer_J142 post xp x0 x1 x2 x3 x4 x5 x6 x7 x8 t0 t1 S → q_H G A s H locs S → lv_has ls 11 [(0, va_rf x0), (1, .int x1), (2, .int x2), (3, .int x3), (4, .int x4), (5, .int x5), (6, .int x6), (7, .int x7), (8, .int x8)] → W p l e (q_rm 3 0 0) s m av below meth c H locs 0 0 (vx_MQ below (q_Qi G post A) (q_XC G A xp) av s 0 0 A) (F0 m 142 ls [.int t1, va_rf t0]) := by
            intro x0 x1 x2 x3 x4 x5 x6 x7 x8 t0 t1 S H locs ls h I hl
            unfold pX8_offer_J142 at h
            refine lv_iconst (v := 3) X.1 X.2.1 dX8_offer_142 (by decide) ?_
            refine q_cVi (As := [.int t1, .int (3 : Int32)]) (rest := []) (c1 := 0) (s1 := 0) (d := 1) (mc := 0) (ms := 0) X N I hl.1 mX8_throwsIf wd_947 dX8_offer_143 rfl h (fun b h => kX8_throwsIf hl0 h) rfl (Nat.le_of_ble_eq_true rfl) ⟨by decide, by decide⟩ ⟨by decide, by decide⟩ ⟨by decide, by decide⟩ rfl rfl (fun v143 S H locs I h => ?_)
            refine lv_if_eq (tgt := 151) X.1 X.2.1 dX8_offer_146 (by decide) (fun c146 => ?_) (fun c146 => ?_)
            · have h := h.1 c146
              refine lv_bipush (v := 10) X.1 X.2.1 dX8_offer_151 (by decide) ?_
              refine q_aload_n X dX8_offer_153 rfl (lv_at hl 0 rfl) ?_
              refine q_getI (ci := 9) (k := 28) X I rfl inb_TX8 wd_866 (by decide) qt_388 dX8_offer_154 h (fun v154 h => ?_)
              refine lv_imul X.1 X.2.1 dX8_offer_157 ?_
              refine lv_istore (i := 10) (lv' := [(10, .int ((10 : Int32) * v154)), (0, va_rf x0), (1, .int x1), (2, .int x2), (3, .int x3), (4, .int x4), (5, .int x5), (6, .int x6), (7, .int x7), (8, .int x8)]) X.1 X.2.1 dX8_offer_158 hl (by decide) rfl (fun ls hl => ?_)
              refine q_aload_n X dX8_offer_160 rfl (lv_at hl 1 rfl) ?_
              refine q_getR (ci := 9) (k := 26) X I rfl inb_TX8 wd_864 (by decide) qt_386 dX8_offer_161 h (fun v161 h => ?_)
              refine lv_iload X.1 X.2.1 dX8_offer_164 (lv_at hl 0 rfl) ?_
              refine lv_iload_n X.1 X.2.1 dX8_offer_166 rfl (lv_at hl 2 rfl) ?_
              refine q_stI X I (by decide) (by decide) dX8_offer_167 h (fun S H locs I h => ?_)
              refine q_aload_n X dX8_offer_168 rfl (lv_at hl 1 rfl) ?_
              refine q_getR (ci := 9) (k := 26) X I rfl inb_TX8 wd_864 (by decide) qt_386 dX8_offer_169 h (fun v169 h => ?_)
              refine lv_iload X.1 X.2.1 dX8_offer_172 (lv_at hl 0 rfl) ?_
              refine lv_iconst (v := 1) X.1 X.2.1 dX8_offer_174 (by decide) ?_
              refine lv_iadd X.1 X.2.1 dX8_offer_175 ?_
              refine lv_iload_n X.1 X.2.1 dX8_offer_176 rfl (lv_at hl 3 rfl) ?_
              refine q_stI X I (by decide) (by decide) dX8_offer_177 h (fun S H locs I h => ?_)
              refine q_aload_n X dX8_offer_178 rfl (lv_at hl 1 rfl) ?_
              refine q_getR (ci := 9) (k := 26) X I rfl inb_TX8 wd_864 (by decide) qt_386 dX8_offer_179 h (fun v179 h => ?_)
              refine lv_iload X.1 X.2.1 dX8_offer_182 (lv_at hl 0 rfl) ?_
              refine lv_iconst (v := 2) X.1 X.2.1 dX8_offer_184 (by decide) ?_
              refine lv_iadd X.1 X.2.1 dX8_offer_185 ?_
              refine lv_iload_n X.1 X.2.1 dX8_offer_186 rfl (lv_at hl 4 rfl) ?_
              refine q_stI X I (by decide) (by decide) dX8_offer_187 h (fun S H locs I h => ?_)
              refine q_aload_n X dX8_offer_188 rfl (lv_at hl 1 rfl) ?_
              refine q_getR (ci := 9) (k := 26) X I rfl inb_TX8 wd_864 (by decide) qt_386 dX8_offer_189 h (fun v189 h => ?_)
              refine lv_iload X.1 X.2.1 dX8_offer_192 (lv_at hl 0 rfl) ?_
              refine lv_iconst (v := 3) X.1 X.2.1 dX8_offer_194 (by decide) ?_
              refine lv_iadd X.1 X.2.1 dX8_offer_195 ?_
              refine lv_iload X.1 X.2.1 dX8_offer_196 (lv_at hl 5 rfl) ?_
              refine q_stI X I (by decide) (by decide) dX8_offer_198 h (fun S H locs I h => ?_)
              refine q_aload_n X dX8_offer_199 rfl (lv_at hl 1 rfl) ?_
              refine q_getR (ci := 9) (k := 26) X I rfl inb_TX8 wd_864 (by decide) qt_386 dX8_offer_200 h (fun v200 h => ?_)
              refine lv_iload X.1 X.2.1 dX8_offer_203 (lv_at hl 0 rfl) ?_
              refine lv_iconst (v := 4) X.1 X.2.1 dX8_offer_205 (by decide) ?_
              refine lv_iadd X.1 X.2.1 dX8_offer_206 ?_
              refine lv_iload X.1 X.2.1 dX8_offer_207 (lv_at hl 6 rfl) ?_
              refine q_stI X I (by decide) (by decide) dX8_offer_209 h (fun S H locs I h => ?_)
              refine q_aload_n X dX8_offer_210 rfl (lv_at hl 1 rfl) ?_
              refine q_getR (ci := 9) (k := 26) X I rfl inb_TX8 wd_864 (by decide) qt_386 dX8_offer_211 h (fun v211 h => ?_)
              refine lv_iload X.1 X.2.1 dX8_offer_214 (lv_at hl 0 rfl) ?_
              refine lv_iconst (v := 5) X.1 X.2.1 dX8_offer_216 (by decide) ?_
              refine lv_iadd X.1 X.2.1 dX8_offer_217 ?_
              refine lv_iload X.1 X.2.1 dX8_offer_218 (lv_at hl 7 rfl) ?_
              refine q_stI X I (by decide) (by decide) dX8_offer_220 h (fun S H locs I h => ?_)
              refine q_aload_n X dX8_offer_221 rfl (lv_at hl 1 rfl) ?_
              refine q_getR (ci := 9) (k := 26) X I rfl inb_TX8 wd_864 (by decide) qt_386 dX8_offer_222 h (fun v222 h => ?_)
              refine lv_iload X.1 X.2.1 dX8_offer_225 (lv_at hl 0 rfl) ?_
              refine lv_bipush (v := 6) X.1 X.2.1 dX8_offer_227 (by decide) ?_
              refine lv_iadd X.1 X.2.1 dX8_offer_229 ?_
              refine lv_iload X.1 X.2.1 dX8_offer_230 (lv_at hl 8 rfl) ?_
              refine q_stI X I (by decide) (by decide) dX8_offer_232 h (fun S H locs I h => ?_)
              refine q_aload_n X dX8_offer_233 rfl (lv_at hl 1 rfl) ?_
              refine q_getR (ci := 9) (k := 26) X I rfl inb_TX8 wd_864 (by decide) qt_386 dX8_offer_234 h (fun v234 h => ?_)
              refine lv_iload X.1 X.2.1 dX8_offer_237 (lv_at hl 0 rfl) ?_
              refine lv_bipush (v := 7) X.1 X.2.1 dX8_offer_239 (by decide) ?_
              refine lv_iadd X.1 X.2.1 dX8_offer_241 ?_
              refine lv_iload X.1 X.2.1 dX8_offer_242 (lv_at hl 9 rfl) ?_
              refine q_stI X I (by decide) (by decide) dX8_offer_244 h (fun S H locs I h => ?_)
              refine q_aload_n X dX8_offer_245 rfl (lv_at hl 1 rfl) ?_
              refine q_getR (ci := 9) (k := 26) X I rfl inb_TX8 wd_864 (by decide) qt_386 dX8_offer_246 h (fun v246 h => ?_)
              refine lv_iload X.1 X.2.1 dX8_offer_249 (lv_at hl 0 rfl) ?_
              refine lv_bipush (v := 8) X.1 X.2.1 dX8_offer_251 (by decide) ?_
              refine lv_iadd X.1 X.2.1 dX8_offer_253 ?_
              refine lv_iload X.1 X.2.1 dX8_offer_254 (lv_at hl 6 rfl) ?_
              have jn270 : ∀ (x0 : Option Nat) (x8 : Int32) (x10 : Int32) (t0 : Option Nat) (t1 : Int32) (t2 : Int32) (S : qS) (H : Heap) (locs : List Loc) (ls : Array Slot), pX8_offer_J270 post xp x0 x8 x10 t0 t1 t2 S → q_H G A s H locs S → lv_has ls 11 [(0, va_rf x0), (8, .int x8), (10, .int x10)] → W p l e (q_rm 3 0 0) s m av below meth c H locs 0 0 (vx_MQ below (q_Qi G post A) (q_XC G A xp) av s 0 0 A) (F0 m 270 ls [.int t2, .int t1, va_rf t0]) := by
                intro x0 x8 x10 t0 t1 t2 S H locs ls h I hl
                unfold pX8_offer_J270 at h
                refine q_stI X I (by decide) (by decide) dX8_offer_270 h (fun S H locs I h => ?_)
                refine q_aload_n X dX8_offer_271 rfl (lv_at hl 0 rfl) ?_
                refine q_getR (ci := 9) (k := 26) X I rfl inb_TX8 wd_864 (by decide) qt_386 dX8_offer_272 h (fun v272 h => ?_)
                refine lv_iload X.1 X.2.1 dX8_offer_275 (lv_at hl 2 rfl) ?_
                refine lv_bipush (v := 9) X.1 X.2.1 dX8_offer_277 (by decide) ?_
                refine lv_iadd X.1 X.2.1 dX8_offer_279 ?_
                refine lv_iload X.1 X.2.1 dX8_offer_280 (lv_at hl 1 rfl) ?_
                have jn296 : ∀ (x0 : Option Nat) (t0 : Option Nat) (t1 : Int32) (t2 : Int32) (S : qS) (H : Heap) (locs : List Loc) (ls : Array Slot), pX8_offer_J296 post xp x0 t0 t1 t2 S → q_H G A s H locs S → lv_has ls 11 [(0, va_rf x0)] → W p l e (q_rm 3 0 0) s m av below meth c H locs 0 0 (vx_MQ below (q_Qi G post A) (q_XC G A xp) av s 0 0 A) (F0 m 296 ls [.int t2, .int t1, va_rf t0]) := by
                  intro x0 t0 t1 t2 S H locs ls h I hl
                  unfold pX8_offer_J296 at h
                  refine q_stI X I (by decide) (by decide) dX8_offer_296 h (fun S H locs I h => ?_)
                  refine q_aload_n X dX8_offer_297 rfl (lv_at hl 0 rfl) ?_
                  refine q_getR (ci := 9) (k := 27) X I rfl inb_TX8 wd_865 (by decide) qt_387 dX8_offer_298 h (fun v298 h => ?_)
                  refine q_aload_n X dX8_offer_301 rfl (lv_at hl 0 rfl) ?_
                  refine q_getI (ci := 9) (k := 28) X I rfl inb_TX8 wd_866 (by decide) qt_388 dX8_offer_302 h (fun v302 h => ?_)
                  refine lv_iconst (v := 1) X.1 X.2.1 dX8_offer_305 (by decide) ?_
                  refine q_stZ X I (by decide) (by decide) dX8_offer_306 h (fun S H locs I h => ?_)
                  refine q_aload_n X dX8_offer_307 rfl (lv_at hl 0 rfl) ?_
                  refine lv_dup X.1 X.2.1 dX8_offer_308 (q_cat _) ?_
                  refine q_getI (ci := 9) (k := 28) X I rfl inb_TX8 wd_866 (by decide) qt_388 dX8_offer_309 h (fun v309 h => ?_)
                  refine lv_iconst (v := 1) X.1 X.2.1 dX8_offer_312 (by decide) ?_
                  refine lv_iadd X.1 X.2.1 dX8_offer_313 ?_
                  refine q_putI (ci := 9) (k := 28) X I rfl inb_TX8 tyX8_ok nmX8 wd_866 (by decide) (Or.inl rfl) qt_388 rfl dX8_offer_314 h (fun S H locs I h => ?_)
                  refine q_aload_n X dX8_offer_317 rfl (lv_at hl 0 rfl) ?_
                  refine q_getI (ci := 9) (k := 28) X I rfl inb_TX8 wd_866 (by decide) qt_388 dX8_offer_318 h (fun v318 h => ?_)
                  refine lv_iconst (v := 1) X.1 X.2.1 dX8_offer_321 (by decide) ?_
                  refine lv_isub X.1 X.2.1 dX8_offer_322 ?_
                  exact q_iret X I hr dX8_offer_323 h (by decide) (by decide)
                refine lv_if_ge (tgt := 289) X.1 X.2.1 dX8_offer_282 (by decide) (fun c282 => ?_) (fun c282 => ?_)
                · have h := h.1 c282
                  refine q_aload_n X dX8_offer_289 rfl (lv_at hl 0 rfl) ?_
                  refine q_getR (ci := 9) (k := 15) X I rfl inb_TX8 wd_853 (by decide) qt_375 dX8_offer_290 h (fun v290 h => ?_)
                  refine lv_iload X.1 X.2.1 dX8_offer_293 (lv_at hl 1 rfl) ?_
                  refine q_ldI X I (by decide) (by decide) dX8_offer_295 h (fun v295 h => ?_)
                  exact jn296 _ _ _ _ _ _ _ _ h I (lv_sub hl [0] rfl)
                · have h := h.2 c282
                  refine lv_iconst (v := 0) X.1 X.2.1 dX8_offer_285 (by decide) ?_
                  refine lv_goto (tgt := 296) X.1 X.2.1 dX8_offer_286 (by decide) ?_
                  exact jn296 _ _ _ _ _ _ _ _ h I (lv_sub hl [0] rfl)
              refine lv_if_ge (tgt := 263) X.1 X.2.1 dX8_offer_256 (by decide) (fun c256 => ?_) (fun c256 => ?_)
              · have h := h.1 c256
                refine q_aload_n X dX8_offer_263 rfl (lv_at hl 1 rfl) ?_
                refine q_getR (ci := 9) (k := 15) X I rfl inb_TX8 wd_853 (by decide) qt_375 dX8_offer_264 h (fun v264 h => ?_)
                refine lv_iload X.1 X.2.1 dX8_offer_267 (lv_at hl 6 rfl) ?_
                refine q_ldI X I (by decide) (by decide) dX8_offer_269 h (fun v269 h => ?_)
                exact jn270 _ _ _ _ _ _ _ _ _ _ h I (lv_sub hl [1, 9, 0] rfl)
              · have h := h.2 c256
                refine lv_iconst (v := 0) X.1 X.2.1 dX8_offer_259 (by decide) ?_
                refine lv_goto (tgt := 270) X.1 X.2.1 dX8_offer_260 (by decide) ?_
                exact jn270 _ _ _ _ _ _ _ _ _ _ h I (lv_sub hl [1, 9, 0] rfl)
            · have h := h.2 c146
              exact jn149 _ _ _ _ h I (lv_sub hl [] rfl)
          refine lv_icmp_ne (tgt := 141) X.1 X.2.1 dX8_offer_134 (by decide) (fun c134 => ?_) (fun c134 => ?_)
          · have h := h.1 c134
            refine lv_iconst (v := 0) X.1 X.2.1 dX8_offer_141 (by decide) ?_
            exact jn142 _ _ _ _ _ _ _ _ _ _ _ _ _ _ _ h I (lv_sub hl [0, 1, 2, 3, 4, 5, 6, 7, 8] rfl)
          · have h := h.2 c134
            refine lv_iconst (v := 1) X.1 X.2.1 dX8_offer_137 (by decide) ?_
            refine lv_goto (tgt := 142) X.1 X.2.1 dX8_offer_138 (by decide) ?_
            exact jn142 _ _ _ _ _ _ _ _ _ _ _ _ _ _ _ h I (lv_sub hl [0, 1, 2, 3, 4, 5, 6, 7, 8] rfl)
      have jn115 : ∀ (x0 : Option Nat) (x1 : Int32) (x2 : Int32) (x3 : Int32) (x4 : Int32) (x5 : Int32) (x6 : Int32) (x7 : Int32) (x8 : Int32) (t0 : Option Nat) (S : qS) (H : Heap) (locs : List Loc) (ls : Array Slot), pX8_offer_J115 post xp x0 x1 x2 x3 x4 x5 x6 x7 x8 t0 S → q_H G A s H locs S → lv_has ls 11 [(0, va_rf x0), (1, .int x1), (2, .int x2), (3, .int x3), (4, .int x4), (5, .int x5), (6, .int x6), (7, .int x7), (8, .int x8)] → W p l e (q_rm 3 0 0) s m av below meth c H locs 0 0 (vx_MQ below (q_Qi G post A) (q_XC G A xp) av s 0 0 A) (F0 m 115 ls [va_rf t0]) := by
        intro x0 x1 x2 x3 x4 x5 x6 x7 x8 t0 S H locs ls h I hl
        unfold pX8_offer_J115 at h
        refine lv_iconst (v := 1) X.1 X.2.1 dX8_offer_115 (by decide) ?_
        refine lv_goto (tgt := 120) X.1 X.2.1 dX8_offer_116 (by decide) ?_
        exact jn120 _ _ _ _ _ _ _ _ _ _ _ _ _ _ _ h I (lv_sub hl [0, 1, 2, 3, 4, 5, 6, 7, 8] rfl)
      refine lv_icmp_eq (tgt := 115) X.1 X.2.1 dX8_offer_87 (by decide) (fun c87 => ?_) (fun c87 => ?_)
      · have h := h.1 c87
        exact jn115 _ _ _ _ _ _ _ _ _ _ _ _ _ _ h I (lv_sub hl [1, 2, 3, 4, 5, 6, 7, 8, 9] rfl)
      · have h := h.2 c87
        refine lv_iload_n X.1 X.2.1 dX8_offer_90 rfl (lv_at hl 4 rfl) ?_
        refine lv_i2l X.1 X.2.1 dX8_offer_91 rfl ?_
        refine lv_lconst (v := 0) X.1 X.2.1 dX8_offer_92 (by decide) ?_
        refine lv_ldc2 X.1 X.2.1 X.2.2.1 (X.2.2.2.1 _ wd_1068) dX8_offer_93 ?_
        refine q_cSi (As := [.long x3.toInt64, .long (0 : Int64), .long (1000000 : Int64)]) (rest := [va_rf x0]) (c1 := 0) (s1 := 0) (d := 1) (mc := 0) (ms := 0) X N I hl.1 mX8_in wd_963 dX8_offer_96 rfl (kX8_in hl0 h) rfl (by simp [q_cat, q_catI, q_catJ]) ⟨by decide, by decide⟩ ⟨by decide, by decide⟩ ⟨by decide, by decide⟩ rfl rfl (fun v96 S H locs I h => ?_)
        refine lv_if_eq (tgt := 115) X.1 X.2.1 dX8_offer_99 (by decide) (fun c99 => ?_) (fun c99 => ?_)
        · have h := h.1 c99
          exact jn115 _ _ _ _ _ _ _ _ _ _ _ _ _ _ h I (lv_sub hl [1, 2, 3, 4, 5, 6, 7, 8, 9] rfl)
        · have h := h.2 c99
          refine lv_iload X.1 X.2.1 dX8_offer_102 (lv_at hl 7 rfl) ?_
          refine lv_i2l X.1 X.2.1 dX8_offer_104 rfl ?_
          refine lv_lconst (v := 0) X.1 X.2.1 dX8_offer_105 (by decide) ?_
          refine lv_ldc2 X.1 X.2.1 X.2.2.1 (X.2.2.2.1 _ wd_1068) dX8_offer_106 ?_
          refine q_cSi (As := [.long x6.toInt64, .long (0 : Int64), .long (1000000 : Int64)]) (rest := [va_rf x0]) (c1 := 0) (s1 := 0) (d := 1) (mc := 0) (ms := 0) X N I hl.1 mX8_in wd_963 dX8_offer_109 rfl (kX8_in hl0 h) rfl (by simp [q_cat, q_catI, q_catJ]) ⟨by decide, by decide⟩ ⟨by decide, by decide⟩ ⟨by decide, by decide⟩ rfl rfl (fun v109 S H locs I h => ?_)
          refine lv_if_ne (tgt := 119) X.1 X.2.1 dX8_offer_112 (by decide) (fun c112 => ?_) (fun c112 => ?_)
          · have h := h.1 c112
            refine lv_iconst (v := 0) X.1 X.2.1 dX8_offer_119 (by decide) ?_
            exact jn120 _ _ _ _ _ _ _ _ _ _ _ _ _ _ _ h I (lv_sub hl [1, 2, 3, 4, 5, 6, 7, 8, 9] rfl)
          · have h := h.2 c112
            exact jn115 _ _ _ _ _ _ _ _ _ _ _ _ _ _ h I (lv_sub hl [1, 2, 3, 4, 5, 6, 7, 8, 9] rfl)
  have jn67 : ∀ (x0 : Option Nat) (x1 : Int32) (x2 : Int32) (x3 : Int32) (x4 : Int32) (x5 : Int32) (x6 : Int32) (x7 : Int32) (x8 : Int32) (S : qS) (H : Heap) (locs : List Loc) (ls : Array Slot), pX8_offer_J67 post xp x0 x1 x2 x3 x4 x5 x6 x7 x8 S → q_H G A s H locs S → lv_has ls 11 [(0, va_rf x0), (1, .int x1), (2, .int x2), (3, .int x3), (4, .int x4), (5, .int x5), (6, .int x6), (7, .int x7), (8, .int x8)] → W p l e (q_rm 3 0 0) s m av below meth c H locs 0 0 (vx_MQ below (q_Qi G post A) (q_XC G A xp) av s 0 0 A) (F0 m 67 ls []) := by
    intro x0 x1 x2 x3 x4 x5 x6 x7 x8 S H locs ls h I hl
    unfold pX8_offer_J67 at h
    refine lv_iconst (v := 1) X.1 X.2.1 dX8_offer_67 (by decide) ?_
    refine lv_goto (tgt := 72) X.1 X.2.1 dX8_offer_68 (by decide) ?_
    exact jn72 _ _ _ _ _ _ _ _ _ _ _ _ _ _ h I (lv_sub hl [0, 1, 2, 3, 4, 5, 6, 7, 8] rfl)
  refine lv_if_ne (tgt := 67) X.1 X.2.1 dX8_offer_10 (by decide) (fun c10 => ?_) (fun c10 => ?_)
  · have h := h.1 c10
    exact jn67 _ _ _ _ _ _ _ _ _ _ _ _ _ h I (lv_sub hl [0, 1, 2, 3, 4, 5, 6, 7, 8] rfl)
  · have h := h.2 c10
    refine q_aload_n X dX8_offer_13 rfl (lv_at hl 0 rfl) ?_
    refine lv_iload_n X.1 X.2.1 dX8_offer_14 rfl (lv_at hl 2 rfl) ?_
    refine q_cVi (As := [.int x2]) (rest := []) (c1 := 0) (s1 := 0) (d := 2) (mc := 0) (ms := 0) X N I hl.1 mX8_noPlayer wd_975 dX8_offer_15 rfl h (fun b h => kX8_noPlayer hl0 h) rfl (Nat.le_of_ble_eq_true rfl) ⟨by decide, by decide⟩ ⟨by decide, by decide⟩ ⟨by decide, by decide⟩ rfl rfl (fun v15 S H locs I h => ?_)
    refine lv_if_ne (tgt := 67) X.1 X.2.1 dX8_offer_18 (by decide) (fun c18 => ?_) (fun c18 => ?_)
    · have h := h.1 c18
      exact jn67 _ _ _ _ _ _ _ _ _ _ _ _ _ h I (lv_sub hl [0, 1, 2, 3, 4, 5, 6, 7, 8] rfl)
    · have h := h.2 c18
      refine lv_iload X.1 X.2.1 dX8_offer_21 (lv_at hl 4 rfl) ?_
      refine q_cSi (As := [.int x4]) (rest := []) (c1 := 0) (s1 := 0) (d := 2) (mc := 0) (ms := 0) X N I hl.1 mX8_noKind wd_966 dX8_offer_23 rfl (kX8_noKind hl0 h) rfl (Nat.le_of_ble_eq_true rfl) ⟨by decide, by decide⟩ ⟨by decide, by decide⟩ ⟨by decide, by decide⟩ rfl rfl (fun v23 S H locs I h => ?_)
      refine lv_if_ne (tgt := 67) X.1 X.2.1 dX8_offer_26 (by decide) (fun c26 => ?_) (fun c26 => ?_)
      · have h := h.1 c26
        exact jn67 _ _ _ _ _ _ _ _ _ _ _ _ _ h I (lv_sub hl [0, 1, 2, 3, 4, 5, 6, 7, 8] rfl)
      · have h := h.2 c26
        refine lv_iload X.1 X.2.1 dX8_offer_29 (lv_at hl 7 rfl) ?_
        refine q_cSi (As := [.int x7]) (rest := []) (c1 := 0) (s1 := 0) (d := 2) (mc := 0) (ms := 0) X N I hl.1 mX8_noKind wd_966 dX8_offer_31 rfl (kX8_noKind hl0 h) rfl (Nat.le_of_ble_eq_true rfl) ⟨by decide, by decide⟩ ⟨by decide, by decide⟩ ⟨by decide, by decide⟩ rfl rfl (fun v31 S H locs I h => ?_)
        refine lv_if_ne (tgt := 67) X.1 X.2.1 dX8_offer_34 (by decide) (fun c34 => ?_) (fun c34 => ?_)
        · have h := h.1 c34
          exact jn67 _ _ _ _ _ _ _ _ _ _ _ _ _ h I (lv_sub hl [0, 1, 2, 3, 4, 5, 6, 7, 8] rfl)
        · have h := h.2 c34
          refine lv_iload X.1 X.2.1 dX8_offer_37 (lv_at hl 5 rfl) ?_
          refine lv_iconst (v := -1) X.1 X.2.1 dX8_offer_39 (by decide) ?_
          have jn52 : ∀ (x0 : Option Nat) (x1 : Int32) (x2 : Int32) (x3 : Int32) (x4 : Int32) (x5 : Int32) (x6 : Int32) (x7 : Int32) (x8 : Int32) (S : qS) (H : Heap) (locs : List Loc) (ls : Array Slot), pX8_offer_J52 post xp x0 x1 x2 x3 x4 x5 x6 x7 x8 S → q_H G A s H locs S → lv_has ls 11 [(0, va_rf x0), (1, .int x1), (2, .int x2), (3, .int x3), (4, .int x4), (5, .int x5), (6, .int x6), (7, .int x7), (8, .int x8)] → W p l e (q_rm 3 0 0) s m av below meth c H locs 0 0 (vx_MQ below (q_Qi G post A) (q_XC G A xp) av s 0 0 A) (F0 m 52 ls []) := by
            intro x0 x1 x2 x3 x4 x5 x6 x7 x8 S H locs ls h I hl
            unfold pX8_offer_J52 at h
            refine lv_iload X.1 X.2.1 dX8_offer_52 (lv_at hl 8 rfl) ?_
            refine lv_iconst (v := -1) X.1 X.2.1 dX8_offer_54 (by decide) ?_
            have jn71 : ∀ (x0 : Option Nat) (x1 : Int32) (x2 : Int32) (x3 : Int32) (x4 : Int32) (x5 : Int32) (x6 : Int32) (x7 : Int32) (x8 : Int32) (S : qS) (H : Heap) (locs : List Loc) (ls : Array Slot), pX8_offer_J71 post xp x0 x1 x2 x3 x4 x5 x6 x7 x8 S → q_H G A s H locs S → lv_has ls 11 [(0, va_rf x0), (1, .int x1), (2, .int x2), (3, .int x3), (4, .int x4), (5, .int x5), (6, .int x6), (7, .int x7), (8, .int x8)] → W p l e (q_rm 3 0 0) s m av below meth c H locs 0 0 (vx_MQ below (q_Qi G post A) (q_XC G A xp) av s 0 0 A) (F0 m 71 ls []) := by
              intro x0 x1 x2 x3 x4 x5 x6 x7 x8 S H locs ls h I hl
              unfold pX8_offer_J71 at h
              refine lv_iconst (v := 0) X.1 X.2.1 dX8_offer_71 (by decide) ?_
              exact jn72 _ _ _ _ _ _ _ _ _ _ _ _ _ _ h I (lv_sub hl [0, 1, 2, 3, 4, 5, 6, 7, 8] rfl)
            refine lv_icmp_eq (tgt := 71) X.1 X.2.1 dX8_offer_55 (by decide) (fun c55 => ?_) (fun c55 => ?_)
            · have h := h.1 c55
              exact jn71 _ _ _ _ _ _ _ _ _ _ _ _ _ h I (lv_sub hl [0, 1, 2, 3, 4, 5, 6, 7, 8] rfl)
            · have h := h.2 c55
              refine q_aload_n X dX8_offer_58 rfl (lv_at hl 0 rfl) ?_
              refine lv_iload X.1 X.2.1 dX8_offer_59 (lv_at hl 8 rfl) ?_
              refine q_cVi (As := [.int x8]) (rest := []) (c1 := 0) (s1 := 0) (d := 2) (mc := 0) (ms := 0) X N I hl.1 mX8_noSingle wd_1006 dX8_offer_61 rfl h (fun b h => kX8_noSingle hl0 h) rfl (Nat.le_of_ble_eq_true rfl) ⟨by decide, by decide⟩ ⟨by decide, by decide⟩ ⟨by decide, by decide⟩ rfl rfl (fun v61 S H locs I h => ?_)
              refine lv_if_eq (tgt := 71) X.1 X.2.1 dX8_offer_64 (by decide) (fun c64 => ?_) (fun c64 => ?_)
              · have h := h.1 c64
                exact jn71 _ _ _ _ _ _ _ _ _ _ _ _ _ h I (lv_sub hl [0, 1, 2, 3, 4, 5, 6, 7, 8] rfl)
              · have h := h.2 c64
                exact jn67 _ _ _ _ _ _ _ _ _ _ _ _ _ h I (lv_sub hl [0, 1, 2, 3, 4, 5, 6, 7, 8] rfl)
          refine lv_icmp_eq (tgt := 52) X.1 X.2.1 dX8_offer_40 (by decide) (fun c40 => ?_) (fun c40 => ?_)
          · have h := h.1 c40
            exact jn52 _ _ _ _ _ _ _ _ _ _ _ _ _ h I (lv_sub hl [0, 1, 2, 3, 4, 5, 6, 7, 8] rfl)
          · have h := h.2 c40
            refine q_aload_n X dX8_offer_43 rfl (lv_at hl 0 rfl) ?_
            refine lv_iload X.1 X.2.1 dX8_offer_44 (lv_at hl 5 rfl) ?_
            refine q_cVi (As := [.int x5]) (rest := []) (c1 := 0) (s1 := 0) (d := 2) (mc := 0) (ms := 0) X N I hl.1 mX8_noSingle wd_1006 dX8_offer_46 rfl h (fun b h => kX8_noSingle hl0 h) rfl (Nat.le_of_ble_eq_true rfl) ⟨by decide, by decide⟩ ⟨by decide, by decide⟩ ⟨by decide, by decide⟩ rfl rfl (fun v46 S H locs I h => ?_)
            refine lv_if_ne (tgt := 67) X.1 X.2.1 dX8_offer_49 (by decide) (fun c49 => ?_) (fun c49 => ?_)
            · have h := h.1 c49
              exact jn67 _ _ _ _ _ _ _ _ _ _ _ _ _ h I (lv_sub hl [0, 1, 2, 3, 4, 5, 6, 7, 8] rfl)
            · have h := h.2 c49
              exact jn52 _ _ _ _ _ _ _ _ _ _ _ _ _ h I (lv_sub hl [0, 1, 2, 3, 4, 5, 6, 7, 8] rfl)

def pX8_after_J44  (post : Int32 → qS → Prop) (xp : String → qS → Prop) (t0 : Int32) (S : qS) : Prop :=
  post t0 S
def pX8_after_J25  (post : Int32 → qS → Prop) (xp : String → qS → Prop) (x5 : Int32) (x6 : Int32) (S : qS) : Prop :=
  ((x6 ≤ ((1000000000 : Int32) - x5) →
  pX8_after_J44 post xp (x6 + x5) S) ∧ (¬ x6 ≤ ((1000000000 : Int32) - x5) →
  pX8_after_J44 post xp (-1 : Int32) S))
def pX8_after (x0 : Nat) (x1 : Int32) (x2 : Int32) (x3 : Int32) (x4 : Int32) (x5 : Int32) (S : qS) (post : Int32 → qS → Prop) (xp : String → qS → Prop) : Prop :=
  w_getR S (some x0) 9 2 (fun v1 =>
  w_ldI S v1 32 (((4 : Int32) * x1) + x4) (fun v10 =>
  ((¬ x2 = x4 →
  pX8_after_J25 post xp x5 v10 S) ∧ (x2 = x4 →
  pX8_after_J25 post xp x5 (v10 - x3) S))))
set_option maxHeartbeats 4000000 in
set_option maxRecDepth 100000 in
theorem kX8_after {l : Launch} (hl0 : l.stackTraces = false) {G : qG} {S : qS} {sz : Nat} {x0 : Nat} {x1 : Int32} {x2 : Int32} {x3 : Int32} {x4 : Int32} {x5 : Int32} {post : Int32 → qS → Prop} {xp : String → qS → Prop} (h : pX8_after x0 x1 x2 x3 x4 x5 S post xp) : q_M l yX8_after cX8_after 7 (some .int) 1 0 0 G S sz [va_rf (some x0), .int x1, .int x2, .int x3, .int x4, .int x5] (q_Qi G post) xp := by
  refine q_of (lv := [(0, va_rf (some x0)), (1, .int x1), (2, .int x2), (3, .int x3), (4, .int x4), (5, .int x5)]) hl0 (by decide) rfl (Nat.le_of_ble_eq_true rfl) (fun p e s m below meth c A ls X N hr hnm I hl => ?_)
  generalize ([va_rf (some x0), .int x1, .int x2, .int x3, .int x4, .int x5] : List Value).toArray = av at X ⊢
  unfold pX8_after at h
  refine q_aload_n X dX8_after_0 rfl (lv_at hl 0 rfl) ?_
  refine q_getR (ci := 9) (k := 2) X I rfl inb_TX8 wd_840 (by decide) qt_362 dX8_after_1 h (fun v1 h => ?_)
  refine lv_iconst (v := 4) X.1 X.2.1 dX8_after_4 (by decide) ?_
  refine lv_iload_n X.1 X.2.1 dX8_after_5 rfl (lv_at hl 1 rfl) ?_
  refine lv_imul X.1 X.2.1 dX8_after_6 ?_
  refine lv_iload X.1 X.2.1 dX8_after_7 (lv_at hl 4 rfl) ?_
  refine lv_iadd X.1 X.2.1 dX8_after_9 ?_
  refine q_ldI X I (by decide) (by decide) dX8_after_10 h (fun v10 h => ?_)
  refine lv_istore (i := 6) (lv' := [(6, .int v10), (0, va_rf (some x0)), (1, .int x1), (2, .int x2), (3, .int x3), (4, .int x4), (5, .int x5)]) X.1 X.2.1 dX8_after_11 hl (by decide) rfl (fun ls hl => ?_)
  refine lv_iload_n X.1 X.2.1 dX8_after_13 rfl (lv_at hl 3 rfl) ?_
  refine lv_iload X.1 X.2.1 dX8_after_14 (lv_at hl 5 rfl) ?_
  have jn25 : ∀ (x5 : Int32) (x6 : Int32) (S : qS) (H : Heap) (locs : List Loc) (ls : Array Slot), pX8_after_J25 post xp x5 x6 S → q_H G A s H locs S → lv_has ls 7 [(5, .int x5), (6, .int x6)] → W p l e (q_rm 1 0 0) s m av below meth c H locs 0 0 (vx_MQ below (q_Qi G post A) (q_XC G A xp) av s 0 0 A) (F0 m 25 ls []) := by
    intro x5 x6 S H locs ls h I hl
    unfold pX8_after_J25 at h
    refine lv_iload X.1 X.2.1 dX8_after_25 (lv_at hl 1 rfl) ?_
    refine lv_ldc X.1 X.2.1 X.2.2.1 (X.2.2.2.1 _ wd_1081) dX8_after_27 ?_
    refine lv_iload X.1 X.2.1 dX8_after_29 (lv_at hl 0 rfl) ?_
    refine lv_isub X.1 X.2.1 dX8_after_31 ?_
    have jn44 : ∀ (t0 : Int32) (S : qS) (H : Heap) (locs : List Loc) (ls : Array Slot), pX8_after_J44 post xp t0 S → q_H G A s H locs S → lv_has ls 7 [] → W p l e (q_rm 1 0 0) s m av below meth c H locs 0 0 (vx_MQ below (q_Qi G post A) (q_XC G A xp) av s 0 0 A) (F0 m 44 ls [.int t0]) := by
      intro t0 S H locs ls h I hl
      unfold pX8_after_J44 at h
      exact q_iret X I hr dX8_after_44 h (by decide) (by decide)
    refine lv_icmp_le (tgt := 39) X.1 X.2.1 dX8_after_32 (by decide) (fun c32 => ?_) (fun c32 => ?_)
    · have h := h.1 c32
      refine lv_iload X.1 X.2.1 dX8_after_39 (lv_at hl 1 rfl) ?_
      refine lv_iload X.1 X.2.1 dX8_after_41 (lv_at hl 0 rfl) ?_
      refine lv_iadd X.1 X.2.1 dX8_after_43 ?_
      exact jn44 _ _ _ _ _ h I (lv_sub hl [] rfl)
    · have h := h.2 c32
      refine lv_iconst (v := -1) X.1 X.2.1 dX8_after_35 (by decide) ?_
      refine lv_goto (tgt := 44) X.1 X.2.1 dX8_after_36 (by decide) ?_
      exact jn44 _ _ _ _ _ h I (lv_sub hl [] rfl)
  refine lv_icmp_ne (tgt := 25) X.1 X.2.1 dX8_after_16 (by decide) (fun c16 => ?_) (fun c16 => ?_)
  · have h := h.1 c16
    exact jn25 _ _ _ _ _ _ h I (lv_sub hl [6, 0] rfl)
  · have h := h.2 c16
    refine lv_iload X.1 X.2.1 dX8_after_19 (lv_at hl 0 rfl) ?_
    refine lv_iload_n X.1 X.2.1 dX8_after_21 rfl (lv_at hl 4 rfl) ?_
    refine lv_isub X.1 X.2.1 dX8_after_22 ?_
    refine lv_istore (i := 6) (lv' := [(6, .int (v10 - x3)), (0, va_rf (some x0)), (1, .int x1), (2, .int x2), (3, .int x3), (4, .int x4), (5, .int x5)]) X.1 X.2.1 dX8_after_23 hl (by decide) rfl (fun ls hl => ?_)
    exact jn25 _ _ _ _ _ _ h I (lv_sub hl [6, 0] rfl)

def pX8_against_J294  (post : Int32 → qS → Prop) (xp : String → qS → Prop) (t0 : Int32) (S : qS) : Prop :=
  post t0 S
def pX8_against_J288  (post : Int32 → qS → Prop) (xp : String → qS → Prop)  (S : qS) : Prop :=
  pX8_against_J294 post xp (8 : Int32) S
def pX8_against_J293  (post : Int32 → qS → Prop) (xp : String → qS → Prop)  (S : qS) : Prop :=
  pX8_against_J294 post xp (0 : Int32) S
def pX8_against_J264  (post : Int32 → qS → Prop) (xp : String → qS → Prop) (x0 : Option Nat) (x1 : Int32) (x5 : Int32) (S : qS) : Prop :=
  ((x5 < 0 →
  pX8_against_J293 post xp S) ∧ (¬ x5 < 0 →
  w_getR S x0 9 15 (fun v270 =>
  w_ldI S v270 45 x5 (fun v275 =>
  w_getR S x0 9 26 (fun v277 =>
  w_ldI S v277 56 (x1 + (9 : Int32)) (fun v284 =>
  ((v275 = v284 →
  pX8_against_J293 post xp S) ∧ (¬ v275 = v284 →
  pX8_against_J288 post xp S))))))))
def pX8_against_J240  (post : Int32 → qS → Prop) (xp : String → qS → Prop) (x0 : Option Nat) (x1 : Int32) (x4 : Int32) (x5 : Int32) (S : qS) : Prop :=
  ((x4 < 0 →
  pX8_against_J264 post xp x0 x1 x5 S) ∧ (¬ x4 < 0 →
  w_getR S x0 9 15 (fun v246 =>
  w_ldI S v246 45 x4 (fun v251 =>
  w_getR S x0 9 26 (fun v253 =>
  w_ldI S v253 56 (x1 + (8 : Int32)) (fun v260 =>
  ((¬ v251 = v260 →
  pX8_against_J288 post xp S) ∧ (v251 = v260 →
  pX8_against_J264 post xp x0 x1 x5 S))))))))
def pX8_against_J237  (post : Int32 → qS → Prop) (xp : String → qS → Prop)  (S : qS) : Prop :=
  post (7 : Int32) S
def pX8_against_J212  (post : Int32 → qS → Prop) (xp : String → qS → Prop) (x0 : Option Nat) (x1 : Int32) (x3 : Int32) (x4 : Int32) (x5 : Int32) (S : qS) : Prop :=
  ((x5 < 0 →
  pX8_against_J240 post xp x0 x1 x4 x5 S) ∧ (¬ x5 < 0 →
  w_getR S x0 9 19 (fun v218 =>
  w_ldI S v218 49 x5 (fun v223 =>
  ((¬ v223 = x3 →
  pX8_against_J237 post xp S) ∧ (v223 = x3 →
  w_at S x0 9 (fun b231 => pX8_mayGo b231 x5 S (fun v231 S =>
  ((¬ v231 = 0 →
  pX8_against_J240 post xp x0 x1 x4 x5 S) ∧ (v231 = 0 →
  pX8_against_J237 post xp S))) xp)))))))
def pX8_against_J209  (post : Int32 → qS → Prop) (xp : String → qS → Prop)  (S : qS) : Prop :=
  post (6 : Int32) S
def pX8_against (x0 : Nat) (x1 : Int32) (S : qS) (post : Int32 → qS → Prop) (xp : String → qS → Prop) : Prop :=
  w_getR S (some x0) 9 26 (fun v1 =>
  w_ldI S v1 56 x1 (fun v5 =>
  w_getR S (some x0) 9 26 (fun v8 =>
  w_ldI S v8 56 (x1 + (1 : Int32)) (fun v14 =>
  w_getR S (some x0) 9 26 (fun v17 =>
  w_ldI S v17 56 (x1 + (4 : Int32)) (fun v23 =>
  w_getR S (some x0) 9 26 (fun v27 =>
  w_ldI S v27 56 (x1 + (7 : Int32)) (fun v34 =>
  w_getR S (some x0) 9 2 (fun v38 =>
  w_getR S (some x0) 9 26 (fun v45 =>
  w_ldI S v45 56 (x1 + (3 : Int32)) (fun v51 =>
  w_ldI S v38 32 (((4 : Int32) * v5) + v51) (fun v53 =>
  w_getR S (some x0) 9 26 (fun v55 =>
  w_ldI S v55 56 (x1 + (2 : Int32)) (fun v61 =>
  ((v61 ≤ v53 →
  w_getR S (some x0) 9 2 (fun v68 =>
  w_getR S (some x0) 9 26 (fun v75 =>
  w_ldI S v75 56 (x1 + (6 : Int32)) (fun v82 =>
  w_ldI S v68 32 (((4 : Int32) * v14) + v82) (fun v84 =>
  w_getR S (some x0) 9 26 (fun v86 =>
  w_ldI S v86 56 (x1 + (5 : Int32)) (fun v92 =>
  ((v92 ≤ v84 →
  w_getR S (some x0) 9 26 (fun v101 =>
  w_ldI S v101 56 (x1 + (3 : Int32)) (fun v107 =>
  w_getR S (some x0) 9 26 (fun v109 =>
  w_ldI S v109 56 (x1 + (2 : Int32)) (fun v115 =>
  w_getR S (some x0) 9 26 (fun v117 =>
  w_ldI S v117 56 (x1 + (6 : Int32)) (fun v124 =>
  w_getR S (some x0) 9 26 (fun v126 =>
  w_ldI S v126 56 (x1 + (5 : Int32)) (fun v132 =>
  w_at S (some x0) 9 (fun b133 => pX8_after b133 v5 v107 v115 v124 v132 S (fun v133 S =>
  ((0 ≤ v133 →
  w_getR S (some x0) 9 26 (fun v144 =>
  w_ldI S v144 56 (x1 + (6 : Int32)) (fun v151 =>
  w_getR S (some x0) 9 26 (fun v153 =>
  w_ldI S v153 56 (x1 + (5 : Int32)) (fun v159 =>
  w_getR S (some x0) 9 26 (fun v161 =>
  w_ldI S v161 56 (x1 + (3 : Int32)) (fun v167 =>
  w_getR S (some x0) 9 26 (fun v169 =>
  w_ldI S v169 56 (x1 + (2 : Int32)) (fun v175 =>
  w_at S (some x0) 9 (fun b176 => pX8_after b176 v14 v151 v159 v167 v175 S (fun v176 S =>
  ((0 ≤ v176 →
  ((v23 < 0 →
  pX8_against_J212 post xp (some x0) x1 v14 v23 v34 S) ∧ (¬ v23 < 0 →
  w_getR S (some x0) 9 19 (fun v190 =>
  w_ldI S v190 49 v23 (fun v195 =>
  ((¬ v195 = v5 →
  pX8_against_J209 post xp S) ∧ (v195 = v5 →
  w_at S (some x0) 9 (fun b203 => pX8_mayGo b203 v23 S (fun v203 S =>
  ((¬ v203 = 0 →
  pX8_against_J212 post xp (some x0) x1 v14 v23 v34 S) ∧ (v203 = 0 →
  pX8_against_J209 post xp S))) xp)))))))) ∧ (¬ 0 ≤ v176 →
  post (5 : Int32) S))) xp)))))))))) ∧ (¬ 0 ≤ v133 →
  post (4 : Int32) S))) xp)))))))))) ∧ (¬ v92 ≤ v84 →
  post (3 : Int32) S))))))))) ∧ (¬ v61 ≤ v53 →
  post (2 : Int32) S))))))))))))))))
set_option maxHeartbeats 4000000 in
set_option maxRecDepth 100000 in
theorem kX8_against {l : Launch} (hl0 : l.stackTraces = false) {G : qG} {S : qS} {sz : Nat} {x0 : Nat} {x1 : Int32} {post : Int32 → qS → Prop} {xp : String → qS → Prop} (h : pX8_against x0 x1 S post xp) : q_M l yX8_against cX8_against 6 (some .int) 3 0 0 G S sz [va_rf (some x0), .int x1] (q_Qi G post) xp := by
  refine q_of (lv := [(0, va_rf (some x0)), (1, .int x1)]) hl0 (by decide) rfl (Nat.le_of_ble_eq_true rfl) (fun p e s m below meth c A ls X N hr hnm I hl => ?_)
  generalize ([va_rf (some x0), .int x1] : List Value).toArray = av at X ⊢
  unfold pX8_against at h
  refine q_aload_n X dX8_against_0 rfl (lv_at hl 0 rfl) ?_
  refine q_getR (ci := 9) (k := 26) X I rfl inb_TX8 wd_864 (by decide) qt_386 dX8_against_1 h (fun v1 h => ?_)
  refine lv_iload_n X.1 X.2.1 dX8_against_4 rfl (lv_at hl 1 rfl) ?_
  refine q_ldI X I (by decide) (by decide) dX8_against_5 h (fun v5 h => ?_)
  refine lv_istore_n (i := 2) (lv' := [(2, .int v5), (0, va_rf (some x0)), (1, .int x1)]) X.1 X.2.1 dX8_against_6 rfl hl (by decide) rfl (fun ls hl => ?_)
  refine q_aload_n X dX8_against_7 rfl (lv_at hl 1 rfl) ?_
  refine q_getR (ci := 9) (k := 26) X I rfl inb_TX8 wd_864 (by decide) qt_386 dX8_against_8 h (fun v8 h => ?_)
  refine lv_iload_n X.1 X.2.1 dX8_against_11 rfl (lv_at hl 2 rfl) ?_
  refine lv_iconst (v := 1) X.1 X.2.1 dX8_against_12 (by decide) ?_
  refine lv_iadd X.1 X.2.1 dX8_against_13 ?_
  refine q_ldI X I (by decide) (by decide) dX8_against_14 h (fun v14 h => ?_)
  refine lv_istore_n (i := 3) (lv' := [(3, .int v14), (2, .int v5), (0, va_rf (some x0)), (1, .int x1)]) X.1 X.2.1 dX8_against_15 rfl hl (by decide) rfl (fun ls hl => ?_)
  refine q_aload_n X dX8_against_16 rfl (lv_at hl 2 rfl) ?_
  refine q_getR (ci := 9) (k := 26) X I rfl inb_TX8 wd_864 (by decide) qt_386 dX8_against_17 h (fun v17 h => ?_)
  refine lv_iload_n X.1 X.2.1 dX8_against_20 rfl (lv_at hl 3 rfl) ?_
  refine lv_iconst (v := 4) X.1 X.2.1 dX8_against_21 (by decide) ?_
  refine lv_iadd X.1 X.2.1 dX8_against_22 ?_
  refine q_ldI X I (by decide) (by decide) dX8_against_23 h (fun v23 h => ?_)
  refine lv_istore (i := 4) (lv' := [(4, .int v23), (3, .int v14), (2, .int v5), (0, va_rf (some x0)), (1, .int x1)]) X.1 X.2.1 dX8_against_24 hl (by decide) rfl (fun ls hl => ?_)
  refine q_aload_n X dX8_against_26 rfl (lv_at hl 3 rfl) ?_
  refine q_getR (ci := 9) (k := 26) X I rfl inb_TX8 wd_864 (by decide) qt_386 dX8_against_27 h (fun v27 h => ?_)
  refine lv_iload_n X.1 X.2.1 dX8_against_30 rfl (lv_at hl 4 rfl) ?_
  refine lv_bipush (v := 7) X.1 X.2.1 dX8_against_31 (by decide) ?_
  refine lv_iadd X.1 X.2.1 dX8_against_33 ?_
  refine q_ldI X I (by decide) (by decide) dX8_against_34 h (fun v34 h => ?_)
  refine lv_istore (i := 5) (lv' := [(5, .int v34), (4, .int v23), (3, .int v14), (2, .int v5), (0, va_rf (some x0)), (1, .int x1)]) X.1 X.2.1 dX8_against_35 hl (by decide) rfl (fun ls hl => ?_)
  refine q_aload_n X dX8_against_37 rfl (lv_at hl 4 rfl) ?_
  refine q_getR (ci := 9) (k := 2) X I rfl inb_TX8 wd_840 (by decide) qt_362 dX8_against_38 h (fun v38 h => ?_)
  refine lv_iconst (v := 4) X.1 X.2.1 dX8_against_41 (by decide) ?_
  refine lv_iload_n X.1 X.2.1 dX8_against_42 rfl (lv_at hl 3 rfl) ?_
  refine lv_imul X.1 X.2.1 dX8_against_43 ?_
  refine q_aload_n X dX8_against_44 rfl (lv_at hl 4 rfl) ?_
  refine q_getR (ci := 9) (k := 26) X I rfl inb_TX8 wd_864 (by decide) qt_386 dX8_against_45 h (fun v45 h => ?_)
  refine lv_iload_n X.1 X.2.1 dX8_against_48 rfl (lv_at hl 5 rfl) ?_
  refine lv_iconst (v := 3) X.1 X.2.1 dX8_against_49 (by decide) ?_
  refine lv_iadd X.1 X.2.1 dX8_against_50 ?_
  refine q_ldI X I (by decide) (by decide) dX8_against_51 h (fun v51 h => ?_)
  refine lv_iadd X.1 X.2.1 dX8_against_52 ?_
  refine q_ldI X I (by decide) (by decide) dX8_against_53 h (fun v53 h => ?_)
  refine q_aload_n X dX8_against_54 rfl (lv_at hl 4 rfl) ?_
  refine q_getR (ci := 9) (k := 26) X I rfl inb_TX8 wd_864 (by decide) qt_386 dX8_against_55 h (fun v55 h => ?_)
  refine lv_iload_n X.1 X.2.1 dX8_against_58 rfl (lv_at hl 5 rfl) ?_
  refine lv_iconst (v := 2) X.1 X.2.1 dX8_against_59 (by decide) ?_
  refine lv_iadd X.1 X.2.1 dX8_against_60 ?_
  refine q_ldI X I (by decide) (by decide) dX8_against_61 h (fun v61 h => ?_)
  refine lv_icmp_ge (tgt := 67) X.1 X.2.1 dX8_against_62 (by decide) (fun c62 => ?_) (fun c62 => ?_)
  · have h := h.1 c62
    refine q_aload_n X dX8_against_67 rfl (lv_at hl 4 rfl) ?_
    refine q_getR (ci := 9) (k := 2) X I rfl inb_TX8 wd_840 (by decide) qt_362 dX8_against_68 h (fun v68 h => ?_)
    refine lv_iconst (v := 4) X.1 X.2.1 dX8_against_71 (by decide) ?_
    refine lv_iload_n X.1 X.2.1 dX8_against_72 rfl (lv_at hl 2 rfl) ?_
    refine lv_imul X.1 X.2.1 dX8_against_73 ?_
    refine q_aload_n X dX8_against_74 rfl (lv_at hl 4 rfl) ?_
    refine q_getR (ci := 9) (k := 26) X I rfl inb_TX8 wd_864 (by decide) qt_386 dX8_against_75 h (fun v75 h => ?_)
    refine lv_iload_n X.1 X.2.1 dX8_against_78 rfl (lv_at hl 5 rfl) ?_
    refine lv_bipush (v := 6) X.1 X.2.1 dX8_against_79 (by decide) ?_
    refine lv_iadd X.1 X.2.1 dX8_against_81 ?_
    refine q_ldI X I (by decide) (by decide) dX8_against_82 h (fun v82 h => ?_)
    refine lv_iadd X.1 X.2.1 dX8_against_83 ?_
    refine q_ldI X I (by decide) (by decide) dX8_against_84 h (fun v84 h => ?_)
    refine q_aload_n X dX8_against_85 rfl (lv_at hl 4 rfl) ?_
    refine q_getR (ci := 9) (k := 26) X I rfl inb_TX8 wd_864 (by decide) qt_386 dX8_against_86 h (fun v86 h => ?_)
    refine lv_iload_n X.1 X.2.1 dX8_against_89 rfl (lv_at hl 5 rfl) ?_
    refine lv_iconst (v := 5) X.1 X.2.1 dX8_against_90 (by decide) ?_
    refine lv_iadd X.1 X.2.1 dX8_against_91 ?_
    refine q_ldI X I (by decide) (by decide) dX8_against_92 h (fun v92 h => ?_)
    refine lv_icmp_ge (tgt := 98) X.1 X.2.1 dX8_against_93 (by decide) (fun c93 => ?_) (fun c93 => ?_)
    · have h := h.1 c93
      refine q_aload_n X dX8_against_98 rfl (lv_at hl 4 rfl) ?_
      refine lv_iload_n X.1 X.2.1 dX8_against_99 rfl (lv_at hl 3 rfl) ?_
      refine q_aload_n X dX8_against_100 rfl (lv_at hl 4 rfl) ?_
      refine q_getR (ci := 9) (k := 26) X I rfl inb_TX8 wd_864 (by decide) qt_386 dX8_against_101 h (fun v101 h => ?_)
      refine lv_iload_n X.1 X.2.1 dX8_against_104 rfl (lv_at hl 5 rfl) ?_
      refine lv_iconst (v := 3) X.1 X.2.1 dX8_against_105 (by decide) ?_
      refine lv_iadd X.1 X.2.1 dX8_against_106 ?_
      refine q_ldI X I (by decide) (by decide) dX8_against_107 h (fun v107 h => ?_)
      refine q_aload_n X dX8_against_108 rfl (lv_at hl 4 rfl) ?_
      refine q_getR (ci := 9) (k := 26) X I rfl inb_TX8 wd_864 (by decide) qt_386 dX8_against_109 h (fun v109 h => ?_)
      refine lv_iload_n X.1 X.2.1 dX8_against_112 rfl (lv_at hl 5 rfl) ?_
      refine lv_iconst (v := 2) X.1 X.2.1 dX8_against_113 (by decide) ?_
      refine lv_iadd X.1 X.2.1 dX8_against_114 ?_
      refine q_ldI X I (by decide) (by decide) dX8_against_115 h (fun v115 h => ?_)
      refine q_aload_n X dX8_against_116 rfl (lv_at hl 4 rfl) ?_
      refine q_getR (ci := 9) (k := 26) X I rfl inb_TX8 wd_864 (by decide) qt_386 dX8_against_117 h (fun v117 h => ?_)
      refine lv_iload_n X.1 X.2.1 dX8_against_120 rfl (lv_at hl 5 rfl) ?_
      refine lv_bipush (v := 6) X.1 X.2.1 dX8_against_121 (by decide) ?_
      refine lv_iadd X.1 X.2.1 dX8_against_123 ?_
      refine q_ldI X I (by decide) (by decide) dX8_against_124 h (fun v124 h => ?_)
      refine q_aload_n X dX8_against_125 rfl (lv_at hl 4 rfl) ?_
      refine q_getR (ci := 9) (k := 26) X I rfl inb_TX8 wd_864 (by decide) qt_386 dX8_against_126 h (fun v126 h => ?_)
      refine lv_iload_n X.1 X.2.1 dX8_against_129 rfl (lv_at hl 5 rfl) ?_
      refine lv_iconst (v := 5) X.1 X.2.1 dX8_against_130 (by decide) ?_
      refine lv_iadd X.1 X.2.1 dX8_against_131 ?_
      refine q_ldI X I (by decide) (by decide) dX8_against_132 h (fun v132 h => ?_)
      refine q_cVi (As := [.int v5, .int v107, .int v115, .int v124, .int v132]) (rest := []) (c1 := 0) (s1 := 0) (d := 1) (mc := 0) (ms := 0) X N I hl.1 mX8_after wd_1077 dX8_against_133 rfl h (fun b h => kX8_after hl0 h) rfl (Nat.le_of_ble_eq_true rfl) ⟨by decide, by decide⟩ ⟨by decide, by decide⟩ ⟨by decide, by decide⟩ rfl rfl (fun v133 S H locs I h => ?_)
      refine lv_if_ge (tgt := 141) X.1 X.2.1 dX8_against_136 (by decide) (fun c136 => ?_) (fun c136 => ?_)
      · have h := h.1 c136
        refine q_aload_n X dX8_against_141 rfl (lv_at hl 4 rfl) ?_
        refine lv_iload_n X.1 X.2.1 dX8_against_142 rfl (lv_at hl 2 rfl) ?_
        refine q_aload_n X dX8_against_143 rfl (lv_at hl 4 rfl) ?_
        refine q_getR (ci := 9) (k := 26) X I rfl inb_TX8 wd_864 (by decide) qt_386 dX8_against_144 h (fun v144 h => ?_)
        refine lv_iload_n X.1 X.2.1 dX8_against_147 rfl (lv_at hl 5 rfl) ?_
        refine lv_bipush (v := 6) X.1 X.2.1 dX8_against_148 (by decide) ?_
        refine lv_iadd X.1 X.2.1 dX8_against_150 ?_
        refine q_ldI X I (by decide) (by decide) dX8_against_151 h (fun v151 h => ?_)
        refine q_aload_n X dX8_against_152 rfl (lv_at hl 4 rfl) ?_
        refine q_getR (ci := 9) (k := 26) X I rfl inb_TX8 wd_864 (by decide) qt_386 dX8_against_153 h (fun v153 h => ?_)
        refine lv_iload_n X.1 X.2.1 dX8_against_156 rfl (lv_at hl 5 rfl) ?_
        refine lv_iconst (v := 5) X.1 X.2.1 dX8_against_157 (by decide) ?_
        refine lv_iadd X.1 X.2.1 dX8_against_158 ?_
        refine q_ldI X I (by decide) (by decide) dX8_against_159 h (fun v159 h => ?_)
        refine q_aload_n X dX8_against_160 rfl (lv_at hl 4 rfl) ?_
        refine q_getR (ci := 9) (k := 26) X I rfl inb_TX8 wd_864 (by decide) qt_386 dX8_against_161 h (fun v161 h => ?_)
        refine lv_iload_n X.1 X.2.1 dX8_against_164 rfl (lv_at hl 5 rfl) ?_
        refine lv_iconst (v := 3) X.1 X.2.1 dX8_against_165 (by decide) ?_
        refine lv_iadd X.1 X.2.1 dX8_against_166 ?_
        refine q_ldI X I (by decide) (by decide) dX8_against_167 h (fun v167 h => ?_)
        refine q_aload_n X dX8_against_168 rfl (lv_at hl 4 rfl) ?_
        refine q_getR (ci := 9) (k := 26) X I rfl inb_TX8 wd_864 (by decide) qt_386 dX8_against_169 h (fun v169 h => ?_)
        refine lv_iload_n X.1 X.2.1 dX8_against_172 rfl (lv_at hl 5 rfl) ?_
        refine lv_iconst (v := 2) X.1 X.2.1 dX8_against_173 (by decide) ?_
        refine lv_iadd X.1 X.2.1 dX8_against_174 ?_
        refine q_ldI X I (by decide) (by decide) dX8_against_175 h (fun v175 h => ?_)
        refine q_cVi (As := [.int v14, .int v151, .int v159, .int v167, .int v175]) (rest := []) (c1 := 0) (s1 := 0) (d := 1) (mc := 0) (ms := 0) X N I hl.1 mX8_after wd_1077 dX8_against_176 rfl h (fun b h => kX8_after hl0 h) rfl (Nat.le_of_ble_eq_true rfl) ⟨by decide, by decide⟩ ⟨by decide, by decide⟩ ⟨by decide, by decide⟩ rfl rfl (fun v176 S H locs I h => ?_)
        refine lv_if_ge (tgt := 184) X.1 X.2.1 dX8_against_179 (by decide) (fun c179 => ?_) (fun c179 => ?_)
        · have h := h.1 c179
          refine lv_iload X.1 X.2.1 dX8_against_184 (lv_at hl 1 rfl) ?_
          have jn212 : ∀ (x0 : Option Nat) (x1 : Int32) (x3 : Int32) (x4 : Int32) (x5 : Int32) (S : qS) (H : Heap) (locs : List Loc) (ls : Array Slot), pX8_against_J212 post xp x0 x1 x3 x4 x5 S → q_H G A s H locs S → lv_has ls 6 [(0, va_rf x0), (1, .int x1), (3, .int x3), (4, .int x4), (5, .int x5)] → W p l e (q_rm 3 0 0) s m av below meth c H locs 0 0 (vx_MQ below (q_Qi G post A) (q_XC G A xp) av s 0 0 A) (F0 m 212 ls []) := by
            intro x0 x1 x3 x4 x5 S H locs ls h I hl
            unfold pX8_against_J212 at h
            refine lv_iload X.1 X.2.1 dX8_against_212 (lv_at hl 4 rfl) ?_
            have jn240 : ∀ (x0 : Option Nat) (x1 : Int32) (x4 : Int32) (x5 : Int32) (S : qS) (H : Heap) (locs : List Loc) (ls : Array Slot), pX8_against_J240 post xp x0 x1 x4 x5 S → q_H G A s H locs S → lv_has ls 6 [(0, va_rf x0), (1, .int x1), (4, .int x4), (5, .int x5)] → W p l e (q_rm 3 0 0) s m av below meth c H locs 0 0 (vx_MQ below (q_Qi G post A) (q_XC G A xp) av s 0 0 A) (F0 m 240 ls []) := by
              intro x0 x1 x4 x5 S H locs ls h I hl
              unfold pX8_against_J240 at h
              refine lv_iload X.1 X.2.1 dX8_against_240 (lv_at hl 2 rfl) ?_
              have jn294 : ∀ (t0 : Int32) (S : qS) (H : Heap) (locs : List Loc) (ls : Array Slot), pX8_against_J294 post xp t0 S → q_H G A s H locs S → lv_has ls 6 [] → W p l e (q_rm 3 0 0) s m av below meth c H locs 0 0 (vx_MQ below (q_Qi G post A) (q_XC G A xp) av s 0 0 A) (F0 m 294 ls [.int t0]) := by
                intro t0 S H locs ls h I hl
                unfold pX8_against_J294 at h
                exact q_iret X I hr dX8_against_294 h (by decide) (by decide)
              have jn288 : ∀ (S : qS) (H : Heap) (locs : List Loc) (ls : Array Slot), pX8_against_J288 post xp S → q_H G A s H locs S → lv_has ls 6 [] → W p l e (q_rm 3 0 0) s m av below meth c H locs 0 0 (vx_MQ below (q_Qi G post A) (q_XC G A xp) av s 0 0 A) (F0 m 288 ls []) := by
                intro S H locs ls h I hl
                unfold pX8_against_J288 at h
                refine lv_bipush (v := 8) X.1 X.2.1 dX8_against_288 (by decide) ?_
                refine lv_goto (tgt := 294) X.1 X.2.1 dX8_against_290 (by decide) ?_
                exact jn294 _ _ _ _ _ h I (lv_sub hl [] rfl)
              have jn264 : ∀ (x0 : Option Nat) (x1 : Int32) (x5 : Int32) (S : qS) (H : Heap) (locs : List Loc) (ls : Array Slot), pX8_against_J264 post xp x0 x1 x5 S → q_H G A s H locs S → lv_has ls 6 [(0, va_rf x0), (1, .int x1), (5, .int x5)] → W p l e (q_rm 3 0 0) s m av below meth c H locs 0 0 (vx_MQ below (q_Qi G post A) (q_XC G A xp) av s 0 0 A) (F0 m 264 ls []) := by
                intro x0 x1 x5 S H locs ls h I hl
                unfold pX8_against_J264 at h
                refine lv_iload X.1 X.2.1 dX8_against_264 (lv_at hl 2 rfl) ?_
                have jn293 : ∀ (S : qS) (H : Heap) (locs : List Loc) (ls : Array Slot), pX8_against_J293 post xp S → q_H G A s H locs S → lv_has ls 6 [] → W p l e (q_rm 3 0 0) s m av below meth c H locs 0 0 (vx_MQ below (q_Qi G post A) (q_XC G A xp) av s 0 0 A) (F0 m 293 ls []) := by
                  intro S H locs ls h I hl
                  unfold pX8_against_J293 at h
                  refine lv_iconst (v := 0) X.1 X.2.1 dX8_against_293 (by decide) ?_
                  exact jn294 _ _ _ _ _ h I (lv_sub hl [] rfl)
                refine lv_if_lt (tgt := 293) X.1 X.2.1 dX8_against_266 (by decide) (fun c266 => ?_) (fun c266 => ?_)
                · have h := h.1 c266
                  exact jn293 _ _ _ _ h I (lv_sub hl [] rfl)
                · have h := h.2 c266
                  refine q_aload_n X dX8_against_269 rfl (lv_at hl 0 rfl) ?_
                  refine q_getR (ci := 9) (k := 15) X I rfl inb_TX8 wd_853 (by decide) qt_375 dX8_against_270 h (fun v270 h => ?_)
                  refine lv_iload X.1 X.2.1 dX8_against_273 (lv_at hl 2 rfl) ?_
                  refine q_ldI X I (by decide) (by decide) dX8_against_275 h (fun v275 h => ?_)
                  refine q_aload_n X dX8_against_276 rfl (lv_at hl 0 rfl) ?_
                  refine q_getR (ci := 9) (k := 26) X I rfl inb_TX8 wd_864 (by decide) qt_386 dX8_against_277 h (fun v277 h => ?_)
                  refine lv_iload_n X.1 X.2.1 dX8_against_280 rfl (lv_at hl 1 rfl) ?_
                  refine lv_bipush (v := 9) X.1 X.2.1 dX8_against_281 (by decide) ?_
                  refine lv_iadd X.1 X.2.1 dX8_against_283 ?_
                  refine q_ldI X I (by decide) (by decide) dX8_against_284 h (fun v284 h => ?_)
                  refine lv_icmp_eq (tgt := 293) X.1 X.2.1 dX8_against_285 (by decide) (fun c285 => ?_) (fun c285 => ?_)
                  · have h := h.1 c285
                    exact jn293 _ _ _ _ h I (lv_sub hl [] rfl)
                  · have h := h.2 c285
                    exact jn288 _ _ _ _ h I (lv_sub hl [] rfl)
              refine lv_if_lt (tgt := 264) X.1 X.2.1 dX8_against_242 (by decide) (fun c242 => ?_) (fun c242 => ?_)
              · have h := h.1 c242
                exact jn264 _ _ _ _ _ _ _ h I (lv_sub hl [0, 1, 3] rfl)
              · have h := h.2 c242
                refine q_aload_n X dX8_against_245 rfl (lv_at hl 0 rfl) ?_
                refine q_getR (ci := 9) (k := 15) X I rfl inb_TX8 wd_853 (by decide) qt_375 dX8_against_246 h (fun v246 h => ?_)
                refine lv_iload X.1 X.2.1 dX8_against_249 (lv_at hl 2 rfl) ?_
                refine q_ldI X I (by decide) (by decide) dX8_against_251 h (fun v251 h => ?_)
                refine q_aload_n X dX8_against_252 rfl (lv_at hl 0 rfl) ?_
                refine q_getR (ci := 9) (k := 26) X I rfl inb_TX8 wd_864 (by decide) qt_386 dX8_against_253 h (fun v253 h => ?_)
                refine lv_iload_n X.1 X.2.1 dX8_against_256 rfl (lv_at hl 1 rfl) ?_
                refine lv_bipush (v := 8) X.1 X.2.1 dX8_against_257 (by decide) ?_
                refine lv_iadd X.1 X.2.1 dX8_against_259 ?_
                refine q_ldI X I (by decide) (by decide) dX8_against_260 h (fun v260 h => ?_)
                refine lv_icmp_ne (tgt := 288) X.1 X.2.1 dX8_against_261 (by decide) (fun c261 => ?_) (fun c261 => ?_)
                · have h := h.1 c261
                  exact jn288 _ _ _ _ h I (lv_sub hl [] rfl)
                · have h := h.2 c261
                  exact jn264 _ _ _ _ _ _ _ h I (lv_sub hl [0, 1, 3] rfl)
            refine lv_if_lt (tgt := 240) X.1 X.2.1 dX8_against_214 (by decide) (fun c214 => ?_) (fun c214 => ?_)
            · have h := h.1 c214
              exact jn240 _ _ _ _ _ _ _ _ h I (lv_sub hl [0, 1, 3, 4] rfl)
            · have h := h.2 c214
              refine q_aload_n X dX8_against_217 rfl (lv_at hl 0 rfl) ?_
              refine q_getR (ci := 9) (k := 19) X I rfl inb_TX8 wd_857 (by decide) qt_379 dX8_against_218 h (fun v218 h => ?_)
              refine lv_iload X.1 X.2.1 dX8_against_221 (lv_at hl 4 rfl) ?_
              refine q_ldI X I (by decide) (by decide) dX8_against_223 h (fun v223 h => ?_)
              refine lv_iload_n X.1 X.2.1 dX8_against_224 rfl (lv_at hl 2 rfl) ?_
              have jn237 : ∀ (S : qS) (H : Heap) (locs : List Loc) (ls : Array Slot), pX8_against_J237 post xp S → q_H G A s H locs S → lv_has ls 6 [] → W p l e (q_rm 3 0 0) s m av below meth c H locs 0 0 (vx_MQ below (q_Qi G post A) (q_XC G A xp) av s 0 0 A) (F0 m 237 ls []) := by
                intro S H locs ls h I hl
                unfold pX8_against_J237 at h
                refine lv_bipush (v := 7) X.1 X.2.1 dX8_against_237 (by decide) ?_
                exact q_iret X I hr dX8_against_239 h (by decide) (by decide)
              refine lv_icmp_ne (tgt := 237) X.1 X.2.1 dX8_against_225 (by decide) (fun c225 => ?_) (fun c225 => ?_)
              · have h := h.1 c225
                exact jn237 _ _ _ _ h I (lv_sub hl [] rfl)
              · have h := h.2 c225
                refine q_aload_n X dX8_against_228 rfl (lv_at hl 0 rfl) ?_
                refine lv_iload X.1 X.2.1 dX8_against_229 (lv_at hl 4 rfl) ?_
                refine q_cVi (As := [.int x5]) (rest := []) (c1 := 0) (s1 := 0) (d := 2) (mc := 0) (ms := 0) X N I hl.1 mX8_mayGo wd_1030 dX8_against_231 rfl h (fun b h => kX8_mayGo hl0 h) rfl (Nat.le_of_ble_eq_true rfl) ⟨by decide, by decide⟩ ⟨by decide, by decide⟩ ⟨by decide, by decide⟩ rfl rfl (fun v231 S H locs I h => ?_)
                refine lv_if_ne (tgt := 240) X.1 X.2.1 dX8_against_234 (by decide) (fun c234 => ?_) (fun c234 => ?_)
                · have h := h.1 c234
                  exact jn240 _ _ _ _ _ _ _ _ h I (lv_sub hl [0, 1, 3, 4] rfl)
                · have h := h.2 c234
                  exact jn237 _ _ _ _ h I (lv_sub hl [] rfl)
          refine lv_if_lt (tgt := 212) X.1 X.2.1 dX8_against_186 (by decide) (fun c186 => ?_) (fun c186 => ?_)
          · have h := h.1 c186
            exact jn212 _ _ _ _ _ _ _ _ _ h I (lv_sub hl [4, 5, 2, 1, 0] rfl)
          · have h := h.2 c186
            refine q_aload_n X dX8_against_189 rfl (lv_at hl 4 rfl) ?_
            refine q_getR (ci := 9) (k := 19) X I rfl inb_TX8 wd_857 (by decide) qt_379 dX8_against_190 h (fun v190 h => ?_)
            refine lv_iload X.1 X.2.1 dX8_against_193 (lv_at hl 1 rfl) ?_
            refine q_ldI X I (by decide) (by decide) dX8_against_195 h (fun v195 h => ?_)
            refine lv_iload_n X.1 X.2.1 dX8_against_196 rfl (lv_at hl 3 rfl) ?_
            have jn209 : ∀ (S : qS) (H : Heap) (locs : List Loc) (ls : Array Slot), pX8_against_J209 post xp S → q_H G A s H locs S → lv_has ls 6 [] → W p l e (q_rm 3 0 0) s m av below meth c H locs 0 0 (vx_MQ below (q_Qi G post A) (q_XC G A xp) av s 0 0 A) (F0 m 209 ls []) := by
              intro S H locs ls h I hl
              unfold pX8_against_J209 at h
              refine lv_bipush (v := 6) X.1 X.2.1 dX8_against_209 (by decide) ?_
              exact q_iret X I hr dX8_against_211 h (by decide) (by decide)
            refine lv_icmp_ne (tgt := 209) X.1 X.2.1 dX8_against_197 (by decide) (fun c197 => ?_) (fun c197 => ?_)
            · have h := h.1 c197
              exact jn209 _ _ _ _ h I (lv_sub hl [] rfl)
            · have h := h.2 c197
              refine q_aload_n X dX8_against_200 rfl (lv_at hl 4 rfl) ?_
              refine lv_iload X.1 X.2.1 dX8_against_201 (lv_at hl 1 rfl) ?_
              refine q_cVi (As := [.int v23]) (rest := []) (c1 := 0) (s1 := 0) (d := 2) (mc := 0) (ms := 0) X N I hl.1 mX8_mayGo wd_1030 dX8_against_203 rfl h (fun b h => kX8_mayGo hl0 h) rfl (Nat.le_of_ble_eq_true rfl) ⟨by decide, by decide⟩ ⟨by decide, by decide⟩ ⟨by decide, by decide⟩ rfl rfl (fun v203 S H locs I h => ?_)
              refine lv_if_ne (tgt := 212) X.1 X.2.1 dX8_against_206 (by decide) (fun c206 => ?_) (fun c206 => ?_)
              · have h := h.1 c206
                exact jn212 _ _ _ _ _ _ _ _ _ h I (lv_sub hl [4, 5, 2, 1, 0] rfl)
              · have h := h.2 c206
                exact jn209 _ _ _ _ h I (lv_sub hl [] rfl)
        · have h := h.2 c179
          refine lv_iconst (v := 5) X.1 X.2.1 dX8_against_182 (by decide) ?_
          exact q_iret X I hr dX8_against_183 h (by decide) (by decide)
      · have h := h.2 c136
        refine lv_iconst (v := 4) X.1 X.2.1 dX8_against_139 (by decide) ?_
        exact q_iret X I hr dX8_against_140 h (by decide) (by decide)
    · have h := h.2 c93
      refine lv_iconst (v := 3) X.1 X.2.1 dX8_against_96 (by decide) ?_
      exact q_iret X I hr dX8_against_97 h (by decide) (by decide)
  · have h := h.2 c62
    refine lv_iconst (v := 2) X.1 X.2.1 dX8_against_65 (by decide) ?_
    exact q_iret X I hr dX8_against_66 h (by decide) (by decide)

def pX8_agree_J258  (post : Int32 → qS → Prop) (xp : String → qS → Prop) (x0 : Option Nat) (x1 : Int32) (S : qS) : Prop :=
  w_getR S x0 9 27 (fun v259 =>
  w_stZ S v259 57 x1 (0 : Int32) (fun S =>
  post (0 : Int32) S))
def pX8_agree_J227  (post : Int32 → qS → Prop) (xp : String → qS → Prop) (x0 : Option Nat) (x1 : Int32) (x2 : Int32) (S : qS) : Prop :=
  w_getR S x0 9 26 (fun v228 =>
  w_ldI S v228 56 (x2 + (7 : Int32)) (fun v235 =>
  ((v235 < 0 →
  pX8_agree_J258 post xp x0 x1 S) ∧ (¬ v235 < 0 →
  w_getR S x0 9 26 (fun v241 =>
  w_ldI S v241 56 (x2 + (7 : Int32)) (fun v248 =>
  w_getR S x0 9 26 (fun v250 =>
  w_ldI S v250 56 x2 (fun v254 =>
  w_at S x0 9 (fun b255 => pX8_goes b255 v248 v254 S (fun S =>
  pX8_agree_J258 post xp x0 x1 S) xp)))))))))
def pX8_agree_J27  (post : Int32 → qS → Prop) (xp : String → qS → Prop) (x0 : Option Nat) (x1 : Int32) (t0 : Option Nat) (t1 : Int32) (S : qS) : Prop :=
  w_at S t0 9 (fun b28 => pX8_throwsIf b28 t1 (1 : Int32) S (fun v28 S =>
  ((v28 = 0 →
  w_getR S x0 9 27 (fun v37 =>
  w_ldI S v37 57 x1 (fun v41 =>
  ((¬ v41 = 0 →
  w_at S x0 9 (fun b54 => pX8_against b54 ((10 : Int32) * x1) S (fun v54 S =>
  ((v54 ≤ 0 →
  w_getR S x0 9 26 (fun v66 =>
  w_ldI S v66 56 ((10 : Int32) * x1) (fun v70 =>
  w_getR S x0 9 26 (fun v76 =>
  w_ldI S v76 56 (((10 : Int32) * x1) + (1 : Int32)) (fun v82 =>
  w_getR S x0 9 2 (fun v87 =>
  w_getR S x0 9 26 (fun v93 =>
  w_ldI S v93 56 (((10 : Int32) * x1) + (3 : Int32)) (fun v99 =>
  w_ldI S v87 32 (((4 : Int32) * v70) + v99) (fun v102 =>
  w_getR S x0 9 26 (fun v104 =>
  w_ldI S v104 56 (((10 : Int32) * x1) + (2 : Int32)) (fun v110 =>
  w_stI S v87 32 (((4 : Int32) * v70) + v99) (v102 - v110) (fun S =>
  w_getR S x0 9 2 (fun v114 =>
  w_getR S x0 9 26 (fun v120 =>
  w_ldI S v120 56 (((10 : Int32) * x1) + (6 : Int32)) (fun v127 =>
  w_ldI S v114 32 (((4 : Int32) * v82) + v127) (fun v130 =>
  w_getR S x0 9 26 (fun v132 =>
  w_ldI S v132 56 (((10 : Int32) * x1) + (5 : Int32)) (fun v138 =>
  w_stI S v114 32 (((4 : Int32) * v82) + v127) (v130 - v138) (fun S =>
  w_getR S x0 9 2 (fun v142 =>
  w_getR S x0 9 26 (fun v148 =>
  w_ldI S v148 56 (((10 : Int32) * x1) + (3 : Int32)) (fun v154 =>
  w_ldI S v142 32 (((4 : Int32) * v82) + v154) (fun v157 =>
  w_getR S x0 9 26 (fun v159 =>
  w_ldI S v159 56 (((10 : Int32) * x1) + (2 : Int32)) (fun v165 =>
  w_stI S v142 32 (((4 : Int32) * v82) + v154) (v157 + v165) (fun S =>
  w_getR S x0 9 2 (fun v169 =>
  w_getR S x0 9 26 (fun v175 =>
  w_ldI S v175 56 (((10 : Int32) * x1) + (6 : Int32)) (fun v182 =>
  w_ldI S v169 32 (((4 : Int32) * v70) + v182) (fun v185 =>
  w_getR S x0 9 26 (fun v187 =>
  w_ldI S v187 56 (((10 : Int32) * x1) + (5 : Int32)) (fun v193 =>
  w_stI S v169 32 (((4 : Int32) * v70) + v182) (v185 + v193) (fun S =>
  w_getR S x0 9 26 (fun v197 =>
  w_ldI S v197 56 (((10 : Int32) * x1) + (4 : Int32)) (fun v203 =>
  ((v203 < 0 →
  pX8_agree_J227 post xp x0 x1 ((10 : Int32) * x1) S) ∧ (¬ v203 < 0 →
  w_getR S x0 9 26 (fun v209 =>
  w_ldI S v209 56 (((10 : Int32) * x1) + (4 : Int32)) (fun v215 =>
  w_getR S x0 9 26 (fun v217 =>
  w_ldI S v217 56 (((10 : Int32) * x1) + (1 : Int32)) (fun v223 =>
  w_at S x0 9 (fun b224 => pX8_goes b224 v215 v223 S (fun S =>
  pX8_agree_J227 post xp x0 x1 ((10 : Int32) * x1) S) xp)))))))))))))))))))))))))))))))))))))))))) ∧ (¬ v54 ≤ 0 →
  post v54 S))) xp)) ∧ (v41 = 0 →
  post (1 : Int32) S))))) ∧ (¬ v28 = 0 →
  post (0 : Int32) S))) xp)
def pX8_agree (x0 : Nat) (x1 : Int32) (S : qS) (post : Int32 → qS → Prop) (xp : String → qS → Prop) : Prop :=
  w_putI S (some x0) 9 0 (0 : Int32) (fun S =>
  w_getI S (some x0) 9 28 (fun v10 =>
  pX8_in x1.toInt64 (0 : Int64) ((v10 - (1 : Int32)).toInt64) S (fun v16 S =>
  ((¬ v16 = 0 →
  pX8_agree_J27 post xp (some x0) x1 (some x0) (0 : Int32) S) ∧ (v16 = 0 →
  pX8_agree_J27 post xp (some x0) x1 (some x0) (1 : Int32) S))) xp))
set_option maxHeartbeats 4000000 in
set_option maxRecDepth 100000 in
theorem kX8_agree {l : Launch} (hl0 : l.stackTraces = false) {G : qG} {S : qS} {sz : Nat} {x0 : Nat} {x1 : Int32} {post : Int32 → qS → Prop} {xp : String → qS → Prop} (h : pX8_agree x0 x1 S post xp) : q_M l yX8_agree cX8_agree 6 (some .int) 4 0 0 G S sz [va_rf (some x0), .int x1] (q_Qi G post) xp := by
  refine q_of (lv := [(0, va_rf (some x0)), (1, .int x1)]) hl0 (by decide) rfl (Nat.le_of_ble_eq_true rfl) (fun p e s m below meth c A ls X N hr hnm I hl => ?_)
  generalize ([va_rf (some x0), .int x1] : List Value).toArray = av at X ⊢
  unfold pX8_agree at h
  refine q_aload_n X dX8_agree_0 rfl (lv_at hl 0 rfl) ?_
  refine lv_iconst (v := 0) X.1 X.2.1 dX8_agree_1 (by decide) ?_
  refine q_putI (ci := 9) (k := 0) X I rfl inb_TX8 tyX8_ok nmX8 wd_838 (by decide) (Or.inl rfl) qt_360 rfl dX8_agree_2 h (fun S H locs I h => ?_)
  refine q_aload_n X dX8_agree_5 rfl (lv_at hl 0 rfl) ?_
  refine lv_iload_n X.1 X.2.1 dX8_agree_6 rfl (lv_at hl 1 rfl) ?_
  refine lv_i2l X.1 X.2.1 dX8_agree_7 rfl ?_
  refine lv_lconst (v := 0) X.1 X.2.1 dX8_agree_8 (by decide) ?_
  refine q_aload_n X dX8_agree_9 rfl (lv_at hl 0 rfl) ?_
  refine q_getI (ci := 9) (k := 28) X I rfl inb_TX8 wd_866 (by decide) qt_388 dX8_agree_10 h (fun v10 h => ?_)
  refine lv_iconst (v := 1) X.1 X.2.1 dX8_agree_13 (by decide) ?_
  refine lv_isub X.1 X.2.1 dX8_agree_14 ?_
  refine lv_i2l X.1 X.2.1 dX8_agree_15 rfl ?_
  refine q_cSi (As := [.long x1.toInt64, .long (0 : Int64), .long (v10 - (1 : Int32)).toInt64]) (rest := [va_rf (some x0)]) (c1 := 0) (s1 := 0) (d := 1) (mc := 0) (ms := 0) X N I hl.1 mX8_in wd_963 dX8_agree_16 rfl (kX8_in hl0 h) rfl (Nat.le_of_ble_eq_true rfl) ⟨by decide, by decide⟩ ⟨by decide, by decide⟩ ⟨by decide, by decide⟩ rfl rfl (fun v16 S H locs I h => ?_)
  have jn27 : ∀ (x0 : Option Nat) (x1 : Int32) (t0 : Option Nat) (t1 : Int32) (S : qS) (H : Heap) (locs : List Loc) (ls : Array Slot), pX8_agree_J27 post xp x0 x1 t0 t1 S → q_H G A s H locs S → lv_has ls 6 [(0, va_rf x0), (1, .int x1)] → W p l e (q_rm 4 0 0) s m av below meth c H locs 0 0 (vx_MQ below (q_Qi G post A) (q_XC G A xp) av s 0 0 A) (F0 m 27 ls [.int t1, va_rf t0]) := by
    intro x0 x1 t0 t1 S H locs ls h I hl
    unfold pX8_agree_J27 at h
    refine lv_iconst (v := 1) X.1 X.2.1 dX8_agree_27 (by decide) ?_
    refine q_cVi (As := [.int t1, .int (1 : Int32)]) (rest := []) (c1 := 0) (s1 := 0) (d := 1) (mc := 0) (ms := 0) X N I hl.1 mX8_throwsIf wd_947 dX8_agree_28 rfl h (fun b h => kX8_throwsIf hl0 h) rfl (Nat.le_of_ble_eq_true rfl) ⟨by decide, by decide⟩ ⟨by decide, by decide⟩ ⟨by decide, by decide⟩ rfl rfl (fun v28 S H locs I h => ?_)
    refine lv_if_eq (tgt := 36) X.1 X.2.1 dX8_agree_31 (by decide) (fun c31 => ?_) (fun c31 => ?_)
    · have h := h.1 c31
      refine q_aload_n X dX8_agree_36 rfl (lv_at hl 0 rfl) ?_
      refine q_getR (ci := 9) (k := 27) X I rfl inb_TX8 wd_865 (by decide) qt_387 dX8_agree_37 h (fun v37 h => ?_)
      refine lv_iload_n X.1 X.2.1 dX8_agree_40 rfl (lv_at hl 1 rfl) ?_
      refine q_ldZ X I (by decide) (by decide) dX8_agree_41 h (fun v41 h => ?_)
      refine lv_if_ne (tgt := 47) X.1 X.2.1 dX8_agree_42 (by decide) (fun c42 => ?_) (fun c42 => ?_)
      · have h := h.1 c42
        refine lv_bipush (v := 10) X.1 X.2.1 dX8_agree_47 (by decide) ?_
        refine lv_iload_n X.1 X.2.1 dX8_agree_49 rfl (lv_at hl 1 rfl) ?_
        refine lv_imul X.1 X.2.1 dX8_agree_50 ?_
        refine lv_istore_n (i := 2) (lv' := [(2, .int ((10 : Int32) * x1)), (0, va_rf x0), (1, .int x1)]) X.1 X.2.1 dX8_agree_51 rfl hl (by decide) rfl (fun ls hl => ?_)
        refine q_aload_n X dX8_agree_52 rfl (lv_at hl 1 rfl) ?_
        refine lv_iload_n X.1 X.2.1 dX8_agree_53 rfl (lv_at hl 0 rfl) ?_
        refine q_cVi (As := [.int ((10 : Int32) * x1)]) (rest := []) (c1 := 0) (s1 := 0) (d := 3) (mc := 0) (ms := 0) X N I hl.1 mX8_against wd_1073 dX8_agree_54 rfl h (fun b h => kX8_against hl0 h) rfl (Nat.le_of_ble_eq_true rfl) ⟨by decide, by decide⟩ ⟨by decide, by decide⟩ ⟨by decide, by decide⟩ rfl rfl (fun v54 S H locs I h => ?_)
        refine lv_istore_n (i := 3) (lv' := [(3, .int v54), (2, .int ((10 : Int32) * x1)), (0, va_rf x0), (1, .int x1)]) X.1 X.2.1 dX8_agree_57 rfl hl (by decide) rfl (fun ls hl => ?_)
        refine lv_iload_n X.1 X.2.1 dX8_agree_58 rfl (lv_at hl 0 rfl) ?_
        refine lv_if_le (tgt := 64) X.1 X.2.1 dX8_agree_59 (by decide) (fun c59 => ?_) (fun c59 => ?_)
        · have h := h.1 c59
          refine lv_iconst (v := 4) X.1 X.2.1 dX8_agree_64 (by decide) ?_
          refine q_aload_n X dX8_agree_65 rfl (lv_at hl 2 rfl) ?_
          refine q_getR (ci := 9) (k := 26) X I rfl inb_TX8 wd_864 (by decide) qt_386 dX8_agree_66 h (fun v66 h => ?_)
          refine lv_iload_n X.1 X.2.1 dX8_agree_69 rfl (lv_at hl 1 rfl) ?_
          refine q_ldI X I (by decide) (by decide) dX8_agree_70 h (fun v70 h => ?_)
          refine lv_imul X.1 X.2.1 dX8_agree_71 ?_
          refine lv_istore (i := 4) (lv' := [(4, .int ((4 : Int32) * v70)), (3, .int v54), (2, .int ((10 : Int32) * x1)), (0, va_rf x0), (1, .int x1)]) X.1 X.2.1 dX8_agree_72 hl (by decide) rfl (fun ls hl => ?_)
          refine lv_iconst (v := 4) X.1 X.2.1 dX8_agree_74 (by decide) ?_
          refine q_aload_n X dX8_agree_75 rfl (lv_at hl 3 rfl) ?_
          refine q_getR (ci := 9) (k := 26) X I rfl inb_TX8 wd_864 (by decide) qt_386 dX8_agree_76 h (fun v76 h => ?_)
          refine lv_iload_n X.1 X.2.1 dX8_agree_79 rfl (lv_at hl 2 rfl) ?_
          refine lv_iconst (v := 1) X.1 X.2.1 dX8_agree_80 (by decide) ?_
          refine lv_iadd X.1 X.2.1 dX8_agree_81 ?_
          refine q_ldI X I (by decide) (by decide) dX8_agree_82 h (fun v82 h => ?_)
          refine lv_imul X.1 X.2.1 dX8_agree_83 ?_
          refine lv_istore (i := 5) (lv' := [(5, .int ((4 : Int32) * v82)), (4, .int ((4 : Int32) * v70)), (3, .int v54), (2, .int ((10 : Int32) * x1)), (0, va_rf x0), (1, .int x1)]) X.1 X.2.1 dX8_agree_84 hl (by decide) rfl (fun ls hl => ?_)
          refine q_aload_n X dX8_agree_86 rfl (lv_at hl 4 rfl) ?_
          refine q_getR (ci := 9) (k := 2) X I rfl inb_TX8 wd_840 (by decide) qt_362 dX8_agree_87 h (fun v87 h => ?_)
          refine lv_iload X.1 X.2.1 dX8_agree_90 (lv_at hl 1 rfl) ?_
          refine q_aload_n X dX8_agree_92 rfl (lv_at hl 4 rfl) ?_
          refine q_getR (ci := 9) (k := 26) X I rfl inb_TX8 wd_864 (by decide) qt_386 dX8_agree_93 h (fun v93 h => ?_)
          refine lv_iload_n X.1 X.2.1 dX8_agree_96 rfl (lv_at hl 3 rfl) ?_
          refine lv_iconst (v := 3) X.1 X.2.1 dX8_agree_97 (by decide) ?_
          refine lv_iadd X.1 X.2.1 dX8_agree_98 ?_
          refine q_ldI X I (by decide) (by decide) dX8_agree_99 h (fun v99 h => ?_)
          refine lv_iadd X.1 X.2.1 dX8_agree_100 ?_
          refine lv_dup2_11 X.1 X.2.1 dX8_agree_101 rfl (q_cat _) ?_
          refine q_ldI X I (by decide) (by decide) dX8_agree_102 h (fun v102 h => ?_)
          refine q_aload_n X dX8_agree_103 rfl (lv_at hl 4 rfl) ?_
          refine q_getR (ci := 9) (k := 26) X I rfl inb_TX8 wd_864 (by decide) qt_386 dX8_agree_104 h (fun v104 h => ?_)
          refine lv_iload_n X.1 X.2.1 dX8_agree_107 rfl (lv_at hl 3 rfl) ?_
          refine lv_iconst (v := 2) X.1 X.2.1 dX8_agree_108 (by decide) ?_
          refine lv_iadd X.1 X.2.1 dX8_agree_109 ?_
          refine q_ldI X I (by decide) (by decide) dX8_agree_110 h (fun v110 h => ?_)
          refine lv_isub X.1 X.2.1 dX8_agree_111 ?_
          refine q_stI X I (by decide) (by decide) dX8_agree_112 h (fun S H locs I h => ?_)
          refine q_aload_n X dX8_agree_113 rfl (lv_at hl 4 rfl) ?_
          refine q_getR (ci := 9) (k := 2) X I rfl inb_TX8 wd_840 (by decide) qt_362 dX8_agree_114 h (fun v114 h => ?_)
          refine lv_iload X.1 X.2.1 dX8_agree_117 (lv_at hl 0 rfl) ?_
          refine q_aload_n X dX8_agree_119 rfl (lv_at hl 4 rfl) ?_
          refine q_getR (ci := 9) (k := 26) X I rfl inb_TX8 wd_864 (by decide) qt_386 dX8_agree_120 h (fun v120 h => ?_)
          refine lv_iload_n X.1 X.2.1 dX8_agree_123 rfl (lv_at hl 3 rfl) ?_
          refine lv_bipush (v := 6) X.1 X.2.1 dX8_agree_124 (by decide) ?_
          refine lv_iadd X.1 X.2.1 dX8_agree_126 ?_
          refine q_ldI X I (by decide) (by decide) dX8_agree_127 h (fun v127 h => ?_)
          refine lv_iadd X.1 X.2.1 dX8_agree_128 ?_
          refine lv_dup2_11 X.1 X.2.1 dX8_agree_129 rfl (q_cat _) ?_
          refine q_ldI X I (by decide) (by decide) dX8_agree_130 h (fun v130 h => ?_)
          refine q_aload_n X dX8_agree_131 rfl (lv_at hl 4 rfl) ?_
          refine q_getR (ci := 9) (k := 26) X I rfl inb_TX8 wd_864 (by decide) qt_386 dX8_agree_132 h (fun v132 h => ?_)
          refine lv_iload_n X.1 X.2.1 dX8_agree_135 rfl (lv_at hl 3 rfl) ?_
          refine lv_iconst (v := 5) X.1 X.2.1 dX8_agree_136 (by decide) ?_
          refine lv_iadd X.1 X.2.1 dX8_agree_137 ?_
          refine q_ldI X I (by decide) (by decide) dX8_agree_138 h (fun v138 h => ?_)
          refine lv_isub X.1 X.2.1 dX8_agree_139 ?_
          refine q_stI X I (by decide) (by decide) dX8_agree_140 h (fun S H locs I h => ?_)
          refine q_aload_n X dX8_agree_141 rfl (lv_at hl 4 rfl) ?_
          refine q_getR (ci := 9) (k := 2) X I rfl inb_TX8 wd_840 (by decide) qt_362 dX8_agree_142 h (fun v142 h => ?_)
          refine lv_iload X.1 X.2.1 dX8_agree_145 (lv_at hl 0 rfl) ?_
          refine q_aload_n X dX8_agree_147 rfl (lv_at hl 4 rfl) ?_
          refine q_getR (ci := 9) (k := 26) X I rfl inb_TX8 wd_864 (by decide) qt_386 dX8_agree_148 h (fun v148 h => ?_)
          refine lv_iload_n X.1 X.2.1 dX8_agree_151 rfl (lv_at hl 3 rfl) ?_
          refine lv_iconst (v := 3) X.1 X.2.1 dX8_agree_152 (by decide) ?_
          refine lv_iadd X.1 X.2.1 dX8_agree_153 ?_
          refine q_ldI X I (by decide) (by decide) dX8_agree_154 h (fun v154 h => ?_)
          refine lv_iadd X.1 X.2.1 dX8_agree_155 ?_
          refine lv_dup2_11 X.1 X.2.1 dX8_agree_156 rfl (q_cat _) ?_
          refine q_ldI X I (by decide) (by decide) dX8_agree_157 h (fun v157 h => ?_)
          refine q_aload_n X dX8_agree_158 rfl (lv_at hl 4 rfl) ?_
          refine q_getR (ci := 9) (k := 26) X I rfl inb_TX8 wd_864 (by decide) qt_386 dX8_agree_159 h (fun v159 h => ?_)
          refine lv_iload_n X.1 X.2.1 dX8_agree_162 rfl (lv_at hl 3 rfl) ?_
          refine lv_iconst (v := 2) X.1 X.2.1 dX8_agree_163 (by decide) ?_
          refine lv_iadd X.1 X.2.1 dX8_agree_164 ?_
          refine q_ldI X I (by decide) (by decide) dX8_agree_165 h (fun v165 h => ?_)
          refine lv_iadd X.1 X.2.1 dX8_agree_166 ?_
          refine q_stI X I (by decide) (by decide) dX8_agree_167 h (fun S H locs I h => ?_)
          refine q_aload_n X dX8_agree_168 rfl (lv_at hl 4 rfl) ?_
          refine q_getR (ci := 9) (k := 2) X I rfl inb_TX8 wd_840 (by decide) qt_362 dX8_agree_169 h (fun v169 h => ?_)
          refine lv_iload X.1 X.2.1 dX8_agree_172 (lv_at hl 1 rfl) ?_
          refine q_aload_n X dX8_agree_174 rfl (lv_at hl 4 rfl) ?_
          refine q_getR (ci := 9) (k := 26) X I rfl inb_TX8 wd_864 (by decide) qt_386 dX8_agree_175 h (fun v175 h => ?_)
          refine lv_iload_n X.1 X.2.1 dX8_agree_178 rfl (lv_at hl 3 rfl) ?_
          refine lv_bipush (v := 6) X.1 X.2.1 dX8_agree_179 (by decide) ?_
          refine lv_iadd X.1 X.2.1 dX8_agree_181 ?_
          refine q_ldI X I (by decide) (by decide) dX8_agree_182 h (fun v182 h => ?_)
          refine lv_iadd X.1 X.2.1 dX8_agree_183 ?_
          refine lv_dup2_11 X.1 X.2.1 dX8_agree_184 rfl (q_cat _) ?_
          refine q_ldI X I (by decide) (by decide) dX8_agree_185 h (fun v185 h => ?_)
          refine q_aload_n X dX8_agree_186 rfl (lv_at hl 4 rfl) ?_
          refine q_getR (ci := 9) (k := 26) X I rfl inb_TX8 wd_864 (by decide) qt_386 dX8_agree_187 h (fun v187 h => ?_)
          refine lv_iload_n X.1 X.2.1 dX8_agree_190 rfl (lv_at hl 3 rfl) ?_
          refine lv_iconst (v := 5) X.1 X.2.1 dX8_agree_191 (by decide) ?_
          refine lv_iadd X.1 X.2.1 dX8_agree_192 ?_
          refine q_ldI X I (by decide) (by decide) dX8_agree_193 h (fun v193 h => ?_)
          refine lv_iadd X.1 X.2.1 dX8_agree_194 ?_
          refine q_stI X I (by decide) (by decide) dX8_agree_195 h (fun S H locs I h => ?_)
          refine q_aload_n X dX8_agree_196 rfl (lv_at hl 4 rfl) ?_
          refine q_getR (ci := 9) (k := 26) X I rfl inb_TX8 wd_864 (by decide) qt_386 dX8_agree_197 h (fun v197 h => ?_)
          refine lv_iload_n X.1 X.2.1 dX8_agree_200 rfl (lv_at hl 3 rfl) ?_
          refine lv_iconst (v := 4) X.1 X.2.1 dX8_agree_201 (by decide) ?_
          refine lv_iadd X.1 X.2.1 dX8_agree_202 ?_
          refine q_ldI X I (by decide) (by decide) dX8_agree_203 h (fun v203 h => ?_)
          have jn227 : ∀ (x0 : Option Nat) (x1 : Int32) (x2 : Int32) (S : qS) (H : Heap) (locs : List Loc) (ls : Array Slot), pX8_agree_J227 post xp x0 x1 x2 S → q_H G A s H locs S → lv_has ls 6 [(0, va_rf x0), (1, .int x1), (2, .int x2)] → W p l e (q_rm 4 0 0) s m av below meth c H locs 0 0 (vx_MQ below (q_Qi G post A) (q_XC G A xp) av s 0 0 A) (F0 m 227 ls []) := by
            intro x0 x1 x2 S H locs ls h I hl
            unfold pX8_agree_J227 at h
            refine q_aload_n X dX8_agree_227 rfl (lv_at hl 0 rfl) ?_
            refine q_getR (ci := 9) (k := 26) X I rfl inb_TX8 wd_864 (by decide) qt_386 dX8_agree_228 h (fun v228 h => ?_)
            refine lv_iload_n X.1 X.2.1 dX8_agree_231 rfl (lv_at hl 2 rfl) ?_
            refine lv_bipush (v := 7) X.1 X.2.1 dX8_agree_232 (by decide) ?_
            refine lv_iadd X.1 X.2.1 dX8_agree_234 ?_
            refine q_ldI X I (by decide) (by decide) dX8_agree_235 h (fun v235 h => ?_)
            have jn258 : ∀ (x0 : Option Nat) (x1 : Int32) (S : qS) (H : Heap) (locs : List Loc) (ls : Array Slot), pX8_agree_J258 post xp x0 x1 S → q_H G A s H locs S → lv_has ls 6 [(0, va_rf x0), (1, .int x1)] → W p l e (q_rm 4 0 0) s m av below meth c H locs 0 0 (vx_MQ below (q_Qi G post A) (q_XC G A xp) av s 0 0 A) (F0 m 258 ls []) := by
              intro x0 x1 S H locs ls h I hl
              unfold pX8_agree_J258 at h
              refine q_aload_n X dX8_agree_258 rfl (lv_at hl 0 rfl) ?_
              refine q_getR (ci := 9) (k := 27) X I rfl inb_TX8 wd_865 (by decide) qt_387 dX8_agree_259 h (fun v259 h => ?_)
              refine lv_iload_n X.1 X.2.1 dX8_agree_262 rfl (lv_at hl 1 rfl) ?_
              refine lv_iconst (v := 0) X.1 X.2.1 dX8_agree_263 (by decide) ?_
              refine q_stZ X I (by decide) (by decide) dX8_agree_264 h (fun S H locs I h => ?_)
              refine lv_iconst (v := 0) X.1 X.2.1 dX8_agree_265 (by decide) ?_
              exact q_iret X I hr dX8_agree_266 h (by decide) (by decide)
            refine lv_if_lt (tgt := 258) X.1 X.2.1 dX8_agree_236 (by decide) (fun c236 => ?_) (fun c236 => ?_)
            · have h := h.1 c236
              exact jn258 _ _ _ _ _ _ h I (lv_sub hl [0, 1] rfl)
            · have h := h.2 c236
              refine q_aload_n X dX8_agree_239 rfl (lv_at hl 0 rfl) ?_
              refine q_aload_n X dX8_agree_240 rfl (lv_at hl 0 rfl) ?_
              refine q_getR (ci := 9) (k := 26) X I rfl inb_TX8 wd_864 (by decide) qt_386 dX8_agree_241 h (fun v241 h => ?_)
              refine lv_iload_n X.1 X.2.1 dX8_agree_244 rfl (lv_at hl 2 rfl) ?_
              refine lv_bipush (v := 7) X.1 X.2.1 dX8_agree_245 (by decide) ?_
              refine lv_iadd X.1 X.2.1 dX8_agree_247 ?_
              refine q_ldI X I (by decide) (by decide) dX8_agree_248 h (fun v248 h => ?_)
              refine q_aload_n X dX8_agree_249 rfl (lv_at hl 0 rfl) ?_
              refine q_getR (ci := 9) (k := 26) X I rfl inb_TX8 wd_864 (by decide) qt_386 dX8_agree_250 h (fun v250 h => ?_)
              refine lv_iload_n X.1 X.2.1 dX8_agree_253 rfl (lv_at hl 2 rfl) ?_
              refine q_ldI X I (by decide) (by decide) dX8_agree_254 h (fun v254 h => ?_)
              refine q_cVv (As := [.int v248, .int v254]) (rest := []) (c1 := 0) (s1 := 0) (d := 2) (mc := 0) (ms := 0) X N I hl.1 mX8_goes wd_1038 dX8_agree_255 rfl h (fun b h => kX8_goes hl0 h) rfl (Nat.le_of_ble_eq_true rfl) ⟨by decide, by decide⟩ ⟨by decide, by decide⟩ ⟨by decide, by decide⟩ rfl rfl (fun S H locs I h => ?_)
              exact jn258 _ _ _ _ _ _ h I (lv_sub hl [0, 1] rfl)
          refine lv_if_lt (tgt := 227) X.1 X.2.1 dX8_agree_204 (by decide) (fun c204 => ?_) (fun c204 => ?_)
          · have h := h.1 c204
            exact jn227 _ _ _ _ _ _ _ h I (lv_sub hl [4, 5, 3] rfl)
          · have h := h.2 c204
            refine q_aload_n X dX8_agree_207 rfl (lv_at hl 4 rfl) ?_
            refine q_aload_n X dX8_agree_208 rfl (lv_at hl 4 rfl) ?_
            refine q_getR (ci := 9) (k := 26) X I rfl inb_TX8 wd_864 (by decide) qt_386 dX8_agree_209 h (fun v209 h => ?_)
            refine lv_iload_n X.1 X.2.1 dX8_agree_212 rfl (lv_at hl 3 rfl) ?_
            refine lv_iconst (v := 4) X.1 X.2.1 dX8_agree_213 (by decide) ?_
            refine lv_iadd X.1 X.2.1 dX8_agree_214 ?_
            refine q_ldI X I (by decide) (by decide) dX8_agree_215 h (fun v215 h => ?_)
            refine q_aload_n X dX8_agree_216 rfl (lv_at hl 4 rfl) ?_
            refine q_getR (ci := 9) (k := 26) X I rfl inb_TX8 wd_864 (by decide) qt_386 dX8_agree_217 h (fun v217 h => ?_)
            refine lv_iload_n X.1 X.2.1 dX8_agree_220 rfl (lv_at hl 3 rfl) ?_
            refine lv_iconst (v := 1) X.1 X.2.1 dX8_agree_221 (by decide) ?_
            refine lv_iadd X.1 X.2.1 dX8_agree_222 ?_
            refine q_ldI X I (by decide) (by decide) dX8_agree_223 h (fun v223 h => ?_)
            refine q_cVv (As := [.int v215, .int v223]) (rest := []) (c1 := 0) (s1 := 0) (d := 2) (mc := 0) (ms := 0) X N I hl.1 mX8_goes wd_1038 dX8_agree_224 rfl h (fun b h => kX8_goes hl0 h) rfl (Nat.le_of_ble_eq_true rfl) ⟨by decide, by decide⟩ ⟨by decide, by decide⟩ ⟨by decide, by decide⟩ rfl rfl (fun S H locs I h => ?_)
            exact jn227 _ _ _ _ _ _ _ h I (lv_sub hl [4, 5, 3] rfl)
        · have h := h.2 c59
          refine lv_iload_n X.1 X.2.1 dX8_agree_62 rfl (lv_at hl 0 rfl) ?_
          exact q_iret X I hr dX8_agree_63 h (by decide) (by decide)
      · have h := h.2 c42
        refine lv_iconst (v := 1) X.1 X.2.1 dX8_agree_45 (by decide) ?_
        exact q_iret X I hr dX8_agree_46 h (by decide) (by decide)
    · have h := h.2 c31
      refine lv_iconst (v := 0) X.1 X.2.1 dX8_agree_34 (by decide) ?_
      exact q_iret X I hr dX8_agree_35 h (by decide) (by decide)
  refine lv_if_ne (tgt := 26) X.1 X.2.1 dX8_agree_19 (by decide) (fun c19 => ?_) (fun c19 => ?_)
  · have h := h.1 c19
    refine lv_iconst (v := 0) X.1 X.2.1 dX8_agree_26 (by decide) ?_
    exact jn27 _ _ _ _ _ _ _ _ h I (lv_sub hl [0, 1] rfl)
  · have h := h.2 c19
    refine lv_iconst (v := 1) X.1 X.2.1 dX8_agree_22 (by decide) ?_
    refine lv_goto (tgt := 27) X.1 X.2.1 dX8_agree_23 (by decide) ?_
    exact jn27 _ _ _ _ _ _ _ _ h I (lv_sub hl [0, 1] rfl)

def pX8_withdraw_J27  (post : Int32 → qS → Prop) (xp : String → qS → Prop) (x0 : Option Nat) (x1 : Int32) (t0 : Option Nat) (t1 : Int32) (S : qS) : Prop :=
  w_at S t0 9 (fun b28 => pX8_throwsIf b28 t1 (1 : Int32) S (fun v28 S =>
  ((v28 = 0 →
  w_getR S x0 9 27 (fun v37 =>
  w_ldI S v37 57 x1 (fun v41 =>
  w_getR S x0 9 27 (fun v44 =>
  w_stZ S v44 57 x1 (0 : Int32) (fun S =>
  ((v41 = 0 ∨ v41 = 1) ∧ post v41 S)))))) ∧ (¬ v28 = 0 →
  (((0 : Int32) = 0 ∨ (0 : Int32) = 1) ∧ post (0 : Int32) S)))) xp)
def pX8_withdraw (x0 : Nat) (x1 : Int32) (S : qS) (post : Int32 → qS → Prop) (xp : String → qS → Prop) : Prop :=
  w_putI S (some x0) 9 0 (0 : Int32) (fun S =>
  w_getI S (some x0) 9 28 (fun v10 =>
  pX8_in x1.toInt64 (0 : Int64) ((v10 - (1 : Int32)).toInt64) S (fun v16 S =>
  ((¬ v16 = 0 →
  pX8_withdraw_J27 post xp (some x0) x1 (some x0) (0 : Int32) S) ∧ (v16 = 0 →
  pX8_withdraw_J27 post xp (some x0) x1 (some x0) (1 : Int32) S))) xp))
set_option maxHeartbeats 4000000 in
set_option maxRecDepth 100000 in
theorem kX8_withdraw {l : Launch} (hl0 : l.stackTraces = false) {G : qG} {S : qS} {sz : Nat} {x0 : Nat} {x1 : Int32} {post : Int32 → qS → Prop} {xp : String → qS → Prop} (h : pX8_withdraw x0 x1 S post xp) : q_M l yX8_withdraw cX8_withdraw 3 (some .boolean) 2 0 0 G S sz [va_rf (some x0), .int x1] (q_Qi G post) xp := by
  refine q_of (lv := [(0, va_rf (some x0)), (1, .int x1)]) hl0 (by decide) rfl (Nat.le_of_ble_eq_true rfl) (fun p e s m below meth c A ls X N hr hnm I hl => ?_)
  generalize ([va_rf (some x0), .int x1] : List Value).toArray = av at X ⊢
  unfold pX8_withdraw at h
  refine q_aload_n X dX8_withdraw_0 rfl (lv_at hl 0 rfl) ?_
  refine lv_iconst (v := 0) X.1 X.2.1 dX8_withdraw_1 (by decide) ?_
  refine q_putI (ci := 9) (k := 0) X I rfl inb_TX8 tyX8_ok nmX8 wd_838 (by decide) (Or.inl rfl) qt_360 rfl dX8_withdraw_2 h (fun S H locs I h => ?_)
  refine q_aload_n X dX8_withdraw_5 rfl (lv_at hl 0 rfl) ?_
  refine lv_iload_n X.1 X.2.1 dX8_withdraw_6 rfl (lv_at hl 1 rfl) ?_
  refine lv_i2l X.1 X.2.1 dX8_withdraw_7 rfl ?_
  refine lv_lconst (v := 0) X.1 X.2.1 dX8_withdraw_8 (by decide) ?_
  refine q_aload_n X dX8_withdraw_9 rfl (lv_at hl 0 rfl) ?_
  refine q_getI (ci := 9) (k := 28) X I rfl inb_TX8 wd_866 (by decide) qt_388 dX8_withdraw_10 h (fun v10 h => ?_)
  refine lv_iconst (v := 1) X.1 X.2.1 dX8_withdraw_13 (by decide) ?_
  refine lv_isub X.1 X.2.1 dX8_withdraw_14 ?_
  refine lv_i2l X.1 X.2.1 dX8_withdraw_15 rfl ?_
  refine q_cSi (As := [.long x1.toInt64, .long (0 : Int64), .long (v10 - (1 : Int32)).toInt64]) (rest := [va_rf (some x0)]) (c1 := 0) (s1 := 0) (d := 1) (mc := 0) (ms := 0) X N I hl.1 mX8_in wd_963 dX8_withdraw_16 rfl (kX8_in hl0 h) rfl (Nat.le_of_ble_eq_true rfl) ⟨by decide, by decide⟩ ⟨by decide, by decide⟩ ⟨by decide, by decide⟩ rfl rfl (fun v16 S H locs I h => ?_)
  have jn27 : ∀ (x0 : Option Nat) (x1 : Int32) (t0 : Option Nat) (t1 : Int32) (S : qS) (H : Heap) (locs : List Loc) (ls : Array Slot), pX8_withdraw_J27 post xp x0 x1 t0 t1 S → q_H G A s H locs S → lv_has ls 3 [(0, va_rf x0), (1, .int x1)] → W p l e (q_rm 2 0 0) s m av below meth c H locs 0 0 (vx_MQ below (q_Qi G post A) (q_XC G A xp) av s 0 0 A) (F0 m 27 ls [.int t1, va_rf t0]) := by
    intro x0 x1 t0 t1 S H locs ls h I hl
    unfold pX8_withdraw_J27 at h
    refine lv_iconst (v := 1) X.1 X.2.1 dX8_withdraw_27 (by decide) ?_
    refine q_cVi (As := [.int t1, .int (1 : Int32)]) (rest := []) (c1 := 0) (s1 := 0) (d := 1) (mc := 0) (ms := 0) X N I hl.1 mX8_throwsIf wd_947 dX8_withdraw_28 rfl h (fun b h => kX8_throwsIf hl0 h) rfl (Nat.le_of_ble_eq_true rfl) ⟨by decide, by decide⟩ ⟨by decide, by decide⟩ ⟨by decide, by decide⟩ rfl rfl (fun v28 S H locs I h => ?_)
    refine lv_if_eq (tgt := 36) X.1 X.2.1 dX8_withdraw_31 (by decide) (fun c31 => ?_) (fun c31 => ?_)
    · have h := h.1 c31
      refine q_aload_n X dX8_withdraw_36 rfl (lv_at hl 0 rfl) ?_
      refine q_getR (ci := 9) (k := 27) X I rfl inb_TX8 wd_865 (by decide) qt_387 dX8_withdraw_37 h (fun v37 h => ?_)
      refine lv_iload_n X.1 X.2.1 dX8_withdraw_40 rfl (lv_at hl 1 rfl) ?_
      refine q_ldZ X I (by decide) (by decide) dX8_withdraw_41 h (fun v41 h => ?_)
      refine lv_istore_n (i := 2) (lv' := [(2, .int v41), (0, va_rf x0), (1, .int x1)]) X.1 X.2.1 dX8_withdraw_42 rfl hl (by decide) rfl (fun ls hl => ?_)
      refine q_aload_n X dX8_withdraw_43 rfl (lv_at hl 1 rfl) ?_
      refine q_getR (ci := 9) (k := 27) X I rfl inb_TX8 wd_865 (by decide) qt_387 dX8_withdraw_44 h (fun v44 h => ?_)
      refine lv_iload_n X.1 X.2.1 dX8_withdraw_47 rfl (lv_at hl 2 rfl) ?_
      refine lv_iconst (v := 0) X.1 X.2.1 dX8_withdraw_48 (by decide) ?_
      refine q_stZ X I (by decide) (by decide) dX8_withdraw_49 h (fun S H locs I h => ?_)
      refine lv_iload_n X.1 X.2.1 dX8_withdraw_50 rfl (lv_at hl 0 rfl) ?_
      exact q_zret X I hr dX8_withdraw_51 h (by decide) (by decide)
    · have h := h.2 c31
      refine lv_iconst (v := 0) X.1 X.2.1 dX8_withdraw_34 (by decide) ?_
      exact q_zret X I hr dX8_withdraw_35 h (by decide) (by decide)
  refine lv_if_ne (tgt := 26) X.1 X.2.1 dX8_withdraw_19 (by decide) (fun c19 => ?_) (fun c19 => ?_)
  · have h := h.1 c19
    refine lv_iconst (v := 0) X.1 X.2.1 dX8_withdraw_26 (by decide) ?_
    exact jn27 _ _ _ _ _ _ _ _ h I (lv_sub hl [0, 1] rfl)
  · have h := h.2 c19
    refine lv_iconst (v := 1) X.1 X.2.1 dX8_withdraw_22 (by decide) ?_
    refine lv_goto (tgt := 27) X.1 X.2.1 dX8_withdraw_23 (by decide) ?_
    exact jn27 _ _ _ _ _ _ _ _ h I (lv_sub hl [0, 1] rfl)
