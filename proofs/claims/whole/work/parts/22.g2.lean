def pX7_checkKind_J9  (post : qS → Prop) (xp : String → qS → Prop)  (S : qS) : Prop :=
  xp "java/lang/IndexOutOfBoundsException" S
def pX7_checkKind (x0 : Int32) (S : qS) (post : qS → Prop) (xp : String → qS → Prop) : Prop :=
  ((x0 < 0 →
  pX7_checkKind_J9 post xp S) ∧ (¬ x0 < 0 →
  ((x0 < (4 : Int32) →
  post S) ∧ (¬ x0 < (4 : Int32) →
  pX7_checkKind_J9 post xp S))))
set_option maxHeartbeats 4000000 in
set_option maxRecDepth 100000 in
theorem kX7_checkKind {l : Launch} (hl0 : l.stackTraces = false) {G : qG} {S : qS} {sz : Nat} {x0 : Int32} {post : qS → Prop} {xp : String → qS → Prop} (h : pX7_checkKind x0 S post xp) : q_M l yX7_checkKind cX7_checkKind 1 none 6 1 6 G S sz [.int x0] (q_Qv G post) xp := by
  refine q_of (lv := [(0, .int x0)]) hl0 (by decide) rfl (Nat.le_of_ble_eq_true rfl) (fun p e s m below meth c A ls X N hr hnm I hl => ?_)
  generalize ([.int x0] : List Value).toArray = av at X ⊢
  unfold pX7_checkKind at h
  refine lv_iload_n X.1 X.2.1 dX7_checkKind_0 rfl (lv_at hl 0 rfl) ?_
  have jn9 : ∀ (S : qS) (H : Heap) (locs : List Loc) (ls : Array Slot), pX7_checkKind_J9 post xp S → q_H G A s H locs S → lv_has ls 1 [] → W p l e (q_rm 6 1 6) s m av below meth c H locs 0 0 (vx_MQ below (q_Qv G post A) (q_XC G A xp) av s 1 6 A) (F0 m 9 ls []) := by
    intro S H locs ls h I hl
    unfold pX7_checkKind_J9 at h
    exact q_throwW (text := "there is no such kind") (R := q_rm 6 1 6) (cells := 0) (slots := 0) (mcQ := 1) (msQ := 6) (rest := []) X N I hl.1 th_RX7_326.1 th_RX7_326.2.1 wd_437 wd_18 (by decide) th_RX7_326.2.2.1 th_RX7_326.2.2.2.1 (th_RX7_326.2.2.2.2 _ rfl) dX7_checkKind_9 dX7_checkKind_12 dX7_checkKind_13 dX7_checkKind_16 dX7_checkKind_19 (by decide) (Nat.le_of_ble_eq_true rfl) ⟨by decide, by decide⟩ ⟨by decide, by decide⟩ h
  refine lv_if_lt (tgt := 9) X.1 X.2.1 dX7_checkKind_1 (by decide) (fun c1 => ?_) (fun c1 => ?_)
  · have h := h.1 c1
    exact jn9 _ _ _ _ h I (lv_sub hl [] rfl)
  · have h := h.2 c1
    refine lv_iload_n X.1 X.2.1 dX7_checkKind_4 rfl (lv_at hl 0 rfl) ?_
    refine lv_iconst (v := 4) X.1 X.2.1 dX7_checkKind_5 (by decide) ?_
    refine lv_icmp_lt (tgt := 20) X.1 X.2.1 dX7_checkKind_6 (by decide) (fun c6 => ?_) (fun c6 => ?_)
    · have h := h.1 c6
      exact q_vret X I hr dX7_checkKind_20 h (by decide) (by decide)
    · have h := h.2 c6
      exact jn9 _ _ _ _ h I (lv_sub hl [] rfl)

def pX7_checkRange_J10  (post : qS → Prop) (xp : String → qS → Prop)  (S : qS) : Prop :=
  xp "java/lang/IllegalArgumentException" S
def pX7_checkRange (x0 : Int32) (x1 : Int32) (x2 : Int32) (S : qS) (post : qS → Prop) (xp : String → qS → Prop) : Prop :=
  ((x0 < x1 →
  pX7_checkRange_J10 post xp S) ∧ (¬ x0 < x1 →
  ((x0 ≤ x2 →
  post S) ∧ (¬ x0 ≤ x2 →
  pX7_checkRange_J10 post xp S))))
set_option maxHeartbeats 4000000 in
set_option maxRecDepth 100000 in
theorem kX7_checkRange {l : Launch} (hl0 : l.stackTraces = false) {G : qG} {S : qS} {sz : Nat} {x0 : Int32} {x1 : Int32} {x2 : Int32} {post : qS → Prop} {xp : String → qS → Prop} (h : pX7_checkRange x0 x1 x2 S post xp) : q_M l yX7_checkRange cX7_checkRange 3 none 6 1 6 G S sz [.int x0, .int x1, .int x2] (q_Qv G post) xp := by
  refine q_of (lv := [(0, .int x0), (1, .int x1), (2, .int x2)]) hl0 (by decide) rfl (Nat.le_of_ble_eq_true rfl) (fun p e s m below meth c A ls X N hr hnm I hl => ?_)
  generalize ([.int x0, .int x1, .int x2] : List Value).toArray = av at X ⊢
  unfold pX7_checkRange at h
  refine lv_iload_n X.1 X.2.1 dX7_checkRange_0 rfl (lv_at hl 0 rfl) ?_
  refine lv_iload_n X.1 X.2.1 dX7_checkRange_1 rfl (lv_at hl 1 rfl) ?_
  have jn10 : ∀ (S : qS) (H : Heap) (locs : List Loc) (ls : Array Slot), pX7_checkRange_J10 post xp S → q_H G A s H locs S → lv_has ls 3 [] → W p l e (q_rm 6 1 6) s m av below meth c H locs 0 0 (vx_MQ below (q_Qv G post A) (q_XC G A xp) av s 1 6 A) (F0 m 10 ls []) := by
    intro S H locs ls h I hl
    unfold pX7_checkRange_J10 at h
    exact q_throwW (text := "a number is out of its range") (R := q_rm 6 1 6) (cells := 0) (slots := 0) (mcQ := 1) (msQ := 6) (rest := []) X N I hl.1 th_RX7_222.1 th_RX7_222.2.1 wd_460 wd_21 (by decide) th_RX7_222.2.2.1 th_RX7_222.2.2.2.1 (th_RX7_222.2.2.2.2 _ rfl) dX7_checkRange_10 dX7_checkRange_13 dX7_checkRange_14 dX7_checkRange_17 dX7_checkRange_20 (by decide) (Nat.le_of_ble_eq_true rfl) ⟨by decide, by decide⟩ ⟨by decide, by decide⟩ h
  refine lv_icmp_lt (tgt := 10) X.1 X.2.1 dX7_checkRange_2 (by decide) (fun c2 => ?_) (fun c2 => ?_)
  · have h := h.1 c2
    exact jn10 _ _ _ _ h I (lv_sub hl [] rfl)
  · have h := h.2 c2
    refine lv_iload_n X.1 X.2.1 dX7_checkRange_5 rfl (lv_at hl 0 rfl) ?_
    refine lv_iload_n X.1 X.2.1 dX7_checkRange_6 rfl (lv_at hl 2 rfl) ?_
    refine lv_icmp_le (tgt := 21) X.1 X.2.1 dX7_checkRange_7 (by decide) (fun c7 => ?_) (fun c7 => ?_)
    · have h := h.1 c7
      exact q_vret X I hr dX7_checkRange_21 h (by decide) (by decide)
    · have h := h.2 c7
      exact jn10 _ _ _ _ h I (lv_sub hl [] rfl)

def pX7_numberOf_J12  (post : Int32 → qS → Prop) (xp : String → qS → Prop) (t0 : Int32) (S : qS) : Prop :=
  post t0 S
def pX7_numberOf (x0 : Option Nat) (S : qS) (post : Int32 → qS → Prop) (xp : String → qS → Prop) : Prop :=
  ((¬ x0 = none →
  w_getI S x0 3 0 (fun v9 =>
  pX7_numberOf_J12 post xp v9 S)) ∧ (x0 = none →
  pX7_numberOf_J12 post xp (-1 : Int32) S))
set_option maxHeartbeats 4000000 in
set_option maxRecDepth 100000 in
theorem kX7_numberOf {l : Launch} (hl0 : l.stackTraces = false) {G : qG} {S : qS} {sz : Nat} {x0 : Option Nat} {post : Int32 → qS → Prop} {xp : String → qS → Prop} (h : pX7_numberOf x0 S post xp) : q_M l yX7_numberOf cX7_numberOf 1 (some .int) 1 0 0 G S sz [va_rf x0] (q_Qi G post) xp := by
  refine q_of (lv := [(0, va_rf x0)]) hl0 (by decide) (by cases x0 <;> rfl) (by cases x0 <;> exact Nat.le_of_ble_eq_true rfl) (fun p e s m below meth c A ls X N hr hnm I hl => ?_)
  generalize ([va_rf x0] : List Value).toArray = av at X ⊢
  unfold pX7_numberOf at h
  refine q_aload_n X dX7_numberOf_0 rfl (lv_at hl 0 rfl) ?_
  have jn12 : ∀ (t0 : Int32) (S : qS) (H : Heap) (locs : List Loc) (ls : Array Slot), pX7_numberOf_J12 post xp t0 S → q_H G A s H locs S → lv_has ls 1 [] → W p l e (q_rm 1 0 0) s m av below meth c H locs 0 0 (vx_MQ below (q_Qi G post A) (q_XC G A xp) av s 0 0 A) (F0 m 12 ls [.int t0]) := by
    intro t0 S H locs ls h I hl
    unfold pX7_numberOf_J12 at h
    exact q_iret X I hr dX7_numberOf_12 h (by decide) (by decide)
  refine q_ifnonnull (tgt := 8) X dX7_numberOf_1 (by decide) (fun c1 => ?_) (fun c1 => ?_)
  · have h := h.1 c1
    refine q_aload_n X dX7_numberOf_8 rfl (lv_at hl 0 rfl) ?_
    refine q_getI (ci := 3) (k := 0) X I rfl inb_TX2 wd_318 (by decide) qt_120 dX7_numberOf_9 h (fun v9 h => ?_)
    exact jn12 _ _ _ _ _ h I (lv_sub hl [] rfl)
  · have h := h.2 c1
    refine lv_iconst (v := -1) X.1 X.2.1 dX7_numberOf_4 (by decide) ?_
    refine lv_goto (tgt := 12) X.1 X.2.1 dX7_numberOf_5 (by decide) ?_
    exact jn12 _ _ _ _ _ h I (lv_sub hl [] rfl)

def pX7_playerAt_J15  (post : Option Nat → qS → Prop) (xp : String → qS → Prop)  (S : qS) : Prop :=
  xp "java/lang/IndexOutOfBoundsException" S
def pX7_playerAt (x0 : Nat) (x1 : Int32) (S : qS) (post : Option Nat → qS → Prop) (xp : String → qS → Prop) : Prop :=
  ((x1 < 0 →
  pX7_playerAt_J15 post xp S) ∧ (¬ x1 < 0 →
  w_getR S (some x0) 8 0 (fun v6 =>
  w_at S v6 0 (fun b9 => pJx4a65c_size_8abf5 b9  S (fun v9 S =>
  ((x1 < v9 →
  w_getR S (some x0) 8 0 (fun v27 =>
  w_at S v27 0 (fun b31 => pJx4a65c_get_915e3 b31 x1 S (fun v31 S =>
  w_cast S v31 3 (
  post v31 S)) xp))) ∧ (¬ x1 < v9 →
  pX7_playerAt_J15 post xp S))) xp))))
set_option maxHeartbeats 4000000 in
set_option maxRecDepth 100000 in
theorem kX7_playerAt {l : Launch} (hl0 : l.stackTraces = false) {G : qG} {S : qS} {sz : Nat} {x0 : Nat} {x1 : Int32} {post : Option Nat → qS → Prop} {xp : String → qS → Prop} (h : pX7_playerAt x0 x1 S post xp) : q_M l yX7_playerAt cX7_playerAt 2 (some (.object "GoodsKeeper$Player")) 6 1 6 G S sz [va_rf (some x0), .int x1] (q_Qr G post) xp := by
  refine q_of (lv := [(0, va_rf (some x0)), (1, .int x1)]) hl0 (by decide) rfl (Nat.le_of_ble_eq_true rfl) (fun p e s m below meth c A ls X N hr hnm I hl => ?_)
  generalize ([va_rf (some x0), .int x1] : List Value).toArray = av at X ⊢
  unfold pX7_playerAt at h
  refine lv_iload_n X.1 X.2.1 dX7_playerAt_0 rfl (lv_at hl 1 rfl) ?_
  have jn15 : ∀ (S : qS) (H : Heap) (locs : List Loc) (ls : Array Slot), pX7_playerAt_J15 post xp S → q_H G A s H locs S → lv_has ls 2 [] → W p l e (q_rm 6 1 6) s m av below meth c H locs 0 0 (vx_MQ below (q_Qr G post A) (q_XC G A xp) av s 1 6 A) (F0 m 15 ls []) := by
    intro S H locs ls h I hl
    unfold pX7_playerAt_J15 at h
    exact q_throwW (text := "there is no such player") (R := q_rm 6 1 6) (cells := 0) (slots := 0) (mcQ := 1) (msQ := 6) (rest := []) X N I hl.1 th_RX7_326.1 th_RX7_326.2.1 wd_437 wd_18 (by decide) th_RX7_326.2.2.1 th_RX7_326.2.2.2.1 (th_RX7_326.2.2.2.2 _ rfl) dX7_playerAt_15 dX7_playerAt_18 dX7_playerAt_19 dX7_playerAt_22 dX7_playerAt_25 (by decide) (Nat.le_of_ble_eq_true rfl) ⟨by decide, by decide⟩ ⟨by decide, by decide⟩ h
  refine lv_if_lt (tgt := 15) X.1 X.2.1 dX7_playerAt_1 (by decide) (fun c1 => ?_) (fun c1 => ?_)
  · have h := h.1 c1
    exact jn15 _ _ _ _ h I (lv_sub hl [] rfl)
  · have h := h.2 c1
    refine lv_iload_n X.1 X.2.1 dX7_playerAt_4 rfl (lv_at hl 1 rfl) ?_
    refine q_aload_n X dX7_playerAt_5 rfl (lv_at hl 0 rfl) ?_
    refine q_getR (ci := 8) (k := 0) X I rfl inb_TX7 wd_98 (by decide) qt_320 dX7_playerAt_6 h (fun v6 h => ?_)
    refine q_cVi (As := []) (rest := [.int x1]) (c1 := 0) (s1 := 0) (d := 1) (mc := 0) (ms := 0) X N I hl.1 mJx4a65c_size_8abf5 wd_137 dX7_playerAt_9 rfl h (fun b h => kJx4a65c_size_8abf5 hl0 h) rfl (Nat.le_of_ble_eq_true rfl) ⟨by decide, by decide⟩ ⟨by decide, by decide⟩ ⟨by decide, by decide⟩ rfl rfl (fun v9 S H locs I h => ?_)
    refine lv_icmp_lt (tgt := 26) X.1 X.2.1 dX7_playerAt_12 (by decide) (fun c12 => ?_) (fun c12 => ?_)
    · have h := h.1 c12
      refine q_aload_n X dX7_playerAt_26 rfl (lv_at hl 0 rfl) ?_
      refine q_getR (ci := 8) (k := 0) X I rfl inb_TX7 wd_98 (by decide) qt_320 dX7_playerAt_27 h (fun v27 h => ?_)
      refine lv_iload_n X.1 X.2.1 dX7_playerAt_30 rfl (lv_at hl 1 rfl) ?_
      refine q_cVr (As := [.int x1]) (rest := []) (c1 := 0) (s1 := 0) (d := 3) (mc := 0) (ms := 0) X N I hl.1 mJx4a65c_get_915e3 wd_141 dX7_playerAt_31 rfl h (fun b h => kJx4a65c_get_915e3 hl0 h) rfl (Nat.le_of_ble_eq_true rfl) ⟨by decide, by decide⟩ ⟨by decide, by decide⟩ ⟨by decide, by decide⟩ rfl rfl (fun v31 S H locs I h => ?_)
      refine q_cast (ci := 3) X I rfl wd_310 dX7_playerAt_34 h (fun h => ?_)
      exact q_aret X I hr (Or.inl ⟨_, rfl⟩) dX7_playerAt_37 h (by decide) (by decide)
    · have h := h.2 c12
      exact jn15 _ _ _ _ h I (lv_sub hl [] rfl)

def pX7_ruleAt_J15  (post : Option Nat → qS → Prop) (xp : String → qS → Prop)  (S : qS) : Prop :=
  xp "java/lang/IndexOutOfBoundsException" S
def pX7_ruleAt (x0 : Nat) (x1 : Int32) (S : qS) (post : Option Nat → qS → Prop) (xp : String → qS → Prop) : Prop :=
  ((x1 < 0 →
  pX7_ruleAt_J15 post xp S) ∧ (¬ x1 < 0 →
  w_getR S (some x0) 8 1 (fun v6 =>
  w_at S v6 0 (fun b9 => pJx4a65c_size_8abf5 b9  S (fun v9 S =>
  ((x1 < v9 →
  w_getR S (some x0) 8 1 (fun v27 =>
  w_at S v27 0 (fun b31 => pJx4a65c_get_915e3 b31 x1 S (fun v31 S =>
  w_cast S v31 4 (
  post v31 S)) xp))) ∧ (¬ x1 < v9 →
  pX7_ruleAt_J15 post xp S))) xp))))
set_option maxHeartbeats 4000000 in
set_option maxRecDepth 100000 in
theorem kX7_ruleAt {l : Launch} (hl0 : l.stackTraces = false) {G : qG} {S : qS} {sz : Nat} {x0 : Nat} {x1 : Int32} {post : Option Nat → qS → Prop} {xp : String → qS → Prop} (h : pX7_ruleAt x0 x1 S post xp) : q_M l yX7_ruleAt cX7_ruleAt 2 (some (.object "GoodsKeeper$Rule")) 6 1 6 G S sz [va_rf (some x0), .int x1] (q_Qr G post) xp := by
  refine q_of (lv := [(0, va_rf (some x0)), (1, .int x1)]) hl0 (by decide) rfl (Nat.le_of_ble_eq_true rfl) (fun p e s m below meth c A ls X N hr hnm I hl => ?_)
  generalize ([va_rf (some x0), .int x1] : List Value).toArray = av at X ⊢
  unfold pX7_ruleAt at h
  refine lv_iload_n X.1 X.2.1 dX7_ruleAt_0 rfl (lv_at hl 1 rfl) ?_
  have jn15 : ∀ (S : qS) (H : Heap) (locs : List Loc) (ls : Array Slot), pX7_ruleAt_J15 post xp S → q_H G A s H locs S → lv_has ls 2 [] → W p l e (q_rm 6 1 6) s m av below meth c H locs 0 0 (vx_MQ below (q_Qr G post A) (q_XC G A xp) av s 1 6 A) (F0 m 15 ls []) := by
    intro S H locs ls h I hl
    unfold pX7_ruleAt_J15 at h
    exact q_throwW (text := "there is no such rule") (R := q_rm 6 1 6) (cells := 0) (slots := 0) (mcQ := 1) (msQ := 6) (rest := []) X N I hl.1 th_RX7_326.1 th_RX7_326.2.1 wd_437 wd_18 (by decide) th_RX7_326.2.2.1 th_RX7_326.2.2.2.1 (th_RX7_326.2.2.2.2 _ rfl) dX7_ruleAt_15 dX7_ruleAt_18 dX7_ruleAt_19 dX7_ruleAt_22 dX7_ruleAt_25 (by decide) (Nat.le_of_ble_eq_true rfl) ⟨by decide, by decide⟩ ⟨by decide, by decide⟩ h
  refine lv_if_lt (tgt := 15) X.1 X.2.1 dX7_ruleAt_1 (by decide) (fun c1 => ?_) (fun c1 => ?_)
  · have h := h.1 c1
    exact jn15 _ _ _ _ h I (lv_sub hl [] rfl)
  · have h := h.2 c1
    refine lv_iload_n X.1 X.2.1 dX7_ruleAt_4 rfl (lv_at hl 1 rfl) ?_
    refine q_aload_n X dX7_ruleAt_5 rfl (lv_at hl 0 rfl) ?_
    refine q_getR (ci := 8) (k := 1) X I rfl inb_TX7 wd_99 (by decide) qt_321 dX7_ruleAt_6 h (fun v6 h => ?_)
    refine q_cVi (As := []) (rest := [.int x1]) (c1 := 0) (s1 := 0) (d := 1) (mc := 0) (ms := 0) X N I hl.1 mJx4a65c_size_8abf5 wd_137 dX7_ruleAt_9 rfl h (fun b h => kJx4a65c_size_8abf5 hl0 h) rfl (Nat.le_of_ble_eq_true rfl) ⟨by decide, by decide⟩ ⟨by decide, by decide⟩ ⟨by decide, by decide⟩ rfl rfl (fun v9 S H locs I h => ?_)
    refine lv_icmp_lt (tgt := 26) X.1 X.2.1 dX7_ruleAt_12 (by decide) (fun c12 => ?_) (fun c12 => ?_)
    · have h := h.1 c12
      refine q_aload_n X dX7_ruleAt_26 rfl (lv_at hl 0 rfl) ?_
      refine q_getR (ci := 8) (k := 1) X I rfl inb_TX7 wd_99 (by decide) qt_321 dX7_ruleAt_27 h (fun v27 h => ?_)
      refine lv_iload_n X.1 X.2.1 dX7_ruleAt_30 rfl (lv_at hl 1 rfl) ?_
      refine q_cVr (As := [.int x1]) (rest := []) (c1 := 0) (s1 := 0) (d := 3) (mc := 0) (ms := 0) X N I hl.1 mJx4a65c_get_915e3 wd_141 dX7_ruleAt_31 rfl h (fun b h => kJx4a65c_get_915e3 hl0 h) rfl (Nat.le_of_ble_eq_true rfl) ⟨by decide, by decide⟩ ⟨by decide, by decide⟩ ⟨by decide, by decide⟩ rfl rfl (fun v31 S H locs I h => ?_)
      refine q_cast (ci := 4) X I rfl wd_155 dX7_ruleAt_34 h (fun h => ?_)
      exact q_aret X I hr (Or.inl ⟨_, rfl⟩) dX7_ruleAt_37 h (by decide) (by decide)
    · have h := h.2 c12
      exact jn15 _ _ _ _ h I (lv_sub hl [] rfl)

def pX7_offerAt_J15  (post : Option Nat → qS → Prop) (xp : String → qS → Prop)  (S : qS) : Prop :=
  xp "java/lang/IndexOutOfBoundsException" S
def pX7_offerAt (x0 : Nat) (x1 : Int32) (S : qS) (post : Option Nat → qS → Prop) (xp : String → qS → Prop) : Prop :=
  ((x1 < 0 →
  pX7_offerAt_J15 post xp S) ∧ (¬ x1 < 0 →
  w_getR S (some x0) 8 2 (fun v6 =>
  w_at S v6 0 (fun b9 => pJx4a65c_size_8abf5 b9  S (fun v9 S =>
  ((x1 < v9 →
  w_getR S (some x0) 8 2 (fun v27 =>
  w_at S v27 0 (fun b31 => pJx4a65c_get_915e3 b31 x1 S (fun v31 S =>
  w_cast S v31 2 (
  post v31 S)) xp))) ∧ (¬ x1 < v9 →
  pX7_offerAt_J15 post xp S))) xp))))
set_option maxHeartbeats 4000000 in
set_option maxRecDepth 100000 in
theorem kX7_offerAt {l : Launch} (hl0 : l.stackTraces = false) {G : qG} {S : qS} {sz : Nat} {x0 : Nat} {x1 : Int32} {post : Option Nat → qS → Prop} {xp : String → qS → Prop} (h : pX7_offerAt x0 x1 S post xp) : q_M l yX7_offerAt cX7_offerAt 2 (some (.object "GoodsKeeper$Offer")) 6 1 6 G S sz [va_rf (some x0), .int x1] (q_Qr G post) xp := by
  refine q_of (lv := [(0, va_rf (some x0)), (1, .int x1)]) hl0 (by decide) rfl (Nat.le_of_ble_eq_true rfl) (fun p e s m below meth c A ls X N hr hnm I hl => ?_)
  generalize ([va_rf (some x0), .int x1] : List Value).toArray = av at X ⊢
  unfold pX7_offerAt at h
  refine lv_iload_n X.1 X.2.1 dX7_offerAt_0 rfl (lv_at hl 1 rfl) ?_
  have jn15 : ∀ (S : qS) (H : Heap) (locs : List Loc) (ls : Array Slot), pX7_offerAt_J15 post xp S → q_H G A s H locs S → lv_has ls 2 [] → W p l e (q_rm 6 1 6) s m av below meth c H locs 0 0 (vx_MQ below (q_Qr G post A) (q_XC G A xp) av s 1 6 A) (F0 m 15 ls []) := by
    intro S H locs ls h I hl
    unfold pX7_offerAt_J15 at h
    exact q_throwW (text := "there is no such offer") (R := q_rm 6 1 6) (cells := 0) (slots := 0) (mcQ := 1) (msQ := 6) (rest := []) X N I hl.1 th_RX7_326.1 th_RX7_326.2.1 wd_437 wd_18 (by decide) th_RX7_326.2.2.1 th_RX7_326.2.2.2.1 (th_RX7_326.2.2.2.2 _ rfl) dX7_offerAt_15 dX7_offerAt_18 dX7_offerAt_19 dX7_offerAt_22 dX7_offerAt_25 (by decide) (Nat.le_of_ble_eq_true rfl) ⟨by decide, by decide⟩ ⟨by decide, by decide⟩ h
  refine lv_if_lt (tgt := 15) X.1 X.2.1 dX7_offerAt_1 (by decide) (fun c1 => ?_) (fun c1 => ?_)
  · have h := h.1 c1
    exact jn15 _ _ _ _ h I (lv_sub hl [] rfl)
  · have h := h.2 c1
    refine lv_iload_n X.1 X.2.1 dX7_offerAt_4 rfl (lv_at hl 1 rfl) ?_
    refine q_aload_n X dX7_offerAt_5 rfl (lv_at hl 0 rfl) ?_
    refine q_getR (ci := 8) (k := 2) X I rfl inb_TX7 wd_100 (by decide) qt_322 dX7_offerAt_6 h (fun v6 h => ?_)
    refine q_cVi (As := []) (rest := [.int x1]) (c1 := 0) (s1 := 0) (d := 1) (mc := 0) (ms := 0) X N I hl.1 mJx4a65c_size_8abf5 wd_137 dX7_offerAt_9 rfl h (fun b h => kJx4a65c_size_8abf5 hl0 h) rfl (Nat.le_of_ble_eq_true rfl) ⟨by decide, by decide⟩ ⟨by decide, by decide⟩ ⟨by decide, by decide⟩ rfl rfl (fun v9 S H locs I h => ?_)
    refine lv_icmp_lt (tgt := 26) X.1 X.2.1 dX7_offerAt_12 (by decide) (fun c12 => ?_) (fun c12 => ?_)
    · have h := h.1 c12
      refine q_aload_n X dX7_offerAt_26 rfl (lv_at hl 0 rfl) ?_
      refine q_getR (ci := 8) (k := 2) X I rfl inb_TX7 wd_100 (by decide) qt_322 dX7_offerAt_27 h (fun v27 h => ?_)
      refine lv_iload_n X.1 X.2.1 dX7_offerAt_30 rfl (lv_at hl 1 rfl) ?_
      refine q_cVr (As := [.int x1]) (rest := []) (c1 := 0) (s1 := 0) (d := 3) (mc := 0) (ms := 0) X N I hl.1 mJx4a65c_get_915e3 wd_141 dX7_offerAt_31 rfl h (fun b h => kJx4a65c_get_915e3 hl0 h) rfl (Nat.le_of_ble_eq_true rfl) ⟨by decide, by decide⟩ ⟨by decide, by decide⟩ ⟨by decide, by decide⟩ rfl rfl (fun v31 S H locs I h => ?_)
      refine q_cast (ci := 2) X I rfl wd_232 dX7_offerAt_34 h (fun h => ?_)
      exact q_aret X I hr (Or.inl ⟨_, rfl⟩) dX7_offerAt_37 h (by decide) (by decide)
    · have h := h.2 c12
      exact jn15 _ _ _ _ h I (lv_sub hl [] rfl)

def pX7_part_J44  (post : qS → Prop) (xp : String → qS → Prop)  (S : qS) : Prop :=
  post S
def pX7_part (x0 : Nat) (x1 : Int32) (x2 : Int32) (x3 : Int32) (x4 : Int32) (S : qS) (post : qS → Prop) (xp : String → qS → Prop) : Prop :=
  w_at S (some x0) 8 (fun b2 => pX7_ruleAt b2 x1 S (fun v2 S =>
  pX7_checkKind x2 S (fun S =>
  pX7_checkRange x4 (0 : Int32) (9 : Int32) S (fun S =>
  ((x3 = 0 →
  w_getR S v2 4 1 (fun v37 =>
  w_stI S v37 11 x2 x4 (fun S =>
  pX7_part_J44 post xp S))) ∧ (¬ x3 = 0 →
  w_getR S v2 4 2 (fun v25 =>
  w_stI S v25 12 x2 x4 (fun S =>
  pX7_part_J44 post xp S))))) xp) xp) xp)
set_option maxHeartbeats 4000000 in
set_option maxRecDepth 100000 in
theorem kX7_part {l : Launch} (hl0 : l.stackTraces = false) {G : qG} {S : qS} {sz : Nat} {x0 : Nat} {x1 : Int32} {x2 : Int32} {x3 : Int32} {x4 : Int32} {post : qS → Prop} {xp : String → qS → Prop} (h : pX7_part x0 x1 x2 x3 x4 S post xp) : q_M l yX7_part cX7_part 6 none 7 3 18 G S sz [va_rf (some x0), .int x1, .int x2, .int x3, .int x4] (q_Qv G post) xp := by
  refine q_of (lv := [(0, va_rf (some x0)), (1, .int x1), (2, .int x2), (3, .int x3), (4, .int x4)]) hl0 (by decide) rfl (Nat.le_of_ble_eq_true rfl) (fun p e s m below meth c A ls X N hr hnm I hl => ?_)
  generalize ([va_rf (some x0), .int x1, .int x2, .int x3, .int x4] : List Value).toArray = av at X ⊢
  unfold pX7_part at h
  refine q_aload_n X dX7_part_0 rfl (lv_at hl 0 rfl) ?_
  refine lv_iload_n X.1 X.2.1 dX7_part_1 rfl (lv_at hl 1 rfl) ?_
  refine q_cVr (As := [.int x1]) (rest := []) (c1 := 1) (s1 := 6) (d := 6) (mc := 1) (ms := 6) X N I hl.1 mX7_ruleAt wd_433 dX7_part_2 rfl h (fun b h => kX7_ruleAt hl0 h) rfl (Nat.le_of_ble_eq_true rfl) ⟨by decide, by decide⟩ ⟨by decide, by decide⟩ ⟨by decide, by decide⟩ rfl rfl (fun v2 S H locs I h => ?_)
  refine q_astore (i := 5) (lv' := [(5, va_rf v2), (0, va_rf (some x0)), (1, .int x1), (2, .int x2), (3, .int x3), (4, .int x4)]) X dX7_part_5 hl (by decide) rfl (fun ls hl => ?_)
  refine lv_iload_n X.1 X.2.1 dX7_part_7 rfl (lv_at hl 3 rfl) ?_
  refine q_cSv (As := [.int x2]) (rest := []) (c1 := 2) (s1 := 12) (d := 6) (mc := 1) (ms := 6) X N I hl.1 mX7_checkKind wd_453 dX7_part_8 rfl (kX7_checkKind hl0 h) rfl (Nat.le_of_ble_eq_true rfl) ⟨by decide, by decide⟩ ⟨by decide, by decide⟩ ⟨by decide, by decide⟩ rfl rfl (fun S H locs I h => ?_)
  refine lv_iload X.1 X.2.1 dX7_part_11 (lv_at hl 5 rfl) ?_
  refine lv_iconst (v := 0) X.1 X.2.1 dX7_part_13 (by decide) ?_
  refine lv_bipush (v := 9) X.1 X.2.1 dX7_part_14 (by decide) ?_
  refine q_cSv (As := [.int x4, .int (0 : Int32), .int (9 : Int32)]) (rest := []) (c1 := 3) (s1 := 18) (d := 6) (mc := 1) (ms := 6) X N I hl.1 mX7_checkRange wd_457 dX7_part_16 rfl (kX7_checkRange hl0 h) rfl (Nat.le_of_ble_eq_true rfl) ⟨by decide, by decide⟩ ⟨by decide, by decide⟩ ⟨by decide, by decide⟩ rfl rfl (fun S H locs I h => ?_)
  refine lv_iload_n X.1 X.2.1 dX7_part_19 rfl (lv_at hl 4 rfl) ?_
  have jn44 : ∀ (S : qS) (H : Heap) (locs : List Loc) (ls : Array Slot), pX7_part_J44 post xp S → q_H G A s H locs S → lv_has ls 6 [] → W p l e (q_rm 7 3 18) s m av below meth c H locs 3 18 (vx_MQ below (q_Qv G post A) (q_XC G A xp) av s 3 18 A) (F0 m 44 ls []) := by
    intro S H locs ls h I hl
    unfold pX7_part_J44 at h
    exact q_vret X I hr dX7_part_44 h (by decide) (by decide)
  refine lv_if_eq (tgt := 35) X.1 X.2.1 dX7_part_20 (by decide) (fun c20 => ?_) (fun c20 => ?_)
  · have h := h.1 c20
    refine q_aload X dX7_part_35 (lv_at hl 0 rfl) ?_
    refine q_getR (ci := 4) (k := 1) X I rfl inb_TX3 wd_411 (by decide) qt_161 dX7_part_37 h (fun v37 h => ?_)
    refine lv_iload_n X.1 X.2.1 dX7_part_40 rfl (lv_at hl 3 rfl) ?_
    refine lv_iload X.1 X.2.1 dX7_part_41 (lv_at hl 5 rfl) ?_
    refine q_stI X I (by decide) (by decide) dX7_part_43 h (fun S H locs I h => ?_)
    exact jn44 _ _ _ _ h I (lv_sub hl [] rfl)
  · have h := h.2 c20
    refine q_aload X dX7_part_23 (lv_at hl 0 rfl) ?_
    refine q_getR (ci := 4) (k := 2) X I rfl inb_TX3 wd_413 (by decide) qt_162 dX7_part_25 h (fun v25 h => ?_)
    refine lv_iload_n X.1 X.2.1 dX7_part_28 rfl (lv_at hl 3 rfl) ?_
    refine lv_iload X.1 X.2.1 dX7_part_29 (lv_at hl 5 rfl) ?_
    refine q_stI X I (by decide) (by decide) dX7_part_31 h (fun S H locs I h => ?_)
    refine lv_goto (tgt := 44) X.1 X.2.1 dX7_part_32 (by decide) ?_
    exact jn44 _ _ _ _ h I (lv_sub hl [] rfl)

def pX7_carryOut_L3  (post : qS → Prop) (xp : String → qS → Prop) : Nat → Option Nat → Option Nat → Option Nat → Int32 → Int32 → qS → Prop
  | 0, _, _, _, _, _, _ => False
  | n3 + 1, x0, x1, x2, x3, x4, S =>
  (((4 : Int32) ≤ x4 →
  w_getI S x0 8 8 (fun v80 =>
  w_putI S x0 8 8 (v80 + (1 : Int32)) (fun S =>
  post S))) ∧ (¬ (4 : Int32) ≤ x4 →
  w_getR S x2 4 1 (fun v10 =>
  w_ldI S v10 11 x4 (fun v15 =>
  w_getR S x2 4 2 (fun v21 =>
  w_ldI S v21 12 x4 (fun v26 =>
  w_getR S x1 3 1 (fun v32 =>
  w_ldI S v32 10 x4 (fun v38 =>
  w_stI S v32 10 x4 (v38 + ((v26 * x3) - (v15 * x3))) (fun S =>
  w_getR S x0 8 7 (fun v47 =>
  w_ldJ S v47 19 x4 (fun v53 =>
  w_stJ S v47 19 x4 (v53 + (v15 * x3).toInt64) (fun S =>
  w_getR S x0 8 6 (fun v60 =>
  w_ldJ S v60 18 x4 (fun v66 =>
  w_stJ S v60 18 x4 (v66 + (v26 * x3).toInt64) (fun S =>
  (pX7_carryOut_L3 post xp n3) x0 x1 x2 x3 (x4 + 1) S)))))))))))))))
def pX7_carryOut (x0 : Nat) (x1 : Option Nat) (x2 : Option Nat) (x3 : Int32) (S : qS) (post : qS → Prop) (xp : String → qS → Prop) : Prop :=
  ∃ n3, pX7_carryOut_L3 post xp n3 (some x0) x1 x2 x3 (0 : Int32) S
set_option maxHeartbeats 4000000 in
set_option maxRecDepth 100000 in
theorem kX7_carryOut {l : Launch} (hl0 : l.stackTraces = false) {G : qG} {S : qS} {sz : Nat} {x0 : Nat} {x1 : Option Nat} {x2 : Option Nat} {x3 : Int32} {post : qS → Prop} {xp : String → qS → Prop} (h : pX7_carryOut x0 x1 x2 x3 S post xp) : q_M l yX7_carryOut cX7_carryOut 7 none 1 0 0 G S sz [va_rf (some x0), va_rf x1, va_rf x2, .int x3] (q_Qv G post) xp := by
  refine q_of (lv := [(0, va_rf (some x0)), (1, va_rf x1), (2, va_rf x2), (3, .int x3)]) hl0 (by decide) (by cases x1 <;> cases x2 <;> rfl) (by cases x1 <;> cases x2 <;> exact Nat.le_of_ble_eq_true rfl) (fun p e s m below meth c A ls X N hr hnm I hl => ?_)
  generalize ([va_rf (some x0), va_rf x1, va_rf x2, .int x3] : List Value).toArray = av at X ⊢
  unfold pX7_carryOut at h
  refine lv_iconst (v := 0) X.1 X.2.1 dX7_carryOut_0 (by decide) ?_
  refine lv_istore (i := 4) (lv' := [(4, .int (0 : Int32)), (0, va_rf (some x0)), (1, va_rf x1), (2, va_rf x2), (3, .int x3)]) X.1 X.2.1 dX7_carryOut_1 hl (by decide) rfl (fun ls hl => ?_)
  obtain ⟨n3, h⟩ := h
  have lp3 : ∀ (n3 : Nat) (x0 : Option Nat) (x1 : Option Nat) (x2 : Option Nat) (x3 : Int32) (x4 : Int32) (S : qS) (H : Heap) (locs : List Loc) (ls : Array Slot), pX7_carryOut_L3 post xp n3 x0 x1 x2 x3 x4 S → q_H G A s H locs S → lv_has ls 7 [(0, va_rf x0), (1, va_rf x1), (2, va_rf x2), (3, .int x3), (4, .int x4)] → W p l e (q_rm 1 0 0) s m av below meth c H locs 0 0 (vx_MQ below (q_Qv G post A) (q_XC G A xp) av s 0 0 A) (F0 m 3 ls []) := by
    intro n3
    induction n3 with
    | zero => intro x0 x1 x2 x3 x4 S H locs ls h I hl; exact h.elim
    | succ n3 ih3 =>
      intro x0 x1 x2 x3 x4 S H locs ls h I hl
      unfold pX7_carryOut_L3 at h
      refine lv_iload X.1 X.2.1 dX7_carryOut_3 (lv_at hl 4 rfl) ?_
      refine lv_iconst (v := 4) X.1 X.2.1 dX7_carryOut_5 (by decide) ?_
      refine lv_icmp_ge (tgt := 78) X.1 X.2.1 dX7_carryOut_6 (by decide) (fun c6 => ?_) (fun c6 => ?_)
      · have h := h.1 c6
        refine q_aload_n X dX7_carryOut_78 rfl (lv_at hl 0 rfl) ?_
        refine lv_dup X.1 X.2.1 dX7_carryOut_79 (q_cat _) ?_
        refine q_getI (ci := 8) (k := 8) X I rfl inb_TX7 wd_106 (by decide) qt_328 dX7_carryOut_80 h (fun v80 h => ?_)
        refine lv_iconst (v := 1) X.1 X.2.1 dX7_carryOut_83 (by decide) ?_
        refine lv_iadd X.1 X.2.1 dX7_carryOut_84 ?_
        refine q_putI (ci := 8) (k := 8) X I rfl inb_TX7 tyX7_ok nmX7 wd_106 (by decide) (Or.inl rfl) qt_328 rfl dX7_carryOut_85 h (fun S H locs I h => ?_)
        exact q_vret X I hr dX7_carryOut_88 h (by decide) (by decide)
      · have h := h.2 c6
        refine q_aload_n X dX7_carryOut_9 rfl (lv_at hl 2 rfl) ?_
        refine q_getR (ci := 4) (k := 1) X I rfl inb_TX3 wd_411 (by decide) qt_161 dX7_carryOut_10 h (fun v10 h => ?_)
        refine lv_iload X.1 X.2.1 dX7_carryOut_13 (lv_at hl 4 rfl) ?_
        refine q_ldI X I (by decide) (by decide) dX7_carryOut_15 h (fun v15 h => ?_)
        refine lv_iload_n X.1 X.2.1 dX7_carryOut_16 rfl (lv_at hl 3 rfl) ?_
        refine lv_imul X.1 X.2.1 dX7_carryOut_17 ?_
        refine lv_istore (i := 5) (lv' := [(5, .int (v15 * x3)), (0, va_rf x0), (1, va_rf x1), (2, va_rf x2), (3, .int x3), (4, .int x4)]) X.1 X.2.1 dX7_carryOut_18 hl (by decide) rfl (fun ls hl => ?_)
        refine q_aload_n X dX7_carryOut_20 rfl (lv_at hl 3 rfl) ?_
        refine q_getR (ci := 4) (k := 2) X I rfl inb_TX3 wd_413 (by decide) qt_162 dX7_carryOut_21 h (fun v21 h => ?_)
        refine lv_iload X.1 X.2.1 dX7_carryOut_24 (lv_at hl 5 rfl) ?_
        refine q_ldI X I (by decide) (by decide) dX7_carryOut_26 h (fun v26 h => ?_)
        refine lv_iload_n X.1 X.2.1 dX7_carryOut_27 rfl (lv_at hl 4 rfl) ?_
        refine lv_imul X.1 X.2.1 dX7_carryOut_28 ?_
        refine lv_istore (i := 6) (lv' := [(6, .int (v26 * x3)), (5, .int (v15 * x3)), (0, va_rf x0), (1, va_rf x1), (2, va_rf x2), (3, .int x3), (4, .int x4)]) X.1 X.2.1 dX7_carryOut_29 hl (by decide) rfl (fun ls hl => ?_)
        refine q_aload_n X dX7_carryOut_31 rfl (lv_at hl 3 rfl) ?_
        refine q_getR (ci := 3) (k := 1) X I rfl inb_TX2 wd_321 (by decide) qt_121 dX7_carryOut_32 h (fun v32 h => ?_)
        refine lv_iload X.1 X.2.1 dX7_carryOut_35 (lv_at hl 6 rfl) ?_
        refine lv_dup2_11 X.1 X.2.1 dX7_carryOut_37 rfl (q_cat _) ?_
        refine q_ldI X I (by decide) (by decide) dX7_carryOut_38 h (fun v38 h => ?_)
        refine lv_iload X.1 X.2.1 dX7_carryOut_39 (lv_at hl 0 rfl) ?_
        refine lv_iload X.1 X.2.1 dX7_carryOut_41 (lv_at hl 1 rfl) ?_
        refine lv_isub X.1 X.2.1 dX7_carryOut_43 ?_
        refine lv_iadd X.1 X.2.1 dX7_carryOut_44 ?_
        refine q_stI X I (by decide) (by decide) dX7_carryOut_45 h (fun S H locs I h => ?_)
        refine q_aload_n X dX7_carryOut_46 rfl (lv_at hl 2 rfl) ?_
        refine q_getR (ci := 8) (k := 7) X I rfl inb_TX7 wd_105 (by decide) qt_327 dX7_carryOut_47 h (fun v47 h => ?_)
        refine lv_iload X.1 X.2.1 dX7_carryOut_50 (lv_at hl 6 rfl) ?_
        refine lv_dup2_11 X.1 X.2.1 dX7_carryOut_52 rfl (q_cat _) ?_
        refine q_ldJ X I (by decide) (by decide) dX7_carryOut_53 h (fun v53 h => ?_)
        refine lv_iload X.1 X.2.1 dX7_carryOut_54 (lv_at hl 1 rfl) ?_
        refine lv_i2l X.1 X.2.1 dX7_carryOut_56 rfl ?_
        refine lv_ladd X.1 X.2.1 dX7_carryOut_57 ?_
        refine q_stJ X I (by decide) (by decide) dX7_carryOut_58 h (fun S H locs I h => ?_)
        refine q_aload_n X dX7_carryOut_59 rfl (lv_at hl 2 rfl) ?_
        refine q_getR (ci := 8) (k := 6) X I rfl inb_TX7 wd_104 (by decide) qt_326 dX7_carryOut_60 h (fun v60 h => ?_)
        refine lv_iload X.1 X.2.1 dX7_carryOut_63 (lv_at hl 6 rfl) ?_
        refine lv_dup2_11 X.1 X.2.1 dX7_carryOut_65 rfl (q_cat _) ?_
        refine q_ldJ X I (by decide) (by decide) dX7_carryOut_66 h (fun v66 h => ?_)
        refine lv_iload X.1 X.2.1 dX7_carryOut_67 (lv_at hl 0 rfl) ?_
        refine lv_i2l X.1 X.2.1 dX7_carryOut_69 rfl ?_
        refine lv_ladd X.1 X.2.1 dX7_carryOut_70 ?_
        refine q_stJ X I (by decide) (by decide) dX7_carryOut_71 h (fun S H locs I h => ?_)
        refine lv_iinc (v := (x4 + 1)) (lv' := [(4, .int (x4 + 1)), (6, .int (v26 * x3)), (5, .int (v15 * x3)), (0, va_rf x0), (1, va_rf x1), (2, va_rf x2), (3, .int x3)]) (k := 6) X.1 X.2.1 dX7_carryOut_72 hl rfl rfl (by decide) rfl (fun ls hl => ?_)
        refine lv_goto (tgt := 3) X.1 X.2.1 dX7_carryOut_75 (by decide) ?_
        exact ih3 _ _ _ _ _ _ _ _ _ h I (lv_sub hl [3, 4, 5, 6, 0] rfl)
  exact lp3 n3 _ _ _ _ _ _ _ _ _ h I (lv_sub hl [1, 2, 3, 4, 0] rfl)

def pX7_deed_J98  (post : Int32 → qS → Prop) (xp : String → qS → Prop) (x7 : Int32) (S : qS) : Prop :=
  post x7 S
def pX7_deed_J46  (post : Int32 → qS → Prop) (xp : String → qS → Prop) (x0 : Option Nat) (x2 : Int32) (x4 : Int32) (x5 : Option Nat) (x6 : Option Nat) (S : qS) : Prop :=
  w_getI S x5 3 2 (fun v49 =>
  ((x2 = (v49 + (1 : Int32)) →
  w_at S x5 3 (fun b65 => pX2_answerTo b65 x6 x4 S (fun v65 S =>
  w_putI S x5 3 2 x2 (fun S =>
  w_putI S x5 3 3 v65 (fun S =>
  ((¬ v65 = 0 →
  pX7_deed_J98 post xp v65 S) ∧ (v65 = 0 →
  w_at S x0 8 (fun b95 => pX7_carryOut b95 x5 x6 x4 S (fun S =>
  pX7_deed_J98 post xp v65 S) xp)))))) xp)) ∧ (¬ x2 = (v49 + (1 : Int32)) →
  post (3 : Int32) S)))
def pX7_deed (x0 : Nat) (x1 : Int32) (x2 : Int32) (x3 : Int32) (x4 : Int32) (S : qS) (post : Int32 → qS → Prop) (xp : String → qS → Prop) : Prop :=
  w_at S (some x0) 8 (fun b2 => pX7_playerAt b2 x1 S (fun v2 S =>
  w_at S (some x0) 8 (fun b9 => pX7_ruleAt b9 x3 S (fun v9 S =>
  pX7_checkRange x4 (1 : Int32) (1000 : Int32) S (fun S =>
  w_getI S v2 3 2 (fun v25 =>
  ((v25 ≤ 0 →
  pX7_deed_J46 post xp (some x0) x2 x4 v2 v9 S) ∧ (¬ v25 ≤ 0 →
  w_getI S v2 3 2 (fun v34 =>
  ((¬ x2 = v34 →
  pX7_deed_J46 post xp (some x0) x2 x4 v2 v9 S) ∧ (x2 = v34 →
  w_getI S v2 3 3 (fun v42 =>
  post v42 S)))))))) xp) xp)) xp)
set_option maxHeartbeats 4000000 in
set_option maxRecDepth 100000 in
theorem kX7_deed {l : Launch} (hl0 : l.stackTraces = false) {G : qG} {S : qS} {sz : Nat} {x0 : Nat} {x1 : Int32} {x2 : Int32} {x3 : Int32} {x4 : Int32} {post : Int32 → qS → Prop} {xp : String → qS → Prop} (h : pX7_deed x0 x1 x2 x3 x4 S post xp) : q_M l yX7_deed cX7_deed 8 (some .int) 7 3 18 G S sz [va_rf (some x0), .int x1, .int x2, .int x3, .int x4] (q_Qi G post) xp := by
  refine q_of (lv := [(0, va_rf (some x0)), (1, .int x1), (2, .int x2), (3, .int x3), (4, .int x4)]) hl0 (by decide) rfl (Nat.le_of_ble_eq_true rfl) (fun p e s m below meth c A ls X N hr hnm I hl => ?_)
  generalize ([va_rf (some x0), .int x1, .int x2, .int x3, .int x4] : List Value).toArray = av at X ⊢
  unfold pX7_deed at h
  refine q_aload_n X dX7_deed_0 rfl (lv_at hl 0 rfl) ?_
  refine lv_iload_n X.1 X.2.1 dX7_deed_1 rfl (lv_at hl 1 rfl) ?_
  refine q_cVr (As := [.int x1]) (rest := []) (c1 := 1) (s1 := 6) (d := 6) (mc := 1) (ms := 6) X N I hl.1 mX7_playerAt wd_483 dX7_deed_2 rfl h (fun b h => kX7_playerAt hl0 h) rfl (Nat.le_of_ble_eq_true rfl) ⟨by decide, by decide⟩ ⟨by decide, by decide⟩ ⟨by decide, by decide⟩ rfl rfl (fun v2 S H locs I h => ?_)
  refine q_astore (i := 5) (lv' := [(5, va_rf v2), (0, va_rf (some x0)), (1, .int x1), (2, .int x2), (3, .int x3), (4, .int x4)]) X dX7_deed_5 hl (by decide) rfl (fun ls hl => ?_)
  refine q_aload_n X dX7_deed_7 rfl (lv_at hl 1 rfl) ?_
  refine lv_iload_n X.1 X.2.1 dX7_deed_8 rfl (lv_at hl 4 rfl) ?_
  refine q_cVr (As := [.int x3]) (rest := []) (c1 := 2) (s1 := 12) (d := 6) (mc := 1) (ms := 6) X N I hl.1 mX7_ruleAt wd_433 dX7_deed_9 rfl h (fun b h => kX7_ruleAt hl0 h) rfl (Nat.le_of_ble_eq_true rfl) ⟨by decide, by decide⟩ ⟨by decide, by decide⟩ ⟨by decide, by decide⟩ rfl rfl (fun v9 S H locs I h => ?_)
  refine q_astore (i := 6) (lv' := [(6, va_rf v9), (5, va_rf v2), (0, va_rf (some x0)), (1, .int x1), (2, .int x2), (3, .int x3), (4, .int x4)]) X dX7_deed_12 hl (by decide) (by simp [q_cat, q_catI, q_catJ]) (fun ls hl => ?_)
  refine lv_iload X.1 X.2.1 dX7_deed_14 (lv_at hl 6 rfl) ?_
  refine lv_iconst (v := 1) X.1 X.2.1 dX7_deed_16 (by decide) ?_
  refine lv_sipush (v := 1000) X.1 X.2.1 dX7_deed_17 (by decide) ?_
  refine q_cSv (As := [.int x4, .int (1 : Int32), .int (1000 : Int32)]) (rest := []) (c1 := 3) (s1 := 18) (d := 6) (mc := 1) (ms := 6) X N I hl.1 mX7_checkRange wd_457 dX7_deed_20 rfl (kX7_checkRange hl0 h) rfl (Nat.le_of_ble_eq_true rfl) ⟨by decide, by decide⟩ ⟨by decide, by decide⟩ ⟨by decide, by decide⟩ rfl rfl (fun S H locs I h => ?_)
  refine q_aload X dX7_deed_23 (lv_at hl 1 rfl) ?_
  refine q_getI (ci := 3) (k := 2) X I rfl inb_TX2 wd_322 (by decide) qt_122 dX7_deed_25 h (fun v25 h => ?_)
  have jn46 : ∀ (x0 : Option Nat) (x2 : Int32) (x4 : Int32) (x5 : Option Nat) (x6 : Option Nat) (S : qS) (H : Heap) (locs : List Loc) (ls : Array Slot), pX7_deed_J46 post xp x0 x2 x4 x5 x6 S → q_H G A s H locs S → lv_has ls 8 [(0, va_rf x0), (2, .int x2), (4, .int x4), (5, va_rf x5), (6, va_rf x6)] → W p l e (q_rm 7 3 18) s m av below meth c H locs 3 18 (vx_MQ below (q_Qi G post A) (q_XC G A xp) av s 3 18 A) (F0 m 46 ls []) := by
    intro x0 x2 x4 x5 x6 S H locs ls h I hl
    unfold pX7_deed_J46 at h
    refine lv_iload_n X.1 X.2.1 dX7_deed_46 rfl (lv_at hl 1 rfl) ?_
    refine q_aload X dX7_deed_47 (lv_at hl 3 rfl) ?_
    refine q_getI (ci := 3) (k := 2) X I rfl inb_TX2 wd_322 (by decide) qt_122 dX7_deed_49 h (fun v49 h => ?_)
    refine lv_iconst (v := 1) X.1 X.2.1 dX7_deed_52 (by decide) ?_
    refine lv_iadd X.1 X.2.1 dX7_deed_53 ?_
    refine lv_icmp_eq (tgt := 59) X.1 X.2.1 dX7_deed_54 (by decide) (fun c54 => ?_) (fun c54 => ?_)
    · have h := h.1 c54
      refine q_aload X dX7_deed_59 (lv_at hl 3 rfl) ?_
      refine q_aload X dX7_deed_61 (lv_at hl 4 rfl) ?_
      refine lv_iload X.1 X.2.1 dX7_deed_63 (lv_at hl 2 rfl) ?_
      refine q_cVi (As := [va_rf x6, .int x4]) (rest := []) (c1 := 3) (s1 := 18) (d := 2) (mc := 0) (ms := 0) X N I hl.1 mX2_answerTo wd_488 dX7_deed_65 rfl h (fun b h => kX2_answerTo hl0 h) rfl (Nat.le_of_ble_eq_true rfl) ⟨by decide, by decide⟩ ⟨by decide, by decide⟩ ⟨by decide, by decide⟩ rfl rfl (fun v65 S H locs I h => ?_)
      refine lv_istore (i := 7) (lv' := [(7, .int v65), (0, va_rf x0), (2, .int x2), (4, .int x4), (5, va_rf x5), (6, va_rf x6)]) X.1 X.2.1 dX7_deed_68 hl (by decide) (by simp [q_cat, q_catI, q_catJ]) (fun ls hl => ?_)
      refine q_aload X dX7_deed_70 (lv_at hl 4 rfl) ?_
      refine lv_iload_n X.1 X.2.1 dX7_deed_72 rfl (lv_at hl 2 rfl) ?_
      refine q_putI (ci := 3) (k := 2) X I rfl inb_TX2 tyX2_ok nmX2 wd_322 (by decide) (Or.inl rfl) qt_122 rfl dX7_deed_73 h (fun S H locs I h => ?_)
      refine q_aload X dX7_deed_76 (lv_at hl 4 rfl) ?_
      refine lv_iload X.1 X.2.1 dX7_deed_78 (lv_at hl 0 rfl) ?_
      refine q_putI (ci := 3) (k := 3) X I rfl inb_TX2 tyX2_ok nmX2 wd_323 (by decide) (Or.inl rfl) qt_123 rfl dX7_deed_80 h (fun S H locs I h => ?_)
      refine lv_iload X.1 X.2.1 dX7_deed_83 (lv_at hl 0 rfl) ?_
      have jn98 : ∀ (x7 : Int32) (S : qS) (H : Heap) (locs : List Loc) (ls : Array Slot), pX7_deed_J98 post xp x7 S → q_H G A s H locs S → lv_has ls 8 [(7, .int x7)] → W p l e (q_rm 7 3 18) s m av below meth c H locs 3 18 (vx_MQ below (q_Qi G post A) (q_XC G A xp) av s 3 18 A) (F0 m 98 ls []) := by
        intro x7 S H locs ls h I hl
        unfold pX7_deed_J98 at h
        refine lv_iload X.1 X.2.1 dX7_deed_98 (lv_at hl 0 rfl) ?_
        exact q_iret X I hr dX7_deed_100 h (by decide) (by decide)
      refine lv_if_ne (tgt := 98) X.1 X.2.1 dX7_deed_85 (by decide) (fun c85 => ?_) (fun c85 => ?_)
      · have h := h.1 c85
        exact jn98 _ _ _ _ _ h I (lv_sub hl [0] rfl)
      · have h := h.2 c85
        refine q_aload_n X dX7_deed_88 rfl (lv_at hl 1 rfl) ?_
        refine q_aload X dX7_deed_89 (lv_at hl 4 rfl) ?_
        refine q_aload X dX7_deed_91 (lv_at hl 5 rfl) ?_
        refine lv_iload X.1 X.2.1 dX7_deed_93 (lv_at hl 3 rfl) ?_
        refine q_cVv (As := [va_rf x5, va_rf x6, .int x4]) (rest := []) (c1 := 3) (s1 := 18) (d := 1) (mc := 0) (ms := 0) X N I hl.1 mX7_carryOut wd_494 dX7_deed_95 rfl h (fun b h => kX7_carryOut hl0 h) rfl (Nat.le_of_ble_eq_true rfl) ⟨by decide, by decide⟩ ⟨by decide, by decide⟩ ⟨by decide, by decide⟩ rfl rfl (fun S H locs I h => ?_)
        exact jn98 _ _ _ _ _ h I (lv_sub hl [0] rfl)
    · have h := h.2 c54
      refine lv_iconst (v := 3) X.1 X.2.1 dX7_deed_57 (by decide) ?_
      exact q_iret X I hr dX7_deed_58 h (by decide) (by decide)
  refine lv_if_le (tgt := 46) X.1 X.2.1 dX7_deed_28 (by decide) (fun c28 => ?_) (fun c28 => ?_)
  · have h := h.1 c28
    exact jn46 _ _ _ _ _ _ _ _ _ h I (lv_sub hl [2, 4, 6, 1, 0] rfl)
  · have h := h.2 c28
    refine lv_iload_n X.1 X.2.1 dX7_deed_31 rfl (lv_at hl 4 rfl) ?_
    refine q_aload X dX7_deed_32 (lv_at hl 1 rfl) ?_
    refine q_getI (ci := 3) (k := 2) X I rfl inb_TX2 wd_322 (by decide) qt_122 dX7_deed_34 h (fun v34 h => ?_)
    refine lv_icmp_ne (tgt := 46) X.1 X.2.1 dX7_deed_37 (by decide) (fun c37 => ?_) (fun c37 => ?_)
    · have h := h.1 c37
      exact jn46 _ _ _ _ _ _ _ _ _ h I (lv_sub hl [2, 4, 6, 1, 0] rfl)
    · have h := h.2 c37
      refine q_aload X dX7_deed_40 (lv_at hl 1 rfl) ?_
      refine q_getI (ci := 3) (k := 3) X I rfl inb_TX2 wd_323 (by decide) qt_123 dX7_deed_42 h (fun v42 h => ?_)
      exact q_iret X I hr dX7_deed_45 h (by decide) (by decide)

def pX7_has (x0 : Nat) (x1 : Int32) (x2 : Int32) (S : qS) (post : Int32 → qS → Prop) (xp : String → qS → Prop) : Prop :=
  w_at S (some x0) 8 (fun b2 => pX7_playerAt b2 x1 S (fun v2 S =>
  pX7_checkKind x2 S (fun S =>
  w_getR S v2 3 1 (fun v11 =>
  w_ldI S v11 10 x2 (fun v15 =>
  post v15 S))) xp) xp)
set_option maxHeartbeats 4000000 in
set_option maxRecDepth 100000 in
theorem kX7_has {l : Launch} (hl0 : l.stackTraces = false) {G : qG} {S : qS} {sz : Nat} {x0 : Nat} {x1 : Int32} {x2 : Int32} {post : Int32 → qS → Prop} {xp : String → qS → Prop} (h : pX7_has x0 x1 x2 S post xp) : q_M l yX7_has cX7_has 4 (some .int) 7 2 12 G S sz [va_rf (some x0), .int x1, .int x2] (q_Qi G post) xp := by
  refine q_of (lv := [(0, va_rf (some x0)), (1, .int x1), (2, .int x2)]) hl0 (by decide) rfl (Nat.le_of_ble_eq_true rfl) (fun p e s m below meth c A ls X N hr hnm I hl => ?_)
  generalize ([va_rf (some x0), .int x1, .int x2] : List Value).toArray = av at X ⊢
  unfold pX7_has at h
  refine q_aload_n X dX7_has_0 rfl (lv_at hl 0 rfl) ?_
  refine lv_iload_n X.1 X.2.1 dX7_has_1 rfl (lv_at hl 1 rfl) ?_
  refine q_cVr (As := [.int x1]) (rest := []) (c1 := 1) (s1 := 6) (d := 6) (mc := 1) (ms := 6) X N I hl.1 mX7_playerAt wd_483 dX7_has_2 rfl h (fun b h => kX7_playerAt hl0 h) rfl (Nat.le_of_ble_eq_true rfl) ⟨by decide, by decide⟩ ⟨by decide, by decide⟩ ⟨by decide, by decide⟩ rfl rfl (fun v2 S H locs I h => ?_)
  refine q_astore_n (i := 3) (lv' := [(3, va_rf v2), (0, va_rf (some x0)), (1, .int x1), (2, .int x2)]) X dX7_has_5 rfl hl (by decide) rfl (fun ls hl => ?_)
  refine lv_iload_n X.1 X.2.1 dX7_has_6 rfl (lv_at hl 3 rfl) ?_
  refine q_cSv (As := [.int x2]) (rest := []) (c1 := 2) (s1 := 12) (d := 6) (mc := 1) (ms := 6) X N I hl.1 mX7_checkKind wd_453 dX7_has_7 rfl (kX7_checkKind hl0 h) rfl (Nat.le_of_ble_eq_true rfl) ⟨by decide, by decide⟩ ⟨by decide, by decide⟩ ⟨by decide, by decide⟩ rfl rfl (fun S H locs I h => ?_)
  refine q_aload_n X dX7_has_10 rfl (lv_at hl 0 rfl) ?_
  refine q_getR (ci := 3) (k := 1) X I rfl inb_TX2 wd_321 (by decide) qt_121 dX7_has_11 h (fun v11 h => ?_)
  refine lv_iload_n X.1 X.2.1 dX7_has_14 rfl (lv_at hl 3 rfl) ?_
  refine q_ldI X I (by decide) (by decide) dX7_has_15 h (fun v15 h => ?_)
  exact q_iret X I hr dX7_has_16 h (by decide) (by decide)

def pX7_sum_J23  (post : Int64 → qS → Prop) (xp : String → qS → Prop) (t0 : Int64) (S : qS) : Prop :=
  post t0 S
def pX7_sum (x0 : Nat) (x1 : Int32) (x2 : Int32) (S : qS) (post : Int64 → qS → Prop) (xp : String → qS → Prop) : Prop :=
  pX7_checkKind x1 S (fun S =>
  ((x2 = 0 →
  w_getR S (some x0) 8 6 (fun v18 =>
  w_ldJ S v18 18 x1 (fun v22 =>
  pX7_sum_J23 post xp v22 S))) ∧ (¬ x2 = 0 →
  w_getR S (some x0) 8 7 (fun v9 =>
  w_ldJ S v9 19 x1 (fun v13 =>
  pX7_sum_J23 post xp v13 S))))) xp
set_option maxHeartbeats 4000000 in
set_option maxRecDepth 100000 in
theorem kX7_sum {l : Launch} (hl0 : l.stackTraces = false) {G : qG} {S : qS} {sz : Nat} {x0 : Nat} {x1 : Int32} {x2 : Int32} {post : Int64 → qS → Prop} {xp : String → qS → Prop} (h : pX7_sum x0 x1 x2 S post xp) : q_M l yX7_sum cX7_sum 3 (some .long) 7 1 6 G S sz [va_rf (some x0), .int x1, .int x2] (q_Qj G post) xp := by
  refine q_of (lv := [(0, va_rf (some x0)), (1, .int x1), (2, .int x2)]) hl0 (by decide) rfl (Nat.le_of_ble_eq_true rfl) (fun p e s m below meth c A ls X N hr hnm I hl => ?_)
  generalize ([va_rf (some x0), .int x1, .int x2] : List Value).toArray = av at X ⊢
  unfold pX7_sum at h
  refine lv_iload_n X.1 X.2.1 dX7_sum_0 rfl (lv_at hl 1 rfl) ?_
  refine q_cSv (As := [.int x1]) (rest := []) (c1 := 1) (s1 := 6) (d := 6) (mc := 1) (ms := 6) X N I hl.1 mX7_checkKind wd_453 dX7_sum_1 rfl (kX7_checkKind hl0 h) rfl (Nat.le_of_ble_eq_true rfl) ⟨by decide, by decide⟩ ⟨by decide, by decide⟩ ⟨by decide, by decide⟩ rfl rfl (fun S H locs I h => ?_)
  refine lv_iload_n X.1 X.2.1 dX7_sum_4 rfl (lv_at hl 2 rfl) ?_
  have jn23 : ∀ (t0 : Int64) (S : qS) (H : Heap) (locs : List Loc) (ls : Array Slot), pX7_sum_J23 post xp t0 S → q_H G A s H locs S → lv_has ls 3 [] → W p l e (q_rm 7 1 6) s m av below meth c H locs 1 6 (vx_MQ below (q_Qj G post A) (q_XC G A xp) av s 1 6 A) (F0 m 23 ls [.long t0]) := by
    intro t0 S H locs ls h I hl
    unfold pX7_sum_J23 at h
    exact q_lret X I hr dX7_sum_23 h (by decide) (by decide)
  refine lv_if_eq (tgt := 17) X.1 X.2.1 dX7_sum_5 (by decide) (fun c5 => ?_) (fun c5 => ?_)
  · have h := h.1 c5
    refine q_aload_n X dX7_sum_17 rfl (lv_at hl 0 rfl) ?_
    refine q_getR (ci := 8) (k := 6) X I rfl inb_TX7 wd_104 (by decide) qt_326 dX7_sum_18 h (fun v18 h => ?_)
    refine lv_iload_n X.1 X.2.1 dX7_sum_21 rfl (lv_at hl 1 rfl) ?_
    refine q_ldJ X I (by decide) (by decide) dX7_sum_22 h (fun v22 h => ?_)
    exact jn23 _ _ _ _ _ h I (lv_sub hl [] rfl)
  · have h := h.2 c5
    refine q_aload_n X dX7_sum_8 rfl (lv_at hl 0 rfl) ?_
    refine q_getR (ci := 8) (k := 7) X I rfl inb_TX7 wd_105 (by decide) qt_327 dX7_sum_9 h (fun v9 h => ?_)
    refine lv_iload_n X.1 X.2.1 dX7_sum_12 rfl (lv_at hl 1 rfl) ?_
    refine q_ldJ X I (by decide) (by decide) dX7_sum_13 h (fun v13 h => ?_)
    refine lv_goto (tgt := 23) X.1 X.2.1 dX7_sum_14 (by decide) ?_
    exact jn23 _ _ _ _ _ h I (lv_sub hl [] rfl)

def pX7_put (x0 : Nat) (x1 : Int32) (x2 : Int32) (S : qS) (post : Int32 → qS → Prop) (xp : String → qS → Prop) : Prop :=
  w_getR S (some x0) 8 3 (fun v1 =>
  w_at S v1 7 (fun b5 => pX6_at b5 x1 S (fun v5 S =>
  w_getR S (some x0) 8 3 (fun v10 =>
  w_at S v10 7 (fun b14 => pX6_at b14 x2 S (fun v14 S =>
  w_getR S (some x0) 8 3 (fun v20 =>
  w_at S v20 7 (fun b26 => pX6_mayLieIn b26 v5 v14 S (fun v26 S =>
  ((¬ v26 = 0 →
  w_putR S v5 6 10 v14 (fun S =>
  (((1 : Int32) = 0 ∨ (1 : Int32) = 1) ∧ post (1 : Int32) S))) ∧ (v26 = 0 →
  (((0 : Int32) = 0 ∨ (0 : Int32) = 1) ∧ post (0 : Int32) S)))) xp))) xp))) xp))
set_option maxHeartbeats 4000000 in
set_option maxRecDepth 100000 in
theorem kX7_put {l : Launch} (hl0 : l.stackTraces = false) {G : qG} {S : qS} {sz : Nat} {x0 : Nat} {x1 : Int32} {x2 : Int32} {post : Int32 → qS → Prop} {xp : String → qS → Prop} (h : pX7_put x0 x1 x2 S post xp) : q_M l yX7_put cX7_put 5 (some .boolean) 7 2 12 G S sz [va_rf (some x0), .int x1, .int x2] (q_Qi G post) xp := by
  refine q_of (lv := [(0, va_rf (some x0)), (1, .int x1), (2, .int x2)]) hl0 (by decide) rfl (Nat.le_of_ble_eq_true rfl) (fun p e s m below meth c A ls X N hr hnm I hl => ?_)
  generalize ([va_rf (some x0), .int x1, .int x2] : List Value).toArray = av at X ⊢
  unfold pX7_put at h
  refine q_aload_n X dX7_put_0 rfl (lv_at hl 0 rfl) ?_
  refine q_getR (ci := 8) (k := 3) X I rfl inb_TX7 wd_101 (by decide) qt_323 dX7_put_1 h (fun v1 h => ?_)
  refine lv_iload_n X.1 X.2.1 dX7_put_4 rfl (lv_at hl 1 rfl) ?_
  refine q_cVr (As := [.int x1]) (rest := []) (c1 := 1) (s1 := 6) (d := 6) (mc := 1) (ms := 6) X N I hl.1 mX6_at wd_591 dX7_put_5 rfl h (fun b h => kX6_at hl0 h) rfl (Nat.le_of_ble_eq_true rfl) ⟨by decide, by decide⟩ ⟨by decide, by decide⟩ ⟨by decide, by decide⟩ rfl rfl (fun v5 S H locs I h => ?_)
  refine q_astore_n (i := 3) (lv' := [(3, va_rf v5), (0, va_rf (some x0)), (1, .int x1), (2, .int x2)]) X dX7_put_8 rfl hl (by decide) rfl (fun ls hl => ?_)
  refine q_aload_n X dX7_put_9 rfl (lv_at hl 1 rfl) ?_
  refine q_getR (ci := 8) (k := 3) X I rfl inb_TX7 wd_101 (by decide) qt_323 dX7_put_10 h (fun v10 h => ?_)
  refine lv_iload_n X.1 X.2.1 dX7_put_13 rfl (lv_at hl 3 rfl) ?_
  refine q_cVr (As := [.int x2]) (rest := []) (c1 := 2) (s1 := 12) (d := 6) (mc := 1) (ms := 6) X N I hl.1 mX6_at wd_591 dX7_put_14 rfl h (fun b h => kX6_at hl0 h) rfl (Nat.le_of_ble_eq_true rfl) ⟨by decide, by decide⟩ ⟨by decide, by decide⟩ ⟨by decide, by decide⟩ rfl rfl (fun v14 S H locs I h => ?_)
  refine q_astore (i := 4) (lv' := [(4, va_rf v14), (3, va_rf v5), (0, va_rf (some x0)), (1, .int x1), (2, .int x2)]) X dX7_put_17 hl (by decide) (by simp [q_cat, q_catI, q_catJ]) (fun ls hl => ?_)
  refine q_aload_n X dX7_put_19 rfl (lv_at hl 2 rfl) ?_
  refine q_getR (ci := 8) (k := 3) X I rfl inb_TX7 wd_101 (by decide) qt_323 dX7_put_20 h (fun v20 h => ?_)
  refine q_aload_n X dX7_put_23 rfl (lv_at hl 1 rfl) ?_
  refine q_aload X dX7_put_24 (lv_at hl 0 rfl) ?_
  refine q_cVi (As := [va_rf v5, va_rf v14]) (rest := []) (c1 := 2) (s1 := 12) (d := 5) (mc := 0) (ms := 0) X N I hl.1 mX6_mayLieIn wd_598 dX7_put_26 rfl h (fun b h => kX6_mayLieIn hl0 h) rfl (Nat.le_of_ble_eq_true rfl) ⟨by decide, by decide⟩ ⟨by decide, by decide⟩ ⟨by decide, by decide⟩ rfl rfl (fun v26 S H locs I h => ?_)
  refine lv_if_ne (tgt := 34) X.1 X.2.1 dX7_put_29 (by decide) (fun c29 => ?_) (fun c29 => ?_)
  · have h := h.1 c29
    refine q_aload_n X dX7_put_34 rfl (lv_at hl 1 rfl) ?_
    refine q_aload X dX7_put_35 (lv_at hl 0 rfl) ?_
    refine q_putR (ci := 6) (k := 10) X I rfl inb_TX5 tyX5_ok nmX5 wd_551 (by decide) (Or.inl rfl) qt_250 (Or.inl ⟨_, rfl⟩) dX7_put_37 h (fun S H locs I h => ?_)
    refine lv_iconst (v := 1) X.1 X.2.1 dX7_put_40 (by decide) ?_
    exact q_zret X I hr dX7_put_41 h (by decide) (by decide)
  · have h := h.2 c29
    refine lv_iconst (v := 0) X.1 X.2.1 dX7_put_32 (by decide) ?_
    exact q_zret X I hr dX7_put_33 h (by decide) (by decide)

def pX7_take (x0 : Nat) (x1 : Int32) (S : qS) (post : Int32 → qS → Prop) (xp : String → qS → Prop) : Prop :=
  w_getR S (some x0) 8 3 (fun v1 =>
  w_at S v1 7 (fun b5 => pX6_at b5 x1 S (fun v5 S =>
  w_getR S v5 6 10 (fun v10 =>
  ((¬ v10 = none →
  w_putR S v5 6 10 (none : Option Nat) (fun S =>
  (((1 : Int32) = 0 ∨ (1 : Int32) = 1) ∧ post (1 : Int32) S))) ∧ (v10 = none →
  (((0 : Int32) = 0 ∨ (0 : Int32) = 1) ∧ post (0 : Int32) S))))) xp))
set_option maxHeartbeats 4000000 in
set_option maxRecDepth 100000 in
theorem kX7_take {l : Launch} (hl0 : l.stackTraces = false) {G : qG} {S : qS} {sz : Nat} {x0 : Nat} {x1 : Int32} {post : Int32 → qS → Prop} {xp : String → qS → Prop} (h : pX7_take x0 x1 S post xp) : q_M l yX7_take cX7_take 3 (some .boolean) 7 1 6 G S sz [va_rf (some x0), .int x1] (q_Qi G post) xp := by
  refine q_of (lv := [(0, va_rf (some x0)), (1, .int x1)]) hl0 (by decide) rfl (Nat.le_of_ble_eq_true rfl) (fun p e s m below meth c A ls X N hr hnm I hl => ?_)
  generalize ([va_rf (some x0), .int x1] : List Value).toArray = av at X ⊢
  unfold pX7_take at h
  refine q_aload_n X dX7_take_0 rfl (lv_at hl 0 rfl) ?_
  refine q_getR (ci := 8) (k := 3) X I rfl inb_TX7 wd_101 (by decide) qt_323 dX7_take_1 h (fun v1 h => ?_)
  refine lv_iload_n X.1 X.2.1 dX7_take_4 rfl (lv_at hl 1 rfl) ?_
  refine q_cVr (As := [.int x1]) (rest := []) (c1 := 1) (s1 := 6) (d := 6) (mc := 1) (ms := 6) X N I hl.1 mX6_at wd_591 dX7_take_5 rfl h (fun b h => kX6_at hl0 h) rfl (Nat.le_of_ble_eq_true rfl) ⟨by decide, by decide⟩ ⟨by decide, by decide⟩ ⟨by decide, by decide⟩ rfl rfl (fun v5 S H locs I h => ?_)
  refine q_astore_n (i := 2) (lv' := [(2, va_rf v5), (0, va_rf (some x0)), (1, .int x1)]) X dX7_take_8 rfl hl (by decide) rfl (fun ls hl => ?_)
  refine q_aload_n X dX7_take_9 rfl (lv_at hl 0 rfl) ?_
  refine q_getR (ci := 6) (k := 10) X I rfl inb_TX5 wd_551 (by decide) qt_250 dX7_take_10 h (fun v10 h => ?_)
  refine q_ifnonnull (tgt := 18) X dX7_take_13 (by decide) (fun c13 => ?_) (fun c13 => ?_)
  · have h := h.1 c13
    refine q_aload_n X dX7_take_18 rfl (lv_at hl 0 rfl) ?_
    refine lv_null X.1 X.2.1 dX7_take_19 ?_
    refine W.eq (g2 := F0 m 20 ls [va_rf (none : Option Nat), va_rf v5]) rfl ?_
    refine q_putR (ci := 6) (k := 10) X I rfl inb_TX5 tyX5_ok nmX5 wd_551 (by decide) (Or.inl rfl) qt_250 (Or.inl ⟨_, rfl⟩) dX7_take_20 h (fun S H locs I h => ?_)
    refine lv_iconst (v := 1) X.1 X.2.1 dX7_take_23 (by decide) ?_
    exact q_zret X I hr dX7_take_24 h (by decide) (by decide)
  · have h := h.2 c13
    refine lv_iconst (v := 0) X.1 X.2.1 dX7_take_16 (by decide) ?_
    exact q_zret X I hr dX7_take_17 h (by decide) (by decide)

def pX7_give_J36  (post : Int32 → qS → Prop) (xp : String → qS → Prop)  (S : qS) : Prop :=
  (((0 : Int32) = 0 ∨ (0 : Int32) = 1) ∧ post (0 : Int32) S)
def pX7_give (x0 : Nat) (x1 : Int32) (x2 : Int32) (S : qS) (post : Int32 → qS → Prop) (xp : String → qS → Prop) : Prop :=
  w_getR S (some x0) 8 3 (fun v1 =>
  w_at S v1 7 (fun b5 => pX6_at b5 x1 S (fun v5 S =>
  w_at S (some x0) 8 (fun b11 => pX7_playerAt b11 x2 S (fun v11 S =>
  w_getR S v5 6 9 (fun v17 =>
  ((v17 = v11 →
  pX7_give_J36 post xp S) ∧ (¬ v17 = v11 →
  w_getR S (some x0) 8 3 (fun v26 =>
  w_at S v26 7 (fun b30 => pX6_mayLeave b30 v5 S (fun v30 S =>
  ((¬ v30 = 0 →
  w_getR S (some x0) 8 3 (fun v39 =>
  w_getI S (some x0) 8 9 (fun v46 =>
  w_at S v39 7 (fun b49 => pX6_passOn b49 v5 v11 v46 S (fun S =>
  (((1 : Int32) = 0 ∨ (1 : Int32) = 1) ∧ post (1 : Int32) S)) xp)))) ∧ (v30 = 0 →
  pX7_give_J36 post xp S))) xp)))))) xp)) xp))
set_option maxHeartbeats 4000000 in
set_option maxRecDepth 100000 in
theorem kX7_give {l : Launch} (hl0 : l.stackTraces = false) {G : qG} {S : qS} {sz : Nat} {x0 : Nat} {x1 : Int32} {x2 : Int32} {post : Int32 → qS → Prop} {xp : String → qS → Prop} (h : pX7_give x0 x1 x2 S post xp) : q_M l yX7_give cX7_give 5 (some .boolean) 7 2 12 G S sz [va_rf (some x0), .int x1, .int x2] (q_Qi G post) xp := by
  refine q_of (lv := [(0, va_rf (some x0)), (1, .int x1), (2, .int x2)]) hl0 (by decide) rfl (Nat.le_of_ble_eq_true rfl) (fun p e s m below meth c A ls X N hr hnm I hl => ?_)
  generalize ([va_rf (some x0), .int x1, .int x2] : List Value).toArray = av at X ⊢
  unfold pX7_give at h
  refine q_aload_n X dX7_give_0 rfl (lv_at hl 0 rfl) ?_
  refine q_getR (ci := 8) (k := 3) X I rfl inb_TX7 wd_101 (by decide) qt_323 dX7_give_1 h (fun v1 h => ?_)
  refine lv_iload_n X.1 X.2.1 dX7_give_4 rfl (lv_at hl 1 rfl) ?_
  refine q_cVr (As := [.int x1]) (rest := []) (c1 := 1) (s1 := 6) (d := 6) (mc := 1) (ms := 6) X N I hl.1 mX6_at wd_591 dX7_give_5 rfl h (fun b h => kX6_at hl0 h) rfl (Nat.le_of_ble_eq_true rfl) ⟨by decide, by decide⟩ ⟨by decide, by decide⟩ ⟨by decide, by decide⟩ rfl rfl (fun v5 S H locs I h => ?_)
  refine q_astore_n (i := 3) (lv' := [(3, va_rf v5), (0, va_rf (some x0)), (1, .int x1), (2, .int x2)]) X dX7_give_8 rfl hl (by decide) rfl (fun ls hl => ?_)
  refine q_aload_n X dX7_give_9 rfl (lv_at hl 1 rfl) ?_
  refine lv_iload_n X.1 X.2.1 dX7_give_10 rfl (lv_at hl 3 rfl) ?_
  refine q_cVr (As := [.int x2]) (rest := []) (c1 := 2) (s1 := 12) (d := 6) (mc := 1) (ms := 6) X N I hl.1 mX7_playerAt wd_483 dX7_give_11 rfl h (fun b h => kX7_playerAt hl0 h) rfl (Nat.le_of_ble_eq_true rfl) ⟨by decide, by decide⟩ ⟨by decide, by decide⟩ ⟨by decide, by decide⟩ rfl rfl (fun v11 S H locs I h => ?_)
  refine q_astore (i := 4) (lv' := [(4, va_rf v11), (3, va_rf v5), (0, va_rf (some x0)), (1, .int x1), (2, .int x2)]) X dX7_give_14 hl (by decide) (by simp [q_cat, q_catI, q_catJ]) (fun ls hl => ?_)
  refine q_aload_n X dX7_give_16 rfl (lv_at hl 1 rfl) ?_
  refine q_getR (ci := 6) (k := 9) X I rfl inb_TX5 wd_548 (by decide) qt_249 dX7_give_17 h (fun v17 h => ?_)
  refine q_aload X dX7_give_20 (lv_at hl 0 rfl) ?_
  have jn36 : ∀ (S : qS) (H : Heap) (locs : List Loc) (ls : Array Slot), pX7_give_J36 post xp S → q_H G A s H locs S → lv_has ls 5 [] → W p l e (q_rm 7 2 12) s m av below meth c H locs 2 12 (vx_MQ below (q_Qi G post A) (q_XC G A xp) av s 2 12 A) (F0 m 36 ls []) := by
    intro S H locs ls h I hl
    unfold pX7_give_J36 at h
    refine lv_iconst (v := 0) X.1 X.2.1 dX7_give_36 (by decide) ?_
    exact q_zret X I hr dX7_give_37 h (by decide) (by decide)
  refine lv_acmp_eq (tgt := 36) X.1 X.2.1 dX7_give_22 (by decide) (fun c22 => ?_) (fun c22 => ?_)
  · have h := h.1 c22
    exact jn36 _ _ _ _ h I (lv_sub hl [] rfl)
  · have h := h.2 c22
    refine q_aload_n X dX7_give_25 rfl (lv_at hl 2 rfl) ?_
    refine q_getR (ci := 8) (k := 3) X I rfl inb_TX7 wd_101 (by decide) qt_323 dX7_give_26 h (fun v26 h => ?_)
    refine q_aload_n X dX7_give_29 rfl (lv_at hl 1 rfl) ?_
    refine q_cVi (As := [va_rf v5]) (rest := []) (c1 := 2) (s1 := 12) (d := 4) (mc := 0) (ms := 0) X N I hl.1 mX6_mayLeave wd_624 dX7_give_30 rfl h (fun b h => kX6_mayLeave hl0 h) rfl (Nat.le_of_ble_eq_true rfl) ⟨by decide, by decide⟩ ⟨by decide, by decide⟩ ⟨by decide, by decide⟩ rfl rfl (fun v30 S H locs I h => ?_)
    refine lv_if_ne (tgt := 38) X.1 X.2.1 dX7_give_33 (by decide) (fun c33 => ?_) (fun c33 => ?_)
    · have h := h.1 c33
      refine q_aload_n X dX7_give_38 rfl (lv_at hl 2 rfl) ?_
      refine q_getR (ci := 8) (k := 3) X I rfl inb_TX7 wd_101 (by decide) qt_323 dX7_give_39 h (fun v39 h => ?_)
      refine q_aload_n X dX7_give_42 rfl (lv_at hl 1 rfl) ?_
      refine q_aload X dX7_give_43 (lv_at hl 0 rfl) ?_
      refine q_aload_n X dX7_give_45 rfl (lv_at hl 2 rfl) ?_
      refine q_getI (ci := 8) (k := 9) X I rfl inb_TX7 wd_107 (by decide) qt_329 dX7_give_46 h (fun v46 h => ?_)
      refine q_cVv (As := [va_rf v5, va_rf v11, .int v46]) (rest := []) (c1 := 2) (s1 := 12) (d := 4) (mc := 0) (ms := 0) X N I hl.1 mX6_passOn wd_631 dX7_give_49 rfl h (fun b h => kX6_passOn hl0 h) rfl (Nat.le_of_ble_eq_true rfl) ⟨by decide, by decide⟩ ⟨by decide, by decide⟩ ⟨by decide, by decide⟩ rfl rfl (fun S H locs I h => ?_)
      refine lv_iconst (v := 1) X.1 X.2.1 dX7_give_52 (by decide) ?_
      exact q_zret X I hr dX7_give_53 h (by decide) (by decide)
    · have h := h.2 c33
      exact jn36 _ _ _ _ h I (lv_sub hl [] rfl)

def pX7_lend_J47  (post : Int32 → qS → Prop) (xp : String → qS → Prop)  (S : qS) : Prop :=
  (((0 : Int32) = 0 ∨ (0 : Int32) = 1) ∧ post (0 : Int32) S)
def pX7_lend (x0 : Nat) (x1 : Int32) (x2 : Int32) (x3 : Int32) (S : qS) (post : Int32 → qS → Prop) (xp : String → qS → Prop) : Prop :=
  w_getR S (some x0) 8 3 (fun v1 =>
  w_at S v1 7 (fun b5 => pX6_at b5 x1 S (fun v5 S =>
  w_at S (some x0) 8 (fun b12 => pX7_playerAt b12 x2 S (fun v12 S =>
  w_getI S (some x0) 8 9 (fun v19 =>
  ((x3 ≤ v19 →
  pX7_lend_J47 post xp S) ∧ (¬ x3 ≤ v19 →
  w_getR S v5 6 9 (fun v27 =>
  ((v27 = v12 →
  pX7_lend_J47 post xp S) ∧ (¬ v27 = v12 →
  w_getR S (some x0) 8 3 (fun v36 =>
  w_at S v36 7 (fun b41 => pX6_mayLeave b41 v5 S (fun v41 S =>
  ((¬ v41 = 0 →
  w_getR S v5 6 9 (fun v53 =>
  w_putR S v5 6 8 v53 (fun S =>
  w_putI S v5 6 7 x3 (fun S =>
  w_getR S (some x0) 8 3 (fun v66 =>
  w_getI S (some x0) 8 9 (fun v74 =>
  w_at S v66 7 (fun b77 => pX6_passOn b77 v5 v12 v74 S (fun S =>
  (((1 : Int32) = 0 ∨ (1 : Int32) = 1) ∧ post (1 : Int32) S)) xp))))))) ∧ (v41 = 0 →
  pX7_lend_J47 post xp S))) xp))))))))) xp)) xp))
set_option maxHeartbeats 4000000 in
set_option maxRecDepth 100000 in
theorem kX7_lend {l : Launch} (hl0 : l.stackTraces = false) {G : qG} {S : qS} {sz : Nat} {x0 : Nat} {x1 : Int32} {x2 : Int32} {x3 : Int32} {post : Int32 → qS → Prop} {xp : String → qS → Prop} (h : pX7_lend x0 x1 x2 x3 S post xp) : q_M l yX7_lend cX7_lend 6 (some .boolean) 7 2 12 G S sz [va_rf (some x0), .int x1, .int x2, .int x3] (q_Qi G post) xp := by
  refine q_of (lv := [(0, va_rf (some x0)), (1, .int x1), (2, .int x2), (3, .int x3)]) hl0 (by decide) rfl (Nat.le_of_ble_eq_true rfl) (fun p e s m below meth c A ls X N hr hnm I hl => ?_)
  generalize ([va_rf (some x0), .int x1, .int x2, .int x3] : List Value).toArray = av at X ⊢
  unfold pX7_lend at h
  refine q_aload_n X dX7_lend_0 rfl (lv_at hl 0 rfl) ?_
  refine q_getR (ci := 8) (k := 3) X I rfl inb_TX7 wd_101 (by decide) qt_323 dX7_lend_1 h (fun v1 h => ?_)
  refine lv_iload_n X.1 X.2.1 dX7_lend_4 rfl (lv_at hl 1 rfl) ?_
  refine q_cVr (As := [.int x1]) (rest := []) (c1 := 1) (s1 := 6) (d := 6) (mc := 1) (ms := 6) X N I hl.1 mX6_at wd_591 dX7_lend_5 rfl h (fun b h => kX6_at hl0 h) rfl (Nat.le_of_ble_eq_true rfl) ⟨by decide, by decide⟩ ⟨by decide, by decide⟩ ⟨by decide, by decide⟩ rfl rfl (fun v5 S H locs I h => ?_)
  refine q_astore (i := 4) (lv' := [(4, va_rf v5), (0, va_rf (some x0)), (1, .int x1), (2, .int x2), (3, .int x3)]) X dX7_lend_8 hl (by decide) rfl (fun ls hl => ?_)
  refine q_aload_n X dX7_lend_10 rfl (lv_at hl 1 rfl) ?_
  refine lv_iload_n X.1 X.2.1 dX7_lend_11 rfl (lv_at hl 3 rfl) ?_
  refine q_cVr (As := [.int x2]) (rest := []) (c1 := 2) (s1 := 12) (d := 6) (mc := 1) (ms := 6) X N I hl.1 mX7_playerAt wd_483 dX7_lend_12 rfl h (fun b h => kX7_playerAt hl0 h) rfl (Nat.le_of_ble_eq_true rfl) ⟨by decide, by decide⟩ ⟨by decide, by decide⟩ ⟨by decide, by decide⟩ rfl rfl (fun v12 S H locs I h => ?_)
  refine q_astore (i := 5) (lv' := [(5, va_rf v12), (4, va_rf v5), (0, va_rf (some x0)), (1, .int x1), (2, .int x2), (3, .int x3)]) X dX7_lend_15 hl (by decide) (by simp [q_cat, q_catI, q_catJ]) (fun ls hl => ?_)
  refine lv_iload_n X.1 X.2.1 dX7_lend_17 rfl (lv_at hl 5 rfl) ?_
  refine q_aload_n X dX7_lend_18 rfl (lv_at hl 2 rfl) ?_
  refine q_getI (ci := 8) (k := 9) X I rfl inb_TX7 wd_107 (by decide) qt_329 dX7_lend_19 h (fun v19 h => ?_)
  have jn47 : ∀ (S : qS) (H : Heap) (locs : List Loc) (ls : Array Slot), pX7_lend_J47 post xp S → q_H G A s H locs S → lv_has ls 6 [] → W p l e (q_rm 7 2 12) s m av below meth c H locs 2 12 (vx_MQ below (q_Qi G post A) (q_XC G A xp) av s 2 12 A) (F0 m 47 ls []) := by
    intro S H locs ls h I hl
    unfold pX7_lend_J47 at h
    refine lv_iconst (v := 0) X.1 X.2.1 dX7_lend_47 (by decide) ?_
    exact q_zret X I hr dX7_lend_48 h (by decide) (by decide)
  refine lv_icmp_le (tgt := 47) X.1 X.2.1 dX7_lend_22 (by decide) (fun c22 => ?_) (fun c22 => ?_)
  · have h := h.1 c22
    exact jn47 _ _ _ _ h I (lv_sub hl [] rfl)
  · have h := h.2 c22
    refine q_aload X dX7_lend_25 (lv_at hl 1 rfl) ?_
    refine q_getR (ci := 6) (k := 9) X I rfl inb_TX5 wd_548 (by decide) qt_249 dX7_lend_27 h (fun v27 h => ?_)
    refine q_aload X dX7_lend_30 (lv_at hl 0 rfl) ?_
    refine lv_acmp_eq (tgt := 47) X.1 X.2.1 dX7_lend_32 (by decide) (fun c32 => ?_) (fun c32 => ?_)
    · have h := h.1 c32
      exact jn47 _ _ _ _ h I (lv_sub hl [] rfl)
    · have h := h.2 c32
      refine q_aload_n X dX7_lend_35 rfl (lv_at hl 2 rfl) ?_
      refine q_getR (ci := 8) (k := 3) X I rfl inb_TX7 wd_101 (by decide) qt_323 dX7_lend_36 h (fun v36 h => ?_)
      refine q_aload X dX7_lend_39 (lv_at hl 1 rfl) ?_
      refine q_cVi (As := [va_rf v5]) (rest := []) (c1 := 2) (s1 := 12) (d := 4) (mc := 0) (ms := 0) X N I hl.1 mX6_mayLeave wd_624 dX7_lend_41 rfl h (fun b h => kX6_mayLeave hl0 h) rfl (Nat.le_of_ble_eq_true rfl) ⟨by decide, by decide⟩ ⟨by decide, by decide⟩ ⟨by decide, by decide⟩ rfl rfl (fun v41 S H locs I h => ?_)
      refine lv_if_ne (tgt := 49) X.1 X.2.1 dX7_lend_44 (by decide) (fun c44 => ?_) (fun c44 => ?_)
      · have h := h.1 c44
        refine q_aload X dX7_lend_49 (lv_at hl 1 rfl) ?_
        refine q_aload X dX7_lend_51 (lv_at hl 1 rfl) ?_
        refine q_getR (ci := 6) (k := 9) X I rfl inb_TX5 wd_548 (by decide) qt_249 dX7_lend_53 h (fun v53 h => ?_)
        refine q_putR (ci := 6) (k := 8) X I rfl inb_TX5 tyX5_ok nmX5 wd_545 (by decide) (Or.inl rfl) qt_248 (Or.inl ⟨_, rfl⟩) dX7_lend_56 h (fun S H locs I h => ?_)
        refine q_aload X dX7_lend_59 (lv_at hl 1 rfl) ?_
        refine lv_iload_n X.1 X.2.1 dX7_lend_61 rfl (lv_at hl 5 rfl) ?_
        refine q_putI (ci := 6) (k := 7) X I rfl inb_TX5 tyX5_ok nmX5 wd_542 (by decide) (Or.inl rfl) qt_247 rfl dX7_lend_62 h (fun S H locs I h => ?_)
        refine q_aload_n X dX7_lend_65 rfl (lv_at hl 2 rfl) ?_
        refine q_getR (ci := 8) (k := 3) X I rfl inb_TX7 wd_101 (by decide) qt_323 dX7_lend_66 h (fun v66 h => ?_)
        refine q_aload X dX7_lend_69 (lv_at hl 1 rfl) ?_
        refine q_aload X dX7_lend_71 (lv_at hl 0 rfl) ?_
        refine q_aload_n X dX7_lend_73 rfl (lv_at hl 2 rfl) ?_
        refine q_getI (ci := 8) (k := 9) X I rfl inb_TX7 wd_107 (by decide) qt_329 dX7_lend_74 h (fun v74 h => ?_)
        refine q_cVv (As := [va_rf v5, va_rf v12, .int v74]) (rest := []) (c1 := 2) (s1 := 12) (d := 4) (mc := 0) (ms := 0) X N I hl.1 mX6_passOn wd_631 dX7_lend_77 rfl h (fun b h => kX6_passOn hl0 h) rfl (Nat.le_of_ble_eq_true rfl) ⟨by decide, by decide⟩ ⟨by decide, by decide⟩ ⟨by decide, by decide⟩ rfl rfl (fun S H locs I h => ?_)
        refine lv_iconst (v := 1) X.1 X.2.1 dX7_lend_80 (by decide) ?_
        exact q_zret X I hr dX7_lend_81 h (by decide) (by decide)
      · have h := h.2 c44
        exact jn47 _ _ _ _ h I (lv_sub hl [] rfl)

def pX7_wear_J57  (post : Int32 → qS → Prop) (xp : String → qS → Prop) (x3 : Option Nat) (S : qS) : Prop :=
  w_getI S x3 6 6 (fun v58 =>
  post v58 S)
def pX7_wear (x0 : Nat) (x1 : Int32) (x2 : Int32) (S : qS) (post : Int32 → qS → Prop) (xp : String → qS → Prop) : Prop :=
  w_getR S (some x0) 8 3 (fun v1 =>
  w_at S v1 7 (fun b5 => pX6_at b5 x1 S (fun v5 S =>
  pX7_checkRange x2 (1 : Int32) (100 : Int32) S (fun S =>
  w_at S v5 6 (fun b17 => pX5_isBroken b17  S (fun v17 S =>
  ((v17 = 0 →
  w_getI S v5 6 6 (fun v27 =>
  w_putI S v5 6 6 (if (100 : Int32) < (v27 + x2) then (100 : Int32) else (v27 + x2)) (fun S =>
  w_getI S v5 6 6 (fun v41 =>
  ((¬ v41 = (100 : Int32) →
  pX7_wear_J57 post xp v5 S) ∧ (v41 = (100 : Int32) →
  w_getR S (some x0) 8 3 (fun v50 =>
  w_at S v50 7 (fun b54 => pX6_breakUp b54 v5 S (fun S =>
  pX7_wear_J57 post xp v5 S) xp)))))))) ∧ (¬ v17 = 0 →
  post (-1 : Int32) S))) xp)) xp) xp))
set_option maxHeartbeats 4000000 in
set_option maxRecDepth 100000 in
theorem kX7_wear {l : Launch} (hl0 : l.stackTraces = false) {G : qG} {S : qS} {sz : Nat} {x0 : Nat} {x1 : Int32} {x2 : Int32} {post : Int32 → qS → Prop} {xp : String → qS → Prop} (h : pX7_wear x0 x1 x2 S post xp) : q_M l yX7_wear cX7_wear 4 (some .int) 7 2 12 G S sz [va_rf (some x0), .int x1, .int x2] (q_Qi G post) xp := by
  refine q_of (lv := [(0, va_rf (some x0)), (1, .int x1), (2, .int x2)]) hl0 (by decide) rfl (Nat.le_of_ble_eq_true rfl) (fun p e s m below meth c A ls X N hr hnm I hl => ?_)
  generalize ([va_rf (some x0), .int x1, .int x2] : List Value).toArray = av at X ⊢
  unfold pX7_wear at h
  refine q_aload_n X dX7_wear_0 rfl (lv_at hl 0 rfl) ?_
  refine q_getR (ci := 8) (k := 3) X I rfl inb_TX7 wd_101 (by decide) qt_323 dX7_wear_1 h (fun v1 h => ?_)
  refine lv_iload_n X.1 X.2.1 dX7_wear_4 rfl (lv_at hl 1 rfl) ?_
  refine q_cVr (As := [.int x1]) (rest := []) (c1 := 1) (s1 := 6) (d := 6) (mc := 1) (ms := 6) X N I hl.1 mX6_at wd_591 dX7_wear_5 rfl h (fun b h => kX6_at hl0 h) rfl (Nat.le_of_ble_eq_true rfl) ⟨by decide, by decide⟩ ⟨by decide, by decide⟩ ⟨by decide, by decide⟩ rfl rfl (fun v5 S H locs I h => ?_)
  refine q_astore_n (i := 3) (lv' := [(3, va_rf v5), (0, va_rf (some x0)), (1, .int x1), (2, .int x2)]) X dX7_wear_8 rfl hl (by decide) rfl (fun ls hl => ?_)
  refine lv_iload_n X.1 X.2.1 dX7_wear_9 rfl (lv_at hl 3 rfl) ?_
  refine lv_iconst (v := 1) X.1 X.2.1 dX7_wear_10 (by decide) ?_
  refine lv_bipush (v := 100) X.1 X.2.1 dX7_wear_11 (by decide) ?_
  refine q_cSv (As := [.int x2, .int (1 : Int32), .int (100 : Int32)]) (rest := []) (c1 := 2) (s1 := 12) (d := 6) (mc := 1) (ms := 6) X N I hl.1 mX7_checkRange wd_457 dX7_wear_13 rfl (kX7_checkRange hl0 h) rfl (Nat.le_of_ble_eq_true rfl) ⟨by decide, by decide⟩ ⟨by decide, by decide⟩ ⟨by decide, by decide⟩ rfl rfl (fun S H locs I h => ?_)
  refine q_aload_n X dX7_wear_16 rfl (lv_at hl 0 rfl) ?_
  refine q_cVi (As := []) (rest := []) (c1 := 2) (s1 := 12) (d := 1) (mc := 0) (ms := 0) X N I hl.1 mX5_isBroken wd_650 dX7_wear_17 rfl h (fun b h => kX5_isBroken hl0 h) rfl (Nat.le_of_ble_eq_true rfl) ⟨by decide, by decide⟩ ⟨by decide, by decide⟩ ⟨by decide, by decide⟩ rfl rfl (fun v17 S H locs I h => ?_)
  refine lv_if_eq (tgt := 25) X.1 X.2.1 dX7_wear_20 (by decide) (fun c20 => ?_) (fun c20 => ?_)
  · have h := h.1 c20
    refine q_aload_n X dX7_wear_25 rfl (lv_at hl 0 rfl) ?_
    refine q_aload_n X dX7_wear_26 rfl (lv_at hl 0 rfl) ?_
    refine q_getI (ci := 6) (k := 6) X I rfl inb_TX5 wd_539 (by decide) qt_246 dX7_wear_27 h (fun v27 h => ?_)
    refine lv_iload_n X.1 X.2.1 dX7_wear_30 rfl (lv_at hl 3 rfl) ?_
    refine lv_iadd X.1 X.2.1 dX7_wear_31 ?_
    refine lv_bipush (v := 100) X.1 X.2.1 dX7_wear_32 (by decide) ?_
    refine va_mmin X.1 X.2.1 (X.2.2.2.2.1.trans hl.1.symm) X.2.2.1 (X.2.2.2.1 _ wd_651) (X.2.2.2.1 _ wd_387) (X.2.2.2.1 _ wd_14) (X.2.2.2.1 _ wd_388) (by decide) (by simp [q_cat, q_catI, q_catJ, q_rm]) (by decide) (by decide) dX7_wear_34 ?_
    refine q_putI (ci := 6) (k := 6) X I rfl inb_TX5 tyX5_ok nmX5 wd_539 (by decide) (Or.inl rfl) qt_246 rfl dX7_wear_37 h (fun S H locs I h => ?_)
    refine q_aload_n X dX7_wear_40 rfl (lv_at hl 0 rfl) ?_
    refine q_getI (ci := 6) (k := 6) X I rfl inb_TX5 wd_539 (by decide) qt_246 dX7_wear_41 h (fun v41 h => ?_)
    refine lv_bipush (v := 100) X.1 X.2.1 dX7_wear_44 (by decide) ?_
    have jn57 : ∀ (x3 : Option Nat) (S : qS) (H : Heap) (locs : List Loc) (ls : Array Slot), pX7_wear_J57 post xp x3 S → q_H G A s H locs S → lv_has ls 4 [(3, va_rf x3)] → W p l e (q_rm 7 2 12) s m av below meth c H locs 2 12 (vx_MQ below (q_Qi G post A) (q_XC G A xp) av s 2 12 A) (F0 m 57 ls []) := by
      intro x3 S H locs ls h I hl
      unfold pX7_wear_J57 at h
      refine q_aload_n X dX7_wear_57 rfl (lv_at hl 0 rfl) ?_
      refine q_getI (ci := 6) (k := 6) X I rfl inb_TX5 wd_539 (by decide) qt_246 dX7_wear_58 h (fun v58 h => ?_)
      exact q_iret X I hr dX7_wear_61 h (by decide) (by decide)
    refine lv_icmp_ne (tgt := 57) X.1 X.2.1 dX7_wear_46 (by decide) (fun c46 => ?_) (fun c46 => ?_)
    · have h := h.1 c46
      exact jn57 _ _ _ _ _ h I (lv_sub hl [0] rfl)
    · have h := h.2 c46
      refine q_aload_n X dX7_wear_49 rfl (lv_at hl 1 rfl) ?_
      refine q_getR (ci := 8) (k := 3) X I rfl inb_TX7 wd_101 (by decide) qt_323 dX7_wear_50 h (fun v50 h => ?_)
      refine q_aload_n X dX7_wear_53 rfl (lv_at hl 0 rfl) ?_
      refine q_cVv (As := [va_rf v5]) (rest := []) (c1 := 2) (s1 := 12) (d := 4) (mc := 0) (ms := 0) X N I hl.1 mX6_breakUp wd_652 dX7_wear_54 rfl h (fun b h => kX6_breakUp hl0 h) rfl (Nat.le_of_ble_eq_true rfl) ⟨by decide, by decide⟩ ⟨by decide, by decide⟩ ⟨by decide, by decide⟩ rfl rfl (fun S H locs I h => ?_)
      exact jn57 _ _ _ _ _ h I (lv_sub hl [0] rfl)
  · have h := h.2 c20
    refine lv_iconst (v := -1) X.1 X.2.1 dX7_wear_23 (by decide) ?_
    exact q_iret X I hr dX7_wear_24 h (by decide) (by decide)

def pX7_days (x0 : Nat) (x1 : Int32) (S : qS) (post : Int32 → qS → Prop) (xp : String → qS → Prop) : Prop :=
  pX7_checkRange x1 (0 : Int32) (1000 : Int32) S (fun S =>
  w_getI S (some x0) 8 9 (fun v10 =>
  w_putI S (some x0) 8 9 (v10 + x1) (fun S =>
  w_getR S (some x0) 8 3 (fun v19 =>
  w_getI S (some x0) 8 9 (fun v23 =>
  w_at S v19 7 (fun b26 => pX6_bringBack b26 v23 S (fun S =>
  w_getI S (some x0) 8 9 (fun v30 =>
  post v30 S)) xp)))))) xp
set_option maxHeartbeats 4000000 in
set_option maxRecDepth 100000 in
theorem kX7_days {l : Launch} (hl0 : l.stackTraces = false) {G : qG} {S : qS} {sz : Nat} {x0 : Nat} {x1 : Int32} {post : Int32 → qS → Prop} {xp : String → qS → Prop} (h : pX7_days x0 x1 S post xp) : q_M l yX7_days cX7_days 2 (some .int) 7 1 6 G S sz [va_rf (some x0), .int x1] (q_Qi G post) xp := by
  refine q_of (lv := [(0, va_rf (some x0)), (1, .int x1)]) hl0 (by decide) rfl (Nat.le_of_ble_eq_true rfl) (fun p e s m below meth c A ls X N hr hnm I hl => ?_)
  generalize ([va_rf (some x0), .int x1] : List Value).toArray = av at X ⊢
  unfold pX7_days at h
  refine lv_iload_n X.1 X.2.1 dX7_days_0 rfl (lv_at hl 1 rfl) ?_
  refine lv_iconst (v := 0) X.1 X.2.1 dX7_days_1 (by decide) ?_
  refine lv_sipush (v := 1000) X.1 X.2.1 dX7_days_2 (by decide) ?_
  refine q_cSv (As := [.int x1, .int (0 : Int32), .int (1000 : Int32)]) (rest := []) (c1 := 1) (s1 := 6) (d := 6) (mc := 1) (ms := 6) X N I hl.1 mX7_checkRange wd_457 dX7_days_5 rfl (kX7_checkRange hl0 h) rfl (Nat.le_of_ble_eq_true rfl) ⟨by decide, by decide⟩ ⟨by decide, by decide⟩ ⟨by decide, by decide⟩ rfl rfl (fun S H locs I h => ?_)
  refine q_aload_n X dX7_days_8 rfl (lv_at hl 0 rfl) ?_
  refine lv_dup X.1 X.2.1 dX7_days_9 (q_cat _) ?_
  refine q_getI (ci := 8) (k := 9) X I rfl inb_TX7 wd_107 (by decide) qt_329 dX7_days_10 h (fun v10 h => ?_)
  refine lv_iload_n X.1 X.2.1 dX7_days_13 rfl (lv_at hl 1 rfl) ?_
  refine lv_iadd X.1 X.2.1 dX7_days_14 ?_
  refine q_putI (ci := 8) (k := 9) X I rfl inb_TX7 tyX7_ok nmX7 wd_107 (by decide) (Or.inl rfl) qt_329 rfl dX7_days_15 h (fun S H locs I h => ?_)
  refine q_aload_n X dX7_days_18 rfl (lv_at hl 0 rfl) ?_
  refine q_getR (ci := 8) (k := 3) X I rfl inb_TX7 wd_101 (by decide) qt_323 dX7_days_19 h (fun v19 h => ?_)
  refine q_aload_n X dX7_days_22 rfl (lv_at hl 0 rfl) ?_
  refine q_getI (ci := 8) (k := 9) X I rfl inb_TX7 wd_107 (by decide) qt_329 dX7_days_23 h (fun v23 h => ?_)
  refine q_cVv (As := [.int v23]) (rest := []) (c1 := 1) (s1 := 6) (d := 5) (mc := 0) (ms := 0) X N I hl.1 mX6_bringBack wd_667 dX7_days_26 rfl h (fun b h => kX6_bringBack hl0 h) rfl (Nat.le_of_ble_eq_true rfl) ⟨by decide, by decide⟩ ⟨by decide, by decide⟩ ⟨by decide, by decide⟩ rfl rfl (fun S H locs I h => ?_)
  refine q_aload_n X dX7_days_29 rfl (lv_at hl 0 rfl) ?_
  refine q_getI (ci := 8) (k := 9) X I rfl inb_TX7 wd_107 (by decide) qt_329 dX7_days_30 h (fun v30 h => ?_)
  exact q_iret X I hr dX7_days_33 h (by decide) (by decide)

def pX7_look_J86  (post : Int32 → qS → Prop) (xp : String → qS → Prop) (t0 : Int32) (S : qS) : Prop :=
  post t0 S
def pX7_look_J122  (post : Int32 → qS → Prop) (xp : String → qS → Prop) (t0 : Int32) (S : qS) : Prop :=
  post t0 S
def pX7_look (x0 : Nat) (x1 : Int32) (x2 : Int32) (S : qS) (post : Int32 → qS → Prop) (xp : String → qS → Prop) : Prop :=
  w_getR S (some x0) 8 3 (fun v1 =>
  w_at S v1 7 (fun b5 => pX6_at b5 x1 S (fun v5 S =>
  ((x2 = 0 →
  w_getR S v5 6 9 (fun v61 =>
  pX7_numberOf v61 S (fun v64 S =>
  post v64 S) xp)) ∧
  (x2 = 1 →
  w_getR S v5 6 10 (fun v69 =>
  ((¬ v69 = none →
  w_getR S v5 6 10 (fun v80 =>
  w_getI S v80 6 0 (fun v83 =>
  pX7_look_J86 post xp v83 S))) ∧ (v69 = none →
  pX7_look_J86 post xp (-1 : Int32) S)))) ∧
  (x2 = 2 →
  w_getI S v5 6 6 (fun v88 =>
  post v88 S)) ∧
  (x2 = 3 →
  w_getR S (some x0) 8 3 (fun v93 =>
  w_at S v93 7 (fun b97 => pX6_rightWithin b97 v5 S (fun v97 S =>
  post v97 S) xp))) ∧
  (x2 = 4 →
  w_getR S (some x0) 8 3 (fun v102 =>
  w_at S v102 7 (fun b106 => pX6_allWithin b106 v5 S (fun v106 S =>
  post v106 S) xp))) ∧
  (x2 = 5 →
  w_at S v5 6 (fun b111 => pX5_isLent b111  S (fun v111 S =>
  ((v111 = 0 →
  pX7_look_J122 post xp (0 : Int32) S) ∧ (¬ v111 = 0 →
  pX7_look_J122 post xp (1 : Int32) S))) xp)) ∧
  (x2 = 6 →
  w_getI S v5 6 7 (fun v124 =>
  post v124 S)) ∧
  (x2 = 7 →
  w_getR S v5 6 8 (fun v129 =>
  pX7_numberOf v129 S (fun v132 S =>
  post v132 S) xp)) ∧
  (x2 = 8 →
  w_getI S v5 6 5 (fun v137 =>
  post v137 S)) ∧
  ((x2.toInt < 0 ∨ 8 < x2.toInt) →
  xp "java/util/NoSuchElementException" S))) xp))
set_option maxHeartbeats 4000000 in
set_option maxRecDepth 100000 in
theorem kX7_look {l : Launch} (hl0 : l.stackTraces = false) {G : qG} {S : qS} {sz : Nat} {x0 : Nat} {x1 : Int32} {x2 : Int32} {post : Int32 → qS → Prop} {xp : String → qS → Prop} (h : pX7_look x0 x1 x2 S post xp) : q_M l yX7_look cX7_look 4 (some .int) 7 2 12 G S sz [va_rf (some x0), .int x1, .int x2] (q_Qi G post) xp := by
  refine q_of (lv := [(0, va_rf (some x0)), (1, .int x1), (2, .int x2)]) hl0 (by decide) rfl (Nat.le_of_ble_eq_true rfl) (fun p e s m below meth c A ls X N hr hnm I hl => ?_)
  generalize ([va_rf (some x0), .int x1, .int x2] : List Value).toArray = av at X ⊢
  unfold pX7_look at h
  refine q_aload_n X dX7_look_0 rfl (lv_at hl 0 rfl) ?_
  refine q_getR (ci := 8) (k := 3) X I rfl inb_TX7 wd_101 (by decide) qt_323 dX7_look_1 h (fun v1 h => ?_)
  refine lv_iload_n X.1 X.2.1 dX7_look_4 rfl (lv_at hl 1 rfl) ?_
  refine q_cVr (As := [.int x1]) (rest := []) (c1 := 1) (s1 := 6) (d := 6) (mc := 1) (ms := 6) X N I hl.1 mX6_at wd_591 dX7_look_5 rfl h (fun b h => kX6_at hl0 h) rfl (Nat.le_of_ble_eq_true rfl) ⟨by decide, by decide⟩ ⟨by decide, by decide⟩ ⟨by decide, by decide⟩ rfl rfl (fun v5 S H locs I h => ?_)
  refine q_astore_n (i := 3) (lv' := [(3, va_rf v5), (0, va_rf (some x0)), (1, .int x1), (2, .int x2)]) X dX7_look_8 rfl hl (by decide) rfl (fun ls hl => ?_)
  refine lv_iload_n X.1 X.2.1 dX7_look_9 rfl (lv_at hl 3 rfl) ?_
  by_cases c10_0 : x2 = 0
  · have h := h.1 c10_0
    refine lv_tableIn (tgt := 60) X.1 X.2.1 dX7_look_10 (by rw [c10_0]; decide) (by rw [c10_0]; decide) (by rw [c10_0]; rfl) (by decide) ?_
    refine q_aload_n X dX7_look_60 rfl (lv_at hl 0 rfl) ?_
    refine q_getR (ci := 6) (k := 9) X I rfl inb_TX5 wd_548 (by decide) qt_249 dX7_look_61 h (fun v61 h => ?_)
    refine q_cSi (As := [va_rf v61]) (rest := []) (c1 := 1) (s1 := 6) (d := 1) (mc := 0) (ms := 0) X N I hl.1 mX7_numberOf wd_684 dX7_look_64 rfl (kX7_numberOf hl0 h) rfl (Nat.le_of_ble_eq_true rfl) ⟨by decide, by decide⟩ ⟨by decide, by decide⟩ ⟨by decide, by decide⟩ rfl rfl (fun v64 S H locs I h => ?_)
    exact q_iret X I hr dX7_look_67 h (by decide) (by decide)
  by_cases c10_1 : x2 = 1
  · have h := h.2.1 c10_1
    refine lv_tableIn (tgt := 68) X.1 X.2.1 dX7_look_10 (by rw [c10_1]; decide) (by rw [c10_1]; decide) (by rw [c10_1]; rfl) (by decide) ?_
    refine q_aload_n X dX7_look_68 rfl (lv_at hl 0 rfl) ?_
    refine q_getR (ci := 6) (k := 10) X I rfl inb_TX5 wd_551 (by decide) qt_250 dX7_look_69 h (fun v69 h => ?_)
    have jn86 : ∀ (t0 : Int32) (S : qS) (H : Heap) (locs : List Loc) (ls : Array Slot), pX7_look_J86 post xp t0 S → q_H G A s H locs S → lv_has ls 4 [] → W p l e (q_rm 7 2 12) s m av below meth c H locs 1 6 (vx_MQ below (q_Qi G post A) (q_XC G A xp) av s 2 12 A) (F0 m 86 ls [.int t0]) := by
      intro t0 S H locs ls h I hl
      unfold pX7_look_J86 at h
      exact q_iret X I hr dX7_look_86 h (by decide) (by decide)
    refine q_ifnonnull (tgt := 79) X dX7_look_72 (by decide) (fun c72 => ?_) (fun c72 => ?_)
    · have h := h.1 c72
      refine q_aload_n X dX7_look_79 rfl (lv_at hl 0 rfl) ?_
      refine q_getR (ci := 6) (k := 10) X I rfl inb_TX5 wd_551 (by decide) qt_250 dX7_look_80 h (fun v80 h => ?_)
      refine q_getI (ci := 6) (k := 0) X I rfl inb_TX5 wd_527 (by decide) qt_240 dX7_look_83 h (fun v83 h => ?_)
      exact jn86 _ _ _ _ _ h I (lv_sub hl [] rfl)
    · have h := h.2 c72
      refine lv_iconst (v := -1) X.1 X.2.1 dX7_look_75 (by decide) ?_
      refine lv_goto (tgt := 86) X.1 X.2.1 dX7_look_76 (by decide) ?_
      exact jn86 _ _ _ _ _ h I (lv_sub hl [] rfl)
  by_cases c10_2 : x2 = 2
  · have h := h.2.2.1 c10_2
    refine lv_tableIn (tgt := 87) X.1 X.2.1 dX7_look_10 (by rw [c10_2]; decide) (by rw [c10_2]; decide) (by rw [c10_2]; rfl) (by decide) ?_
    refine q_aload_n X dX7_look_87 rfl (lv_at hl 0 rfl) ?_
    refine q_getI (ci := 6) (k := 6) X I rfl inb_TX5 wd_539 (by decide) qt_246 dX7_look_88 h (fun v88 h => ?_)
    exact q_iret X I hr dX7_look_91 h (by decide) (by decide)
  by_cases c10_3 : x2 = 3
  · have h := h.2.2.2.1 c10_3
    refine lv_tableIn (tgt := 92) X.1 X.2.1 dX7_look_10 (by rw [c10_3]; decide) (by rw [c10_3]; decide) (by rw [c10_3]; rfl) (by decide) ?_
    refine q_aload_n X dX7_look_92 rfl (lv_at hl 1 rfl) ?_
    refine q_getR (ci := 8) (k := 3) X I rfl inb_TX7 wd_101 (by decide) qt_323 dX7_look_93 h (fun v93 h => ?_)
    refine q_aload_n X dX7_look_96 rfl (lv_at hl 0 rfl) ?_
    refine q_cVi (As := [va_rf v5]) (rest := []) (c1 := 1) (s1 := 6) (d := 4) (mc := 0) (ms := 0) X N I hl.1 mX6_rightWithin wd_687 dX7_look_97 rfl h (fun b h => kX6_rightWithin hl0 h) rfl (Nat.le_of_ble_eq_true rfl) ⟨by decide, by decide⟩ ⟨by decide, by decide⟩ ⟨by decide, by decide⟩ rfl rfl (fun v97 S H locs I h => ?_)
    exact q_iret X I hr dX7_look_100 h (by decide) (by decide)
  by_cases c10_4 : x2 = 4
  · have h := h.2.2.2.2.1 c10_4
    refine lv_tableIn (tgt := 101) X.1 X.2.1 dX7_look_10 (by rw [c10_4]; decide) (by rw [c10_4]; decide) (by rw [c10_4]; rfl) (by decide) ?_
    refine q_aload_n X dX7_look_101 rfl (lv_at hl 1 rfl) ?_
    refine q_getR (ci := 8) (k := 3) X I rfl inb_TX7 wd_101 (by decide) qt_323 dX7_look_102 h (fun v102 h => ?_)
    refine q_aload_n X dX7_look_105 rfl (lv_at hl 0 rfl) ?_
    refine q_cVi (As := [va_rf v5]) (rest := []) (c1 := 1) (s1 := 6) (d := 4) (mc := 0) (ms := 0) X N I hl.1 mX6_allWithin wd_688 dX7_look_106 rfl h (fun b h => kX6_allWithin hl0 h) rfl (Nat.le_of_ble_eq_true rfl) ⟨by decide, by decide⟩ ⟨by decide, by decide⟩ ⟨by decide, by decide⟩ rfl rfl (fun v106 S H locs I h => ?_)
    exact q_iret X I hr dX7_look_109 h (by decide) (by decide)
  by_cases c10_5 : x2 = 5
  · have h := h.2.2.2.2.2.1 c10_5
    refine lv_tableIn (tgt := 110) X.1 X.2.1 dX7_look_10 (by rw [c10_5]; decide) (by rw [c10_5]; decide) (by rw [c10_5]; rfl) (by decide) ?_
    refine q_aload_n X dX7_look_110 rfl (lv_at hl 0 rfl) ?_
    refine q_cVi (As := []) (rest := []) (c1 := 1) (s1 := 6) (d := 1) (mc := 0) (ms := 0) X N I hl.1 mX5_isLent wd_692 dX7_look_111 rfl h (fun b h => kX5_isLent hl0 h) rfl (Nat.le_of_ble_eq_true rfl) ⟨by decide, by decide⟩ ⟨by decide, by decide⟩ ⟨by decide, by decide⟩ rfl rfl (fun v111 S H locs I h => ?_)
    have jn122 : ∀ (t0 : Int32) (S : qS) (H : Heap) (locs : List Loc) (ls : Array Slot), pX7_look_J122 post xp t0 S → q_H G A s H locs S → lv_has ls 4 [] → W p l e (q_rm 7 2 12) s m av below meth c H locs 1 6 (vx_MQ below (q_Qi G post A) (q_XC G A xp) av s 2 12 A) (F0 m 122 ls [.int t0]) := by
      intro t0 S H locs ls h I hl
      unfold pX7_look_J122 at h
      exact q_iret X I hr dX7_look_122 h (by decide) (by decide)
    refine lv_if_eq (tgt := 121) X.1 X.2.1 dX7_look_114 (by decide) (fun c114 => ?_) (fun c114 => ?_)
    · have h := h.1 c114
      refine lv_iconst (v := 0) X.1 X.2.1 dX7_look_121 (by decide) ?_
      exact jn122 _ _ _ _ _ h I (lv_sub hl [] rfl)
    · have h := h.2 c114
      refine lv_iconst (v := 1) X.1 X.2.1 dX7_look_117 (by decide) ?_
      refine lv_goto (tgt := 122) X.1 X.2.1 dX7_look_118 (by decide) ?_
      exact jn122 _ _ _ _ _ h I (lv_sub hl [] rfl)
  by_cases c10_6 : x2 = 6
  · have h := h.2.2.2.2.2.2.1 c10_6
    refine lv_tableIn (tgt := 123) X.1 X.2.1 dX7_look_10 (by rw [c10_6]; decide) (by rw [c10_6]; decide) (by rw [c10_6]; rfl) (by decide) ?_
    refine q_aload_n X dX7_look_123 rfl (lv_at hl 0 rfl) ?_
    refine q_getI (ci := 6) (k := 7) X I rfl inb_TX5 wd_542 (by decide) qt_247 dX7_look_124 h (fun v124 h => ?_)
    exact q_iret X I hr dX7_look_127 h (by decide) (by decide)
  by_cases c10_7 : x2 = 7
  · have h := h.2.2.2.2.2.2.2.1 c10_7
    refine lv_tableIn (tgt := 128) X.1 X.2.1 dX7_look_10 (by rw [c10_7]; decide) (by rw [c10_7]; decide) (by rw [c10_7]; rfl) (by decide) ?_
    refine q_aload_n X dX7_look_128 rfl (lv_at hl 0 rfl) ?_
    refine q_getR (ci := 6) (k := 8) X I rfl inb_TX5 wd_545 (by decide) qt_248 dX7_look_129 h (fun v129 h => ?_)
    refine q_cSi (As := [va_rf v129]) (rest := []) (c1 := 1) (s1 := 6) (d := 1) (mc := 0) (ms := 0) X N I hl.1 mX7_numberOf wd_684 dX7_look_132 rfl (kX7_numberOf hl0 h) rfl (Nat.le_of_ble_eq_true rfl) ⟨by decide, by decide⟩ ⟨by decide, by decide⟩ ⟨by decide, by decide⟩ rfl rfl (fun v132 S H locs I h => ?_)
    exact q_iret X I hr dX7_look_135 h (by decide) (by decide)
  by_cases c10_8 : x2 = 8
  · have h := h.2.2.2.2.2.2.2.2.1 c10_8
    refine lv_tableIn (tgt := 136) X.1 X.2.1 dX7_look_10 (by rw [c10_8]; decide) (by rw [c10_8]; decide) (by rw [c10_8]; rfl) (by decide) ?_
    refine q_aload_n X dX7_look_136 rfl (lv_at hl 0 rfl) ?_
    refine q_getI (ci := 6) (k := 5) X I rfl inb_TX5 wd_537 (by decide) qt_245 dX7_look_137 h (fun v137 h => ?_)
    exact q_iret X I hr dX7_look_140 h (by decide) (by decide)
  have co10 : x2.toInt < 0 ∨ 8 < x2.toInt := by
    have e0 := q_ne c10_0 (z := 0) (by decide)
    have e1 := q_ne c10_1 (z := 1) (by decide)
    have e2 := q_ne c10_2 (z := 2) (by decide)
    have e3 := q_ne c10_3 (z := 3) (by decide)
    have e4 := q_ne c10_4 (z := 4) (by decide)
    have e5 := q_ne c10_5 (z := 5) (by decide)
    have e6 := q_ne c10_6 (z := 6) (by decide)
    have e7 := q_ne c10_7 (z := 7) (by decide)
    have e8 := q_ne c10_8 (z := 8) (by decide)
    omega
  have h := h.2.2.2.2.2.2.2.2.2 co10
  refine lv_tableOut (tgt := 141) X.1 X.2.1 dX7_look_10 co10 (by decide) ?_
  exact q_throwN (R := q_rm 7 2 12) (cells := 1) (slots := 6) (mcQ := 2) (msQ := 12) (rest := []) X N I hl.1 dX7_look_141 dX7_look_144 dX7_look_145 dX7_look_147 dX7_look_150 (by decide) (Nat.le_of_ble_eq_true rfl) ⟨by decide, by decide⟩ ⟨by decide, by decide⟩ h

def pX7_line_J29  (post : Int32 → qS → Prop) (xp : String → qS → Prop)  (S : qS) : Prop :=
  post (-1 : Int32) S
def pX7_line_J52  (post : Int32 → qS → Prop) (xp : String → qS → Prop) (t0 : Int32) (S : qS) : Prop :=
  post t0 S
def pX7_line (x0 : Nat) (x1 : Int32) (x2 : Int32) (x3 : Int32) (S : qS) (post : Int32 → qS → Prop) (xp : String → qS → Prop) : Prop :=
  w_getR S (some x0) 8 3 (fun v1 =>
  w_at S v1 7 (fun b5 => pX6_at b5 x1 S (fun v5 S =>
  ((x2 < 0 →
  pX7_line_J29 post xp S) ∧ (¬ x2 < 0 →
  w_getI S v5 6 5 (fun v17 =>
  ((v17 ≤ x2 →
  pX7_line_J29 post xp S) ∧ (¬ v17 ≤ x2 →
  ((x2 < (30 : Int32) →
  ((x3 = 0 →
  w_getR S v5 6 3 (fun v47 =>
  w_ldI S v47 13 x2 (fun v51 =>
  pX7_line_J52 post xp v51 S))) ∧ (¬ x3 = 0 →
  w_getR S v5 6 4 (fun v37 =>
  w_ldI S v37 14 x2 (fun v41 =>
  pX7_line_J52 post xp v41 S))))) ∧ (¬ x2 < (30 : Int32) →
  pX7_line_J29 post xp S)))))))) xp))
set_option maxHeartbeats 4000000 in
set_option maxRecDepth 100000 in
theorem kX7_line {l : Launch} (hl0 : l.stackTraces = false) {G : qG} {S : qS} {sz : Nat} {x0 : Nat} {x1 : Int32} {x2 : Int32} {x3 : Int32} {post : Int32 → qS → Prop} {xp : String → qS → Prop} (h : pX7_line x0 x1 x2 x3 S post xp) : q_M l yX7_line cX7_line 5 (some .int) 7 1 6 G S sz [va_rf (some x0), .int x1, .int x2, .int x3] (q_Qi G post) xp := by
  refine q_of (lv := [(0, va_rf (some x0)), (1, .int x1), (2, .int x2), (3, .int x3)]) hl0 (by decide) rfl (Nat.le_of_ble_eq_true rfl) (fun p e s m below meth c A ls X N hr hnm I hl => ?_)
  generalize ([va_rf (some x0), .int x1, .int x2, .int x3] : List Value).toArray = av at X ⊢
  unfold pX7_line at h
  refine q_aload_n X dX7_line_0 rfl (lv_at hl 0 rfl) ?_
  refine q_getR (ci := 8) (k := 3) X I rfl inb_TX7 wd_101 (by decide) qt_323 dX7_line_1 h (fun v1 h => ?_)
  refine lv_iload_n X.1 X.2.1 dX7_line_4 rfl (lv_at hl 1 rfl) ?_
  refine q_cVr (As := [.int x1]) (rest := []) (c1 := 1) (s1 := 6) (d := 6) (mc := 1) (ms := 6) X N I hl.1 mX6_at wd_591 dX7_line_5 rfl h (fun b h => kX6_at hl0 h) rfl (Nat.le_of_ble_eq_true rfl) ⟨by decide, by decide⟩ ⟨by decide, by decide⟩ ⟨by decide, by decide⟩ rfl rfl (fun v5 S H locs I h => ?_)
  refine q_astore (i := 4) (lv' := [(4, va_rf v5), (0, va_rf (some x0)), (1, .int x1), (2, .int x2), (3, .int x3)]) X dX7_line_8 hl (by decide) rfl (fun ls hl => ?_)
  refine lv_iload_n X.1 X.2.1 dX7_line_10 rfl (lv_at hl 3 rfl) ?_
  have jn29 : ∀ (S : qS) (H : Heap) (locs : List Loc) (ls : Array Slot), pX7_line_J29 post xp S → q_H G A s H locs S → lv_has ls 5 [] → W p l e (q_rm 7 1 6) s m av below meth c H locs 1 6 (vx_MQ below (q_Qi G post A) (q_XC G A xp) av s 1 6 A) (F0 m 29 ls []) := by
    intro S H locs ls h I hl
    unfold pX7_line_J29 at h
    refine lv_iconst (v := -1) X.1 X.2.1 dX7_line_29 (by decide) ?_
    exact q_iret X I hr dX7_line_30 h (by decide) (by decide)
  refine lv_if_lt (tgt := 29) X.1 X.2.1 dX7_line_11 (by decide) (fun c11 => ?_) (fun c11 => ?_)
  · have h := h.1 c11
    exact jn29 _ _ _ _ h I (lv_sub hl [] rfl)
  · have h := h.2 c11
    refine lv_iload_n X.1 X.2.1 dX7_line_14 rfl (lv_at hl 3 rfl) ?_
    refine q_aload X dX7_line_15 (lv_at hl 0 rfl) ?_
    refine q_getI (ci := 6) (k := 5) X I rfl inb_TX5 wd_537 (by decide) qt_245 dX7_line_17 h (fun v17 h => ?_)
    refine lv_icmp_ge (tgt := 29) X.1 X.2.1 dX7_line_20 (by decide) (fun c20 => ?_) (fun c20 => ?_)
    · have h := h.1 c20
      exact jn29 _ _ _ _ h I (lv_sub hl [] rfl)
    · have h := h.2 c20
      refine lv_iload_n X.1 X.2.1 dX7_line_23 rfl (lv_at hl 3 rfl) ?_
      refine lv_bipush (v := 30) X.1 X.2.1 dX7_line_24 (by decide) ?_
      refine lv_icmp_lt (tgt := 31) X.1 X.2.1 dX7_line_26 (by decide) (fun c26 => ?_) (fun c26 => ?_)
      · have h := h.1 c26
        refine lv_iload_n X.1 X.2.1 dX7_line_31 rfl (lv_at hl 4 rfl) ?_
        have jn52 : ∀ (t0 : Int32) (S : qS) (H : Heap) (locs : List Loc) (ls : Array Slot), pX7_line_J52 post xp t0 S → q_H G A s H locs S → lv_has ls 5 [] → W p l e (q_rm 7 1 6) s m av below meth c H locs 1 6 (vx_MQ below (q_Qi G post A) (q_XC G A xp) av s 1 6 A) (F0 m 52 ls [.int t0]) := by
          intro t0 S H locs ls h I hl
          unfold pX7_line_J52 at h
          exact q_iret X I hr dX7_line_52 h (by decide) (by decide)
        refine lv_if_eq (tgt := 45) X.1 X.2.1 dX7_line_32 (by decide) (fun c32 => ?_) (fun c32 => ?_)
        · have h := h.1 c32
          refine q_aload X dX7_line_45 (lv_at hl 0 rfl) ?_
          refine q_getR (ci := 6) (k := 3) X I rfl inb_TX5 wd_533 (by decide) qt_243 dX7_line_47 h (fun v47 h => ?_)
          refine lv_iload_n X.1 X.2.1 dX7_line_50 rfl (lv_at hl 3 rfl) ?_
          refine q_ldI X I (by decide) (by decide) dX7_line_51 h (fun v51 h => ?_)
          exact jn52 _ _ _ _ _ h I (lv_sub hl [] rfl)
        · have h := h.2 c32
          refine q_aload X dX7_line_35 (lv_at hl 0 rfl) ?_
          refine q_getR (ci := 6) (k := 4) X I rfl inb_TX5 wd_535 (by decide) qt_244 dX7_line_37 h (fun v37 h => ?_)
          refine lv_iload_n X.1 X.2.1 dX7_line_40 rfl (lv_at hl 3 rfl) ?_
          refine q_ldI X I (by decide) (by decide) dX7_line_41 h (fun v41 h => ?_)
          refine lv_goto (tgt := 52) X.1 X.2.1 dX7_line_42 (by decide) ?_
          exact jn52 _ _ _ _ _ h I (lv_sub hl [] rfl)
      · have h := h.2 c26
        exact jn29 _ _ _ _ h I (lv_sub hl [] rfl)

def pX7_sideOf_J30  (post : Option Nat → qS → Prop) (xp : String → qS → Prop) (x2 : Int32) (x3 : Int32) (x5 : Option Nat) (t0 : Option Nat) (S : qS) : Prop :=
  w_new S 5 0 (fun q32 S =>
  pX4_init q32 x5 x2 x3 t0 S (fun S =>
  post (some q32) S))
def pX7_sideOf (x0 : Nat) (x1 : Int32) (x2 : Int32) (x3 : Int32) (x4 : Int32) (S : qS) (post : Option Nat → qS → Prop) (xp : String → qS → Prop) : Prop :=
  w_at S (some x0) 8 (fun b2 => pX7_playerAt b2 x1 S (fun v2 S =>
  pX7_checkKind x3 S (fun S =>
  ((¬ x4 = (-1 : Int32) →
  w_getR S (some x0) 8 3 (fun v22 =>
  w_at S v22 7 (fun b27 => pX6_at b27 x4 S (fun v27 S =>
  pX7_sideOf_J30 post xp x2 x3 v2 v27 S) xp))) ∧ (x4 = (-1 : Int32) →
  pX7_sideOf_J30 post xp x2 x3 v2 (none : Option Nat) S))) xp) xp)
set_option maxHeartbeats 4000000 in
set_option maxRecDepth 100000 in
theorem kX7_sideOf {l : Launch} (hl0 : l.stackTraces = false) {G : qG} {S : qS} {sz : Nat} {x0 : Nat} {x1 : Int32} {x2 : Int32} {x3 : Int32} {x4 : Int32} {post : Option Nat → qS → Prop} {xp : String → qS → Prop} (h : pX7_sideOf x0 x1 x2 x3 x4 S post xp) : q_M l yX7_sideOf cX7_sideOf 7 (some (.object "GoodsKeeper$Side")) 7 4 23 G S sz [va_rf (some x0), .int x1, .int x2, .int x3, .int x4] (q_Qr G post) xp := by
  refine q_of (lv := [(0, va_rf (some x0)), (1, .int x1), (2, .int x2), (3, .int x3), (4, .int x4)]) hl0 (by decide) rfl (Nat.le_of_ble_eq_true rfl) (fun p e s m below meth c A ls X N hr hnm I hl => ?_)
  generalize ([va_rf (some x0), .int x1, .int x2, .int x3, .int x4] : List Value).toArray = av at X ⊢
  unfold pX7_sideOf at h
  refine q_aload_n X dX7_sideOf_0 rfl (lv_at hl 0 rfl) ?_
  refine lv_iload_n X.1 X.2.1 dX7_sideOf_1 rfl (lv_at hl 1 rfl) ?_
  refine q_cVr (As := [.int x1]) (rest := []) (c1 := 1) (s1 := 6) (d := 6) (mc := 1) (ms := 6) X N I hl.1 mX7_playerAt wd_483 dX7_sideOf_2 rfl h (fun b h => kX7_playerAt hl0 h) rfl (Nat.le_of_ble_eq_true rfl) ⟨by decide, by decide⟩ ⟨by decide, by decide⟩ ⟨by decide, by decide⟩ rfl rfl (fun v2 S H locs I h => ?_)
  refine q_astore (i := 5) (lv' := [(5, va_rf v2), (0, va_rf (some x0)), (1, .int x1), (2, .int x2), (3, .int x3), (4, .int x4)]) X dX7_sideOf_5 hl (by decide) rfl (fun ls hl => ?_)
  refine lv_iload_n X.1 X.2.1 dX7_sideOf_7 rfl (lv_at hl 4 rfl) ?_
  refine q_cSv (As := [.int x3]) (rest := []) (c1 := 2) (s1 := 12) (d := 6) (mc := 1) (ms := 6) X N I hl.1 mX7_checkKind wd_453 dX7_sideOf_8 rfl (kX7_checkKind hl0 h) rfl (Nat.le_of_ble_eq_true rfl) ⟨by decide, by decide⟩ ⟨by decide, by decide⟩ ⟨by decide, by decide⟩ rfl rfl (fun S H locs I h => ?_)
  refine lv_iload X.1 X.2.1 dX7_sideOf_11 (lv_at hl 5 rfl) ?_
  refine lv_iconst (v := -1) X.1 X.2.1 dX7_sideOf_13 (by decide) ?_
  have jn30 : ∀ (x2 : Int32) (x3 : Int32) (x5 : Option Nat) (t0 : Option Nat) (S : qS) (H : Heap) (locs : List Loc) (ls : Array Slot), pX7_sideOf_J30 post xp x2 x3 x5 t0 S → q_H G A s H locs S → lv_has ls 7 [(2, .int x2), (3, .int x3), (5, va_rf x5)] → W p l e (q_rm 7 4 23) s m av below meth c H locs 3 18 (vx_MQ below (q_Qr G post A) (q_XC G A xp) av s 4 23 A) (F0 m 30 ls [va_rf t0]) := by
    intro x2 x3 x5 t0 S H locs ls h I hl
    unfold pX7_sideOf_J30 at h
    refine q_astore (i := 6) (lv' := [(6, va_rf t0), (2, .int x2), (3, .int x3), (5, va_rf x5)]) X dX7_sideOf_30 hl (by decide) (by simp [q_cat, q_catI, q_catJ]) (fun ls hl => ?_)
    refine q_new (ci := 5) (c1 := 4) (s1 := 23) X I rfl inb_TX4 tyX4_ok dv_TX4 wd_727 wd_728 wd_24 ⟨by decide, by decide⟩ rfl rfl dX7_sideOf_32 h (fun q32 S H I h => ?_)
    refine lv_dup X.1 X.2.1 dX7_sideOf_35 (q_cat _) ?_
    refine q_aload X dX7_sideOf_36 (lv_at hl 3 rfl) ?_
    refine lv_iload_n X.1 X.2.1 dX7_sideOf_38 rfl (lv_at hl 1 rfl) ?_
    refine lv_iload_n X.1 X.2.1 dX7_sideOf_39 rfl (lv_at hl 2 rfl) ?_
    refine q_aload X dX7_sideOf_40 (lv_at hl 0 rfl) ?_
    refine q_cI (As := [va_rf x5, .int x2, .int x3, va_rf t0]) (rest := [va_rf (some q32)]) (c1 := 4) (s1 := 23) (d := 2) (mc := 0) (ms := 0) X I hl.1 mX4_init.1 mX4_init.2 rfl wd_729 dX7_sideOf_42 rfl (kX4_init hl0 h) rfl (Nat.le_of_ble_eq_true rfl) ⟨by decide, by decide⟩ ⟨by decide, by decide⟩ rfl rfl (fun S H locs I h => ?_)
    exact q_aret X I hr (Or.inl ⟨_, rfl⟩) dX7_sideOf_45 h (by decide) (by decide)
  refine lv_icmp_ne (tgt := 21) X.1 X.2.1 dX7_sideOf_14 (by decide) (fun c14 => ?_) (fun c14 => ?_)
  · have h := h.1 c14
    refine q_aload_n X dX7_sideOf_21 rfl (lv_at hl 1 rfl) ?_
    refine q_getR (ci := 8) (k := 3) X I rfl inb_TX7 wd_101 (by decide) qt_323 dX7_sideOf_22 h (fun v22 h => ?_)
    refine lv_iload X.1 X.2.1 dX7_sideOf_25 (lv_at hl 5 rfl) ?_
    refine q_cVr (As := [.int x4]) (rest := []) (c1 := 3) (s1 := 18) (d := 6) (mc := 1) (ms := 6) X N I hl.1 mX6_at wd_591 dX7_sideOf_27 rfl h (fun b h => kX6_at hl0 h) rfl (Nat.le_of_ble_eq_true rfl) ⟨by decide, by decide⟩ ⟨by decide, by decide⟩ ⟨by decide, by decide⟩ rfl rfl (fun v27 S H locs I h => ?_)
    exact jn30 _ _ _ _ _ _ _ _ h I (lv_sub hl [3, 4, 0] rfl)
  · have h := h.2 c14
    refine lv_null X.1 X.2.1 dX7_sideOf_17 ?_
    refine W.eq (g2 := F0 m 18 ls [va_rf (none : Option Nat)]) rfl ?_
    refine lv_goto (tgt := 30) X.1 X.2.1 dX7_sideOf_18 (by decide) ?_
    refine W.widen (k := 3) (n := 18) (by decide) (by decide) ?_
    exact jn30 _ _ _ _ _ _ _ _ h I (lv_sub hl [3, 4, 0] rfl)

def pX7_mayHandOver_J40  (post : Int32 → qS → Prop) (xp : String → qS → Prop) (t0 : Int32) (S : qS) : Prop :=
  ((t0 = 0 ∨ t0 = 1) ∧ post t0 S)
def pX7_mayHandOver_J35  (post : Int32 → qS → Prop) (xp : String → qS → Prop)  (S : qS) : Prop :=
  pX7_mayHandOver_J40 post xp (1 : Int32) S
def pX7_mayHandOver_J39  (post : Int32 → qS → Prop) (xp : String → qS → Prop)  (S : qS) : Prop :=
  pX7_mayHandOver_J40 post xp (0 : Int32) S
def pX7_mayHandOver (x0 : Nat) (x1 : Option Nat) (S : qS) (post : Int32 → qS → Prop) (xp : String → qS → Prop) : Prop :=
  w_getR S x1 5 3 (fun v1 =>
  ((v1 = none →
  pX7_mayHandOver_J35 post xp S) ∧ (¬ v1 = none →
  w_getR S x1 5 3 (fun v8 =>
  w_getR S v8 6 9 (fun v11 =>
  w_getR S x1 5 0 (fun v15 =>
  ((¬ v11 = v15 →
  pX7_mayHandOver_J39 post xp S) ∧ (v11 = v15 →
  w_getR S (some x0) 8 3 (fun v22 =>
  w_getR S x1 5 3 (fun v26 =>
  w_at S v22 7 (fun b29 => pX6_mayLeave b29 v26 S (fun v29 S =>
  ((v29 = 0 →
  pX7_mayHandOver_J39 post xp S) ∧ (¬ v29 = 0 →
  pX7_mayHandOver_J35 post xp S))) xp)))))))))))
set_option maxHeartbeats 4000000 in
set_option maxRecDepth 100000 in
theorem kX7_mayHandOver {l : Launch} (hl0 : l.stackTraces = false) {G : qG} {S : qS} {sz : Nat} {x0 : Nat} {x1 : Option Nat} {post : Int32 → qS → Prop} {xp : String → qS → Prop} (h : pX7_mayHandOver x0 x1 S post xp) : q_M l yX7_mayHandOver cX7_mayHandOver 2 (some .boolean) 5 0 0 G S sz [va_rf (some x0), va_rf x1] (q_Qi G post) xp := by
  refine q_of (lv := [(0, va_rf (some x0)), (1, va_rf x1)]) hl0 (by decide) (by cases x1 <;> rfl) (by cases x1 <;> exact Nat.le_of_ble_eq_true rfl) (fun p e s m below meth c A ls X N hr hnm I hl => ?_)
  generalize ([va_rf (some x0), va_rf x1] : List Value).toArray = av at X ⊢
  unfold pX7_mayHandOver at h
  refine q_aload_n X dX7_mayHandOver_0 rfl (lv_at hl 1 rfl) ?_
  refine q_getR (ci := 5) (k := 3) X I rfl inb_TX4 wd_740 (by decide) qt_203 dX7_mayHandOver_1 h (fun v1 h => ?_)
  have jn40 : ∀ (t0 : Int32) (S : qS) (H : Heap) (locs : List Loc) (ls : Array Slot), pX7_mayHandOver_J40 post xp t0 S → q_H G A s H locs S → lv_has ls 2 [] → W p l e (q_rm 5 0 0) s m av below meth c H locs 0 0 (vx_MQ below (q_Qi G post A) (q_XC G A xp) av s 0 0 A) (F0 m 40 ls [.int t0]) := by
    intro t0 S H locs ls h I hl
    unfold pX7_mayHandOver_J40 at h
    exact q_zret X I hr dX7_mayHandOver_40 h (by decide) (by decide)
  have jn35 : ∀ (S : qS) (H : Heap) (locs : List Loc) (ls : Array Slot), pX7_mayHandOver_J35 post xp S → q_H G A s H locs S → lv_has ls 2 [] → W p l e (q_rm 5 0 0) s m av below meth c H locs 0 0 (vx_MQ below (q_Qi G post A) (q_XC G A xp) av s 0 0 A) (F0 m 35 ls []) := by
    intro S H locs ls h I hl
    unfold pX7_mayHandOver_J35 at h
    refine lv_iconst (v := 1) X.1 X.2.1 dX7_mayHandOver_35 (by decide) ?_
    refine lv_goto (tgt := 40) X.1 X.2.1 dX7_mayHandOver_36 (by decide) ?_
    exact jn40 _ _ _ _ _ h I (lv_sub hl [] rfl)
  refine q_ifnull (tgt := 35) X dX7_mayHandOver_4 (by decide) (fun c4 => ?_) (fun c4 => ?_)
  · have h := h.1 c4
    exact jn35 _ _ _ _ h I (lv_sub hl [] rfl)
  · have h := h.2 c4
    refine q_aload_n X dX7_mayHandOver_7 rfl (lv_at hl 1 rfl) ?_
    refine q_getR (ci := 5) (k := 3) X I rfl inb_TX4 wd_740 (by decide) qt_203 dX7_mayHandOver_8 h (fun v8 h => ?_)
    refine q_getR (ci := 6) (k := 9) X I rfl inb_TX5 wd_548 (by decide) qt_249 dX7_mayHandOver_11 h (fun v11 h => ?_)
    refine q_aload_n X dX7_mayHandOver_14 rfl (lv_at hl 1 rfl) ?_
    refine q_getR (ci := 5) (k := 0) X I rfl inb_TX4 wd_734 (by decide) qt_200 dX7_mayHandOver_15 h (fun v15 h => ?_)
    have jn39 : ∀ (S : qS) (H : Heap) (locs : List Loc) (ls : Array Slot), pX7_mayHandOver_J39 post xp S → q_H G A s H locs S → lv_has ls 2 [] → W p l e (q_rm 5 0 0) s m av below meth c H locs 0 0 (vx_MQ below (q_Qi G post A) (q_XC G A xp) av s 0 0 A) (F0 m 39 ls []) := by
      intro S H locs ls h I hl
      unfold pX7_mayHandOver_J39 at h
      refine lv_iconst (v := 0) X.1 X.2.1 dX7_mayHandOver_39 (by decide) ?_
      exact jn40 _ _ _ _ _ h I (lv_sub hl [] rfl)
    refine lv_acmp_ne (tgt := 39) X.1 X.2.1 dX7_mayHandOver_18 (by decide) (fun c18 => ?_) (fun c18 => ?_)
    · have h := h.1 c18
      exact jn39 _ _ _ _ h I (lv_sub hl [] rfl)
    · have h := h.2 c18
      refine q_aload_n X dX7_mayHandOver_21 rfl (lv_at hl 0 rfl) ?_
      refine q_getR (ci := 8) (k := 3) X I rfl inb_TX7 wd_101 (by decide) qt_323 dX7_mayHandOver_22 h (fun v22 h => ?_)
      refine q_aload_n X dX7_mayHandOver_25 rfl (lv_at hl 1 rfl) ?_
      refine q_getR (ci := 5) (k := 3) X I rfl inb_TX4 wd_740 (by decide) qt_203 dX7_mayHandOver_26 h (fun v26 h => ?_)
      refine q_cVi (As := [va_rf v26]) (rest := []) (c1 := 0) (s1 := 0) (d := 4) (mc := 0) (ms := 0) X N I hl.1 mX6_mayLeave wd_624 dX7_mayHandOver_29 rfl h (fun b h => kX6_mayLeave hl0 h) rfl (Nat.le_of_ble_eq_true rfl) ⟨by decide, by decide⟩ ⟨by decide, by decide⟩ ⟨by decide, by decide⟩ rfl rfl (fun v29 S H locs I h => ?_)
      refine lv_if_eq (tgt := 39) X.1 X.2.1 dX7_mayHandOver_32 (by decide) (fun c32 => ?_) (fun c32 => ?_)
      · have h := h.1 c32
        exact jn39 _ _ _ _ h I (lv_sub hl [] rfl)
      · have h := h.2 c32
        exact jn35 _ _ _ _ h I (lv_sub hl [] rfl)

def pX7_answerTo_J99  (post : Int32 → qS → Prop) (xp : String → qS → Prop) (t0 : Int32) (S : qS) : Prop :=
  post t0 S
def pX7_answerTo_J93  (post : Int32 → qS → Prop) (xp : String → qS → Prop)  (S : qS) : Prop :=
  pX7_answerTo_J99 post xp (8 : Int32) S
def pX7_answerTo (x0 : Nat) (x1 : Option Nat) (S : qS) (post : Int32 → qS → Prop) (xp : String → qS → Prop) : Prop :=
  w_getR S x1 2 0 (fun v1 =>
  w_getR S x1 2 1 (fun v6 =>
  w_getI S x1 2 2 (fun v11 =>
  ((¬ v11 = 0 →
  w_at S v1 5 (fun b20 => pX4_hasTooFew b20  S (fun v20 S =>
  ((v20 = 0 →
  w_at S v6 5 (fun b29 => pX4_hasTooFew b29  S (fun v29 S =>
  ((v29 = 0 →
  w_at S v1 5 (fun b39 => pX4_wouldHaveTooMany b39 v6 S (fun v39 S =>
  ((v39 = 0 →
  w_at S v6 5 (fun b49 => pX4_wouldHaveTooMany b49 v1 S (fun v49 S =>
  ((v49 = 0 →
  w_at S (some x0) 8 (fun b59 => pX7_mayHandOver b59 v1 S (fun v59 S =>
  ((¬ v59 = 0 →
  w_at S (some x0) 8 (fun b70 => pX7_mayHandOver b70 v6 S (fun v70 S =>
  ((¬ v70 = 0 →
  w_at S v1 5 (fun b80 => pX4_isWornSince b80  S (fun v80 S =>
  ((¬ v80 = 0 →
  pX7_answerTo_J93 post xp S) ∧ (v80 = 0 →
  w_at S v6 5 (fun b87 => pX4_isWornSince b87  S (fun v87 S =>
  ((v87 = 0 →
  pX7_answerTo_J99 post xp (0 : Int32) S) ∧ (¬ v87 = 0 →
  pX7_answerTo_J93 post xp S))) xp)))) xp)) ∧ (v70 = 0 →
  post (7 : Int32) S))) xp)) ∧ (v59 = 0 →
  post (6 : Int32) S))) xp)) ∧ (¬ v49 = 0 →
  post (5 : Int32) S))) xp)) ∧ (¬ v39 = 0 →
  post (4 : Int32) S))) xp)) ∧ (¬ v29 = 0 →
  post (3 : Int32) S))) xp)) ∧ (¬ v20 = 0 →
  post (2 : Int32) S))) xp)) ∧ (v11 = 0 →
  post (1 : Int32) S)))))
set_option maxHeartbeats 4000000 in
set_option maxRecDepth 100000 in
theorem kX7_answerTo {l : Launch} (hl0 : l.stackTraces = false) {G : qG} {S : qS} {sz : Nat} {x0 : Nat} {x1 : Option Nat} {post : Int32 → qS → Prop} {xp : String → qS → Prop} (h : pX7_answerTo x0 x1 S post xp) : q_M l yX7_answerTo cX7_answerTo 4 (some .int) 6 0 0 G S sz [va_rf (some x0), va_rf x1] (q_Qi G post) xp := by
  refine q_of (lv := [(0, va_rf (some x0)), (1, va_rf x1)]) hl0 (by decide) (by cases x1 <;> rfl) (by cases x1 <;> exact Nat.le_of_ble_eq_true rfl) (fun p e s m below meth c A ls X N hr hnm I hl => ?_)
  generalize ([va_rf (some x0), va_rf x1] : List Value).toArray = av at X ⊢
  unfold pX7_answerTo at h
  refine q_aload_n X dX7_answerTo_0 rfl (lv_at hl 1 rfl) ?_
  refine q_getR (ci := 2) (k := 0) X I rfl inb_TX1 wd_762 (by decide) qt_80 dX7_answerTo_1 h (fun v1 h => ?_)
  refine q_astore_n (i := 2) (lv' := [(2, va_rf v1), (0, va_rf (some x0)), (1, va_rf x1)]) X dX7_answerTo_4 rfl hl (by decide) (by simp [q_cat, q_catI, q_catJ]) (fun ls hl => ?_)
  refine q_aload_n X dX7_answerTo_5 rfl (lv_at hl 2 rfl) ?_
  refine q_getR (ci := 2) (k := 1) X I rfl inb_TX1 wd_764 (by decide) qt_81 dX7_answerTo_6 h (fun v6 h => ?_)
  refine q_astore_n (i := 3) (lv' := [(3, va_rf v6), (2, va_rf v1), (0, va_rf (some x0)), (1, va_rf x1)]) X dX7_answerTo_9 rfl hl (by decide) (by simp [q_cat, q_catI, q_catJ]) (fun ls hl => ?_)
  refine q_aload_n X dX7_answerTo_10 rfl (lv_at hl 3 rfl) ?_
  refine q_getI (ci := 2) (k := 2) X I rfl inb_TX1 wd_766 (by decide) qt_82 dX7_answerTo_11 h (fun v11 h => ?_)
  refine lv_if_ne (tgt := 19) X.1 X.2.1 dX7_answerTo_14 (by decide) (fun c14 => ?_) (fun c14 => ?_)
  · have h := h.1 c14
    refine q_aload_n X dX7_answerTo_19 rfl (lv_at hl 1 rfl) ?_
    refine q_cVi (As := []) (rest := []) (c1 := 0) (s1 := 0) (d := 1) (mc := 0) (ms := 0) X N I hl.1 mX4_hasTooFew wd_790 dX7_answerTo_20 rfl h (fun b h => kX4_hasTooFew hl0 h) rfl (Nat.le_of_ble_eq_true rfl) ⟨by decide, by decide⟩ ⟨by decide, by decide⟩ ⟨by decide, by decide⟩ rfl rfl (fun v20 S H locs I h => ?_)
    refine lv_if_eq (tgt := 28) X.1 X.2.1 dX7_answerTo_23 (by decide) (fun c23 => ?_) (fun c23 => ?_)
    · have h := h.1 c23
      refine q_aload_n X dX7_answerTo_28 rfl (lv_at hl 0 rfl) ?_
      refine q_cVi (As := []) (rest := []) (c1 := 0) (s1 := 0) (d := 1) (mc := 0) (ms := 0) X N I hl.1 mX4_hasTooFew wd_790 dX7_answerTo_29 rfl h (fun b h => kX4_hasTooFew hl0 h) rfl (Nat.le_of_ble_eq_true rfl) ⟨by decide, by decide⟩ ⟨by decide, by decide⟩ ⟨by decide, by decide⟩ rfl rfl (fun v29 S H locs I h => ?_)
      refine lv_if_eq (tgt := 37) X.1 X.2.1 dX7_answerTo_32 (by decide) (fun c32 => ?_) (fun c32 => ?_)
      · have h := h.1 c32
        refine q_aload_n X dX7_answerTo_37 rfl (lv_at hl 1 rfl) ?_
        refine q_aload_n X dX7_answerTo_38 rfl (lv_at hl 0 rfl) ?_
        refine q_cVi (As := [va_rf v6]) (rest := []) (c1 := 0) (s1 := 0) (d := 1) (mc := 0) (ms := 0) X N I hl.1 mX4_wouldHaveTooMany wd_794 dX7_answerTo_39 rfl h (fun b h => kX4_wouldHaveTooMany hl0 h) rfl (Nat.le_of_ble_eq_true rfl) ⟨by decide, by decide⟩ ⟨by decide, by decide⟩ ⟨by decide, by decide⟩ rfl rfl (fun v39 S H locs I h => ?_)
        refine lv_if_eq (tgt := 47) X.1 X.2.1 dX7_answerTo_42 (by decide) (fun c42 => ?_) (fun c42 => ?_)
        · have h := h.1 c42
          refine q_aload_n X dX7_answerTo_47 rfl (lv_at hl 0 rfl) ?_
          refine q_aload_n X dX7_answerTo_48 rfl (lv_at hl 1 rfl) ?_
          refine q_cVi (As := [va_rf v1]) (rest := []) (c1 := 0) (s1 := 0) (d := 1) (mc := 0) (ms := 0) X N I hl.1 mX4_wouldHaveTooMany wd_794 dX7_answerTo_49 rfl h (fun b h => kX4_wouldHaveTooMany hl0 h) rfl (Nat.le_of_ble_eq_true rfl) ⟨by decide, by decide⟩ ⟨by decide, by decide⟩ ⟨by decide, by decide⟩ rfl rfl (fun v49 S H locs I h => ?_)
          refine lv_if_eq (tgt := 57) X.1 X.2.1 dX7_answerTo_52 (by decide) (fun c52 => ?_) (fun c52 => ?_)
          · have h := h.1 c52
            refine q_aload_n X dX7_answerTo_57 rfl (lv_at hl 2 rfl) ?_
            refine q_aload_n X dX7_answerTo_58 rfl (lv_at hl 1 rfl) ?_
            refine q_cVi (As := [va_rf v1]) (rest := []) (c1 := 0) (s1 := 0) (d := 5) (mc := 0) (ms := 0) X N I hl.1 mX7_mayHandOver wd_799 dX7_answerTo_59 rfl h (fun b h => kX7_mayHandOver hl0 h) rfl (Nat.le_of_ble_eq_true rfl) ⟨by decide, by decide⟩ ⟨by decide, by decide⟩ ⟨by decide, by decide⟩ rfl rfl (fun v59 S H locs I h => ?_)
            refine lv_if_ne (tgt := 68) X.1 X.2.1 dX7_answerTo_62 (by decide) (fun c62 => ?_) (fun c62 => ?_)
            · have h := h.1 c62
              refine q_aload_n X dX7_answerTo_68 rfl (lv_at hl 2 rfl) ?_
              refine q_aload_n X dX7_answerTo_69 rfl (lv_at hl 0 rfl) ?_
              refine q_cVi (As := [va_rf v6]) (rest := []) (c1 := 0) (s1 := 0) (d := 5) (mc := 0) (ms := 0) X N I hl.1 mX7_mayHandOver wd_799 dX7_answerTo_70 rfl h (fun b h => kX7_mayHandOver hl0 h) rfl (Nat.le_of_ble_eq_true rfl) ⟨by decide, by decide⟩ ⟨by decide, by decide⟩ ⟨by decide, by decide⟩ rfl rfl (fun v70 S H locs I h => ?_)
              refine lv_if_ne (tgt := 79) X.1 X.2.1 dX7_answerTo_73 (by decide) (fun c73 => ?_) (fun c73 => ?_)
              · have h := h.1 c73
                refine q_aload_n X dX7_answerTo_79 rfl (lv_at hl 1 rfl) ?_
                refine q_cVi (As := []) (rest := []) (c1 := 0) (s1 := 0) (d := 1) (mc := 0) (ms := 0) X N I hl.1 mX4_isWornSince wd_803 dX7_answerTo_80 rfl h (fun b h => kX4_isWornSince hl0 h) rfl (Nat.le_of_ble_eq_true rfl) ⟨by decide, by decide⟩ ⟨by decide, by decide⟩ ⟨by decide, by decide⟩ rfl rfl (fun v80 S H locs I h => ?_)
                have jn99 : ∀ (t0 : Int32) (S : qS) (H : Heap) (locs : List Loc) (ls : Array Slot), pX7_answerTo_J99 post xp t0 S → q_H G A s H locs S → lv_has ls 4 [] → W p l e (q_rm 6 0 0) s m av below meth c H locs 0 0 (vx_MQ below (q_Qi G post A) (q_XC G A xp) av s 0 0 A) (F0 m 99 ls [.int t0]) := by
                  intro t0 S H locs ls h I hl
                  unfold pX7_answerTo_J99 at h
                  exact q_iret X I hr dX7_answerTo_99 h (by decide) (by decide)
                have jn93 : ∀ (S : qS) (H : Heap) (locs : List Loc) (ls : Array Slot), pX7_answerTo_J93 post xp S → q_H G A s H locs S → lv_has ls 4 [] → W p l e (q_rm 6 0 0) s m av below meth c H locs 0 0 (vx_MQ below (q_Qi G post A) (q_XC G A xp) av s 0 0 A) (F0 m 93 ls []) := by
                  intro S H locs ls h I hl
                  unfold pX7_answerTo_J93 at h
                  refine lv_bipush (v := 8) X.1 X.2.1 dX7_answerTo_93 (by decide) ?_
                  refine lv_goto (tgt := 99) X.1 X.2.1 dX7_answerTo_95 (by decide) ?_
                  exact jn99 _ _ _ _ _ h I (lv_sub hl [] rfl)
                refine lv_if_ne (tgt := 93) X.1 X.2.1 dX7_answerTo_83 (by decide) (fun c83 => ?_) (fun c83 => ?_)
                · have h := h.1 c83
                  exact jn93 _ _ _ _ h I (lv_sub hl [] rfl)
                · have h := h.2 c83
                  refine q_aload_n X dX7_answerTo_86 rfl (lv_at hl 0 rfl) ?_
                  refine q_cVi (As := []) (rest := []) (c1 := 0) (s1 := 0) (d := 1) (mc := 0) (ms := 0) X N I hl.1 mX4_isWornSince wd_803 dX7_answerTo_87 rfl h (fun b h => kX4_isWornSince hl0 h) rfl (Nat.le_of_ble_eq_true rfl) ⟨by decide, by decide⟩ ⟨by decide, by decide⟩ ⟨by decide, by decide⟩ rfl rfl (fun v87 S H locs I h => ?_)
                  refine lv_if_eq (tgt := 98) X.1 X.2.1 dX7_answerTo_90 (by decide) (fun c90 => ?_) (fun c90 => ?_)
                  · have h := h.1 c90
                    refine lv_iconst (v := 0) X.1 X.2.1 dX7_answerTo_98 (by decide) ?_
                    exact jn99 _ _ _ _ _ h I (lv_sub hl [] rfl)
                  · have h := h.2 c90
                    exact jn93 _ _ _ _ h I (lv_sub hl [] rfl)
              · have h := h.2 c73
                refine lv_bipush (v := 7) X.1 X.2.1 dX7_answerTo_76 (by decide) ?_
                exact q_iret X I hr dX7_answerTo_78 h (by decide) (by decide)
            · have h := h.2 c62
              refine lv_bipush (v := 6) X.1 X.2.1 dX7_answerTo_65 (by decide) ?_
              exact q_iret X I hr dX7_answerTo_67 h (by decide) (by decide)
          · have h := h.2 c52
            refine lv_iconst (v := 5) X.1 X.2.1 dX7_answerTo_55 (by decide) ?_
            exact q_iret X I hr dX7_answerTo_56 h (by decide) (by decide)
        · have h := h.2 c42
          refine lv_iconst (v := 4) X.1 X.2.1 dX7_answerTo_45 (by decide) ?_
          exact q_iret X I hr dX7_answerTo_46 h (by decide) (by decide)
      · have h := h.2 c32
        refine lv_iconst (v := 3) X.1 X.2.1 dX7_answerTo_35 (by decide) ?_
        exact q_iret X I hr dX7_answerTo_36 h (by decide) (by decide)
    · have h := h.2 c23
      refine lv_iconst (v := 2) X.1 X.2.1 dX7_answerTo_26 (by decide) ?_
      exact q_iret X I hr dX7_answerTo_27 h (by decide) (by decide)
  · have h := h.2 c14
    refine lv_iconst (v := 1) X.1 X.2.1 dX7_answerTo_17 (by decide) ?_
    exact q_iret X I hr dX7_answerTo_18 h (by decide) (by decide)

def pX7_trade_J128  (post : qS → Prop) (xp : String → qS → Prop)  (S : qS) : Prop :=
  post S
def pX7_trade_J102  (post : qS → Prop) (xp : String → qS → Prop) (x0 : Option Nat) (x1 : Option Nat) (x2 : Option Nat) (S : qS) : Prop :=
  w_getR S x2 5 3 (fun v103 =>
  ((v103 = none →
  pX7_trade_J128 post xp S) ∧ (¬ v103 = none →
  w_getR S x0 8 3 (fun v110 =>
  w_getR S x2 5 3 (fun v114 =>
  w_getR S x1 5 0 (fun v118 =>
  w_getI S x0 8 9 (fun v122 =>
  w_at S v110 7 (fun b125 => pX6_passOn b125 v114 v118 v122 S (fun S =>
  pX7_trade_J128 post xp S) xp))))))))
def pX7_trade (x0 : Nat) (x1 : Option Nat) (x2 : Option Nat) (S : qS) (post : qS → Prop) (xp : String → qS → Prop) : Prop :=
  w_getR S x1 5 0 (fun v1 =>
  w_getR S v1 3 1 (fun v4 =>
  w_getI S x1 5 2 (fun v8 =>
  w_ldI S v4 10 v8 (fun v12 =>
  w_getI S x1 5 1 (fun v14 =>
  w_stI S v4 10 v8 (v12 - v14) (fun S =>
  w_getR S x2 5 0 (fun v20 =>
  w_getR S v20 3 1 (fun v23 =>
  w_getI S x2 5 2 (fun v27 =>
  w_ldI S v23 10 v27 (fun v31 =>
  w_getI S x2 5 1 (fun v33 =>
  w_stI S v23 10 v27 (v31 - v33) (fun S =>
  w_getR S x1 5 0 (fun v39 =>
  w_getR S v39 3 1 (fun v42 =>
  w_getI S x2 5 2 (fun v46 =>
  w_ldI S v42 10 v46 (fun v50 =>
  w_getI S x2 5 1 (fun v52 =>
  w_stI S v42 10 v46 (v50 + v52) (fun S =>
  w_getR S x2 5 0 (fun v58 =>
  w_getR S v58 3 1 (fun v61 =>
  w_getI S x1 5 2 (fun v65 =>
  w_ldI S v61 10 v65 (fun v69 =>
  w_getI S x1 5 1 (fun v71 =>
  w_stI S v61 10 v65 (v69 + v71) (fun S =>
  w_getR S x1 5 3 (fun v77 =>
  ((v77 = none →
  pX7_trade_J102 post xp (some x0) x1 x2 S) ∧ (¬ v77 = none →
  w_getR S (some x0) 8 3 (fun v84 =>
  w_getR S x1 5 3 (fun v88 =>
  w_getR S x2 5 0 (fun v92 =>
  w_getI S (some x0) 8 9 (fun v96 =>
  w_at S v84 7 (fun b99 => pX6_passOn b99 v88 v92 v96 S (fun S =>
  pX7_trade_J102 post xp (some x0) x1 x2 S) xp))))))))))))))))))))))))))))))))
set_option maxHeartbeats 4000000 in
set_option maxRecDepth 100000 in
theorem kX7_trade {l : Launch} (hl0 : l.stackTraces = false) {G : qG} {S : qS} {sz : Nat} {x0 : Nat} {x1 : Option Nat} {x2 : Option Nat} {post : qS → Prop} {xp : String → qS → Prop} (h : pX7_trade x0 x1 x2 S post xp) : q_M l yX7_trade cX7_trade 3 none 5 0 0 G S sz [va_rf (some x0), va_rf x1, va_rf x2] (q_Qv G post) xp := by
  refine q_of (lv := [(0, va_rf (some x0)), (1, va_rf x1), (2, va_rf x2)]) hl0 (by decide) (by cases x1 <;> cases x2 <;> rfl) (by cases x1 <;> cases x2 <;> exact Nat.le_of_ble_eq_true rfl) (fun p e s m below meth c A ls X N hr hnm I hl => ?_)
  generalize ([va_rf (some x0), va_rf x1, va_rf x2] : List Value).toArray = av at X ⊢
  unfold pX7_trade at h
  refine q_aload_n X dX7_trade_0 rfl (lv_at hl 1 rfl) ?_
  refine q_getR (ci := 5) (k := 0) X I rfl inb_TX4 wd_734 (by decide) qt_200 dX7_trade_1 h (fun v1 h => ?_)
  refine q_getR (ci := 3) (k := 1) X I rfl inb_TX2 wd_321 (by decide) qt_121 dX7_trade_4 h (fun v4 h => ?_)
  refine q_aload_n X dX7_trade_7 rfl (lv_at hl 1 rfl) ?_
  refine q_getI (ci := 5) (k := 2) X I rfl inb_TX4 wd_738 (by decide) qt_202 dX7_trade_8 h (fun v8 h => ?_)
  refine lv_dup2_11 X.1 X.2.1 dX7_trade_11 rfl (q_cat _) ?_
  refine q_ldI X I (by decide) (by decide) dX7_trade_12 h (fun v12 h => ?_)
  refine q_aload_n X dX7_trade_13 rfl (lv_at hl 1 rfl) ?_
  refine q_getI (ci := 5) (k := 1) X I rfl inb_TX4 wd_736 (by decide) qt_201 dX7_trade_14 h (fun v14 h => ?_)
  refine lv_isub X.1 X.2.1 dX7_trade_17 ?_
  refine q_stI X I (by decide) (by decide) dX7_trade_18 h (fun S H locs I h => ?_)
  refine q_aload_n X dX7_trade_19 rfl (lv_at hl 2 rfl) ?_
  refine q_getR (ci := 5) (k := 0) X I rfl inb_TX4 wd_734 (by decide) qt_200 dX7_trade_20 h (fun v20 h => ?_)
  refine q_getR (ci := 3) (k := 1) X I rfl inb_TX2 wd_321 (by decide) qt_121 dX7_trade_23 h (fun v23 h => ?_)
  refine q_aload_n X dX7_trade_26 rfl (lv_at hl 2 rfl) ?_
  refine q_getI (ci := 5) (k := 2) X I rfl inb_TX4 wd_738 (by decide) qt_202 dX7_trade_27 h (fun v27 h => ?_)
  refine lv_dup2_11 X.1 X.2.1 dX7_trade_30 rfl (q_cat _) ?_
  refine q_ldI X I (by decide) (by decide) dX7_trade_31 h (fun v31 h => ?_)
  refine q_aload_n X dX7_trade_32 rfl (lv_at hl 2 rfl) ?_
  refine q_getI (ci := 5) (k := 1) X I rfl inb_TX4 wd_736 (by decide) qt_201 dX7_trade_33 h (fun v33 h => ?_)
  refine lv_isub X.1 X.2.1 dX7_trade_36 ?_
  refine q_stI X I (by decide) (by decide) dX7_trade_37 h (fun S H locs I h => ?_)
  refine q_aload_n X dX7_trade_38 rfl (lv_at hl 1 rfl) ?_
  refine q_getR (ci := 5) (k := 0) X I rfl inb_TX4 wd_734 (by decide) qt_200 dX7_trade_39 h (fun v39 h => ?_)
  refine q_getR (ci := 3) (k := 1) X I rfl inb_TX2 wd_321 (by decide) qt_121 dX7_trade_42 h (fun v42 h => ?_)
  refine q_aload_n X dX7_trade_45 rfl (lv_at hl 2 rfl) ?_
  refine q_getI (ci := 5) (k := 2) X I rfl inb_TX4 wd_738 (by decide) qt_202 dX7_trade_46 h (fun v46 h => ?_)
  refine lv_dup2_11 X.1 X.2.1 dX7_trade_49 rfl (q_cat _) ?_
  refine q_ldI X I (by decide) (by decide) dX7_trade_50 h (fun v50 h => ?_)
  refine q_aload_n X dX7_trade_51 rfl (lv_at hl 2 rfl) ?_
  refine q_getI (ci := 5) (k := 1) X I rfl inb_TX4 wd_736 (by decide) qt_201 dX7_trade_52 h (fun v52 h => ?_)
  refine lv_iadd X.1 X.2.1 dX7_trade_55 ?_
  refine q_stI X I (by decide) (by decide) dX7_trade_56 h (fun S H locs I h => ?_)
  refine q_aload_n X dX7_trade_57 rfl (lv_at hl 2 rfl) ?_
  refine q_getR (ci := 5) (k := 0) X I rfl inb_TX4 wd_734 (by decide) qt_200 dX7_trade_58 h (fun v58 h => ?_)
  refine q_getR (ci := 3) (k := 1) X I rfl inb_TX2 wd_321 (by decide) qt_121 dX7_trade_61 h (fun v61 h => ?_)
  refine q_aload_n X dX7_trade_64 rfl (lv_at hl 1 rfl) ?_
  refine q_getI (ci := 5) (k := 2) X I rfl inb_TX4 wd_738 (by decide) qt_202 dX7_trade_65 h (fun v65 h => ?_)
  refine lv_dup2_11 X.1 X.2.1 dX7_trade_68 rfl (q_cat _) ?_
  refine q_ldI X I (by decide) (by decide) dX7_trade_69 h (fun v69 h => ?_)
  refine q_aload_n X dX7_trade_70 rfl (lv_at hl 1 rfl) ?_
  refine q_getI (ci := 5) (k := 1) X I rfl inb_TX4 wd_736 (by decide) qt_201 dX7_trade_71 h (fun v71 h => ?_)
  refine lv_iadd X.1 X.2.1 dX7_trade_74 ?_
  refine q_stI X I (by decide) (by decide) dX7_trade_75 h (fun S H locs I h => ?_)
  refine q_aload_n X dX7_trade_76 rfl (lv_at hl 1 rfl) ?_
  refine q_getR (ci := 5) (k := 3) X I rfl inb_TX4 wd_740 (by decide) qt_203 dX7_trade_77 h (fun v77 h => ?_)
  have jn102 : ∀ (x0 : Option Nat) (x1 : Option Nat) (x2 : Option Nat) (S : qS) (H : Heap) (locs : List Loc) (ls : Array Slot), pX7_trade_J102 post xp x0 x1 x2 S → q_H G A s H locs S → lv_has ls 3 [(0, va_rf x0), (1, va_rf x1), (2, va_rf x2)] → W p l e (q_rm 5 0 0) s m av below meth c H locs 0 0 (vx_MQ below (q_Qv G post A) (q_XC G A xp) av s 0 0 A) (F0 m 102 ls []) := by
    intro x0 x1 x2 S H locs ls h I hl
    unfold pX7_trade_J102 at h
    refine q_aload_n X dX7_trade_102 rfl (lv_at hl 2 rfl) ?_
    refine q_getR (ci := 5) (k := 3) X I rfl inb_TX4 wd_740 (by decide) qt_203 dX7_trade_103 h (fun v103 h => ?_)
    have jn128 : ∀ (S : qS) (H : Heap) (locs : List Loc) (ls : Array Slot), pX7_trade_J128 post xp S → q_H G A s H locs S → lv_has ls 3 [] → W p l e (q_rm 5 0 0) s m av below meth c H locs 0 0 (vx_MQ below (q_Qv G post A) (q_XC G A xp) av s 0 0 A) (F0 m 128 ls []) := by
      intro S H locs ls h I hl
      unfold pX7_trade_J128 at h
      exact q_vret X I hr dX7_trade_128 h (by decide) (by decide)
    refine q_ifnull (tgt := 128) X dX7_trade_106 (by decide) (fun c106 => ?_) (fun c106 => ?_)
    · have h := h.1 c106
      exact jn128 _ _ _ _ h I (lv_sub hl [] rfl)
    · have h := h.2 c106
      refine q_aload_n X dX7_trade_109 rfl (lv_at hl 0 rfl) ?_
      refine q_getR (ci := 8) (k := 3) X I rfl inb_TX7 wd_101 (by decide) qt_323 dX7_trade_110 h (fun v110 h => ?_)
      refine q_aload_n X dX7_trade_113 rfl (lv_at hl 2 rfl) ?_
      refine q_getR (ci := 5) (k := 3) X I rfl inb_TX4 wd_740 (by decide) qt_203 dX7_trade_114 h (fun v114 h => ?_)
      refine q_aload_n X dX7_trade_117 rfl (lv_at hl 1 rfl) ?_
      refine q_getR (ci := 5) (k := 0) X I rfl inb_TX4 wd_734 (by decide) qt_200 dX7_trade_118 h (fun v118 h => ?_)
      refine q_aload_n X dX7_trade_121 rfl (lv_at hl 0 rfl) ?_
      refine q_getI (ci := 8) (k := 9) X I rfl inb_TX7 wd_107 (by decide) qt_329 dX7_trade_122 h (fun v122 h => ?_)
      refine q_cVv (As := [va_rf v114, va_rf v118, .int v122]) (rest := []) (c1 := 0) (s1 := 0) (d := 4) (mc := 0) (ms := 0) X N I hl.1 mX6_passOn wd_631 dX7_trade_125 rfl h (fun b h => kX6_passOn hl0 h) rfl (Nat.le_of_ble_eq_true rfl) ⟨by decide, by decide⟩ ⟨by decide, by decide⟩ ⟨by decide, by decide⟩ rfl rfl (fun S H locs I h => ?_)
      exact jn128 _ _ _ _ h I (lv_sub hl [] rfl)
  refine q_ifnull (tgt := 102) X dX7_trade_80 (by decide) (fun c80 => ?_) (fun c80 => ?_)
  · have h := h.1 c80
    exact jn102 _ _ _ _ _ _ _ h I (lv_sub hl [0, 1, 2] rfl)
  · have h := h.2 c80
    refine q_aload_n X dX7_trade_83 rfl (lv_at hl 0 rfl) ?_
    refine q_getR (ci := 8) (k := 3) X I rfl inb_TX7 wd_101 (by decide) qt_323 dX7_trade_84 h (fun v84 h => ?_)
    refine q_aload_n X dX7_trade_87 rfl (lv_at hl 1 rfl) ?_
    refine q_getR (ci := 5) (k := 3) X I rfl inb_TX4 wd_740 (by decide) qt_203 dX7_trade_88 h (fun v88 h => ?_)
    refine q_aload_n X dX7_trade_91 rfl (lv_at hl 2 rfl) ?_
    refine q_getR (ci := 5) (k := 0) X I rfl inb_TX4 wd_734 (by decide) qt_200 dX7_trade_92 h (fun v92 h => ?_)
    refine q_aload_n X dX7_trade_95 rfl (lv_at hl 0 rfl) ?_
    refine q_getI (ci := 8) (k := 9) X I rfl inb_TX7 wd_107 (by decide) qt_329 dX7_trade_96 h (fun v96 h => ?_)
    refine q_cVv (As := [va_rf v88, va_rf v92, .int v96]) (rest := []) (c1 := 0) (s1 := 0) (d := 4) (mc := 0) (ms := 0) X N I hl.1 mX6_passOn wd_631 dX7_trade_99 rfl h (fun b h => kX6_passOn hl0 h) rfl (Nat.le_of_ble_eq_true rfl) ⟨by decide, by decide⟩ ⟨by decide, by decide⟩ ⟨by decide, by decide⟩ rfl rfl (fun S H locs I h => ?_)
    exact jn102 _ _ _ _ _ _ _ h I (lv_sub hl [0, 1, 2] rfl)

def pX7_agree_J33  (post : Int32 → qS → Prop) (xp : String → qS → Prop) (x3 : Int32) (S : qS) : Prop :=
  post x3 S
def pX7_agree (x0 : Nat) (x1 : Int32) (S : qS) (post : Int32 → qS → Prop) (xp : String → qS → Prop) : Prop :=
  w_at S (some x0) 8 (fun b2 => pX7_offerAt b2 x1 S (fun v2 S =>
  w_at S (some x0) 8 (fun b8 => pX7_answerTo b8 v2 S (fun v8 S =>
  ((¬ v8 = 0 →
  pX7_agree_J33 post xp v8 S) ∧ (v8 = 0 →
  w_getR S v2 2 0 (fun v18 =>
  w_getR S v2 2 1 (fun v22 =>
  w_at S (some x0) 8 (fun b25 => pX7_trade b25 v18 v22 S (fun S =>
  w_putZ S v2 2 2 (0 : Int32) (fun S =>
  pX7_agree_J33 post xp v8 S)) xp)))))) xp)) xp)
set_option maxHeartbeats 4000000 in
set_option maxRecDepth 100000 in
theorem kX7_agree {l : Launch} (hl0 : l.stackTraces = false) {G : qG} {S : qS} {sz : Nat} {x0 : Nat} {x1 : Int32} {post : Int32 → qS → Prop} {xp : String → qS → Prop} (h : pX7_agree x0 x1 S post xp) : q_M l yX7_agree cX7_agree 4 (some .int) 7 1 6 G S sz [va_rf (some x0), .int x1] (q_Qi G post) xp := by
  refine q_of (lv := [(0, va_rf (some x0)), (1, .int x1)]) hl0 (by decide) rfl (Nat.le_of_ble_eq_true rfl) (fun p e s m below meth c A ls X N hr hnm I hl => ?_)
  generalize ([va_rf (some x0), .int x1] : List Value).toArray = av at X ⊢
  unfold pX7_agree at h
  refine q_aload_n X dX7_agree_0 rfl (lv_at hl 0 rfl) ?_
  refine lv_iload_n X.1 X.2.1 dX7_agree_1 rfl (lv_at hl 1 rfl) ?_
  refine q_cVr (As := [.int x1]) (rest := []) (c1 := 1) (s1 := 6) (d := 6) (mc := 1) (ms := 6) X N I hl.1 mX7_offerAt wd_781 dX7_agree_2 rfl h (fun b h => kX7_offerAt hl0 h) rfl (Nat.le_of_ble_eq_true rfl) ⟨by decide, by decide⟩ ⟨by decide, by decide⟩ ⟨by decide, by decide⟩ rfl rfl (fun v2 S H locs I h => ?_)
  refine q_astore_n (i := 2) (lv' := [(2, va_rf v2), (0, va_rf (some x0)), (1, .int x1)]) X dX7_agree_5 rfl hl (by decide) rfl (fun ls hl => ?_)
  refine q_aload_n X dX7_agree_6 rfl (lv_at hl 1 rfl) ?_
  refine q_aload_n X dX7_agree_7 rfl (lv_at hl 0 rfl) ?_
  refine q_cVi (As := [va_rf v2]) (rest := []) (c1 := 1) (s1 := 6) (d := 6) (mc := 0) (ms := 0) X N I hl.1 mX7_answerTo wd_786 dX7_agree_8 rfl h (fun b h => kX7_answerTo hl0 h) rfl (Nat.le_of_ble_eq_true rfl) ⟨by decide, by decide⟩ ⟨by decide, by decide⟩ ⟨by decide, by decide⟩ rfl rfl (fun v8 S H locs I h => ?_)
  refine lv_istore_n (i := 3) (lv' := [(3, .int v8), (2, va_rf v2), (0, va_rf (some x0)), (1, .int x1)]) X.1 X.2.1 dX7_agree_11 rfl hl (by decide) (by simp [q_cat, q_catI, q_catJ]) (fun ls hl => ?_)
  refine lv_iload_n X.1 X.2.1 dX7_agree_12 rfl (lv_at hl 0 rfl) ?_
  have jn33 : ∀ (x3 : Int32) (S : qS) (H : Heap) (locs : List Loc) (ls : Array Slot), pX7_agree_J33 post xp x3 S → q_H G A s H locs S → lv_has ls 4 [(3, .int x3)] → W p l e (q_rm 7 1 6) s m av below meth c H locs 1 6 (vx_MQ below (q_Qi G post A) (q_XC G A xp) av s 1 6 A) (F0 m 33 ls []) := by
    intro x3 S H locs ls h I hl
    unfold pX7_agree_J33 at h
    refine lv_iload_n X.1 X.2.1 dX7_agree_33 rfl (lv_at hl 0 rfl) ?_
    exact q_iret X I hr dX7_agree_34 h (by decide) (by decide)
  refine lv_if_ne (tgt := 33) X.1 X.2.1 dX7_agree_13 (by decide) (fun c13 => ?_) (fun c13 => ?_)
  · have h := h.1 c13
    exact jn33 _ _ _ _ _ h I (lv_sub hl [0] rfl)
  · have h := h.2 c13
    refine q_aload_n X dX7_agree_16 rfl (lv_at hl 2 rfl) ?_
    refine q_aload_n X dX7_agree_17 rfl (lv_at hl 1 rfl) ?_
    refine q_getR (ci := 2) (k := 0) X I rfl inb_TX1 wd_762 (by decide) qt_80 dX7_agree_18 h (fun v18 h => ?_)
    refine q_aload_n X dX7_agree_21 rfl (lv_at hl 1 rfl) ?_
    refine q_getR (ci := 2) (k := 1) X I rfl inb_TX1 wd_764 (by decide) qt_81 dX7_agree_22 h (fun v22 h => ?_)
    refine q_cVv (As := [va_rf v18, va_rf v22]) (rest := []) (c1 := 1) (s1 := 6) (d := 5) (mc := 0) (ms := 0) X N I hl.1 mX7_trade wd_807 dX7_agree_25 rfl h (fun b h => kX7_trade hl0 h) rfl (Nat.le_of_ble_eq_true rfl) ⟨by decide, by decide⟩ ⟨by decide, by decide⟩ ⟨by decide, by decide⟩ rfl rfl (fun S H locs I h => ?_)
    refine q_aload_n X dX7_agree_28 rfl (lv_at hl 1 rfl) ?_
    refine lv_iconst (v := 0) X.1 X.2.1 dX7_agree_29 (by decide) ?_
    refine q_putZ (ci := 2) (k := 2) X I rfl inb_TX1 tyX1_ok nmX1 wd_766 (by decide) (Or.inl rfl) qt_82 rfl dX7_agree_30 h (fun S H locs I h => ?_)
    exact jn33 _ _ _ _ _ h I (lv_sub hl [0] rfl)

def pX7_withdraw (x0 : Nat) (x1 : Int32) (S : qS) (post : Int32 → qS → Prop) (xp : String → qS → Prop) : Prop :=
  w_at S (some x0) 8 (fun b2 => pX7_offerAt b2 x1 S (fun v2 S =>
  w_getI S v2 2 2 (fun v7 =>
  w_putZ S v2 2 2 (0 : Int32) (fun S =>
  ((v7 = 0 ∨ v7 = 1) ∧ post v7 S)))) xp)
set_option maxHeartbeats 4000000 in
set_option maxRecDepth 100000 in
theorem kX7_withdraw {l : Launch} (hl0 : l.stackTraces = false) {G : qG} {S : qS} {sz : Nat} {x0 : Nat} {x1 : Int32} {post : Int32 → qS → Prop} {xp : String → qS → Prop} (h : pX7_withdraw x0 x1 S post xp) : q_M l yX7_withdraw cX7_withdraw 4 (some .boolean) 7 1 6 G S sz [va_rf (some x0), .int x1] (q_Qi G post) xp := by
  refine q_of (lv := [(0, va_rf (some x0)), (1, .int x1)]) hl0 (by decide) rfl (Nat.le_of_ble_eq_true rfl) (fun p e s m below meth c A ls X N hr hnm I hl => ?_)
  generalize ([va_rf (some x0), .int x1] : List Value).toArray = av at X ⊢
  unfold pX7_withdraw at h
  refine q_aload_n X dX7_withdraw_0 rfl (lv_at hl 0 rfl) ?_
  refine lv_iload_n X.1 X.2.1 dX7_withdraw_1 rfl (lv_at hl 1 rfl) ?_
  refine q_cVr (As := [.int x1]) (rest := []) (c1 := 1) (s1 := 6) (d := 6) (mc := 1) (ms := 6) X N I hl.1 mX7_offerAt wd_781 dX7_withdraw_2 rfl h (fun b h => kX7_offerAt hl0 h) rfl (Nat.le_of_ble_eq_true rfl) ⟨by decide, by decide⟩ ⟨by decide, by decide⟩ ⟨by decide, by decide⟩ rfl rfl (fun v2 S H locs I h => ?_)
  refine q_astore_n (i := 2) (lv' := [(2, va_rf v2), (0, va_rf (some x0)), (1, .int x1)]) X dX7_withdraw_5 rfl hl (by decide) rfl (fun ls hl => ?_)
  refine q_aload_n X dX7_withdraw_6 rfl (lv_at hl 0 rfl) ?_
  refine q_getI (ci := 2) (k := 2) X I rfl inb_TX1 wd_766 (by decide) qt_82 dX7_withdraw_7 h (fun v7 h => ?_)
  refine lv_istore_n (i := 3) (lv' := [(3, .int v7), (2, va_rf v2), (0, va_rf (some x0)), (1, .int x1)]) X.1 X.2.1 dX7_withdraw_10 rfl hl (by decide) (by simp [q_cat, q_catI, q_catJ]) (fun ls hl => ?_)
  refine q_aload_n X dX7_withdraw_11 rfl (lv_at hl 1 rfl) ?_
  refine lv_iconst (v := 0) X.1 X.2.1 dX7_withdraw_12 (by decide) ?_
  refine q_putZ (ci := 2) (k := 2) X I rfl inb_TX1 tyX1_ok nmX1 wd_766 (by decide) (Or.inl rfl) qt_82 rfl dX7_withdraw_13 h (fun S H locs I h => ?_)
  refine lv_iload_n X.1 X.2.1 dX7_withdraw_16 rfl (lv_at hl 0 rfl) ?_
  exact q_zret X I hr dX7_withdraw_17 h (by decide) (by decide)

def pX7_gains_J47 (k9 : Option Nat → Int32 → qS → Prop) (post : Int32 → qS → Prop) (xp : String → qS → Prop) (x0 : Option Nat) (x1 : Int32) (S : qS) : Prop :=
  k9 x0 (x1 + 1) S
def pX7_gains_L9  (post : Int32 → qS → Prop) (xp : String → qS → Prop) : Nat → Option Nat → Int32 → qS → Prop
  | 0, _, _, _ => False
  | n9 + 1, x0, x1, S =>
  w_getR S x0 8 1 (fun v11 =>
  w_at S v11 0 (fun b14 => pJx4a65c_size_8abf5 b14  S (fun v14 S =>
  ((v14 ≤ x1 →
  w_getR S x0 8 4 (fun v54 =>
  w_at S v54 1 (fun b57 => pX0_findsGain b57  S (fun v57 S =>
  ((v57 = 0 ∨ v57 = 1) ∧ post v57 S)) xp))) ∧ (¬ v14 ≤ x1 →
  w_getR S x0 8 1 (fun v21 =>
  w_at S v21 0 (fun b25 => pJx4a65c_get_915e3 b25 x1 S (fun v25 S =>
  w_cast S v25 4 (
  w_getI S v25 4 0 (fun v33 =>
  ((¬ v33 = 0 →
  pX7_gains_J47 (pX7_gains_L9 post xp n9) post xp x0 x1 S) ∧ (v33 = 0 →
  w_getR S x0 8 4 (fun v40 =>
  w_at S v40 1 (fun b44 => pX0_enter b44 v25 S (fun S =>
  pX7_gains_J47 (pX7_gains_L9 post xp n9) post xp x0 x1 S) xp))))))) xp))))) xp))
def pX7_gains (x0 : Nat) (S : qS) (post : Int32 → qS → Prop) (xp : String → qS → Prop) : Prop :=
  w_getR S (some x0) 8 4 (fun v1 =>
  w_at S v1 1 (fun b4 => pX0_begin b4  S (fun S =>
  ∃ n9, pX7_gains_L9 post xp n9 (some x0) (0 : Int32) S) xp))
set_option maxHeartbeats 4000000 in
set_option maxRecDepth 100000 in
theorem kX7_gains {l : Launch} (hl0 : l.stackTraces = false) {G : qG} {S : qS} {sz : Nat} {x0 : Nat} {post : Int32 → qS → Prop} {xp : String → qS → Prop} (h : pX7_gains x0 S post xp) : q_M l yX7_gains cX7_gains 3 (some .boolean) 4 0 0 G S sz [va_rf (some x0)] (q_Qi G post) xp := by
  refine q_of (lv := [(0, va_rf (some x0))]) hl0 (by decide) rfl (Nat.le_of_ble_eq_true rfl) (fun p e s m below meth c A ls X N hr hnm I hl => ?_)
  generalize ([va_rf (some x0)] : List Value).toArray = av at X ⊢
  unfold pX7_gains at h
  refine q_aload_n X dX7_gains_0 rfl (lv_at hl 0 rfl) ?_
  refine q_getR (ci := 8) (k := 4) X I rfl inb_TX7 wd_102 (by decide) qt_324 dX7_gains_1 h (fun v1 h => ?_)
  refine q_cVv (As := []) (rest := []) (c1 := 0) (s1 := 0) (d := 1) (mc := 0) (ms := 0) X N I hl.1 mX0_begin wd_133 dX7_gains_4 rfl h (fun b h => kX0_begin hl0 h) rfl (Nat.le_of_ble_eq_true rfl) ⟨by decide, by decide⟩ ⟨by decide, by decide⟩ ⟨by decide, by decide⟩ rfl rfl (fun S H locs I h => ?_)
  refine lv_iconst (v := 0) X.1 X.2.1 dX7_gains_7 (by decide) ?_
  refine lv_istore_n (i := 1) (lv' := [(1, .int (0 : Int32)), (0, va_rf (some x0))]) X.1 X.2.1 dX7_gains_8 rfl hl (by decide) rfl (fun ls hl => ?_)
  obtain ⟨n9, h⟩ := h
  have lp9 : ∀ (n9 : Nat) (x0 : Option Nat) (x1 : Int32) (S : qS) (H : Heap) (locs : List Loc) (ls : Array Slot), pX7_gains_L9 post xp n9 x0 x1 S → q_H G A s H locs S → lv_has ls 3 [(0, va_rf x0), (1, .int x1)] → W p l e (q_rm 4 0 0) s m av below meth c H locs 0 0 (vx_MQ below (q_Qi G post A) (q_XC G A xp) av s 0 0 A) (F0 m 9 ls []) := by
    intro n9
    induction n9 with
    | zero => intro x0 x1 S H locs ls h I hl; exact h.elim
    | succ n9 ih9 =>
      intro x0 x1 S H locs ls h I hl
      unfold pX7_gains_L9 at h
      refine lv_iload_n X.1 X.2.1 dX7_gains_9 rfl (lv_at hl 1 rfl) ?_
      refine q_aload_n X dX7_gains_10 rfl (lv_at hl 0 rfl) ?_
      refine q_getR (ci := 8) (k := 1) X I rfl inb_TX7 wd_99 (by decide) qt_321 dX7_gains_11 h (fun v11 h => ?_)
      refine q_cVi (As := []) (rest := [.int x1]) (c1 := 0) (s1 := 0) (d := 1) (mc := 0) (ms := 0) X N I hl.1 mJx4a65c_size_8abf5 wd_137 dX7_gains_14 rfl h (fun b h => kJx4a65c_size_8abf5 hl0 h) rfl (Nat.le_of_ble_eq_true rfl) ⟨by decide, by decide⟩ ⟨by decide, by decide⟩ ⟨by decide, by decide⟩ rfl rfl (fun v14 S H locs I h => ?_)
      refine lv_icmp_ge (tgt := 53) X.1 X.2.1 dX7_gains_17 (by decide) (fun c17 => ?_) (fun c17 => ?_)
      · have h := h.1 c17
        refine q_aload_n X dX7_gains_53 rfl (lv_at hl 0 rfl) ?_
        refine q_getR (ci := 8) (k := 4) X I rfl inb_TX7 wd_102 (by decide) qt_324 dX7_gains_54 h (fun v54 h => ?_)
        refine q_cVi (As := []) (rest := []) (c1 := 0) (s1 := 0) (d := 3) (mc := 0) (ms := 0) X N I hl.1 mX0_findsGain wd_164 dX7_gains_57 rfl h (fun b h => kX0_findsGain hl0 h) rfl (Nat.le_of_ble_eq_true rfl) ⟨by decide, by decide⟩ ⟨by decide, by decide⟩ ⟨by decide, by decide⟩ rfl rfl (fun v57 S H locs I h => ?_)
        exact q_zret X I hr dX7_gains_60 h (by decide) (by decide)
      · have h := h.2 c17
        refine q_aload_n X dX7_gains_20 rfl (lv_at hl 0 rfl) ?_
        refine q_getR (ci := 8) (k := 1) X I rfl inb_TX7 wd_99 (by decide) qt_321 dX7_gains_21 h (fun v21 h => ?_)
        refine lv_iload_n X.1 X.2.1 dX7_gains_24 rfl (lv_at hl 1 rfl) ?_
        refine q_cVr (As := [.int x1]) (rest := []) (c1 := 0) (s1 := 0) (d := 3) (mc := 0) (ms := 0) X N I hl.1 mJx4a65c_get_915e3 wd_141 dX7_gains_25 rfl h (fun b h => kJx4a65c_get_915e3 hl0 h) rfl (Nat.le_of_ble_eq_true rfl) ⟨by decide, by decide⟩ ⟨by decide, by decide⟩ ⟨by decide, by decide⟩ rfl rfl (fun v25 S H locs I h => ?_)
        refine q_cast (ci := 4) X I rfl wd_155 dX7_gains_28 h (fun h => ?_)
        refine q_astore_n (i := 2) (lv' := [(2, va_rf v25), (0, va_rf x0), (1, .int x1)]) X dX7_gains_31 rfl hl (by decide) rfl (fun ls hl => ?_)
        refine q_aload_n X dX7_gains_32 rfl (lv_at hl 0 rfl) ?_
        refine q_getI (ci := 4) (k := 0) X I rfl inb_TX3 wd_408 (by decide) qt_160 dX7_gains_33 h (fun v33 h => ?_)
        have jn47 : ∀ (x0 : Option Nat) (x1 : Int32) (S : qS) (H : Heap) (locs : List Loc) (ls : Array Slot), pX7_gains_J47 (pX7_gains_L9 post xp n9) post xp x0 x1 S → q_H G A s H locs S → lv_has ls 3 [(0, va_rf x0), (1, .int x1)] → W p l e (q_rm 4 0 0) s m av below meth c H locs 0 0 (vx_MQ below (q_Qi G post A) (q_XC G A xp) av s 0 0 A) (F0 m 47 ls []) := by
          intro x0 x1 S H locs ls h I hl
          unfold pX7_gains_J47 at h
          refine lv_iinc (v := (x1 + 1)) (lv' := [(1, .int (x1 + 1)), (0, va_rf x0)]) (k := 1) X.1 X.2.1 dX7_gains_47 hl rfl rfl (by decide) (by simp [q_cat, q_catI, q_catJ]) (fun ls hl => ?_)
          refine lv_goto (tgt := 9) X.1 X.2.1 dX7_gains_50 (by decide) ?_
          exact ih9 _ _ _ _ _ _ h I (lv_sub hl [1, 0] rfl)
        refine lv_if_ne (tgt := 47) X.1 X.2.1 dX7_gains_36 (by decide) (fun c36 => ?_) (fun c36 => ?_)
        · have h := h.1 c36
          exact jn47 _ _ _ _ _ _ h I (lv_sub hl [1, 2] rfl)
        · have h := h.2 c36
          refine q_aload_n X dX7_gains_39 rfl (lv_at hl 1 rfl) ?_
          refine q_getR (ci := 8) (k := 4) X I rfl inb_TX7 wd_102 (by decide) qt_324 dX7_gains_40 h (fun v40 h => ?_)
          refine q_aload_n X dX7_gains_43 rfl (lv_at hl 0 rfl) ?_
          refine q_cVv (As := [va_rf v25]) (rest := []) (c1 := 0) (s1 := 0) (d := 2) (mc := 0) (ms := 0) X N I hl.1 mX0_enter wd_156 dX7_gains_44 rfl h (fun b h => kX0_enter hl0 h) rfl (Nat.le_of_ble_eq_true rfl) ⟨by decide, by decide⟩ ⟨by decide, by decide⟩ ⟨by decide, by decide⟩ rfl rfl (fun S H locs I h => ?_)
          exact jn47 _ _ _ _ _ _ h I (lv_sub hl [1, 2] rfl)
  exact lp9 n9 _ _ _ _ _ _ h I (lv_sub hl [1, 0] rfl)

def pX7_times (x0 : Nat) (x1 : Int32) (x2 : Int32) (S : qS) (post : qS → Prop) (xp : String → qS → Prop) : Prop :=
  w_at S (some x0) 8 (fun b2 => pX7_ruleAt b2 x1 S (fun v2 S =>
  pX7_checkRange x2 (0 : Int32) (1000 : Int32) S (fun S =>
  w_putI S v2 4 3 x2 (fun S =>
  post S)) xp) xp)
set_option maxHeartbeats 4000000 in
set_option maxRecDepth 100000 in
theorem kX7_times {l : Launch} (hl0 : l.stackTraces = false) {G : qG} {S : qS} {sz : Nat} {x0 : Nat} {x1 : Int32} {x2 : Int32} {post : qS → Prop} {xp : String → qS → Prop} (h : pX7_times x0 x1 x2 S post xp) : q_M l yX7_times cX7_times 4 none 7 2 12 G S sz [va_rf (some x0), .int x1, .int x2] (q_Qv G post) xp := by
  refine q_of (lv := [(0, va_rf (some x0)), (1, .int x1), (2, .int x2)]) hl0 (by decide) rfl (Nat.le_of_ble_eq_true rfl) (fun p e s m below meth c A ls X N hr hnm I hl => ?_)
  generalize ([va_rf (some x0), .int x1, .int x2] : List Value).toArray = av at X ⊢
  unfold pX7_times at h
  refine q_aload_n X dX7_times_0 rfl (lv_at hl 0 rfl) ?_
  refine lv_iload_n X.1 X.2.1 dX7_times_1 rfl (lv_at hl 1 rfl) ?_
  refine q_cVr (As := [.int x1]) (rest := []) (c1 := 1) (s1 := 6) (d := 6) (mc := 1) (ms := 6) X N I hl.1 mX7_ruleAt wd_433 dX7_times_2 rfl h (fun b h => kX7_ruleAt hl0 h) rfl (Nat.le_of_ble_eq_true rfl) ⟨by decide, by decide⟩ ⟨by decide, by decide⟩ ⟨by decide, by decide⟩ rfl rfl (fun v2 S H locs I h => ?_)
  refine q_astore_n (i := 3) (lv' := [(3, va_rf v2), (0, va_rf (some x0)), (1, .int x1), (2, .int x2)]) X dX7_times_5 rfl hl (by decide) rfl (fun ls hl => ?_)
  refine lv_iload_n X.1 X.2.1 dX7_times_6 rfl (lv_at hl 3 rfl) ?_
  refine lv_iconst (v := 0) X.1 X.2.1 dX7_times_7 (by decide) ?_
  refine lv_sipush (v := 1000) X.1 X.2.1 dX7_times_8 (by decide) ?_
  refine q_cSv (As := [.int x2, .int (0 : Int32), .int (1000 : Int32)]) (rest := []) (c1 := 2) (s1 := 12) (d := 6) (mc := 1) (ms := 6) X N I hl.1 mX7_checkRange wd_457 dX7_times_11 rfl (kX7_checkRange hl0 h) rfl (Nat.le_of_ble_eq_true rfl) ⟨by decide, by decide⟩ ⟨by decide, by decide⟩ ⟨by decide, by decide⟩ rfl rfl (fun S H locs I h => ?_)
  refine q_aload_n X dX7_times_14 rfl (lv_at hl 0 rfl) ?_
  refine lv_iload_n X.1 X.2.1 dX7_times_15 rfl (lv_at hl 3 rfl) ?_
  refine q_putI (ci := 4) (k := 3) X I rfl inb_TX3 tyX3_ok nmX3 wd_414 (by decide) (Or.inl rfl) qt_163 rfl dX7_times_16 h (fun S H locs I h => ?_)
  exact q_vret X I hr dX7_times_19 h (by decide) (by decide)

def pX7_wonByTimes_J51 (k4 : Option Nat → Int32 → Int32 → Int32 → qS → Prop) (post : Int32 → qS → Prop) (xp : String → qS → Prop) (x0 : Option Nat) (x1 : Int32) (x2 : Int32) (x3 : Int32) (S : qS) : Prop :=
  k4 x0 x1 x2 (x3 + 1) S
def pX7_wonByTimes_L4  (post : Int32 → qS → Prop) (xp : String → qS → Prop) : Nat → Option Nat → Int32 → Int32 → Int32 → qS → Prop
  | 0, _, _, _, _, _ => False
  | n4 + 1, x0, x1, x2, x3, S =>
  w_getR S x0 8 1 (fun v6 =>
  w_at S v6 0 (fun b9 => pJx4a65c_size_8abf5 b9  S (fun v9 S =>
  ((v9 ≤ x3 →
  post x2 S) ∧ (¬ v9 ≤ x3 →
  w_getR S x0 8 1 (fun v16 =>
  w_at S v16 0 (fun b20 => pJx4a65c_get_915e3 b20 x3 S (fun v20 S =>
  w_cast S v20 4 (
  w_getI S v20 4 0 (fun v30 =>
  ((¬ v30 = 0 →
  pX7_wonByTimes_J51 (pX7_wonByTimes_L4 post xp n4) post xp x0 x1 x2 x3 S) ∧ (v30 = 0 →
  w_getI S v20 4 3 (fun v39 =>
  w_at S v20 4 (fun b45 => pX3_won b45 x1 S (fun v45 S =>
  pX7_wonByTimes_J51 (pX7_wonByTimes_L4 post xp n4) post xp x0 x1 (x2 + (v39 * v45)) x3 S) xp))))))) xp))))) xp))
def pX7_wonByTimes (x0 : Nat) (x1 : Int32) (S : qS) (post : Int32 → qS → Prop) (xp : String → qS → Prop) : Prop :=
  ∃ n4, pX7_wonByTimes_L4 post xp n4 (some x0) x1 (0 : Int32) (0 : Int32) S
set_option maxHeartbeats 4000000 in
set_option maxRecDepth 100000 in
theorem kX7_wonByTimes {l : Launch} (hl0 : l.stackTraces = false) {G : qG} {S : qS} {sz : Nat} {x0 : Nat} {x1 : Int32} {post : Int32 → qS → Prop} {xp : String → qS → Prop} (h : pX7_wonByTimes x0 x1 S post xp) : q_M l yX7_wonByTimes cX7_wonByTimes 5 (some .int) 4 0 0 G S sz [va_rf (some x0), .int x1] (q_Qi G post) xp := by
  refine q_of (lv := [(0, va_rf (some x0)), (1, .int x1)]) hl0 (by decide) rfl (Nat.le_of_ble_eq_true rfl) (fun p e s m below meth c A ls X N hr hnm I hl => ?_)
  generalize ([va_rf (some x0), .int x1] : List Value).toArray = av at X ⊢
  unfold pX7_wonByTimes at h
  refine lv_iconst (v := 0) X.1 X.2.1 dX7_wonByTimes_0 (by decide) ?_
  refine lv_istore_n (i := 2) (lv' := [(2, .int (0 : Int32)), (0, va_rf (some x0)), (1, .int x1)]) X.1 X.2.1 dX7_wonByTimes_1 rfl hl (by decide) rfl (fun ls hl => ?_)
  refine lv_iconst (v := 0) X.1 X.2.1 dX7_wonByTimes_2 (by decide) ?_
  refine lv_istore_n (i := 3) (lv' := [(3, .int (0 : Int32)), (2, .int (0 : Int32)), (0, va_rf (some x0)), (1, .int x1)]) X.1 X.2.1 dX7_wonByTimes_3 rfl hl (by decide) rfl (fun ls hl => ?_)
  obtain ⟨n4, h⟩ := h
  have lp4 : ∀ (n4 : Nat) (x0 : Option Nat) (x1 : Int32) (x2 : Int32) (x3 : Int32) (S : qS) (H : Heap) (locs : List Loc) (ls : Array Slot), pX7_wonByTimes_L4 post xp n4 x0 x1 x2 x3 S → q_H G A s H locs S → lv_has ls 5 [(0, va_rf x0), (1, .int x1), (2, .int x2), (3, .int x3)] → W p l e (q_rm 4 0 0) s m av below meth c H locs 0 0 (vx_MQ below (q_Qi G post A) (q_XC G A xp) av s 0 0 A) (F0 m 4 ls []) := by
    intro n4
    induction n4 with
    | zero => intro x0 x1 x2 x3 S H locs ls h I hl; exact h.elim
    | succ n4 ih4 =>
      intro x0 x1 x2 x3 S H locs ls h I hl
      unfold pX7_wonByTimes_L4 at h
      refine lv_iload_n X.1 X.2.1 dX7_wonByTimes_4 rfl (lv_at hl 3 rfl) ?_
      refine q_aload_n X dX7_wonByTimes_5 rfl (lv_at hl 0 rfl) ?_
      refine q_getR (ci := 8) (k := 1) X I rfl inb_TX7 wd_99 (by decide) qt_321 dX7_wonByTimes_6 h (fun v6 h => ?_)
      refine q_cVi (As := []) (rest := [.int x3]) (c1 := 0) (s1 := 0) (d := 1) (mc := 0) (ms := 0) X N I hl.1 mJx4a65c_size_8abf5 wd_137 dX7_wonByTimes_9 rfl h (fun b h => kJx4a65c_size_8abf5 hl0 h) rfl (Nat.le_of_ble_eq_true rfl) ⟨by decide, by decide⟩ ⟨by decide, by decide⟩ ⟨by decide, by decide⟩ rfl rfl (fun v9 S H locs I h => ?_)
      refine lv_icmp_ge (tgt := 57) X.1 X.2.1 dX7_wonByTimes_12 (by decide) (fun c12 => ?_) (fun c12 => ?_)
      · have h := h.1 c12
        refine lv_iload_n X.1 X.2.1 dX7_wonByTimes_57 rfl (lv_at hl 2 rfl) ?_
        exact q_iret X I hr dX7_wonByTimes_58 h (by decide) (by decide)
      · have h := h.2 c12
        refine q_aload_n X dX7_wonByTimes_15 rfl (lv_at hl 0 rfl) ?_
        refine q_getR (ci := 8) (k := 1) X I rfl inb_TX7 wd_99 (by decide) qt_321 dX7_wonByTimes_16 h (fun v16 h => ?_)
        refine lv_iload_n X.1 X.2.1 dX7_wonByTimes_19 rfl (lv_at hl 3 rfl) ?_
        refine q_cVr (As := [.int x3]) (rest := []) (c1 := 0) (s1 := 0) (d := 3) (mc := 0) (ms := 0) X N I hl.1 mJx4a65c_get_915e3 wd_141 dX7_wonByTimes_20 rfl h (fun b h => kJx4a65c_get_915e3 hl0 h) rfl (Nat.le_of_ble_eq_true rfl) ⟨by decide, by decide⟩ ⟨by decide, by decide⟩ ⟨by decide, by decide⟩ rfl rfl (fun v20 S H locs I h => ?_)
        refine q_cast (ci := 4) X I rfl wd_155 dX7_wonByTimes_23 h (fun h => ?_)
        refine q_astore (i := 4) (lv' := [(4, va_rf v20), (0, va_rf x0), (1, .int x1), (2, .int x2), (3, .int x3)]) X dX7_wonByTimes_26 hl (by decide) rfl (fun ls hl => ?_)
        refine q_aload X dX7_wonByTimes_28 (lv_at hl 0 rfl) ?_
        refine q_getI (ci := 4) (k := 0) X I rfl inb_TX3 wd_408 (by decide) qt_160 dX7_wonByTimes_30 h (fun v30 h => ?_)
        have jn51 : ∀ (x0 : Option Nat) (x1 : Int32) (x2 : Int32) (x3 : Int32) (S : qS) (H : Heap) (locs : List Loc) (ls : Array Slot), pX7_wonByTimes_J51 (pX7_wonByTimes_L4 post xp n4) post xp x0 x1 x2 x3 S → q_H G A s H locs S → lv_has ls 5 [(0, va_rf x0), (1, .int x1), (2, .int x2), (3, .int x3)] → W p l e (q_rm 4 0 0) s m av below meth c H locs 0 0 (vx_MQ below (q_Qi G post A) (q_XC G A xp) av s 0 0 A) (F0 m 51 ls []) := by
          intro x0 x1 x2 x3 S H locs ls h I hl
          unfold pX7_wonByTimes_J51 at h
          refine lv_iinc (v := (x3 + 1)) (lv' := [(3, .int (x3 + 1)), (0, va_rf x0), (1, .int x1), (2, .int x2)]) (k := 3) X.1 X.2.1 dX7_wonByTimes_51 hl rfl rfl (by decide) rfl (fun ls hl => ?_)
          refine lv_goto (tgt := 4) X.1 X.2.1 dX7_wonByTimes_54 (by decide) ?_
          exact ih4 _ _ _ _ _ _ _ _ h I (lv_sub hl [1, 2, 3, 0] rfl)
        refine lv_if_ne (tgt := 51) X.1 X.2.1 dX7_wonByTimes_33 (by decide) (fun c33 => ?_) (fun c33 => ?_)
        · have h := h.1 c33
          exact jn51 _ _ _ _ _ _ _ _ h I (lv_sub hl [1, 2, 3, 4] rfl)
        · have h := h.2 c33
          refine lv_iload_n X.1 X.2.1 dX7_wonByTimes_36 rfl (lv_at hl 3 rfl) ?_
          refine q_aload X dX7_wonByTimes_37 (lv_at hl 0 rfl) ?_
          refine q_getI (ci := 4) (k := 3) X I rfl inb_TX3 wd_414 (by decide) qt_163 dX7_wonByTimes_39 h (fun v39 h => ?_)
          refine q_aload X dX7_wonByTimes_42 (lv_at hl 0 rfl) ?_
          refine lv_iload_n X.1 X.2.1 dX7_wonByTimes_44 rfl (lv_at hl 2 rfl) ?_
          refine q_cVi (As := [.int x1]) (rest := [.int v39, .int x2]) (c1 := 0) (s1 := 0) (d := 1) (mc := 0) (ms := 0) X N I hl.1 mX3_won wd_192 dX7_wonByTimes_45 rfl h (fun b h => kX3_won hl0 h) rfl (Nat.le_of_ble_eq_true rfl) ⟨by decide, by decide⟩ ⟨by decide, by decide⟩ ⟨by decide, by decide⟩ rfl rfl (fun v45 S H locs I h => ?_)
          refine lv_imul X.1 X.2.1 dX7_wonByTimes_48 ?_
          refine lv_iadd X.1 X.2.1 dX7_wonByTimes_49 ?_
          refine lv_istore_n (i := 2) (lv' := [(2, .int (x2 + (v39 * v45))), (4, va_rf v20), (0, va_rf x0), (1, .int x1), (3, .int x3)]) X.1 X.2.1 dX7_wonByTimes_50 rfl hl (by decide) rfl (fun ls hl => ?_)
          exact jn51 _ _ _ _ _ _ _ _ h I (lv_sub hl [2, 3, 0, 4] rfl)
  exact lp4 n4 _ _ _ _ _ _ _ _ h I (lv_sub hl [2, 3, 1, 0] rfl)

def pX7_earns_J34 (k4 : Option Nat → Int32 → Int32 → qS → Prop) (post : Int32 → qS → Prop) (xp : String → qS → Prop) (x0 : Option Nat) (x2 : Int32) (t0 : Int32) (S : qS) : Prop :=
  k4 x0 t0 (x2 + 1) S
def pX7_earns_J29 (k4 : Option Nat → Int32 → Int32 → qS → Prop) (post : Int32 → qS → Prop) (xp : String → qS → Prop) (x0 : Option Nat) (x2 : Int32) (S : qS) : Prop :=
  pX7_earns_J34 k4 post xp x0 x2 (1 : Int32) S
def pX7_earns_L4  (post : Int32 → qS → Prop) (xp : String → qS → Prop) : Nat → Option Nat → Int32 → Int32 → qS → Prop
  | 0, _, _, _, _ => False
  | n4 + 1, x0, x1, x2, S =>
  (((4 : Int32) ≤ x2 →
  ((x1 = 0 ∨ x1 = 1) ∧ post x1 S)) ∧ (¬ (4 : Int32) ≤ x2 →
  w_at S x0 8 (fun b11 => pX7_wonByTimes b11 x2 S (fun v11 S =>
  ((0 ≤ v11 →
  ((¬ x1 = 0 →
  pX7_earns_J29 (pX7_earns_L4 post xp n4) post xp x0 x2 S) ∧ (x1 = 0 →
  ((v11 ≤ 0 →
  pX7_earns_J34 (pX7_earns_L4 post xp n4) post xp x0 x2 (0 : Int32) S) ∧ (¬ v11 ≤ 0 →
  pX7_earns_J29 (pX7_earns_L4 post xp n4) post xp x0 x2 S))))) ∧ (¬ 0 ≤ v11 →
  (((0 : Int32) = 0 ∨ (0 : Int32) = 1) ∧ post (0 : Int32) S)))) xp)))
def pX7_earns (x0 : Nat) (S : qS) (post : Int32 → qS → Prop) (xp : String → qS → Prop) : Prop :=
  ∃ n4, pX7_earns_L4 post xp n4 (some x0) (0 : Int32) (0 : Int32) S
set_option maxHeartbeats 4000000 in
set_option maxRecDepth 100000 in
theorem kX7_earns {l : Launch} (hl0 : l.stackTraces = false) {G : qG} {S : qS} {sz : Nat} {x0 : Nat} {post : Int32 → qS → Prop} {xp : String → qS → Prop} (h : pX7_earns x0 S post xp) : q_M l yX7_earns cX7_earns 4 (some .boolean) 5 0 0 G S sz [va_rf (some x0)] (q_Qi G post) xp := by
  refine q_of (lv := [(0, va_rf (some x0))]) hl0 (by decide) rfl (Nat.le_of_ble_eq_true rfl) (fun p e s m below meth c A ls X N hr hnm I hl => ?_)
  generalize ([va_rf (some x0)] : List Value).toArray = av at X ⊢
  unfold pX7_earns at h
  refine lv_iconst (v := 0) X.1 X.2.1 dX7_earns_0 (by decide) ?_
  refine lv_istore_n (i := 1) (lv' := [(1, .int (0 : Int32)), (0, va_rf (some x0))]) X.1 X.2.1 dX7_earns_1 rfl hl (by decide) rfl (fun ls hl => ?_)
  refine lv_iconst (v := 0) X.1 X.2.1 dX7_earns_2 (by decide) ?_
  refine lv_istore_n (i := 2) (lv' := [(2, .int (0 : Int32)), (1, .int (0 : Int32)), (0, va_rf (some x0))]) X.1 X.2.1 dX7_earns_3 rfl hl (by decide) rfl (fun ls hl => ?_)
  obtain ⟨n4, h⟩ := h
  have lp4 : ∀ (n4 : Nat) (x0 : Option Nat) (x1 : Int32) (x2 : Int32) (S : qS) (H : Heap) (locs : List Loc) (ls : Array Slot), pX7_earns_L4 post xp n4 x0 x1 x2 S → q_H G A s H locs S → lv_has ls 4 [(0, va_rf x0), (1, .int x1), (2, .int x2)] → W p l e (q_rm 5 0 0) s m av below meth c H locs 0 0 (vx_MQ below (q_Qi G post A) (q_XC G A xp) av s 0 0 A) (F0 m 4 ls []) := by
    intro n4
    induction n4 with
    | zero => intro x0 x1 x2 S H locs ls h I hl; exact h.elim
    | succ n4 ih4 =>
      intro x0 x1 x2 S H locs ls h I hl
      unfold pX7_earns_L4 at h
      refine lv_iload_n X.1 X.2.1 dX7_earns_4 rfl (lv_at hl 2 rfl) ?_
      refine lv_iconst (v := 4) X.1 X.2.1 dX7_earns_5 (by decide) ?_
      refine lv_icmp_ge (tgt := 41) X.1 X.2.1 dX7_earns_6 (by decide) (fun c6 => ?_) (fun c6 => ?_)
      · have h := h.1 c6
        refine lv_iload_n X.1 X.2.1 dX7_earns_41 rfl (lv_at hl 1 rfl) ?_
        exact q_zret X I hr dX7_earns_42 h (by decide) (by decide)
      · have h := h.2 c6
        refine q_aload_n X dX7_earns_9 rfl (lv_at hl 0 rfl) ?_
        refine lv_iload_n X.1 X.2.1 dX7_earns_10 rfl (lv_at hl 2 rfl) ?_
        refine q_cVi (As := [.int x2]) (rest := []) (c1 := 0) (s1 := 0) (d := 4) (mc := 0) (ms := 0) X N I hl.1 mX7_wonByTimes wd_188 dX7_earns_11 rfl h (fun b h => kX7_wonByTimes hl0 h) rfl (Nat.le_of_ble_eq_true rfl) ⟨by decide, by decide⟩ ⟨by decide, by decide⟩ ⟨by decide, by decide⟩ rfl rfl (fun v11 S H locs I h => ?_)
        refine lv_istore_n (i := 3) (lv' := [(3, .int v11), (0, va_rf x0), (1, .int x1), (2, .int x2)]) X.1 X.2.1 dX7_earns_14 rfl hl (by decide) rfl (fun ls hl => ?_)
        refine lv_iload_n X.1 X.2.1 dX7_earns_15 rfl (lv_at hl 0 rfl) ?_
        refine lv_if_ge (tgt := 21) X.1 X.2.1 dX7_earns_16 (by decide) (fun c16 => ?_) (fun c16 => ?_)
        · have h := h.1 c16
          refine lv_iload_n X.1 X.2.1 dX7_earns_21 rfl (lv_at hl 2 rfl) ?_
          have jn34 : ∀ (x0 : Option Nat) (x2 : Int32) (t0 : Int32) (S : qS) (H : Heap) (locs : List Loc) (ls : Array Slot), pX7_earns_J34 (pX7_earns_L4 post xp n4) post xp x0 x2 t0 S → q_H G A s H locs S → lv_has ls 4 [(0, va_rf x0), (2, .int x2)] → W p l e (q_rm 5 0 0) s m av below meth c H locs 0 0 (vx_MQ below (q_Qi G post A) (q_XC G A xp) av s 0 0 A) (F0 m 34 ls [.int t0]) := by
            intro x0 x2 t0 S H locs ls h I hl
            unfold pX7_earns_J34 at h
            refine lv_istore_n (i := 1) (lv' := [(1, .int t0), (0, va_rf x0), (2, .int x2)]) X.1 X.2.1 dX7_earns_34 rfl hl (by decide) (by simp [q_cat, q_catI, q_catJ]) (fun ls hl => ?_)
            refine lv_iinc (v := (x2 + 1)) (lv' := [(2, .int (x2 + 1)), (1, .int t0), (0, va_rf x0)]) (k := 2) X.1 X.2.1 dX7_earns_35 hl rfl rfl (by decide) rfl (fun ls hl => ?_)
            refine lv_goto (tgt := 4) X.1 X.2.1 dX7_earns_38 (by decide) ?_
            exact ih4 _ _ _ _ _ _ _ h I (lv_sub hl [2, 1, 0] rfl)
          have jn29 : ∀ (x0 : Option Nat) (x2 : Int32) (S : qS) (H : Heap) (locs : List Loc) (ls : Array Slot), pX7_earns_J29 (pX7_earns_L4 post xp n4) post xp x0 x2 S → q_H G A s H locs S → lv_has ls 4 [(0, va_rf x0), (2, .int x2)] → W p l e (q_rm 5 0 0) s m av below meth c H locs 0 0 (vx_MQ below (q_Qi G post A) (q_XC G A xp) av s 0 0 A) (F0 m 29 ls []) := by
            intro x0 x2 S H locs ls h I hl
            unfold pX7_earns_J29 at h
            refine lv_iconst (v := 1) X.1 X.2.1 dX7_earns_29 (by decide) ?_
            refine lv_goto (tgt := 34) X.1 X.2.1 dX7_earns_30 (by decide) ?_
            exact jn34 _ _ _ _ _ _ _ h I (lv_sub hl [0, 1] rfl)
          refine lv_if_ne (tgt := 29) X.1 X.2.1 dX7_earns_22 (by decide) (fun c22 => ?_) (fun c22 => ?_)
          · have h := h.1 c22
            exact jn29 _ _ _ _ _ _ h I (lv_sub hl [1, 3] rfl)
          · have h := h.2 c22
            refine lv_iload_n X.1 X.2.1 dX7_earns_25 rfl (lv_at hl 0 rfl) ?_
            refine lv_if_le (tgt := 33) X.1 X.2.1 dX7_earns_26 (by decide) (fun c26 => ?_) (fun c26 => ?_)
            · have h := h.1 c26
              refine lv_iconst (v := 0) X.1 X.2.1 dX7_earns_33 (by decide) ?_
              exact jn34 _ _ _ _ _ _ _ h I (lv_sub hl [1, 3] rfl)
            · have h := h.2 c26
              exact jn29 _ _ _ _ _ _ h I (lv_sub hl [1, 3] rfl)
        · have h := h.2 c16
          refine lv_iconst (v := 0) X.1 X.2.1 dX7_earns_19 (by decide) ?_
          exact q_zret X I hr dX7_earns_20 h (by decide) (by decide)
  exact lp4 n4 _ _ _ _ _ _ _ h I (lv_sub hl [2, 1, 0] rfl)

def pX7_weigh (x0 : Nat) (x1 : Int32) (x2 : Int32) (S : qS) (post : qS → Prop) (xp : String → qS → Prop) : Prop :=
  pX7_checkKind x1 S (fun S =>
  pX7_checkRange x2 (0 : Int32) (1000 : Int32) S (fun S =>
  w_getR S (some x0) 8 5 (fun v13 =>
  w_stI S v13 15 x1 x2 (fun S =>
  post S))) xp) xp
set_option maxHeartbeats 4000000 in
set_option maxRecDepth 100000 in
theorem kX7_weigh {l : Launch} (hl0 : l.stackTraces = false) {G : qG} {S : qS} {sz : Nat} {x0 : Nat} {x1 : Int32} {x2 : Int32} {post : qS → Prop} {xp : String → qS → Prop} (h : pX7_weigh x0 x1 x2 S post xp) : q_M l yX7_weigh cX7_weigh 3 none 7 2 12 G S sz [va_rf (some x0), .int x1, .int x2] (q_Qv G post) xp := by
  refine q_of (lv := [(0, va_rf (some x0)), (1, .int x1), (2, .int x2)]) hl0 (by decide) rfl (Nat.le_of_ble_eq_true rfl) (fun p e s m below meth c A ls X N hr hnm I hl => ?_)
  generalize ([va_rf (some x0), .int x1, .int x2] : List Value).toArray = av at X ⊢
  unfold pX7_weigh at h
  refine lv_iload_n X.1 X.2.1 dX7_weigh_0 rfl (lv_at hl 1 rfl) ?_
  refine q_cSv (As := [.int x1]) (rest := []) (c1 := 1) (s1 := 6) (d := 6) (mc := 1) (ms := 6) X N I hl.1 mX7_checkKind wd_453 dX7_weigh_1 rfl (kX7_checkKind hl0 h) rfl (Nat.le_of_ble_eq_true rfl) ⟨by decide, by decide⟩ ⟨by decide, by decide⟩ ⟨by decide, by decide⟩ rfl rfl (fun S H locs I h => ?_)
  refine lv_iload_n X.1 X.2.1 dX7_weigh_4 rfl (lv_at hl 2 rfl) ?_
  refine lv_iconst (v := 0) X.1 X.2.1 dX7_weigh_5 (by decide) ?_
  refine lv_sipush (v := 1000) X.1 X.2.1 dX7_weigh_6 (by decide) ?_
  refine q_cSv (As := [.int x2, .int (0 : Int32), .int (1000 : Int32)]) (rest := []) (c1 := 2) (s1 := 12) (d := 6) (mc := 1) (ms := 6) X N I hl.1 mX7_checkRange wd_457 dX7_weigh_9 rfl (kX7_checkRange hl0 h) rfl (Nat.le_of_ble_eq_true rfl) ⟨by decide, by decide⟩ ⟨by decide, by decide⟩ ⟨by decide, by decide⟩ rfl rfl (fun S H locs I h => ?_)
  refine q_aload_n X dX7_weigh_12 rfl (lv_at hl 0 rfl) ?_
  refine q_getR (ci := 8) (k := 5) X I rfl inb_TX7 wd_103 (by decide) qt_325 dX7_weigh_13 h (fun v13 h => ?_)
  refine lv_iload_n X.1 X.2.1 dX7_weigh_16 rfl (lv_at hl 1 rfl) ?_
  refine lv_iload_n X.1 X.2.1 dX7_weigh_17 rfl (lv_at hl 2 rfl) ?_
  refine q_stI X I (by decide) (by decide) dX7_weigh_18 h (fun S H locs I h => ?_)
  exact q_vret X I hr dX7_weigh_19 h (by decide) (by decide)

def pX7_weightWonBy_L4  (post : Int32 → qS → Prop) (xp : String → qS → Prop) : Nat → Option Nat → Option Nat → Int32 → Int32 → qS → Prop
  | 0, _, _, _, _, _ => False
  | n4 + 1, x0, x1, x2, x3, S =>
  (((4 : Int32) ≤ x3 →
  post x2 S) ∧ (¬ (4 : Int32) ≤ x3 →
  w_getR S x0 8 5 (fun v11 =>
  w_ldI S v11 15 x3 (fun v15 =>
  w_at S x1 4 (fun b18 => pX3_won b18 x3 S (fun v18 S =>
  (pX7_weightWonBy_L4 post xp n4) x0 x1 (x2 + (v15 * v18)) (x3 + 1) S) xp)))))
def pX7_weightWonBy (x0 : Nat) (x1 : Option Nat) (S : qS) (post : Int32 → qS → Prop) (xp : String → qS → Prop) : Prop :=
  ∃ n4, pX7_weightWonBy_L4 post xp n4 (some x0) x1 (0 : Int32) (0 : Int32) S
set_option maxHeartbeats 4000000 in
set_option maxRecDepth 100000 in
theorem kX7_weightWonBy {l : Launch} (hl0 : l.stackTraces = false) {G : qG} {S : qS} {sz : Nat} {x0 : Nat} {x1 : Option Nat} {post : Int32 → qS → Prop} {xp : String → qS → Prop} (h : pX7_weightWonBy x0 x1 S post xp) : q_M l yX7_weightWonBy cX7_weightWonBy 4 (some .int) 2 0 0 G S sz [va_rf (some x0), va_rf x1] (q_Qi G post) xp := by
  refine q_of (lv := [(0, va_rf (some x0)), (1, va_rf x1)]) hl0 (by decide) (by cases x1 <;> rfl) (by cases x1 <;> exact Nat.le_of_ble_eq_true rfl) (fun p e s m below meth c A ls X N hr hnm I hl => ?_)
  generalize ([va_rf (some x0), va_rf x1] : List Value).toArray = av at X ⊢
  unfold pX7_weightWonBy at h
  refine lv_iconst (v := 0) X.1 X.2.1 dX7_weightWonBy_0 (by decide) ?_
  refine lv_istore_n (i := 2) (lv' := [(2, .int (0 : Int32)), (0, va_rf (some x0)), (1, va_rf x1)]) X.1 X.2.1 dX7_weightWonBy_1 rfl hl (by decide) (by simp [q_cat, q_catI, q_catJ]) (fun ls hl => ?_)
  refine lv_iconst (v := 0) X.1 X.2.1 dX7_weightWonBy_2 (by decide) ?_
  refine lv_istore_n (i := 3) (lv' := [(3, .int (0 : Int32)), (2, .int (0 : Int32)), (0, va_rf (some x0)), (1, va_rf x1)]) X.1 X.2.1 dX7_weightWonBy_3 rfl hl (by decide) rfl (fun ls hl => ?_)
  obtain ⟨n4, h⟩ := h
  have lp4 : ∀ (n4 : Nat) (x0 : Option Nat) (x1 : Option Nat) (x2 : Int32) (x3 : Int32) (S : qS) (H : Heap) (locs : List Loc) (ls : Array Slot), pX7_weightWonBy_L4 post xp n4 x0 x1 x2 x3 S → q_H G A s H locs S → lv_has ls 4 [(0, va_rf x0), (1, va_rf x1), (2, .int x2), (3, .int x3)] → W p l e (q_rm 2 0 0) s m av below meth c H locs 0 0 (vx_MQ below (q_Qi G post A) (q_XC G A xp) av s 0 0 A) (F0 m 4 ls []) := by
    intro n4
    induction n4 with
    | zero => intro x0 x1 x2 x3 S H locs ls h I hl; exact h.elim
    | succ n4 ih4 =>
      intro x0 x1 x2 x3 S H locs ls h I hl
      unfold pX7_weightWonBy_L4 at h
      refine lv_iload_n X.1 X.2.1 dX7_weightWonBy_4 rfl (lv_at hl 3 rfl) ?_
      refine lv_iconst (v := 4) X.1 X.2.1 dX7_weightWonBy_5 (by decide) ?_
      refine lv_icmp_ge (tgt := 30) X.1 X.2.1 dX7_weightWonBy_6 (by decide) (fun c6 => ?_) (fun c6 => ?_)
      · have h := h.1 c6
        refine lv_iload_n X.1 X.2.1 dX7_weightWonBy_30 rfl (lv_at hl 2 rfl) ?_
        exact q_iret X I hr dX7_weightWonBy_31 h (by decide) (by decide)
      · have h := h.2 c6
        refine lv_iload_n X.1 X.2.1 dX7_weightWonBy_9 rfl (lv_at hl 2 rfl) ?_
        refine q_aload_n X dX7_weightWonBy_10 rfl (lv_at hl 0 rfl) ?_
        refine q_getR (ci := 8) (k := 5) X I rfl inb_TX7 wd_103 (by decide) qt_325 dX7_weightWonBy_11 h (fun v11 h => ?_)
        refine lv_iload_n X.1 X.2.1 dX7_weightWonBy_14 rfl (lv_at hl 3 rfl) ?_
        refine q_ldI X I (by decide) (by decide) dX7_weightWonBy_15 h (fun v15 h => ?_)
        refine q_aload_n X dX7_weightWonBy_16 rfl (lv_at hl 1 rfl) ?_
        refine lv_iload_n X.1 X.2.1 dX7_weightWonBy_17 rfl (lv_at hl 3 rfl) ?_
        refine q_cVi (As := [.int x3]) (rest := [.int v15, .int x2]) (c1 := 0) (s1 := 0) (d := 1) (mc := 0) (ms := 0) X N I hl.1 mX3_won wd_192 dX7_weightWonBy_18 rfl h (fun b h => kX3_won hl0 h) rfl (Nat.le_of_ble_eq_true rfl) ⟨by decide, by decide⟩ ⟨by decide, by decide⟩ ⟨by decide, by decide⟩ rfl rfl (fun v18 S H locs I h => ?_)
        refine lv_imul X.1 X.2.1 dX7_weightWonBy_21 ?_
        refine lv_iadd X.1 X.2.1 dX7_weightWonBy_22 ?_
        refine lv_istore_n (i := 2) (lv' := [(2, .int (x2 + (v15 * v18))), (0, va_rf x0), (1, va_rf x1), (3, .int x3)]) X.1 X.2.1 dX7_weightWonBy_23 rfl hl (by decide) (by simp [q_cat, q_catI, q_catJ]) (fun ls hl => ?_)
        refine lv_iinc (v := (x3 + 1)) (lv' := [(3, .int (x3 + 1)), (2, .int (x2 + (v15 * v18))), (0, va_rf x0), (1, va_rf x1)]) (k := 3) X.1 X.2.1 dX7_weightWonBy_24 hl rfl rfl (by decide) rfl (fun ls hl => ?_)
        refine lv_goto (tgt := 4) X.1 X.2.1 dX7_weightWonBy_27 (by decide) ?_
        exact ih4 _ _ _ _ _ _ _ _ h I (lv_sub hl [2, 3, 1, 0] rfl)
  exact lp4 n4 _ _ _ _ _ _ _ _ h I (lv_sub hl [2, 3, 1, 0] rfl)

def pX7_bars_J66 (k26 : Option Nat → Int32 → qS → Prop) (post : Int32 → qS → Prop) (xp : String → qS → Prop) (x0 : Option Nat) (x1 : Int32) (S : qS) : Prop :=
  k26 x0 (x1 + 1) S
def pX7_bars_L26  (post : Int32 → qS → Prop) (xp : String → qS → Prop) : Nat → Option Nat → Int32 → qS → Prop
  | 0, _, _, _ => False
  | n26 + 1, x0, x1, S =>
  w_getR S x0 8 1 (fun v28 =>
  w_at S v28 0 (fun b31 => pJx4a65c_size_8abf5 b31  S (fun v31 S =>
  ((v31 ≤ x1 →
  (((1 : Int32) = 0 ∨ (1 : Int32) = 1) ∧ post (1 : Int32) S)) ∧ (¬ v31 ≤ x1 →
  w_getR S x0 8 1 (fun v38 =>
  w_at S v38 0 (fun b42 => pJx4a65c_get_915e3 b42 x1 S (fun v42 S =>
  w_cast S v42 4 (
  w_getI S v42 4 0 (fun v50 =>
  ((¬ v50 = 0 →
  pX7_bars_J66 (pX7_bars_L26 post xp n26) post xp x0 x1 S) ∧ (v50 = 0 →
  w_at S x0 8 (fun b58 => pX7_weightWonBy b58 v42 S (fun v58 S =>
  ((v58 ≤ 0 →
  pX7_bars_J66 (pX7_bars_L26 post xp n26) post xp x0 x1 S) ∧ (¬ v58 ≤ 0 →
  (((0 : Int32) = 0 ∨ (0 : Int32) = 1) ∧ post (0 : Int32) S)))) xp)))))) xp))))) xp))
def pX7_bars_J24  (post : Int32 → qS → Prop) (xp : String → qS → Prop) (x0 : Option Nat) (S : qS) : Prop :=
  ∃ n26, pX7_bars_L26 post xp n26 x0 (0 : Int32) S
def pX7_bars_L2 (k24 : Option Nat → qS → Prop) (post : Int32 → qS → Prop) (xp : String → qS → Prop) : Nat → Option Nat → Int32 → qS → Prop
  | 0, _, _, _ => False
  | n2 + 1, x0, x1, S =>
  (((4 : Int32) ≤ x1 →
  k24 x0 S) ∧ (¬ (4 : Int32) ≤ x1 →
  w_getR S x0 8 5 (fun v8 =>
  w_ldI S v8 15 x1 (fun v12 =>
  ((¬ v12 = 0 →
  (pX7_bars_L2 k24 post xp n2) x0 (x1 + 1) S) ∧ (v12 = 0 →
  (((0 : Int32) = 0 ∨ (0 : Int32) = 1) ∧ post (0 : Int32) S)))))))
def pX7_bars (x0 : Nat) (S : qS) (post : Int32 → qS → Prop) (xp : String → qS → Prop) : Prop :=
  ∃ n2, pX7_bars_L2 (pX7_bars_J24 post xp) post xp n2 (some x0) (0 : Int32) S
set_option maxHeartbeats 4000000 in
set_option maxRecDepth 100000 in
theorem kX7_bars {l : Launch} (hl0 : l.stackTraces = false) {G : qG} {S : qS} {sz : Nat} {x0 : Nat} {post : Int32 → qS → Prop} {xp : String → qS → Prop} (h : pX7_bars x0 S post xp) : q_M l yX7_bars cX7_bars 3 (some .boolean) 4 0 0 G S sz [va_rf (some x0)] (q_Qi G post) xp := by
  refine q_of (lv := [(0, va_rf (some x0))]) hl0 (by decide) rfl (Nat.le_of_ble_eq_true rfl) (fun p e s m below meth c A ls X N hr hnm I hl => ?_)
  generalize ([va_rf (some x0)] : List Value).toArray = av at X ⊢
  unfold pX7_bars at h
  refine lv_iconst (v := 0) X.1 X.2.1 dX7_bars_0 (by decide) ?_
  refine lv_istore_n (i := 1) (lv' := [(1, .int (0 : Int32)), (0, va_rf (some x0))]) X.1 X.2.1 dX7_bars_1 rfl hl (by decide) rfl (fun ls hl => ?_)
  have jn24 : ∀ (x0 : Option Nat) (S : qS) (H : Heap) (locs : List Loc) (ls : Array Slot), pX7_bars_J24 post xp x0 S → q_H G A s H locs S → lv_has ls 3 [(0, va_rf x0)] → W p l e (q_rm 4 0 0) s m av below meth c H locs 0 0 (vx_MQ below (q_Qi G post A) (q_XC G A xp) av s 0 0 A) (F0 m 24 ls []) := by
    intro x0 S H locs ls h I hl
    unfold pX7_bars_J24 at h
    refine lv_iconst (v := 0) X.1 X.2.1 dX7_bars_24 (by decide) ?_
    refine lv_istore_n (i := 1) (lv' := [(1, .int (0 : Int32)), (0, va_rf x0)]) X.1 X.2.1 dX7_bars_25 rfl hl (by decide) (by simp [q_cat, q_catI, q_catJ]) (fun ls hl => ?_)
    obtain ⟨n26, h⟩ := h
    have lp26 : ∀ (n26 : Nat) (x0 : Option Nat) (x1 : Int32) (S : qS) (H : Heap) (locs : List Loc) (ls : Array Slot), pX7_bars_L26 post xp n26 x0 x1 S → q_H G A s H locs S → lv_has ls 3 [(0, va_rf x0), (1, .int x1)] → W p l e (q_rm 4 0 0) s m av below meth c H locs 0 0 (vx_MQ below (q_Qi G post A) (q_XC G A xp) av s 0 0 A) (F0 m 26 ls []) := by
      intro n26
      induction n26 with
      | zero => intro x0 x1 S H locs ls h I hl; exact h.elim
      | succ n26 ih26 =>
        intro x0 x1 S H locs ls h I hl
        unfold pX7_bars_L26 at h
        refine lv_iload_n X.1 X.2.1 dX7_bars_26 rfl (lv_at hl 1 rfl) ?_
        refine q_aload_n X dX7_bars_27 rfl (lv_at hl 0 rfl) ?_
        refine q_getR (ci := 8) (k := 1) X I rfl inb_TX7 wd_99 (by decide) qt_321 dX7_bars_28 h (fun v28 h => ?_)
        refine q_cVi (As := []) (rest := [.int x1]) (c1 := 0) (s1 := 0) (d := 1) (mc := 0) (ms := 0) X N I hl.1 mJx4a65c_size_8abf5 wd_137 dX7_bars_31 rfl h (fun b h => kJx4a65c_size_8abf5 hl0 h) rfl (Nat.le_of_ble_eq_true rfl) ⟨by decide, by decide⟩ ⟨by decide, by decide⟩ ⟨by decide, by decide⟩ rfl rfl (fun v31 S H locs I h => ?_)
        refine lv_icmp_ge (tgt := 72) X.1 X.2.1 dX7_bars_34 (by decide) (fun c34 => ?_) (fun c34 => ?_)
        · have h := h.1 c34
          refine lv_iconst (v := 1) X.1 X.2.1 dX7_bars_72 (by decide) ?_
          exact q_zret X I hr dX7_bars_73 h (by decide) (by decide)
        · have h := h.2 c34
          refine q_aload_n X dX7_bars_37 rfl (lv_at hl 0 rfl) ?_
          refine q_getR (ci := 8) (k := 1) X I rfl inb_TX7 wd_99 (by decide) qt_321 dX7_bars_38 h (fun v38 h => ?_)
          refine lv_iload_n X.1 X.2.1 dX7_bars_41 rfl (lv_at hl 1 rfl) ?_
          refine q_cVr (As := [.int x1]) (rest := []) (c1 := 0) (s1 := 0) (d := 3) (mc := 0) (ms := 0) X N I hl.1 mJx4a65c_get_915e3 wd_141 dX7_bars_42 rfl h (fun b h => kJx4a65c_get_915e3 hl0 h) rfl (Nat.le_of_ble_eq_true rfl) ⟨by decide, by decide⟩ ⟨by decide, by decide⟩ ⟨by decide, by decide⟩ rfl rfl (fun v42 S H locs I h => ?_)
          refine q_cast (ci := 4) X I rfl wd_155 dX7_bars_45 h (fun h => ?_)
          refine q_astore_n (i := 2) (lv' := [(2, va_rf v42), (0, va_rf x0), (1, .int x1)]) X dX7_bars_48 rfl hl (by decide) rfl (fun ls hl => ?_)
          refine q_aload_n X dX7_bars_49 rfl (lv_at hl 0 rfl) ?_
          refine q_getI (ci := 4) (k := 0) X I rfl inb_TX3 wd_408 (by decide) qt_160 dX7_bars_50 h (fun v50 h => ?_)
          have jn66 : ∀ (x0 : Option Nat) (x1 : Int32) (S : qS) (H : Heap) (locs : List Loc) (ls : Array Slot), pX7_bars_J66 (pX7_bars_L26 post xp n26) post xp x0 x1 S → q_H G A s H locs S → lv_has ls 3 [(0, va_rf x0), (1, .int x1)] → W p l e (q_rm 4 0 0) s m av below meth c H locs 0 0 (vx_MQ below (q_Qi G post A) (q_XC G A xp) av s 0 0 A) (F0 m 66 ls []) := by
            intro x0 x1 S H locs ls h I hl
            unfold pX7_bars_J66 at h
            refine lv_iinc (v := (x1 + 1)) (lv' := [(1, .int (x1 + 1)), (0, va_rf x0)]) (k := 1) X.1 X.2.1 dX7_bars_66 hl rfl rfl (by decide) (by simp [q_cat, q_catI, q_catJ]) (fun ls hl => ?_)
            refine lv_goto (tgt := 26) X.1 X.2.1 dX7_bars_69 (by decide) ?_
            exact ih26 _ _ _ _ _ _ h I (lv_sub hl [1, 0] rfl)
          refine lv_if_ne (tgt := 66) X.1 X.2.1 dX7_bars_53 (by decide) (fun c53 => ?_) (fun c53 => ?_)
          · have h := h.1 c53
            exact jn66 _ _ _ _ _ _ h I (lv_sub hl [1, 2] rfl)
          · have h := h.2 c53
            refine q_aload_n X dX7_bars_56 rfl (lv_at hl 1 rfl) ?_
            refine q_aload_n X dX7_bars_57 rfl (lv_at hl 0 rfl) ?_
            refine q_cVi (As := [va_rf v42]) (rest := []) (c1 := 0) (s1 := 0) (d := 2) (mc := 0) (ms := 0) X N I hl.1 mX7_weightWonBy wd_197 dX7_bars_58 rfl h (fun b h => kX7_weightWonBy hl0 h) rfl (Nat.le_of_ble_eq_true rfl) ⟨by decide, by decide⟩ ⟨by decide, by decide⟩ ⟨by decide, by decide⟩ rfl rfl (fun v58 S H locs I h => ?_)
            refine lv_if_le (tgt := 66) X.1 X.2.1 dX7_bars_61 (by decide) (fun c61 => ?_) (fun c61 => ?_)
            · have h := h.1 c61
              exact jn66 _ _ _ _ _ _ h I (lv_sub hl [1, 2] rfl)
            · have h := h.2 c61
              refine lv_iconst (v := 0) X.1 X.2.1 dX7_bars_64 (by decide) ?_
              exact q_zret X I hr dX7_bars_65 h (by decide) (by decide)
    exact lp26 n26 _ _ _ _ _ _ h I (lv_sub hl [1, 0] rfl)
  obtain ⟨n2, h⟩ := h
  have lp2 : ∀ (n2 : Nat) (x0 : Option Nat) (x1 : Int32) (S : qS) (H : Heap) (locs : List Loc) (ls : Array Slot), pX7_bars_L2 (pX7_bars_J24 post xp) post xp n2 x0 x1 S → q_H G A s H locs S → lv_has ls 3 [(0, va_rf x0), (1, .int x1)] → W p l e (q_rm 4 0 0) s m av below meth c H locs 0 0 (vx_MQ below (q_Qi G post A) (q_XC G A xp) av s 0 0 A) (F0 m 2 ls []) := by
    intro n2
    induction n2 with
    | zero => intro x0 x1 S H locs ls h I hl; exact h.elim
    | succ n2 ih2 =>
      intro x0 x1 S H locs ls h I hl
      unfold pX7_bars_L2 at h
      refine lv_iload_n X.1 X.2.1 dX7_bars_2 rfl (lv_at hl 1 rfl) ?_
      refine lv_iconst (v := 4) X.1 X.2.1 dX7_bars_3 (by decide) ?_
      refine lv_icmp_ge (tgt := 24) X.1 X.2.1 dX7_bars_4 (by decide) (fun c4 => ?_) (fun c4 => ?_)
      · have h := h.1 c4
        exact jn24 _ _ _ _ _ h I (lv_sub hl [0] rfl)
      · have h := h.2 c4
        refine q_aload_n X dX7_bars_7 rfl (lv_at hl 0 rfl) ?_
        refine q_getR (ci := 8) (k := 5) X I rfl inb_TX7 wd_103 (by decide) qt_325 dX7_bars_8 h (fun v8 h => ?_)
        refine lv_iload_n X.1 X.2.1 dX7_bars_11 rfl (lv_at hl 1 rfl) ?_
        refine q_ldI X I (by decide) (by decide) dX7_bars_12 h (fun v12 h => ?_)
        refine lv_if_ne (tgt := 18) X.1 X.2.1 dX7_bars_13 (by decide) (fun c13 => ?_) (fun c13 => ?_)
        · have h := h.1 c13
          refine lv_iinc (v := (x1 + 1)) (lv' := [(1, .int (x1 + 1)), (0, va_rf x0)]) (k := 1) X.1 X.2.1 dX7_bars_18 hl rfl rfl (by decide) (by simp [q_cat, q_catI, q_catJ]) (fun ls hl => ?_)
          refine lv_goto (tgt := 2) X.1 X.2.1 dX7_bars_21 (by decide) ?_
          exact ih2 _ _ _ _ _ _ h I (lv_sub hl [1, 0] rfl)
        · have h := h.2 c13
          refine lv_iconst (v := 0) X.1 X.2.1 dX7_bars_16 (by decide) ?_
          exact q_zret X I hr dX7_bars_17 h (by decide) (by decide)
  exact lp2 n2 _ _ _ _ _ _ h I (lv_sub hl [1, 0] rfl)

def pX7_countOpen_J35 (k4 : Option Nat → Int32 → Int32 → qS → Prop) (post : Int32 → qS → Prop) (xp : String → qS → Prop) (x0 : Option Nat) (x1 : Int32) (x2 : Int32) (S : qS) : Prop :=
  k4 x0 x1 (x2 + 1) S
def pX7_countOpen_L4  (post : Int32 → qS → Prop) (xp : String → qS → Prop) : Nat → Option Nat → Int32 → Int32 → qS → Prop
  | 0, _, _, _, _ => False
  | n4 + 1, x0, x1, x2, S =>
  w_getR S x0 8 2 (fun v6 =>
  w_at S v6 0 (fun b9 => pJx4a65c_size_8abf5 b9  S (fun v9 S =>
  ((v9 ≤ x2 →
  post x1 S) ∧ (¬ v9 ≤ x2 →
  w_getR S x0 8 2 (fun v16 =>
  w_at S v16 0 (fun b20 => pJx4a65c_get_915e3 b20 x2 S (fun v20 S =>
  w_cast S v20 2 (
  w_getI S v20 2 2 (fun v26 =>
  ((v26 = 0 →
  pX7_countOpen_J35 (pX7_countOpen_L4 post xp n4) post xp x0 x1 x2 S) ∧ (¬ v26 = 0 →
  pX7_countOpen_J35 (pX7_countOpen_L4 post xp n4) post xp x0 (x1 + 1) x2 S))))) xp))))) xp))
def pX7_countOpen (x0 : Nat) (S : qS) (post : Int32 → qS → Prop) (xp : String → qS → Prop) : Prop :=
  ∃ n4, pX7_countOpen_L4 post xp n4 (some x0) (0 : Int32) (0 : Int32) S
set_option maxHeartbeats 4000000 in
set_option maxRecDepth 100000 in
theorem kX7_countOpen {l : Launch} (hl0 : l.stackTraces = false) {G : qG} {S : qS} {sz : Nat} {x0 : Nat} {post : Int32 → qS → Prop} {xp : String → qS → Prop} (h : pX7_countOpen x0 S post xp) : q_M l yX7_countOpen cX7_countOpen 3 (some .int) 4 0 0 G S sz [va_rf (some x0)] (q_Qi G post) xp := by
  refine q_of (lv := [(0, va_rf (some x0))]) hl0 (by decide) rfl (Nat.le_of_ble_eq_true rfl) (fun p e s m below meth c A ls X N hr hnm I hl => ?_)
  generalize ([va_rf (some x0)] : List Value).toArray = av at X ⊢
  unfold pX7_countOpen at h
  refine lv_iconst (v := 0) X.1 X.2.1 dX7_countOpen_0 (by decide) ?_
  refine lv_istore_n (i := 1) (lv' := [(1, .int (0 : Int32)), (0, va_rf (some x0))]) X.1 X.2.1 dX7_countOpen_1 rfl hl (by decide) rfl (fun ls hl => ?_)
  refine lv_iconst (v := 0) X.1 X.2.1 dX7_countOpen_2 (by decide) ?_
  refine lv_istore_n (i := 2) (lv' := [(2, .int (0 : Int32)), (1, .int (0 : Int32)), (0, va_rf (some x0))]) X.1 X.2.1 dX7_countOpen_3 rfl hl (by decide) rfl (fun ls hl => ?_)
  obtain ⟨n4, h⟩ := h
  have lp4 : ∀ (n4 : Nat) (x0 : Option Nat) (x1 : Int32) (x2 : Int32) (S : qS) (H : Heap) (locs : List Loc) (ls : Array Slot), pX7_countOpen_L4 post xp n4 x0 x1 x2 S → q_H G A s H locs S → lv_has ls 3 [(0, va_rf x0), (1, .int x1), (2, .int x2)] → W p l e (q_rm 4 0 0) s m av below meth c H locs 0 0 (vx_MQ below (q_Qi G post A) (q_XC G A xp) av s 0 0 A) (F0 m 4 ls []) := by
    intro n4
    induction n4 with
    | zero => intro x0 x1 x2 S H locs ls h I hl; exact h.elim
    | succ n4 ih4 =>
      intro x0 x1 x2 S H locs ls h I hl
      unfold pX7_countOpen_L4 at h
      refine lv_iload_n X.1 X.2.1 dX7_countOpen_4 rfl (lv_at hl 2 rfl) ?_
      refine q_aload_n X dX7_countOpen_5 rfl (lv_at hl 0 rfl) ?_
      refine q_getR (ci := 8) (k := 2) X I rfl inb_TX7 wd_100 (by decide) qt_322 dX7_countOpen_6 h (fun v6 h => ?_)
      refine q_cVi (As := []) (rest := [.int x2]) (c1 := 0) (s1 := 0) (d := 1) (mc := 0) (ms := 0) X N I hl.1 mJx4a65c_size_8abf5 wd_137 dX7_countOpen_9 rfl h (fun b h => kJx4a65c_size_8abf5 hl0 h) rfl (Nat.le_of_ble_eq_true rfl) ⟨by decide, by decide⟩ ⟨by decide, by decide⟩ ⟨by decide, by decide⟩ rfl rfl (fun v9 S H locs I h => ?_)
      refine lv_icmp_ge (tgt := 41) X.1 X.2.1 dX7_countOpen_12 (by decide) (fun c12 => ?_) (fun c12 => ?_)
      · have h := h.1 c12
        refine lv_iload_n X.1 X.2.1 dX7_countOpen_41 rfl (lv_at hl 1 rfl) ?_
        exact q_iret X I hr dX7_countOpen_42 h (by decide) (by decide)
      · have h := h.2 c12
        refine q_aload_n X dX7_countOpen_15 rfl (lv_at hl 0 rfl) ?_
        refine q_getR (ci := 8) (k := 2) X I rfl inb_TX7 wd_100 (by decide) qt_322 dX7_countOpen_16 h (fun v16 h => ?_)
        refine lv_iload_n X.1 X.2.1 dX7_countOpen_19 rfl (lv_at hl 2 rfl) ?_
        refine q_cVr (As := [.int x2]) (rest := []) (c1 := 0) (s1 := 0) (d := 3) (mc := 0) (ms := 0) X N I hl.1 mJx4a65c_get_915e3 wd_141 dX7_countOpen_20 rfl h (fun b h => kJx4a65c_get_915e3 hl0 h) rfl (Nat.le_of_ble_eq_true rfl) ⟨by decide, by decide⟩ ⟨by decide, by decide⟩ ⟨by decide, by decide⟩ rfl rfl (fun v20 S H locs I h => ?_)
        refine q_cast (ci := 2) X I rfl wd_232 dX7_countOpen_23 h (fun h => ?_)
        refine q_getI (ci := 2) (k := 2) X I rfl inb_TX1 wd_766 (by decide) qt_82 dX7_countOpen_26 h (fun v26 h => ?_)
        have jn35 : ∀ (x0 : Option Nat) (x1 : Int32) (x2 : Int32) (S : qS) (H : Heap) (locs : List Loc) (ls : Array Slot), pX7_countOpen_J35 (pX7_countOpen_L4 post xp n4) post xp x0 x1 x2 S → q_H G A s H locs S → lv_has ls 3 [(0, va_rf x0), (1, .int x1), (2, .int x2)] → W p l e (q_rm 4 0 0) s m av below meth c H locs 0 0 (vx_MQ below (q_Qi G post A) (q_XC G A xp) av s 0 0 A) (F0 m 35 ls []) := by
          intro x0 x1 x2 S H locs ls h I hl
          unfold pX7_countOpen_J35 at h
          refine lv_iinc (v := (x2 + 1)) (lv' := [(2, .int (x2 + 1)), (0, va_rf x0), (1, .int x1)]) (k := 2) X.1 X.2.1 dX7_countOpen_35 hl rfl rfl (by decide) rfl (fun ls hl => ?_)
          refine lv_goto (tgt := 4) X.1 X.2.1 dX7_countOpen_38 (by decide) ?_
          exact ih4 _ _ _ _ _ _ _ h I (lv_sub hl [1, 2, 0] rfl)
        refine lv_if_eq (tgt := 35) X.1 X.2.1 dX7_countOpen_29 (by decide) (fun c29 => ?_) (fun c29 => ?_)
        · have h := h.1 c29
          exact jn35 _ _ _ _ _ _ _ h I (lv_sub hl [0, 1, 2] rfl)
        · have h := h.2 c29
          refine lv_iinc (v := (x1 + 1)) (lv' := [(1, .int (x1 + 1)), (0, va_rf x0), (2, .int x2)]) (k := 1) X.1 X.2.1 dX7_countOpen_32 hl rfl rfl (by decide) (by simp [q_cat, q_catI, q_catJ]) (fun ls hl => ?_)
          exact jn35 _ _ _ _ _ _ _ h I (lv_sub hl [1, 0, 2] rfl)
  exact lp4 n4 _ _ _ _ _ _ _ h I (lv_sub hl [2, 1, 0] rfl)

def pX7_count (x0 : Nat) (x1 : Int32) (S : qS) (post : Int32 → qS → Prop) (xp : String → qS → Prop) : Prop :=
  ((x1 = 0 →
  w_getI S (some x0) 8 9 (fun v53 =>
  post v53 S)) ∧
  (x1 = 1 →
  w_getR S (some x0) 8 0 (fun v58 =>
  w_at S v58 0 (fun b61 => pJx4a65c_size_8abf5 b61  S (fun v61 S =>
  post v61 S) xp))) ∧
  (x1 = 2 →
  w_getR S (some x0) 8 1 (fun v66 =>
  w_at S v66 0 (fun b69 => pJx4a65c_size_8abf5 b69  S (fun v69 S =>
  post v69 S) xp))) ∧
  (x1 = 3 →
  w_getR S (some x0) 8 3 (fun v74 =>
  w_at S v74 7 (fun b77 => pX6_size b77  S (fun v77 S =>
  post v77 S) xp))) ∧
  (x1 = 4 →
  w_getR S (some x0) 8 3 (fun v82 =>
  w_at S v82 7 (fun b85 => pX6_countBroken b85  S (fun v85 S =>
  post v85 S) xp))) ∧
  (x1 = 5 →
  w_getR S (some x0) 8 3 (fun v90 =>
  w_at S v90 7 (fun b93 => pX6_countLent b93  S (fun v93 S =>
  post v93 S) xp))) ∧
  (x1 = 6 →
  w_getR S (some x0) 8 2 (fun v98 =>
  w_at S v98 0 (fun b101 => pJx4a65c_size_8abf5 b101  S (fun v101 S =>
  post v101 S) xp))) ∧
  (x1 = 7 →
  w_at S (some x0) 8 (fun b106 => pX7_countOpen b106  S (fun v106 S =>
  post v106 S) xp)) ∧
  (x1 = 8 →
  w_getI S (some x0) 8 8 (fun v111 =>
  post v111 S)) ∧
  ((x1.toInt < 0 ∨ 8 < x1.toInt) →
  post (-1 : Int32) S))
set_option maxHeartbeats 4000000 in
set_option maxRecDepth 100000 in
theorem kX7_count {l : Launch} (hl0 : l.stackTraces = false) {G : qG} {S : qS} {sz : Nat} {x0 : Nat} {x1 : Int32} {post : Int32 → qS → Prop} {xp : String → qS → Prop} (h : pX7_count x0 x1 S post xp) : q_M l yX7_count cX7_count 2 (some .int) 5 0 0 G S sz [va_rf (some x0), .int x1] (q_Qi G post) xp := by
  refine q_of (lv := [(0, va_rf (some x0)), (1, .int x1)]) hl0 (by decide) rfl (Nat.le_of_ble_eq_true rfl) (fun p e s m below meth c A ls X N hr hnm I hl => ?_)
  generalize ([va_rf (some x0), .int x1] : List Value).toArray = av at X ⊢
  unfold pX7_count at h
  refine lv_iload_n X.1 X.2.1 dX7_count_0 rfl (lv_at hl 1 rfl) ?_
  by_cases c1_0 : x1 = 0
  · have h := h.1 c1_0
    refine lv_tableIn (tgt := 52) X.1 X.2.1 dX7_count_1 (by rw [c1_0]; decide) (by rw [c1_0]; decide) (by rw [c1_0]; rfl) (by decide) ?_
    refine q_aload_n X dX7_count_52 rfl (lv_at hl 0 rfl) ?_
    refine q_getI (ci := 8) (k := 9) X I rfl inb_TX7 wd_107 (by decide) qt_329 dX7_count_53 h (fun v53 h => ?_)
    exact q_iret X I hr dX7_count_56 h (by decide) (by decide)
  by_cases c1_1 : x1 = 1
  · have h := h.2.1 c1_1
    refine lv_tableIn (tgt := 57) X.1 X.2.1 dX7_count_1 (by rw [c1_1]; decide) (by rw [c1_1]; decide) (by rw [c1_1]; rfl) (by decide) ?_
    refine q_aload_n X dX7_count_57 rfl (lv_at hl 0 rfl) ?_
    refine q_getR (ci := 8) (k := 0) X I rfl inb_TX7 wd_98 (by decide) qt_320 dX7_count_58 h (fun v58 h => ?_)
    refine q_cVi (As := []) (rest := []) (c1 := 0) (s1 := 0) (d := 1) (mc := 0) (ms := 0) X N I hl.1 mJx4a65c_size_8abf5 wd_137 dX7_count_61 rfl h (fun b h => kJx4a65c_size_8abf5 hl0 h) rfl (Nat.le_of_ble_eq_true rfl) ⟨by decide, by decide⟩ ⟨by decide, by decide⟩ ⟨by decide, by decide⟩ rfl rfl (fun v61 S H locs I h => ?_)
    exact q_iret X I hr dX7_count_64 h (by decide) (by decide)
  by_cases c1_2 : x1 = 2
  · have h := h.2.2.1 c1_2
    refine lv_tableIn (tgt := 65) X.1 X.2.1 dX7_count_1 (by rw [c1_2]; decide) (by rw [c1_2]; decide) (by rw [c1_2]; rfl) (by decide) ?_
    refine q_aload_n X dX7_count_65 rfl (lv_at hl 0 rfl) ?_
    refine q_getR (ci := 8) (k := 1) X I rfl inb_TX7 wd_99 (by decide) qt_321 dX7_count_66 h (fun v66 h => ?_)
    refine q_cVi (As := []) (rest := []) (c1 := 0) (s1 := 0) (d := 1) (mc := 0) (ms := 0) X N I hl.1 mJx4a65c_size_8abf5 wd_137 dX7_count_69 rfl h (fun b h => kJx4a65c_size_8abf5 hl0 h) rfl (Nat.le_of_ble_eq_true rfl) ⟨by decide, by decide⟩ ⟨by decide, by decide⟩ ⟨by decide, by decide⟩ rfl rfl (fun v69 S H locs I h => ?_)
    exact q_iret X I hr dX7_count_72 h (by decide) (by decide)
  by_cases c1_3 : x1 = 3
  · have h := h.2.2.2.1 c1_3
    refine lv_tableIn (tgt := 73) X.1 X.2.1 dX7_count_1 (by rw [c1_3]; decide) (by rw [c1_3]; decide) (by rw [c1_3]; rfl) (by decide) ?_
    refine q_aload_n X dX7_count_73 rfl (lv_at hl 0 rfl) ?_
    refine q_getR (ci := 8) (k := 3) X I rfl inb_TX7 wd_101 (by decide) qt_323 dX7_count_74 h (fun v74 h => ?_)
    refine q_cVi (As := []) (rest := []) (c1 := 0) (s1 := 0) (d := 2) (mc := 0) (ms := 0) X N I hl.1 mX6_size wd_205 dX7_count_77 rfl h (fun b h => kX6_size hl0 h) rfl (Nat.le_of_ble_eq_true rfl) ⟨by decide, by decide⟩ ⟨by decide, by decide⟩ ⟨by decide, by decide⟩ rfl rfl (fun v77 S H locs I h => ?_)
    exact q_iret X I hr dX7_count_80 h (by decide) (by decide)
  by_cases c1_4 : x1 = 4
  · have h := h.2.2.2.2.1 c1_4
    refine lv_tableIn (tgt := 81) X.1 X.2.1 dX7_count_1 (by rw [c1_4]; decide) (by rw [c1_4]; decide) (by rw [c1_4]; rfl) (by decide) ?_
    refine q_aload_n X dX7_count_81 rfl (lv_at hl 0 rfl) ?_
    refine q_getR (ci := 8) (k := 3) X I rfl inb_TX7 wd_101 (by decide) qt_323 dX7_count_82 h (fun v82 h => ?_)
    refine q_cVi (As := []) (rest := []) (c1 := 0) (s1 := 0) (d := 4) (mc := 0) (ms := 0) X N I hl.1 mX6_countBroken wd_210 dX7_count_85 rfl h (fun b h => kX6_countBroken hl0 h) rfl (Nat.le_of_ble_eq_true rfl) ⟨by decide, by decide⟩ ⟨by decide, by decide⟩ ⟨by decide, by decide⟩ rfl rfl (fun v85 S H locs I h => ?_)
    exact q_iret X I hr dX7_count_88 h (by decide) (by decide)
  by_cases c1_5 : x1 = 5
  · have h := h.2.2.2.2.2.1 c1_5
    refine lv_tableIn (tgt := 89) X.1 X.2.1 dX7_count_1 (by rw [c1_5]; decide) (by rw [c1_5]; decide) (by rw [c1_5]; rfl) (by decide) ?_
    refine q_aload_n X dX7_count_89 rfl (lv_at hl 0 rfl) ?_
    refine q_getR (ci := 8) (k := 3) X I rfl inb_TX7 wd_101 (by decide) qt_323 dX7_count_90 h (fun v90 h => ?_)
    refine q_cVi (As := []) (rest := []) (c1 := 0) (s1 := 0) (d := 4) (mc := 0) (ms := 0) X N I hl.1 mX6_countLent wd_220 dX7_count_93 rfl h (fun b h => kX6_countLent hl0 h) rfl (Nat.le_of_ble_eq_true rfl) ⟨by decide, by decide⟩ ⟨by decide, by decide⟩ ⟨by decide, by decide⟩ rfl rfl (fun v93 S H locs I h => ?_)
    exact q_iret X I hr dX7_count_96 h (by decide) (by decide)
  by_cases c1_6 : x1 = 6
  · have h := h.2.2.2.2.2.2.1 c1_6
    refine lv_tableIn (tgt := 97) X.1 X.2.1 dX7_count_1 (by rw [c1_6]; decide) (by rw [c1_6]; decide) (by rw [c1_6]; rfl) (by decide) ?_
    refine q_aload_n X dX7_count_97 rfl (lv_at hl 0 rfl) ?_
    refine q_getR (ci := 8) (k := 2) X I rfl inb_TX7 wd_100 (by decide) qt_322 dX7_count_98 h (fun v98 h => ?_)
    refine q_cVi (As := []) (rest := []) (c1 := 0) (s1 := 0) (d := 1) (mc := 0) (ms := 0) X N I hl.1 mJx4a65c_size_8abf5 wd_137 dX7_count_101 rfl h (fun b h => kJx4a65c_size_8abf5 hl0 h) rfl (Nat.le_of_ble_eq_true rfl) ⟨by decide, by decide⟩ ⟨by decide, by decide⟩ ⟨by decide, by decide⟩ rfl rfl (fun v101 S H locs I h => ?_)
    exact q_iret X I hr dX7_count_104 h (by decide) (by decide)
  by_cases c1_7 : x1 = 7
  · have h := h.2.2.2.2.2.2.2.1 c1_7
    refine lv_tableIn (tgt := 105) X.1 X.2.1 dX7_count_1 (by rw [c1_7]; decide) (by rw [c1_7]; decide) (by rw [c1_7]; rfl) (by decide) ?_
    refine q_aload_n X dX7_count_105 rfl (lv_at hl 0 rfl) ?_
    refine q_cVi (As := []) (rest := []) (c1 := 0) (s1 := 0) (d := 4) (mc := 0) (ms := 0) X N I hl.1 mX7_countOpen wd_228 dX7_count_106 rfl h (fun b h => kX7_countOpen hl0 h) rfl (Nat.le_of_ble_eq_true rfl) ⟨by decide, by decide⟩ ⟨by decide, by decide⟩ ⟨by decide, by decide⟩ rfl rfl (fun v106 S H locs I h => ?_)
    exact q_iret X I hr dX7_count_109 h (by decide) (by decide)
  by_cases c1_8 : x1 = 8
  · have h := h.2.2.2.2.2.2.2.2.1 c1_8
    refine lv_tableIn (tgt := 110) X.1 X.2.1 dX7_count_1 (by rw [c1_8]; decide) (by rw [c1_8]; decide) (by rw [c1_8]; rfl) (by decide) ?_
    refine q_aload_n X dX7_count_110 rfl (lv_at hl 0 rfl) ?_
    refine q_getI (ci := 8) (k := 8) X I rfl inb_TX7 wd_106 (by decide) qt_328 dX7_count_111 h (fun v111 h => ?_)
    exact q_iret X I hr dX7_count_114 h (by decide) (by decide)
  have co1 : x1.toInt < 0 ∨ 8 < x1.toInt := by
    have e0 := q_ne c1_0 (z := 0) (by decide)
    have e1 := q_ne c1_1 (z := 1) (by decide)
    have e2 := q_ne c1_2 (z := 2) (by decide)
    have e3 := q_ne c1_3 (z := 3) (by decide)
    have e4 := q_ne c1_4 (z := 4) (by decide)
    have e5 := q_ne c1_5 (z := 5) (by decide)
    have e6 := q_ne c1_6 (z := 6) (by decide)
    have e7 := q_ne c1_7 (z := 7) (by decide)
    have e8 := q_ne c1_8 (z := 8) (by decide)
    omega
  have h := h.2.2.2.2.2.2.2.2.2 co1
  refine lv_tableOut (tgt := 115) X.1 X.2.1 dX7_count_1 co1 (by decide) ?_
  refine lv_iconst (v := -1) X.1 X.2.1 dX7_count_115 (by decide) ?_
  exact q_iret X I hr dX7_count_116 h (by decide) (by decide)
