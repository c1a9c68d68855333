def pJxa1e45_init_da8c8 (x0 : Nat) (S : qS) (post : qS → Prop) : Prop :=
  post S
set_option maxHeartbeats 4000000 in
set_option maxRecDepth 100000 in
theorem kJxa1e45_init_da8c8 {l : Launch} (hl0 : l.stackTraces = false) {G : qG} {S : qS} {sz : Nat} {x0 : Nat} {post : qS → Prop} (h : pJxa1e45_init_da8c8 x0 S post) : q_N l yJxa1e45_init_da8c8 cJxa1e45_init_da8c8 1 2 0 0 G S sz [va_rf (some x0)] post := by
  refine q_ofN (lv := [(0, va_rf (some x0))]) hl0 (by decide) rfl (Nat.le_of_ble_eq_true rfl) (fun p e s m below meth c A ls X hr hnm I hl => ?_)
  generalize ([va_rf (some x0)] : List Value).toArray = av at X ⊢
  unfold pJxa1e45_init_da8c8 at h
  refine q_aload_n X dJxa1e45_init_da8c8_0 rfl (lv_at hl 0 rfl) ?_
  refine q_objInit X hl.1 wd_45 wd_32 wd_33 dJxa1e45_init_da8c8_1 (by decide) (Nat.le_of_ble_eq_true rfl) ?_
  exact q_vretN X I hr dJxa1e45_init_da8c8_4 h (by decide) (by decide)

def pJxc12de_init_da8c8 (x0 : Nat) (S : qS) (post : qS → Prop) : Prop :=
  pJxa1e45_init_da8c8 x0  S (fun S =>
  w_putI S (some x0) 0 0 (0 : Int32) (fun S =>
  post S))
set_option maxHeartbeats 4000000 in
set_option maxRecDepth 100000 in
theorem kJxc12de_init_da8c8 {l : Launch} (hl0 : l.stackTraces = false) {G : qG} {S : qS} {sz : Nat} {x0 : Nat} {post : qS → Prop} (h : pJxc12de_init_da8c8 x0 S post) : q_N l yJxc12de_init_da8c8 cJxc12de_init_da8c8 1 3 0 0 G S sz [va_rf (some x0)] post := by
  refine q_ofN (lv := [(0, va_rf (some x0))]) hl0 (by decide) rfl (Nat.le_of_ble_eq_true rfl) (fun p e s m below meth c A ls X hr hnm I hl => ?_)
  generalize ([va_rf (some x0)] : List Value).toArray = av at X ⊢
  unfold pJxc12de_init_da8c8 at h
  refine q_aload_n X dJxc12de_init_da8c8_0 rfl (lv_at hl 0 rfl) ?_
  refine q_cI (As := []) (rest := []) (c1 := 0) (s1 := 0) (d := 2) (mc := 0) (ms := 0) X I hl.1 mJxa1e45_init_da8c8.1 mJxa1e45_init_da8c8.2 rfl wd_42 dJxc12de_init_da8c8_1 rfl (kJxa1e45_init_da8c8 hl0 h) rfl (Nat.le_of_ble_eq_true rfl) ⟨by decide, by decide⟩ ⟨by decide, by decide⟩ rfl rfl (fun S H locs I h => ?_)
  refine q_aload_n X dJxc12de_init_da8c8_4 rfl (lv_at hl 0 rfl) ?_
  refine lv_iconst (v := 0) X.1 X.2.1 dJxc12de_init_da8c8_5 (by decide) ?_
  refine q_putI (ci := 0) (k := 0) X I rfl inb_TJx4a65c tyJx4a65c_ok nmJx4a65c wd_50 (by decide) (Or.inl rfl) qt_0 rfl dJxc12de_init_da8c8_6 h (fun S H locs I h => ?_)
  exact q_vretN X I hr dJxc12de_init_da8c8_9 h (by decide) (by decide)

def pJx4a65c_init_da8c8 (x0 : Nat) (S : qS) (g : Nat × Nat) (post : qS → Prop) : Prop :=
  pJxc12de_init_da8c8 x0  S (fun S =>
  w_putR S (some x0) 0 1 (some g.1) (fun S =>
  post S))
set_option maxHeartbeats 4000000 in
set_option maxRecDepth 100000 in
theorem kJx4a65c_init_da8c8 {l : Launch} (hl0 : l.stackTraces = false) {G : qG} {S : qS} {sz : Nat} {x0 : Nat} {post : qS → Prop} {g : Nat × Nat} (he : G.2.2 = g) (h : pJx4a65c_init_da8c8 x0 S g post) : q_N l yJx4a65c_init_da8c8 cJx4a65c_init_da8c8 1 4 0 0 G S sz [va_rf (some x0)] post := by
  refine q_ofN (lv := [(0, va_rf (some x0))]) hl0 (by decide) rfl (Nat.le_of_ble_eq_true rfl) (fun p e s m below meth c A ls X hr hnm I hl => ?_)
  generalize ([va_rf (some x0)] : List Value).toArray = av at X ⊢
  unfold pJx4a65c_init_da8c8 at h
  refine q_aload_n X dJx4a65c_init_da8c8_0 rfl (lv_at hl 0 rfl) ?_
  refine q_cI (As := []) (rest := []) (c1 := 0) (s1 := 0) (d := 3) (mc := 0) (ms := 0) X I hl.1 mJxc12de_init_da8c8.1 mJxc12de_init_da8c8.2 rfl wd_39 dJx4a65c_init_da8c8_1 rfl (kJxc12de_init_da8c8 hl0 h) rfl (Nat.le_of_ble_eq_true rfl) ⟨by decide, by decide⟩ ⟨by decide, by decide⟩ rfl rfl (fun S H locs I h => ?_)
  refine q_aload_n X dJx4a65c_init_da8c8_4 rfl (lv_at hl 0 rfl) ?_
  refine q_gets X he I wd_46 dJx4a65c_init_da8c8_5 ?_
  refine q_putR (ci := 0) (k := 1) X I rfl inb_TJx4a65c tyJx4a65c_ok nmJx4a65c wd_48 (by decide) (Or.inl rfl) qt_1 (Or.inr ⟨_, rfl⟩) dJx4a65c_init_da8c8_8 h (fun S H locs I h => ?_)
  exact q_vretN X I hr dJx4a65c_init_da8c8_11 h (by decide) (by decide)

def pJ8_hugeLength_7cf53 (x0 : Int32) (x1 : Int32) (S : qS) (post : Int32 → qS → Prop) (xp : String → qS → Prop) : Prop :=
  ((0 ≤ (x0 + x1) →
  (((2147483639 : Int32) < (x0 + x1) →
  post (x0 + x1) S) ∧ (¬ (2147483639 : Int32) < (x0 + x1) →
  post (2147483639 : Int32) S))) ∧ (¬ 0 ≤ (x0 + x1) →
  False))
set_option maxHeartbeats 4000000 in
set_option maxRecDepth 100000 in
theorem kJ8_hugeLength_7cf53 {l : Launch} (hl0 : l.stackTraces = false) {G : qG} {S : qS} {sz : Nat} {x0 : Int32} {x1 : Int32} {post : Int32 → qS → Prop} {xp : String → qS → Prop} (h : pJ8_hugeLength_7cf53 x0 x1 S post xp) : q_M l yJ8_hugeLength_7cf53 cJ8_hugeLength_7cf53 3 (some .int) 1 0 0 G S sz [.int x0, .int x1] (q_Qi G post) xp := by
  refine q_of (lv := [(0, .int x0), (1, .int x1)]) hl0 (by decide) rfl (Nat.le_of_ble_eq_true rfl) (fun p e s m below meth c A ls X N hr hnm I hl => ?_)
  generalize ([.int x0, .int x1] : List Value).toArray = av at X ⊢
  unfold pJ8_hugeLength_7cf53 at h
  refine lv_iload_n X.1 X.2.1 dJ8_hugeLength_7cf53_0 rfl (lv_at hl 0 rfl) ?_
  refine lv_iload_n X.1 X.2.1 dJ8_hugeLength_7cf53_1 rfl (lv_at hl 1 rfl) ?_
  refine lv_iadd X.1 X.2.1 dJ8_hugeLength_7cf53_2 ?_
  refine lv_istore_n (i := 2) (lv' := [(2, .int (x0 + x1)), (0, .int x0), (1, .int x1)]) X.1 X.2.1 dJ8_hugeLength_7cf53_3 rfl hl (by decide) rfl (fun ls hl => ?_)
  refine lv_iload_n X.1 X.2.1 dJ8_hugeLength_7cf53_4 rfl (lv_at hl 0 rfl) ?_
  refine lv_if_ge (tgt := 49) X.1 X.2.1 dJ8_hugeLength_7cf53_5 (by decide) (fun c5 => ?_) (fun c5 => ?_)
  · have h := h.1 c5
    refine lv_iload_n X.1 X.2.1 dJ8_hugeLength_7cf53_49 rfl (lv_at hl 0 rfl) ?_
    refine lv_ldc X.1 X.2.1 X.2.2.1 (X.2.2.2.1 _ wd_355) dJ8_hugeLength_7cf53_50 ?_
    refine lv_icmp_gt (tgt := 58) X.1 X.2.1 dJ8_hugeLength_7cf53_52 (by decide) (fun c52 => ?_) (fun c52 => ?_)
    · have h := h.1 c52
      refine lv_iload_n X.1 X.2.1 dJ8_hugeLength_7cf53_58 rfl (lv_at hl 0 rfl) ?_
      exact q_iret X I hr dJ8_hugeLength_7cf53_59 h (by decide) (by decide)
    · have h := h.2 c52
      refine lv_ldc X.1 X.2.1 X.2.2.1 (X.2.2.2.1 _ wd_355) dJ8_hugeLength_7cf53_55 ?_
      exact q_iret X I hr dJ8_hugeLength_7cf53_57 h (by decide) (by decide)
  · have h := h.2 c5
    exact h.elim

def pJ8_newLength_cabcc_J21  (post : Int32 → qS → Prop) (xp : String → qS → Prop) (x0 : Int32) (x1 : Int32) (S : qS) : Prop :=
  pJ8_hugeLength_7cf53 x0 x1 S (fun v23 S =>
  post v23 S) xp
def pJ8_newLength_cabcc (x0 : Int32) (x1 : Int32) (x2 : Int32) (S : qS) (post : Int32 → qS → Prop) (xp : String → qS → Prop) : Prop :=
  (((x0 + (if x1 < x2 then x2 else x1)) ≤ (0 : Int32) →
  pJ8_newLength_cabcc_J21 post xp x0 x1 S) ∧ (¬ (x0 + (if x1 < x2 then x2 else x1)) ≤ (0 : Int32) →
  (((2147483639 : Int32) < (x0 + (if x1 < x2 then x2 else x1)) →
  pJ8_newLength_cabcc_J21 post xp x0 x1 S) ∧ (¬ (2147483639 : Int32) < (x0 + (if x1 < x2 then x2 else x1)) →
  post (x0 + (if x1 < x2 then x2 else x1)) S))))
set_option maxHeartbeats 4000000 in
set_option maxRecDepth 100000 in
theorem kJ8_newLength_cabcc {l : Launch} (hl0 : l.stackTraces = false) {G : qG} {S : qS} {sz : Nat} {x0 : Int32} {x1 : Int32} {x2 : Int32} {post : Int32 → qS → Prop} {xp : String → qS → Prop} (h : pJ8_newLength_cabcc x0 x1 x2 S post xp) : q_M l yJ8_newLength_cabcc cJ8_newLength_cabcc 4 (some .int) 2 0 0 G S sz [.int x0, .int x1, .int x2] (q_Qi G post) xp := by
  refine q_of (lv := [(0, .int x0), (1, .int x1), (2, .int x2)]) hl0 (by decide) rfl (Nat.le_of_ble_eq_true rfl) (fun p e s m below meth c A ls X N hr hnm I hl => ?_)
  generalize ([.int x0, .int x1, .int x2] : List Value).toArray = av at X ⊢
  unfold pJ8_newLength_cabcc at h
  refine lv_iload_n X.1 X.2.1 dJ8_newLength_cabcc_0 rfl (lv_at hl 0 rfl) ?_
  refine lv_iload_n X.1 X.2.1 dJ8_newLength_cabcc_1 rfl (lv_at hl 1 rfl) ?_
  refine lv_iload_n X.1 X.2.1 dJ8_newLength_cabcc_2 rfl (lv_at hl 2 rfl) ?_
  refine va_mmax X.1 X.2.1 (X.2.2.2.2.1.trans hl.1.symm) X.2.2.1 (X.2.2.2.1 _ wd_352) (X.2.2.2.1 _ wd_353) (X.2.2.2.1 _ wd_14) (X.2.2.2.1 _ wd_354) (by decide) (Nat.le_of_ble_eq_true rfl) (by decide) (by decide) dJ8_newLength_cabcc_3 ?_
  refine lv_iadd X.1 X.2.1 dJ8_newLength_cabcc_6 ?_
  refine lv_istore_n (i := 3) (lv' := [(3, .int (x0 + (if x1 < x2 then x2 else x1))), (0, .int x0), (1, .int x1), (2, .int x2)]) X.1 X.2.1 dJ8_newLength_cabcc_7 rfl hl (by decide) rfl (fun ls hl => ?_)
  refine lv_iconst (v := 0) X.1 X.2.1 dJ8_newLength_cabcc_8 (by decide) ?_
  refine lv_iload_n X.1 X.2.1 dJ8_newLength_cabcc_9 rfl (lv_at hl 0 rfl) ?_
  have jn21 : ∀ (x0 : Int32) (x1 : Int32) (S : qS) (H : Heap) (locs : List Loc) (ls : Array Slot), pJ8_newLength_cabcc_J21 post xp x0 x1 S → q_H G A s H locs S → lv_has ls 4 [(0, .int x0), (1, .int x1)] → W p l e (q_rm 2 0 0) s m av below meth c H locs 0 0 (vx_MQ below (q_Qi G post A) (q_XC G A xp) av s 0 0 A) (F0 m 21 ls []) := by
    intro x0 x1 S H locs ls h I hl
    unfold pJ8_newLength_cabcc_J21 at h
    refine lv_iload_n X.1 X.2.1 dJ8_newLength_cabcc_21 rfl (lv_at hl 0 rfl) ?_
    refine lv_iload_n X.1 X.2.1 dJ8_newLength_cabcc_22 rfl (lv_at hl 1 rfl) ?_
    refine q_cSi (As := [.int x0, .int x1]) (rest := []) (c1 := 0) (s1 := 0) (d := 1) (mc := 0) (ms := 0) X N I hl.1 mJ8_hugeLength_7cf53 wd_356 dJ8_newLength_cabcc_23 rfl (kJ8_hugeLength_7cf53 hl0 h) rfl (Nat.le_of_ble_eq_true rfl) ⟨by decide, by decide⟩ ⟨by decide, by decide⟩ ⟨by decide, by decide⟩ rfl rfl (fun v23 S H locs I h => ?_)
    exact q_iret X I hr dJ8_newLength_cabcc_26 h (by decide) (by decide)
  refine lv_icmp_ge (tgt := 21) X.1 X.2.1 dJ8_newLength_cabcc_10 (by decide) (fun c10 => ?_) (fun c10 => ?_)
  · have h := h.1 c10
    exact jn21 _ _ _ _ _ _ h I (lv_sub hl [1, 2] rfl)
  · have h := h.2 c10
    refine lv_iload_n X.1 X.2.1 dJ8_newLength_cabcc_13 rfl (lv_at hl 0 rfl) ?_
    refine lv_ldc X.1 X.2.1 X.2.2.1 (X.2.2.2.1 _ wd_355) dJ8_newLength_cabcc_14 ?_
    refine lv_icmp_gt (tgt := 21) X.1 X.2.1 dJ8_newLength_cabcc_16 (by decide) (fun c16 => ?_) (fun c16 => ?_)
    · have h := h.1 c16
      exact jn21 _ _ _ _ _ _ h I (lv_sub hl [1, 2] rfl)
    · have h := h.2 c16
      refine lv_iload_n X.1 X.2.1 dJ8_newLength_cabcc_19 rfl (lv_at hl 0 rfl) ?_
      exact q_iret X I hr dJ8_newLength_cabcc_20 h (by decide) (by decide)

def pJ7_copyOf_6403c (x0 : Option Nat) (x1 : Int32) (x2 : Option Nat) (S : qS) (g : Nat × Nat) (post : Option Nat → qS → Prop) (xp : String → qS → Prop) : Prop :=
  ((¬ x2 = (some g.2) →
  False) ∧ (x2 = (some g.2) →
  w_newO S x1 (fun q7 S =>
  w_lenE S g x0 (fun v30 =>
  w_copy S x0 (some q7) (if x1 < v30 then x1 else v30) (fun S =>
  post (some q7) S)))))
set_option maxHeartbeats 4000000 in
set_option maxRecDepth 100000 in
theorem kJ7_copyOf_6403c {l : Launch} (hl0 : l.stackTraces = false) {G : qG} {S : qS} {sz : Nat} {x0 : Option Nat} {x1 : Int32} {x2 : Option Nat} {post : Option Nat → qS → Prop} {xp : String → qS → Prop} {g : Nat × Nat} (he : G.2.2 = g) (h : pJ7_copyOf_6403c x0 x1 x2 S g post xp) : q_M l yJ7_copyOf_6403c cJ7_copyOf_6403c 4 (some (.array (.object "java/lang/Object"))) 2 1 100 G S sz [va_rf x0, .int x1, va_rf x2] (q_Qr G post) xp := by
  refine q_of (lv := [(0, va_rf x0), (1, .int x1), (2, va_rf x2)]) hl0 (by decide) (by cases x0 <;> cases x2 <;> rfl) (by cases x0 <;> cases x2 <;> exact Nat.le_of_ble_eq_true rfl) (fun p e s m below meth c A ls X N hr hnm I hl => ?_)
  generalize ([va_rf x0, .int x1, va_rf x2] : List Value).toArray = av at X ⊢
  unfold pJ7_copyOf_6403c at h
  refine q_aload_n X dJ7_copyOf_6403c_0 rfl (lv_at hl 2 rfl) ?_
  refine q_ldcM X he wd_383 dJ7_copyOf_6403c_1 ?_
  refine lv_acmp_ne (tgt := 13) X.1 X.2.1 dJ7_copyOf_6403c_3 (by decide) (fun c3 => ?_) (fun c3 => ?_)
  · have h := h.1 c3
    refine q_aload_n X dJ7_copyOf_6403c_13 rfl (lv_at hl 2 rfl) ?_
    exact h.elim
  · have h := h.2 c3
    refine lv_iload_n X.1 X.2.1 dJ7_copyOf_6403c_6 rfl (lv_at hl 1 rfl) ?_
    refine q_newO (c1 := 1) (s1 := 100) X I wd_385 ⟨by decide, by decide⟩ rfl rfl dJ7_copyOf_6403c_7 h (fun q7 S H I h => ?_)
    refine lv_goto (tgt := 24) X.1 X.2.1 dJ7_copyOf_6403c_10 (by decide) ?_
    refine q_astore_n (i := 3) (lv' := [(3, va_rf (some q7)), (0, va_rf x0), (1, .int x1), (2, va_rf x2)]) X dJ7_copyOf_6403c_24 rfl hl (by decide) (by simp [q_cat, q_catI, q_catJ]) (fun ls hl => ?_)
    refine q_aload_n X dJ7_copyOf_6403c_25 rfl (lv_at hl 1 rfl) ?_
    refine lv_iconst (v := 0) X.1 X.2.1 dJ7_copyOf_6403c_26 (by decide) ?_
    refine q_aload_n X dJ7_copyOf_6403c_27 rfl (lv_at hl 0 rfl) ?_
    refine lv_iconst (v := 0) X.1 X.2.1 dJ7_copyOf_6403c_28 (by decide) ?_
    refine q_aload_n X dJ7_copyOf_6403c_29 rfl (lv_at hl 1 rfl) ?_
    refine q_alen X he I dJ7_copyOf_6403c_30 h (fun v30 h => ?_)
    refine lv_iload_n X.1 X.2.1 dJ7_copyOf_6403c_31 rfl (lv_at hl 2 rfl) ?_
    refine va_mmin X.1 X.2.1 (X.2.2.2.2.1.trans hl.1.symm) X.2.2.1 (X.2.2.2.1 _ wd_386) (X.2.2.2.1 _ wd_387) (X.2.2.2.1 _ wd_14) (X.2.2.2.1 _ wd_388) (by decide) (by simp [q_cat, q_catI, q_catJ, q_rm]) (by decide) (by decide) dJ7_copyOf_6403c_32 ?_
    refine q_copy X I hl.1 wd_389 wd_391 wd_390 wd_16 (by decide) (by decide) dJ7_copyOf_6403c_35 h (fun S H locs I h => ?_)
    refine q_aload_n X dJ7_copyOf_6403c_38 rfl (lv_at hl 0 rfl) ?_
    exact q_aret X I hr (Or.inr ⟨_, rfl⟩) dJ7_copyOf_6403c_39 h (by decide) (by decide)

def pJ7_copyOf_1904c (x0 : Option Nat) (x1 : Int32) (S : qS) (g : Nat × Nat) (post : Option Nat → qS → Prop) (xp : String → qS → Prop) : Prop :=
  w_at S x0 22 (fun _ =>
  pJ7_copyOf_6403c x0 x1 (some g.2) S g (fun v6 S =>
  post v6 S) xp)
set_option maxHeartbeats 4000000 in
set_option maxRecDepth 100000 in
theorem kJ7_copyOf_1904c {l : Launch} (hl0 : l.stackTraces = false) {G : qG} {S : qS} {sz : Nat} {x0 : Option Nat} {x1 : Int32} {post : Option Nat → qS → Prop} {xp : String → qS → Prop} {g : Nat × Nat} (he : G.2.2 = g) (h : pJ7_copyOf_1904c x0 x1 S g post xp) : q_M l yJ7_copyOf_1904c cJ7_copyOf_1904c 2 (some (.array (.object "java/lang/Object"))) 3 1 100 G S sz [va_rf x0, .int x1] (q_Qr G post) xp := by
  refine q_of (lv := [(0, va_rf x0), (1, .int x1)]) hl0 (by decide) (by cases x0 <;> rfl) (by cases x0 <;> exact Nat.le_of_ble_eq_true rfl) (fun p e s m below meth c A ls X N hr hnm I hl => ?_)
  generalize ([va_rf x0, .int x1] : List Value).toArray = av at X ⊢
  unfold pJ7_copyOf_1904c at h
  refine q_aload_n X dJ7_copyOf_1904c_0 rfl (lv_at hl 0 rfl) ?_
  refine lv_iload_n X.1 X.2.1 dJ7_copyOf_1904c_1 rfl (lv_at hl 1 rfl) ?_
  refine q_aload_n X dJ7_copyOf_1904c_2 rfl (lv_at hl 0 rfl) ?_
  refine q_getC X he I hl.1 wd_362 wd_1161 wd_363 wd_379 (by decide) (by simp [q_cat, q_catI, q_catJ, q_rm]) dJ7_copyOf_1904c_3 h (fun h => ?_)
  refine q_cSr (As := [va_rf x0, .int x1, va_rf (some g.2)]) (rest := []) (c1 := 1) (s1 := 100) (d := 2) (mc := 1) (ms := 100) X N I hl.1 mJ7_copyOf_6403c wd_380 dJ7_copyOf_1904c_6 rfl (kJ7_copyOf_6403c hl0 he h) rfl (Nat.le_of_ble_eq_true rfl) ⟨by decide, by decide⟩ ⟨by decide, by decide⟩ ⟨by decide, by decide⟩ rfl rfl (fun v6 S H locs I h => ?_)
  exact q_aret X I hr (Or.inr ⟨_, rfl⟩) dJ7_copyOf_1904c_9 h (by decide) (by decide)

def pJx4a65c_grow_92f84_J20  (g : Nat × Nat) (post : Option Nat → qS → Prop) (xp : String → qS → Prop) (x0 : Option Nat) (x1 : Int32) (x2 : Int32) (S : qS) : Prop :=
  pJ8_newLength_cabcc x2 (x1 - x2) (x2 >>> ((1 : Int32) &&& 31)) S (fun v27 S =>
  w_getR S x0 0 1 (fun v33 =>
  pJ7_copyOf_1904c v33 v27 S g (fun v37 S =>
  w_putR S x0 0 1 v37 (fun S =>
  post v37 S)) xp)) xp
def pJx4a65c_grow_92f84 (x0 : Nat) (x1 : Int32) (S : qS) (g : Nat × Nat) (post : Option Nat → qS → Prop) (xp : String → qS → Prop) : Prop :=
  w_getR S (some x0) 0 1 (fun v1 =>
  w_lenE S g v1 (fun v4 =>
  ((0 < v4 →
  pJx4a65c_grow_92f84_J20 g post xp (some x0) x1 v4 S) ∧ (¬ 0 < v4 →
  w_getR S (some x0) 0 1 (fun v11 =>
  ((v11 = (some g.1) →
  w_newO S (if (10 : Int32) < x1 then x1 else (10 : Int32)) (fun q52 S =>
  w_putR S (some x0) 0 1 (some q52) (fun S =>
  post (some q52) S))) ∧ (¬ v11 = (some g.1) →
  pJx4a65c_grow_92f84_J20 g post xp (some x0) x1 v4 S)))))))
set_option maxHeartbeats 4000000 in
set_option maxRecDepth 100000 in
theorem kJx4a65c_grow_92f84 {l : Launch} (hl0 : l.stackTraces = false) {G : qG} {S : qS} {sz : Nat} {x0 : Nat} {x1 : Int32} {post : Option Nat → qS → Prop} {xp : String → qS → Prop} {g : Nat × Nat} (he : G.2.2 = g) (h : pJx4a65c_grow_92f84 x0 x1 S g post xp) : q_M l yJx4a65c_grow_92f84 cJx4a65c_grow_92f84 4 (some (.array (.object "java/lang/Object"))) 4 1 100 G S sz [va_rf (some x0), .int x1] (q_Qr G post) xp := by
  refine q_of (lv := [(0, va_rf (some x0)), (1, .int x1)]) hl0 (by decide) rfl (Nat.le_of_ble_eq_true rfl) (fun p e s m below meth c A ls X N hr hnm I hl => ?_)
  generalize ([va_rf (some x0), .int x1] : List Value).toArray = av at X ⊢
  unfold pJx4a65c_grow_92f84 at h
  refine q_aload_n X dJx4a65c_grow_92f84_0 rfl (lv_at hl 0 rfl) ?_
  refine q_getR (ci := 0) (k := 1) X I rfl inb_TJx4a65c wd_48 (by decide) qt_1 dJx4a65c_grow_92f84_1 h (fun v1 h => ?_)
  refine q_alen X he I dJx4a65c_grow_92f84_4 h (fun v4 h => ?_)
  refine lv_istore_n (i := 2) (lv' := [(2, .int v4), (0, va_rf (some x0)), (1, .int x1)]) X.1 X.2.1 dJx4a65c_grow_92f84_5 rfl hl (by decide) rfl (fun ls hl => ?_)
  refine lv_iload_n X.1 X.2.1 dJx4a65c_grow_92f84_6 rfl (lv_at hl 0 rfl) ?_
  have jn20 : ∀ (x0 : Option Nat) (x1 : Int32) (x2 : Int32) (S : qS) (H : Heap) (locs : List Loc) (ls : Array Slot), pJx4a65c_grow_92f84_J20 g post xp x0 x1 x2 S → q_H G A s H locs S → lv_has ls 4 [(0, va_rf x0), (1, .int x1), (2, .int x2)] → W p l e (q_rm 4 1 100) s m av below meth c H locs 0 0 (vx_MQ below (q_Qr G post A) (q_XC G A xp) av s 1 100 A) (F0 m 20 ls []) := by
    intro x0 x1 x2 S H locs ls h I hl
    unfold pJx4a65c_grow_92f84_J20 at h
    refine lv_iload_n X.1 X.2.1 dJx4a65c_grow_92f84_20 rfl (lv_at hl 2 rfl) ?_
    refine lv_iload_n X.1 X.2.1 dJx4a65c_grow_92f84_21 rfl (lv_at hl 1 rfl) ?_
    refine lv_iload_n X.1 X.2.1 dJx4a65c_grow_92f84_22 rfl (lv_at hl 2 rfl) ?_
    refine lv_isub X.1 X.2.1 dJx4a65c_grow_92f84_23 ?_
    refine lv_iload_n X.1 X.2.1 dJx4a65c_grow_92f84_24 rfl (lv_at hl 2 rfl) ?_
    refine lv_iconst (v := 1) X.1 X.2.1 dJx4a65c_grow_92f84_25 (by decide) ?_
    refine lv_ishr X.1 X.2.1 dJx4a65c_grow_92f84_26 ?_
    refine q_cSi (As := [.int x2, .int (x1 - x2), .int (x2 >>> ((1 : Int32) &&& 31))]) (rest := []) (c1 := 0) (s1 := 0) (d := 2) (mc := 0) (ms := 0) X N I hl.1 mJ8_newLength_cabcc wd_349 dJx4a65c_grow_92f84_27 rfl (kJ8_newLength_cabcc hl0 h) rfl (Nat.le_of_ble_eq_true rfl) ⟨by decide, by decide⟩ ⟨by decide, by decide⟩ ⟨by decide, by decide⟩ rfl rfl (fun v27 S H locs I h => ?_)
    refine lv_istore_n (i := 3) (lv' := [(3, .int v27), (0, va_rf x0), (1, .int x1), (2, .int x2)]) X.1 X.2.1 dJx4a65c_grow_92f84_30 rfl hl (by decide) rfl (fun ls hl => ?_)
    refine q_aload_n X dJx4a65c_grow_92f84_31 rfl (lv_at hl 1 rfl) ?_
    refine q_aload_n X dJx4a65c_grow_92f84_32 rfl (lv_at hl 1 rfl) ?_
    refine q_getR (ci := 0) (k := 1) X I rfl inb_TJx4a65c wd_48 (by decide) qt_1 dJx4a65c_grow_92f84_33 h (fun v33 h => ?_)
    refine lv_iload_n X.1 X.2.1 dJx4a65c_grow_92f84_36 rfl (lv_at hl 0 rfl) ?_
    refine q_cSr (As := [va_rf v33, .int v27]) (rest := [va_rf x0]) (c1 := 1) (s1 := 100) (d := 3) (mc := 1) (ms := 100) X N I hl.1 mJ7_copyOf_1904c wd_359 dJx4a65c_grow_92f84_37 rfl (kJ7_copyOf_1904c hl0 he h) rfl (by simp [q_cat, q_catI, q_catJ]) ⟨by decide, by decide⟩ ⟨by decide, by decide⟩ ⟨by decide, by decide⟩ rfl rfl (fun v37 S H locs I h => ?_)
    refine lv_dup_x1 X.1 X.2.1 dJx4a65c_grow_92f84_40 (q_cat _) (q_cat _) ?_
    refine q_putR (ci := 0) (k := 1) X I rfl inb_TJx4a65c tyJx4a65c_ok nmJx4a65c wd_48 (by decide) (Or.inl rfl) qt_1 (Or.inr ⟨_, rfl⟩) dJx4a65c_grow_92f84_41 h (fun S H locs I h => ?_)
    exact q_aret X I hr (Or.inr ⟨_, rfl⟩) dJx4a65c_grow_92f84_44 h (by decide) (by decide)
  refine lv_if_gt (tgt := 20) X.1 X.2.1 dJx4a65c_grow_92f84_7 (by decide) (fun c7 => ?_) (fun c7 => ?_)
  · have h := h.1 c7
    exact jn20 _ _ _ _ _ _ _ h I (lv_sub hl [1, 2, 0] rfl)
  · have h := h.2 c7
    refine q_aload_n X dJx4a65c_grow_92f84_10 rfl (lv_at hl 1 rfl) ?_
    refine q_getR (ci := 0) (k := 1) X I rfl inb_TJx4a65c wd_48 (by decide) qt_1 dJx4a65c_grow_92f84_11 h (fun v11 h => ?_)
    refine q_gets X he I wd_46 dJx4a65c_grow_92f84_14 ?_
    refine lv_acmp_eq (tgt := 45) X.1 X.2.1 dJx4a65c_grow_92f84_17 (by decide) (fun c17 => ?_) (fun c17 => ?_)
    · have h := h.1 c17
      refine q_aload_n X dJx4a65c_grow_92f84_45 rfl (lv_at hl 1 rfl) ?_
      refine lv_bipush (v := 10) X.1 X.2.1 dJx4a65c_grow_92f84_46 (by decide) ?_
      refine lv_iload_n X.1 X.2.1 dJx4a65c_grow_92f84_48 rfl (lv_at hl 2 rfl) ?_
      refine va_mmax X.1 X.2.1 (X.2.2.2.2.1.trans hl.1.symm) X.2.2.1 (X.2.2.2.1 _ wd_392) (X.2.2.2.1 _ wd_353) (X.2.2.2.1 _ wd_14) (X.2.2.2.1 _ wd_354) (by decide) (Nat.le_of_ble_eq_true rfl) (by decide) (by decide) dJx4a65c_grow_92f84_49 ?_
      refine q_newO (c1 := 1) (s1 := 100) X I wd_393 ⟨by decide, by decide⟩ rfl rfl dJx4a65c_grow_92f84_52 h (fun q52 S H I h => ?_)
      refine lv_dup_x1 X.1 X.2.1 dJx4a65c_grow_92f84_55 (q_cat _) (q_cat _) ?_
      refine q_putR (ci := 0) (k := 1) X I rfl inb_TJx4a65c tyJx4a65c_ok nmJx4a65c wd_48 (by decide) (Or.inl rfl) qt_1 (Or.inr ⟨_, rfl⟩) dJx4a65c_grow_92f84_56 h (fun S H locs I h => ?_)
      exact q_aret X I hr (Or.inr ⟨_, rfl⟩) dJx4a65c_grow_92f84_59 h (by decide) (by decide)
    · have h := h.2 c17
      exact jn20 _ _ _ _ _ _ _ h I (lv_sub hl [1, 2, 0] rfl)

def pJx4a65c_grow_d5877 (x0 : Nat) (S : qS) (g : Nat × Nat) (post : Option Nat → qS → Prop) (xp : String → qS → Prop) : Prop :=
  w_getI S (some x0) 0 2 (fun v2 =>
  w_at S (some x0) 0 (fun b7 => pJx4a65c_grow_92f84 b7 (v2 + (1 : Int32)) S g (fun v7 S =>
  post v7 S) xp))
set_option maxHeartbeats 4000000 in
set_option maxRecDepth 100000 in
theorem kJx4a65c_grow_d5877 {l : Launch} (hl0 : l.stackTraces = false) {G : qG} {S : qS} {sz : Nat} {x0 : Nat} {post : Option Nat → qS → Prop} {xp : String → qS → Prop} {g : Nat × Nat} (he : G.2.2 = g) (h : pJx4a65c_grow_d5877 x0 S g post xp) : q_M l yJx4a65c_grow_d5877 cJx4a65c_grow_d5877 1 (some (.array (.object "java/lang/Object"))) 5 1 100 G S sz [va_rf (some x0)] (q_Qr G post) xp := by
  refine q_of (lv := [(0, va_rf (some x0))]) hl0 (by decide) rfl (Nat.le_of_ble_eq_true rfl) (fun p e s m below meth c A ls X N hr hnm I hl => ?_)
  generalize ([va_rf (some x0)] : List Value).toArray = av at X ⊢
  unfold pJx4a65c_grow_d5877 at h
  refine q_aload_n X dJx4a65c_grow_d5877_0 rfl (lv_at hl 0 rfl) ?_
  refine q_aload_n X dJx4a65c_grow_d5877_1 rfl (lv_at hl 0 rfl) ?_
  refine q_getI (ci := 0) (k := 2) X I rfl inb_TJx4a65c wd_49 (by decide) qt_2 dJx4a65c_grow_d5877_2 h (fun v2 h => ?_)
  refine lv_iconst (v := 1) X.1 X.2.1 dJx4a65c_grow_d5877_5 (by decide) ?_
  refine lv_iadd X.1 X.2.1 dJx4a65c_grow_d5877_6 ?_
  refine q_cVr (As := [.int (v2 + (1 : Int32))]) (rest := []) (c1 := 1) (s1 := 100) (d := 4) (mc := 1) (ms := 100) X N I hl.1 mJx4a65c_grow_92f84 wd_345 dJx4a65c_grow_d5877_7 rfl h (fun b h => kJx4a65c_grow_92f84 hl0 he h) rfl (Nat.le_of_ble_eq_true rfl) ⟨by decide, by decide⟩ ⟨by decide, by decide⟩ ⟨by decide, by decide⟩ rfl rfl (fun v7 S H locs I h => ?_)
  exact q_aret X I hr (Or.inr ⟨_, rfl⟩) dJx4a65c_grow_d5877_10 h (by decide) (by decide)

def pJx4a65c_add_72be8_J11  (g : Nat × Nat) (post : qS → Prop) (xp : String → qS → Prop) (x0 : Option Nat) (x1 : Option Nat) (x2 : Option Nat) (x3 : Int32) (S : qS) : Prop :=
  w_stO S x2 x3 x1 (fun S =>
  w_putI S x0 0 2 (x3 + (1 : Int32)) (fun S =>
  post S))
def pJx4a65c_add_72be8 (x0 : Nat) (x1 : Option Nat) (x2 : Option Nat) (x3 : Int32) (S : qS) (g : Nat × Nat) (post : qS → Prop) (xp : String → qS → Prop) : Prop :=
  w_lenE S g x2 (fun v2 =>
  ((¬ x3 = v2 →
  pJx4a65c_add_72be8_J11 g post xp (some x0) x1 x2 x3 S) ∧ (x3 = v2 →
  w_at S (some x0) 0 (fun b7 => pJx4a65c_grow_d5877 b7  S g (fun v7 S =>
  pJx4a65c_add_72be8_J11 g post xp (some x0) x1 v7 x3 S) xp))))
set_option maxHeartbeats 4000000 in
set_option maxRecDepth 100000 in
theorem kJx4a65c_add_72be8 {l : Launch} (hl0 : l.stackTraces = false) {G : qG} {S : qS} {sz : Nat} {x0 : Nat} {x1 : Option Nat} {x2 : Option Nat} {x3 : Int32} {post : qS → Prop} {xp : String → qS → Prop} {g : Nat × Nat} (he : G.2.2 = g) (h : pJx4a65c_add_72be8 x0 x1 x2 x3 S g post xp) : q_M l yJx4a65c_add_72be8 cJx4a65c_add_72be8 4 none 6 1 100 G S sz [va_rf (some x0), va_rf x1, va_rf x2, .int x3] (q_Qv G post) xp := by
  refine q_of (lv := [(0, va_rf (some x0)), (1, va_rf x1), (2, va_rf x2), (3, .int x3)]) hl0 (by decide) (by cases x1 <;> cases x2 <;> rfl) (by cases x1 <;> cases x2 <;> exact Nat.le_of_ble_eq_true rfl) (fun p e s m below meth c A ls X N hr hnm I hl => ?_)
  generalize ([va_rf (some x0), va_rf x1, va_rf x2, .int x3] : List Value).toArray = av at X ⊢
  unfold pJx4a65c_add_72be8 at h
  refine lv_iload_n X.1 X.2.1 dJx4a65c_add_72be8_0 rfl (lv_at hl 3 rfl) ?_
  refine q_aload_n X dJx4a65c_add_72be8_1 rfl (lv_at hl 2 rfl) ?_
  refine q_alen X he I dJx4a65c_add_72be8_2 h (fun v2 h => ?_)
  have jn11 : ∀ (x0 : Option Nat) (x1 : Option Nat) (x2 : Option Nat) (x3 : Int32) (S : qS) (H : Heap) (locs : List Loc) (ls : Array Slot), pJx4a65c_add_72be8_J11 g post xp x0 x1 x2 x3 S → q_H G A s H locs S → lv_has ls 4 [(0, va_rf x0), (1, va_rf x1), (2, va_rf x2), (3, .int x3)] → W p l e (q_rm 6 1 100) s m av below meth c H locs 1 100 (vx_MQ below (q_Qv G post A) (q_XC G A xp) av s 1 100 A) (F0 m 11 ls []) := by
    intro x0 x1 x2 x3 S H locs ls h I hl
    unfold pJx4a65c_add_72be8_J11 at h
    refine q_aload_n X dJx4a65c_add_72be8_11 rfl (lv_at hl 2 rfl) ?_
    refine lv_iload_n X.1 X.2.1 dJx4a65c_add_72be8_12 rfl (lv_at hl 3 rfl) ?_
    refine q_aload_n X dJx4a65c_add_72be8_13 rfl (lv_at hl 1 rfl) ?_
    refine q_stO X I dJx4a65c_add_72be8_14 h (fun S H locs I h => ?_)
    refine q_aload_n X dJx4a65c_add_72be8_15 rfl (lv_at hl 0 rfl) ?_
    refine lv_iload_n X.1 X.2.1 dJx4a65c_add_72be8_16 rfl (lv_at hl 3 rfl) ?_
    refine lv_iconst (v := 1) X.1 X.2.1 dJx4a65c_add_72be8_17 (by decide) ?_
    refine lv_iadd X.1 X.2.1 dJx4a65c_add_72be8_18 ?_
    refine q_putI (ci := 0) (k := 2) X I rfl inb_TJx4a65c tyJx4a65c_ok nmJx4a65c wd_49 (by decide) (Or.inl rfl) qt_2 rfl dJx4a65c_add_72be8_19 h (fun S H locs I h => ?_)
    exact q_vret X I hr dJx4a65c_add_72be8_22 h (by decide) (by decide)
  refine lv_icmp_ne (tgt := 11) X.1 X.2.1 dJx4a65c_add_72be8_3 (by decide) (fun c3 => ?_) (fun c3 => ?_)
  · have h := h.1 c3
    refine W.widen (k := 1) (n := 100) (by decide) (by decide) ?_
    exact jn11 _ _ _ _ _ _ _ _ h I (lv_sub hl [0, 1, 2, 3] rfl)
  · have h := h.2 c3
    refine q_aload_n X dJx4a65c_add_72be8_6 rfl (lv_at hl 0 rfl) ?_
    refine q_cVr (As := []) (rest := []) (c1 := 1) (s1 := 100) (d := 5) (mc := 1) (ms := 100) X N I hl.1 mJx4a65c_grow_d5877 wd_341 dJx4a65c_add_72be8_7 rfl h (fun b h => kJx4a65c_grow_d5877 hl0 he h) rfl (Nat.le_of_ble_eq_true rfl) ⟨by decide, by decide⟩ ⟨by decide, by decide⟩ ⟨by decide, by decide⟩ rfl rfl (fun v7 S H locs I h => ?_)
    refine q_astore_n (i := 2) (lv' := [(2, va_rf v7), (0, va_rf (some x0)), (1, va_rf x1), (3, .int x3)]) X dJx4a65c_add_72be8_10 rfl hl (by decide) (by simp [q_cat, q_catI, q_catJ]) (fun ls hl => ?_)
    exact jn11 _ _ _ _ _ _ _ _ h I (lv_sub hl [1, 2, 0, 3] rfl)

def pJx4a65c_add_9ea2d (x0 : Nat) (x1 : Option Nat) (S : qS) (g : Nat × Nat) (post : Int32 → qS → Prop) (xp : String → qS → Prop) : Prop :=
  w_getI S (some x0) 0 0 (fun v2 =>
  w_putI S (some x0) 0 0 (v2 + (1 : Int32)) (fun S =>
  w_getR S (some x0) 0 1 (fun v13 =>
  w_getI S (some x0) 0 2 (fun v17 =>
  w_at S (some x0) 0 (fun b20 => pJx4a65c_add_72be8 b20 x1 v13 v17 S g (fun S =>
  (((1 : Int32) = 0 ∨ (1 : Int32) = 1) ∧ post (1 : Int32) S)) xp)))))
set_option maxHeartbeats 4000000 in
set_option maxRecDepth 100000 in
theorem kJx4a65c_add_9ea2d {l : Launch} (hl0 : l.stackTraces = false) {G : qG} {S : qS} {sz : Nat} {x0 : Nat} {x1 : Option Nat} {post : Int32 → qS → Prop} {xp : String → qS → Prop} {g : Nat × Nat} (he : G.2.2 = g) (h : pJx4a65c_add_9ea2d x0 x1 S g post xp) : q_M l yJx4a65c_add_9ea2d cJx4a65c_add_9ea2d 2 (some .boolean) 7 1 100 G S sz [va_rf (some x0), va_rf x1] (q_Qi G post) xp := by
  refine q_of (lv := [(0, va_rf (some x0)), (1, va_rf x1)]) hl0 (by decide) (by cases x1 <;> rfl) (by cases x1 <;> exact Nat.le_of_ble_eq_true rfl) (fun p e s m below meth c A ls X N hr hnm I hl => ?_)
  generalize ([va_rf (some x0), va_rf x1] : List Value).toArray = av at X ⊢
  unfold pJx4a65c_add_9ea2d at h
  refine q_aload_n X dJx4a65c_add_9ea2d_0 rfl (lv_at hl 0 rfl) ?_
  refine lv_dup X.1 X.2.1 dJx4a65c_add_9ea2d_1 (q_cat _) ?_
  refine q_getIs (ci := 0) (k := 0) X I rfl inb_TJx4a65c wd_51 wd_52 (by decide) qt_0 dJx4a65c_add_9ea2d_2 h (fun v2 h => ?_)
  refine lv_iconst (v := 1) X.1 X.2.1 dJx4a65c_add_9ea2d_5 (by decide) ?_
  refine lv_iadd X.1 X.2.1 dJx4a65c_add_9ea2d_6 ?_
  refine q_putIs (ci := 0) (k := 0) X I rfl inb_TJx4a65c tyJx4a65c_ok nmJx4a65c wd_51 wd_52 (by decide) rfl qt_0 rfl dJx4a65c_add_9ea2d_7 h (fun S H locs I h => ?_)
  refine q_aload_n X dJx4a65c_add_9ea2d_10 rfl (lv_at hl 0 rfl) ?_
  refine q_aload_n X dJx4a65c_add_9ea2d_11 rfl (lv_at hl 1 rfl) ?_
  refine q_aload_n X dJx4a65c_add_9ea2d_12 rfl (lv_at hl 0 rfl) ?_
  refine q_getR (ci := 0) (k := 1) X I rfl inb_TJx4a65c wd_48 (by decide) qt_1 dJx4a65c_add_9ea2d_13 h (fun v13 h => ?_)
  refine q_aload_n X dJx4a65c_add_9ea2d_16 rfl (lv_at hl 0 rfl) ?_
  refine q_getI (ci := 0) (k := 2) X I rfl inb_TJx4a65c wd_49 (by decide) qt_2 dJx4a65c_add_9ea2d_17 h (fun v17 h => ?_)
  refine q_cVv (As := [va_rf x1, va_rf v13, .int v17]) (rest := []) (c1 := 1) (s1 := 100) (d := 6) (mc := 1) (ms := 100) X N I hl.1 mJx4a65c_add_72be8 wd_337 dJx4a65c_add_9ea2d_20 rfl h (fun b h => kJx4a65c_add_72be8 hl0 he h) rfl (Nat.le_of_ble_eq_true rfl) ⟨by decide, by decide⟩ ⟨by decide, by decide⟩ ⟨by decide, by decide⟩ rfl rfl (fun S H locs I h => ?_)
  refine lv_iconst (v := 1) X.1 X.2.1 dJx4a65c_add_9ea2d_23 (by decide) ?_
  exact q_zret X I hr dJx4a65c_add_9ea2d_24 h (by decide) (by decide)

def pX0_init (x0 : Nat) (S : qS) (post : qS → Prop) : Prop :=
  w_newM S (fun q8 S =>
  w_putR S (some x0) 1 0 (some q8) (fun S =>
  w_new S 16 4 (fun q17 S =>
  w_putR S (some x0) 1 1 (some q17) (fun S =>
  w_new S 17 10 (fun q25 S =>
  w_putR S (some x0) 1 2 (some q25) (fun S =>
  post S))))))
set_option maxHeartbeats 4000000 in
set_option maxRecDepth 100000 in
theorem kX0_init {l : Launch} (hl0 : l.stackTraces = false) {G : qG} {S : qS} {sz : Nat} {x0 : Nat} {post : qS → Prop} (h : pX0_init x0 S post) : q_N l yX0_init cX0_init 1 2 8 69 G S sz [va_rf (some x0)] post := by
  refine q_ofN (lv := [(0, va_rf (some x0))]) hl0 (by decide) rfl (Nat.le_of_ble_eq_true rfl) (fun p e s m below meth c A ls X hr hnm I hl => ?_)
  generalize ([va_rf (some x0)] : List Value).toArray = av at X ⊢
  unfold pX0_init at h
  refine q_aload_n X dX0_init_0 rfl (lv_at hl 0 rfl) ?_
  refine q_objInit X hl.1 wd_77 wd_32 wd_33 dX0_init_1 (by decide) (Nat.le_of_ble_eq_true rfl) ?_
  refine q_aload_n X dX0_init_4 rfl (lv_at hl 0 rfl) ?_
  refine lv_iconst (v := 5) X.1 X.2.1 dX0_init_5 (by decide) ?_
  refine lv_bipush (v := 10) X.1 X.2.1 dX0_init_6 (by decide) ?_
  refine q_newM (c1 := 6) (s1 := 55) X I wd_78 wd_96 ⟨by decide, by decide⟩ rfl rfl dX0_init_8 h (fun q8 S H I h => ?_)
  refine q_putR (ci := 1) (k := 0) X I rfl inb_TX0 tyX0_ok nmX0 wd_80 (by decide) (Or.inr ⟨rfl, hnm, rfl⟩) qt_40 (Or.inr ⟨_, rfl⟩) dX0_init_12 h (fun S H locs I h => ?_)
  refine q_aload_n X dX0_init_15 rfl (lv_at hl 0 rfl) ?_
  refine lv_iconst (v := 4) X.1 X.2.1 dX0_init_16 (by decide) ?_
  refine q_newI (k := 16) (N := 4) (c1 := 7) (s1 := 59) X I (by decide) (by decide) wd_97 ⟨by decide, by decide, by decide⟩ ⟨by decide, by decide⟩ rfl rfl dX0_init_17 h (fun q17 S H I h => ?_)
  refine q_putR (ci := 1) (k := 1) X I rfl inb_TX0 tyX0_ok nmX0 wd_81 (by decide) (Or.inr ⟨rfl, hnm, rfl⟩) qt_41 (Or.inr ⟨_, rfl⟩) dX0_init_19 h (fun S H locs I h => ?_)
  refine q_aload_n X dX0_init_22 rfl (lv_at hl 0 rfl) ?_
  refine lv_bipush (v := 10) X.1 X.2.1 dX0_init_23 (by decide) ?_
  refine q_newI (k := 17) (N := 10) (c1 := 8) (s1 := 69) X I (by decide) (by decide) wd_97 ⟨by decide, by decide, by decide⟩ ⟨by decide, by decide⟩ rfl rfl dX0_init_25 h (fun q25 S H I h => ?_)
  refine q_putR (ci := 1) (k := 2) X I rfl inb_TX0 tyX0_ok nmX0 wd_82 (by decide) (Or.inr ⟨rfl, hnm, rfl⟩) qt_42 (Or.inr ⟨_, rfl⟩) dX0_init_27 h (fun S H locs I h => ?_)
  exact q_vretN X I hr dX0_init_30 h (by decide) (by decide)

def pX6_init (x0 : Nat) (S : qS) (g : Nat × Nat) (post : qS → Prop) : Prop :=
  w_new S 0 0 (fun q5 S =>
  pJx4a65c_init_da8c8 q5  S g (fun S =>
  w_putR S (some x0) 7 0 (some q5) (fun S =>
  post S)))
set_option maxHeartbeats 4000000 in
set_option maxRecDepth 100000 in
theorem kX6_init {l : Launch} (hl0 : l.stackTraces = false) {G : qG} {S : qS} {sz : Nat} {x0 : Nat} {post : qS → Prop} {g : Nat × Nat} (he : G.2.2 = g) (h : pX6_init x0 S g post) : q_N l yX6_init cX6_init 1 5 1 3 G S sz [va_rf (some x0)] post := by
  refine q_ofN (lv := [(0, va_rf (some x0))]) hl0 (by decide) rfl (Nat.le_of_ble_eq_true rfl) (fun p e s m below meth c A ls X hr hnm I hl => ?_)
  generalize ([va_rf (some x0)] : List Value).toArray = av at X ⊢
  unfold pX6_init at h
  refine q_aload_n X dX6_init_0 rfl (lv_at hl 0 rfl) ?_
  refine q_objInit X hl.1 wd_65 wd_32 wd_33 dX6_init_1 (by decide) (Nat.le_of_ble_eq_true rfl) ?_
  refine q_aload_n X dX6_init_4 rfl (lv_at hl 0 rfl) ?_
  refine q_new (ci := 0) (c1 := 1) (s1 := 3) X I rfl inb_TJx4a65c tyJx4a65c_ok dv_TJx4a65c wd_66 wd_35 wd_4 ⟨by decide, by decide⟩ rfl rfl dX6_init_5 h (fun q5 S H I h => ?_)
  refine lv_dup X.1 X.2.1 dX6_init_8 (q_cat _) ?_
  refine q_cI (As := []) (rest := [va_rf (some q5), va_rf (some x0)]) (c1 := 1) (s1 := 3) (d := 4) (mc := 0) (ms := 0) X I hl.1 mJx4a65c_init_da8c8.1 mJx4a65c_init_da8c8.2 rfl wd_67 dX6_init_9 rfl (kJx4a65c_init_da8c8 hl0 he h) rfl (Nat.le_of_ble_eq_true rfl) ⟨by decide, by decide⟩ ⟨by decide, by decide⟩ rfl rfl (fun S H locs I h => ?_)
  refine q_putR (ci := 7) (k := 0) X I rfl inb_TX6 tyX6_ok nmX6 wd_68 (by decide) (Or.inr ⟨rfl, hnm, rfl⟩) qt_280 (Or.inl ⟨_, rfl⟩) dX6_init_12 h (fun S H locs I h => ?_)
  exact q_vretN X I hr dX6_init_15 h (by decide) (by decide)

def pX6_add (x0 : Nat) (x1 : Option Nat) (S : qS) (g : Nat × Nat) (post : qS → Prop) (xp : String → qS → Prop) : Prop :=
  w_getR S (some x0) 7 0 (fun v1 =>
  w_at S v1 0 (fun b5 => pJx4a65c_add_9ea2d b5 x1 S g (fun v5 S =>
  post S) xp))
set_option maxHeartbeats 4000000 in
set_option maxRecDepth 100000 in
theorem kX6_add {l : Launch} (hl0 : l.stackTraces = false) {G : qG} {S : qS} {sz : Nat} {x0 : Nat} {x1 : Option Nat} {post : qS → Prop} {xp : String → qS → Prop} {g : Nat × Nat} (he : G.2.2 = g) (h : pX6_add x0 x1 S g post xp) : q_M l yX6_add cX6_add 2 none 8 1 100 G S sz [va_rf (some x0), va_rf x1] (q_Qv G post) xp := by
  refine q_of (lv := [(0, va_rf (some x0)), (1, va_rf x1)]) hl0 (by decide) (by cases x1 <;> rfl) (by cases x1 <;> exact Nat.le_of_ble_eq_true rfl) (fun p e s m below meth c A ls X N hr hnm I hl => ?_)
  generalize ([va_rf (some x0), va_rf x1] : List Value).toArray = av at X ⊢
  unfold pX6_add at h
  refine q_aload_n X dX6_add_0 rfl (lv_at hl 0 rfl) ?_
  refine q_getR (ci := 7) (k := 0) X I rfl inb_TX6 wd_68 (by decide) qt_280 dX6_add_1 h (fun v1 h => ?_)
  refine q_aload_n X dX6_add_4 rfl (lv_at hl 1 rfl) ?_
  refine q_cVi (As := [va_rf x1]) (rest := []) (c1 := 1) (s1 := 100) (d := 7) (mc := 1) (ms := 100) X N I hl.1 mJx4a65c_add_9ea2d wd_583 dX6_add_5 rfl h (fun b h => kJx4a65c_add_9ea2d hl0 he h) rfl (Nat.le_of_ble_eq_true rfl) ⟨by decide, by decide⟩ ⟨by decide, by decide⟩ ⟨by decide, by decide⟩ rfl rfl (fun v5 S H locs I h => ?_)
  refine lv_pop X.1 X.2.1 dX6_add_8 rfl ?_
  exact q_vret X I hr dX6_add_9 h (by decide) (by decide)

def pX7_init (x0 : Nat) (S : qS) (g : Nat × Nat) (post : qS → Prop) : Prop :=
  w_new S 0 0 (fun q5 S =>
  pJx4a65c_init_da8c8 q5  S g (fun S =>
  w_putR S (some x0) 8 0 (some q5) (fun S =>
  w_new S 0 0 (fun q16 S =>
  pJx4a65c_init_da8c8 q16  S g (fun S =>
  w_putR S (some x0) 8 1 (some q16) (fun S =>
  w_new S 0 0 (fun q27 S =>
  pJx4a65c_init_da8c8 q27  S g (fun S =>
  w_putR S (some x0) 8 2 (some q27) (fun S =>
  w_new S 7 0 (fun q38 S =>
  pX6_init q38  S g (fun S =>
  w_putR S (some x0) 8 3 (some q38) (fun S =>
  w_new S 1 0 (fun q49 S =>
  pX0_init q49  S (fun S =>
  w_putR S (some x0) 8 4 (some q49) (fun S =>
  w_new S 15 4 (fun q61 S =>
  w_putR S (some x0) 8 5 (some q61) (fun S =>
  w_new S 18 4 (fun q68 S =>
  w_putR S (some x0) 8 6 (some q68) (fun S =>
  w_new S 19 4 (fun q75 S =>
  w_putR S (some x0) 8 7 (some q75) (fun S =>
  post S)))))))))))))))))))))
set_option maxHeartbeats 4000000 in
set_option maxRecDepth 100000 in
theorem kX7_init {l : Launch} (hl0 : l.stackTraces = false) {G : qG} {S : qS} {sz : Nat} {x0 : Nat} {post : qS → Prop} {g : Nat × Nat} (he : G.2.2 = g) (h : pX7_init x0 S g post) : q_N l yX7_init cX7_init 1 6 17 99 G S sz [va_rf (some x0)] post := by
  refine q_ofN (lv := [(0, va_rf (some x0))]) hl0 (by decide) rfl (Nat.le_of_ble_eq_true rfl) (fun p e s m below meth c A ls X hr hnm I hl => ?_)
  generalize ([va_rf (some x0)] : List Value).toArray = av at X ⊢
  unfold pX7_init at h
  refine q_aload_n X dX7_init_0 rfl (lv_at hl 0 rfl) ?_
  refine q_objInit X hl.1 wd_31 wd_32 wd_33 dX7_init_1 (by decide) (Nat.le_of_ble_eq_true rfl) ?_
  refine q_aload_n X dX7_init_4 rfl (lv_at hl 0 rfl) ?_
  refine q_new (ci := 0) (c1 := 1) (s1 := 3) X I rfl inb_TJx4a65c tyJx4a65c_ok dv_TJx4a65c wd_34 wd_35 wd_4 ⟨by decide, by decide⟩ rfl rfl dX7_init_5 h (fun q5 S H I h => ?_)
  refine lv_dup X.1 X.2.1 dX7_init_8 (q_cat _) ?_
  refine q_cI (As := []) (rest := [va_rf (some q5), va_rf (some x0)]) (c1 := 1) (s1 := 3) (d := 4) (mc := 0) (ms := 0) X I hl.1 mJx4a65c_init_da8c8.1 mJx4a65c_init_da8c8.2 rfl wd_36 dX7_init_9 rfl (kJx4a65c_init_da8c8 hl0 he h) rfl (Nat.le_of_ble_eq_true rfl) ⟨by decide, by decide⟩ ⟨by decide, by decide⟩ rfl rfl (fun S H locs I h => ?_)
  refine q_putR (ci := 8) (k := 0) X I rfl inb_TX7 tyX7_ok nmX7 wd_98 (by decide) (Or.inr ⟨rfl, hnm, rfl⟩) qt_320 (Or.inl ⟨_, rfl⟩) dX7_init_12 h (fun S H locs I h => ?_)
  refine q_aload_n X dX7_init_15 rfl (lv_at hl 0 rfl) ?_
  refine q_new (ci := 0) (c1 := 2) (s1 := 6) X I rfl inb_TJx4a65c tyJx4a65c_ok dv_TJx4a65c wd_34 wd_35 wd_4 ⟨by decide, by decide⟩ rfl rfl dX7_init_16 h (fun q16 S H I h => ?_)
  refine lv_dup X.1 X.2.1 dX7_init_19 (q_cat _) ?_
  refine q_cI (As := []) (rest := [va_rf (some q16), va_rf (some x0)]) (c1 := 2) (s1 := 6) (d := 4) (mc := 0) (ms := 0) X I hl.1 mJx4a65c_init_da8c8.1 mJx4a65c_init_da8c8.2 rfl wd_36 dX7_init_20 rfl (kJx4a65c_init_da8c8 hl0 he h) rfl (Nat.le_of_ble_eq_true rfl) ⟨by decide, by decide⟩ ⟨by decide, by decide⟩ rfl rfl (fun S H locs I h => ?_)
  refine q_putR (ci := 8) (k := 1) X I rfl inb_TX7 tyX7_ok nmX7 wd_99 (by decide) (Or.inr ⟨rfl, hnm, rfl⟩) qt_321 (Or.inl ⟨_, rfl⟩) dX7_init_23 h (fun S H locs I h => ?_)
  refine q_aload_n X dX7_init_26 rfl (lv_at hl 0 rfl) ?_
  refine q_new (ci := 0) (c1 := 3) (s1 := 9) X I rfl inb_TJx4a65c tyJx4a65c_ok dv_TJx4a65c wd_34 wd_35 wd_4 ⟨by decide, by decide⟩ rfl rfl dX7_init_27 h (fun q27 S H I h => ?_)
  refine lv_dup X.1 X.2.1 dX7_init_30 (q_cat _) ?_
  refine q_cI (As := []) (rest := [va_rf (some q27), va_rf (some x0)]) (c1 := 3) (s1 := 9) (d := 4) (mc := 0) (ms := 0) X I hl.1 mJx4a65c_init_da8c8.1 mJx4a65c_init_da8c8.2 rfl wd_36 dX7_init_31 rfl (kJx4a65c_init_da8c8 hl0 he h) rfl (Nat.le_of_ble_eq_true rfl) ⟨by decide, by decide⟩ ⟨by decide, by decide⟩ rfl rfl (fun S H locs I h => ?_)
  refine q_putR (ci := 8) (k := 2) X I rfl inb_TX7 tyX7_ok nmX7 wd_100 (by decide) (Or.inr ⟨rfl, hnm, rfl⟩) qt_322 (Or.inl ⟨_, rfl⟩) dX7_init_34 h (fun S H locs I h => ?_)
  refine q_aload_n X dX7_init_37 rfl (lv_at hl 0 rfl) ?_
  refine q_new (ci := 7) (c1 := 4) (s1 := 10) X I rfl inb_TX6 tyX6_ok dv_TX6 wd_60 wd_61 wd_5 ⟨by decide, by decide⟩ rfl rfl dX7_init_38 h (fun q38 S H I h => ?_)
  refine lv_dup X.1 X.2.1 dX7_init_41 (q_cat _) ?_
  refine q_cIN (As := []) (rest := [va_rf (some q38), va_rf (some x0)]) (c1 := 5) (s1 := 13) (d := 5) (mc := 1) (ms := 3) X I hl.1 mX6_init.1 mX6_init.2 rfl (by decide +kernel) dX7_init_42 rfl (kX6_init hl0 he h) rfl (Nat.le_of_ble_eq_true rfl) ⟨by decide, by decide⟩ ⟨by decide, by decide⟩ rfl rfl (fun S H locs I h => ?_)
  refine q_putR (ci := 8) (k := 3) X I rfl inb_TX7 tyX7_ok nmX7 wd_101 (by decide) (Or.inr ⟨rfl, hnm, rfl⟩) qt_323 (Or.inl ⟨_, rfl⟩) dX7_init_45 h (fun S H locs I h => ?_)
  refine q_aload_n X dX7_init_48 rfl (lv_at hl 0 rfl) ?_
  refine q_new (ci := 1) (c1 := 6) (s1 := 18) X I rfl inb_TX0 tyX0_ok dv_TX0 wd_72 wd_73 wd_6 ⟨by decide, by decide⟩ rfl rfl dX7_init_49 h (fun q49 S H I h => ?_)
  refine lv_dup X.1 X.2.1 dX7_init_52 (q_cat _) ?_
  refine q_cIN (As := []) (rest := [va_rf (some q49), va_rf (some x0)]) (c1 := 14) (s1 := 87) (d := 2) (mc := 8) (ms := 69) X I hl.1 mX0_init.1 mX0_init.2 rfl (by decide +kernel) dX7_init_53 rfl (kX0_init hl0 h) rfl (Nat.le_of_ble_eq_true rfl) ⟨by decide, by decide⟩ ⟨by decide, by decide⟩ rfl rfl (fun S H locs I h => ?_)
  refine q_putR (ci := 8) (k := 4) X I rfl inb_TX7 tyX7_ok nmX7 wd_102 (by decide) (Or.inr ⟨rfl, hnm, rfl⟩) qt_324 (Or.inl ⟨_, rfl⟩) dX7_init_56 h (fun S H locs I h => ?_)
  refine q_aload_n X dX7_init_59 rfl (lv_at hl 0 rfl) ?_
  refine lv_iconst (v := 4) X.1 X.2.1 dX7_init_60 (by decide) ?_
  refine q_newI (k := 15) (N := 4) (c1 := 15) (s1 := 91) X I (by decide) (by decide) wd_97 ⟨by decide, by decide, by decide⟩ ⟨by decide, by decide⟩ rfl rfl dX7_init_61 h (fun q61 S H I h => ?_)
  refine q_putR (ci := 8) (k := 5) X I rfl inb_TX7 tyX7_ok nmX7 wd_103 (by decide) (Or.inr ⟨rfl, hnm, rfl⟩) qt_325 (Or.inr ⟨_, rfl⟩) dX7_init_63 h (fun S H locs I h => ?_)
  refine q_aload_n X dX7_init_66 rfl (lv_at hl 0 rfl) ?_
  refine lv_iconst (v := 4) X.1 X.2.1 dX7_init_67 (by decide) ?_
  refine q_newJ (k := 18) (N := 4) (c1 := 16) (s1 := 95) X I (by decide) (by decide) wd_96 ⟨by decide, by decide, by decide⟩ ⟨by decide, by decide⟩ rfl rfl dX7_init_68 h (fun q68 S H I h => ?_)
  refine q_putR (ci := 8) (k := 6) X I rfl inb_TX7 tyX7_ok nmX7 wd_104 (by decide) (Or.inr ⟨rfl, hnm, rfl⟩) qt_326 (Or.inr ⟨_, rfl⟩) dX7_init_70 h (fun S H locs I h => ?_)
  refine q_aload_n X dX7_init_73 rfl (lv_at hl 0 rfl) ?_
  refine lv_iconst (v := 4) X.1 X.2.1 dX7_init_74 (by decide) ?_
  refine q_newJ (k := 19) (N := 4) (c1 := 17) (s1 := 99) X I (by decide) (by decide) wd_96 ⟨by decide, by decide, by decide⟩ ⟨by decide, by decide⟩ rfl rfl dX7_init_75 h (fun q75 S H I h => ?_)
  refine q_putR (ci := 8) (k := 7) X I rfl inb_TX7 tyX7_ok nmX7 wd_105 (by decide) (Or.inr ⟨rfl, hnm, rfl⟩) qt_327 (Or.inr ⟨_, rfl⟩) dX7_init_77 h (fun S H locs I h => ?_)
  exact q_vretN X I hr dX7_init_80 h (by decide) (by decide)

def pX7_player (x0 : Nat) (S : qS) (g : Nat × Nat) (post : Int32 → qS → Prop) (xp : String → qS → Prop) : Prop :=
  w_getR S (some x0) 8 0 (fun v1 =>
  w_at S v1 0 (fun b4 => pJx4a65c_size_8abf5 b4  S (fun v4 S =>
  ((v4 < (10 : Int32) →
  w_getR S (some x0) 8 0 (fun v25 =>
  w_new S 3 0 (fun q28 S =>
  pX2_init q28 v4 S (fun S =>
  w_at S v25 0 (fun b36 => pJx4a65c_add_9ea2d b36 (some q28) S g (fun v36 S =>
  post v4 S) xp))))) ∧ (¬ v4 < (10 : Int32) →
  xp "java/lang/UnsupportedOperationException" S))) xp))
set_option maxHeartbeats 4000000 in
set_option maxRecDepth 100000 in
theorem kX7_player {l : Launch} (hl0 : l.stackTraces = false) {G : qG} {S : qS} {sz : Nat} {x0 : Nat} {post : Int32 → qS → Prop} {xp : String → qS → Prop} {g : Nat × Nat} (he : G.2.2 = g) (h : pX7_player x0 S g post xp) : q_M l yX7_player cX7_player 2 (some .int) 8 3 108 G S sz [va_rf (some x0)] (q_Qi G post) xp := by
  refine q_of (lv := [(0, va_rf (some x0))]) hl0 (by decide) rfl (Nat.le_of_ble_eq_true rfl) (fun p e s m below meth c A ls X N hr hnm I hl => ?_)
  generalize ([va_rf (some x0)] : List Value).toArray = av at X ⊢
  unfold pX7_player at h
  refine q_aload_n X dX7_player_0 rfl (lv_at hl 0 rfl) ?_
  refine q_getR (ci := 8) (k := 0) X I rfl inb_TX7 wd_98 (by decide) qt_320 dX7_player_1 h (fun v1 h => ?_)
  refine q_cVi (As := []) (rest := []) (c1 := 0) (s1 := 0) (d := 1) (mc := 0) (ms := 0) X N I hl.1 mJx4a65c_size_8abf5 wd_137 dX7_player_4 rfl h (fun b h => kJx4a65c_size_8abf5 hl0 h) rfl (Nat.le_of_ble_eq_true rfl) ⟨by decide, by decide⟩ ⟨by decide, by decide⟩ ⟨by decide, by decide⟩ rfl rfl (fun v4 S H locs I h => ?_)
  refine lv_istore_n (i := 1) (lv' := [(1, .int v4), (0, va_rf (some x0))]) X.1 X.2.1 dX7_player_7 rfl hl (by decide) rfl (fun ls hl => ?_)
  refine lv_iload_n X.1 X.2.1 dX7_player_8 rfl (lv_at hl 0 rfl) ?_
  refine lv_bipush (v := 10) X.1 X.2.1 dX7_player_9 (by decide) ?_
  refine lv_icmp_lt (tgt := 24) X.1 X.2.1 dX7_player_11 (by decide) (fun c11 => ?_) (fun c11 => ?_)
  · have h := h.1 c11
    refine q_aload_n X dX7_player_24 rfl (lv_at hl 1 rfl) ?_
    refine q_getR (ci := 8) (k := 0) X I rfl inb_TX7 wd_98 (by decide) qt_320 dX7_player_25 h (fun v25 h => ?_)
    refine q_new (ci := 3) (c1 := 1) (s1 := 4) X I rfl inb_TX2 tyX2_ok dv_TX2 wd_310 wd_311 wd_12 ⟨by decide, by decide⟩ rfl rfl dX7_player_28 h (fun q28 S H I h => ?_)
    refine lv_dup X.1 X.2.1 dX7_player_31 (q_cat _) ?_
    refine lv_iload_n X.1 X.2.1 dX7_player_32 rfl (lv_at hl 0 rfl) ?_
    refine q_cI (As := [.int v4]) (rest := [va_rf (some q28), va_rf v25]) (c1 := 2) (s1 := 8) (d := 2) (mc := 1) (ms := 4) X I hl.1 mX2_init.1 mX2_init.2 rfl wd_312 dX7_player_33 rfl (kX2_init hl0 h) rfl (by simp [q_cat, q_catI, q_catJ]) ⟨by decide, by decide⟩ ⟨by decide, by decide⟩ rfl rfl (fun S H locs I h => ?_)
    refine q_cVi (As := [va_rf (some q28)]) (rest := []) (c1 := 3) (s1 := 108) (d := 7) (mc := 1) (ms := 100) X N I hl.1 mJx4a65c_add_9ea2d wd_333 dX7_player_36 rfl h (fun b h => kJx4a65c_add_9ea2d hl0 he h) rfl (Nat.le_of_ble_eq_true rfl) ⟨by decide, by decide⟩ ⟨by decide, by decide⟩ ⟨by decide, by decide⟩ rfl rfl (fun v36 S H locs I h => ?_)
    refine lv_pop X.1 X.2.1 dX7_player_39 rfl ?_
    refine lv_iload_n X.1 X.2.1 dX7_player_40 rfl (lv_at hl 0 rfl) ?_
    exact q_iret X I hr dX7_player_41 h (by decide) (by decide)
  · have h := h.2 c11
    exact q_throw (text := "there are 10 players") (R := q_rm 8 3 108) (cells := 0) (slots := 0) (mcQ := 3) (msQ := 108) (rest := []) X N I hl.1 th_RX7_55.1 th_RX7_55.2.1 wd_241 wd_11 (by decide) th_RX7_55.2.2.1 th_RX7_55.2.2.2.1 (th_RX7_55.2.2.2.2 _ rfl) dX7_player_14 dX7_player_17 dX7_player_18 dX7_player_20 dX7_player_23 (by decide) (Nat.le_of_ble_eq_true rfl) ⟨by decide, by decide⟩ ⟨by decide, by decide⟩ h

def pX7_rule (x0 : Nat) (x1 : Int32) (S : qS) (g : Nat × Nat) (post : Int32 → qS → Prop) (xp : String → qS → Prop) : Prop :=
  w_getR S (some x0) 8 1 (fun v1 =>
  w_at S v1 0 (fun b4 => pJx4a65c_size_8abf5 b4  S (fun v4 S =>
  ((v4 < (10 : Int32) →
  w_getR S (some x0) 8 1 (fun v25 =>
  w_new S 4 0 (fun q28 S =>
  pX3_init q28 x1 S (fun S =>
  w_at S v25 0 (fun b36 => pJx4a65c_add_9ea2d b36 (some q28) S g (fun v36 S =>
  post v4 S) xp))))) ∧ (¬ v4 < (10 : Int32) →
  xp "java/lang/UnsupportedOperationException" S))) xp))
set_option maxHeartbeats 4000000 in
set_option maxRecDepth 100000 in
theorem kX7_rule {l : Launch} (hl0 : l.stackTraces = false) {G : qG} {S : qS} {sz : Nat} {x0 : Nat} {x1 : Int32} {post : Int32 → qS → Prop} {xp : String → qS → Prop} {g : Nat × Nat} (he : G.2.2 = g) (h : pX7_rule x0 x1 S g post xp) : q_M l yX7_rule cX7_rule 3 (some .int) 8 4 112 G S sz [va_rf (some x0), .int x1] (q_Qi G post) xp := by
  refine q_of (lv := [(0, va_rf (some x0)), (1, .int x1)]) hl0 (by decide) rfl (Nat.le_of_ble_eq_true rfl) (fun p e s m below meth c A ls X N hr hnm I hl => ?_)
  generalize ([va_rf (some x0), .int x1] : List Value).toArray = av at X ⊢
  unfold pX7_rule at h
  refine q_aload_n X dX7_rule_0 rfl (lv_at hl 0 rfl) ?_
  refine q_getR (ci := 8) (k := 1) X I rfl inb_TX7 wd_99 (by decide) qt_321 dX7_rule_1 h (fun v1 h => ?_)
  refine q_cVi (As := []) (rest := []) (c1 := 0) (s1 := 0) (d := 1) (mc := 0) (ms := 0) X N I hl.1 mJx4a65c_size_8abf5 wd_137 dX7_rule_4 rfl h (fun b h => kJx4a65c_size_8abf5 hl0 h) rfl (Nat.le_of_ble_eq_true rfl) ⟨by decide, by decide⟩ ⟨by decide, by decide⟩ ⟨by decide, by decide⟩ rfl rfl (fun v4 S H locs I h => ?_)
  refine lv_istore_n (i := 2) (lv' := [(2, .int v4), (0, va_rf (some x0)), (1, .int x1)]) X.1 X.2.1 dX7_rule_7 rfl hl (by decide) rfl (fun ls hl => ?_)
  refine lv_iload_n X.1 X.2.1 dX7_rule_8 rfl (lv_at hl 0 rfl) ?_
  refine lv_bipush (v := 10) X.1 X.2.1 dX7_rule_9 (by decide) ?_
  refine lv_icmp_lt (tgt := 24) X.1 X.2.1 dX7_rule_11 (by decide) (fun c11 => ?_) (fun c11 => ?_)
  · have h := h.1 c11
    refine q_aload_n X dX7_rule_24 rfl (lv_at hl 1 rfl) ?_
    refine q_getR (ci := 8) (k := 1) X I rfl inb_TX7 wd_99 (by decide) qt_321 dX7_rule_25 h (fun v25 h => ?_)
    refine q_new (ci := 4) (c1 := 1) (s1 := 4) X I rfl inb_TX3 tyX3_ok dv_TX3 wd_155 wd_402 wd_17 ⟨by decide, by decide⟩ rfl rfl dX7_rule_28 h (fun q28 S H I h => ?_)
    refine lv_dup X.1 X.2.1 dX7_rule_31 (q_cat _) ?_
    refine lv_iload_n X.1 X.2.1 dX7_rule_32 rfl (lv_at hl 2 rfl) ?_
    refine q_cI (As := [.int x1]) (rest := [va_rf (some q28), va_rf v25]) (c1 := 3) (s1 := 12) (d := 2) (mc := 2) (ms := 8) X I hl.1 mX3_init.1 mX3_init.2 rfl wd_403 dX7_rule_33 rfl (kX3_init hl0 h) rfl (by simp [q_cat, q_catI, q_catJ]) ⟨by decide, by decide⟩ ⟨by decide, by decide⟩ rfl rfl (fun S H locs I h => ?_)
    refine q_cVi (As := [va_rf (some q28)]) (rest := []) (c1 := 4) (s1 := 112) (d := 7) (mc := 1) (ms := 100) X N I hl.1 mJx4a65c_add_9ea2d wd_333 dX7_rule_36 rfl h (fun b h => kJx4a65c_add_9ea2d hl0 he h) rfl (Nat.le_of_ble_eq_true rfl) ⟨by decide, by decide⟩ ⟨by decide, by decide⟩ ⟨by decide, by decide⟩ rfl rfl (fun v36 S H locs I h => ?_)
    refine lv_pop X.1 X.2.1 dX7_rule_39 rfl ?_
    refine lv_iload_n X.1 X.2.1 dX7_rule_40 rfl (lv_at hl 0 rfl) ?_
    exact q_iret X I hr dX7_rule_41 h (by decide) (by decide)
  · have h := h.2 c11
    exact q_throw (text := "there are 10 rules") (R := q_rm 8 4 112) (cells := 0) (slots := 0) (mcQ := 4) (msQ := 112) (rest := []) X N I hl.1 th_RX7_55.1 th_RX7_55.2.1 wd_241 wd_11 (by decide) th_RX7_55.2.2.1 th_RX7_55.2.2.2.1 (th_RX7_55.2.2.2.2 _ rfl) dX7_rule_14 dX7_rule_17 dX7_rule_18 dX7_rule_20 dX7_rule_23 (by decide) (Nat.le_of_ble_eq_true rfl) ⟨by decide, by decide⟩ ⟨by decide, by decide⟩ h

def pX7_single (x0 : Nat) (x1 : Int32) (x2 : Int32) (x3 : Int32) (S : qS) (g : Nat × Nat) (post : Int32 → qS → Prop) (xp : String → qS → Prop) : Prop :=
  w_at S (some x0) 8 (fun b2 => pX7_playerAt b2 x1 S (fun v2 S =>
  pX7_checkRange x3 (0 : Int32) (8 : Int32) S (fun S =>
  w_getR S (some x0) 8 3 (fun v15 =>
  w_at S v15 7 (fun b18 => pX6_size b18  S (fun v18 S =>
  ((v18 < (40 : Int32) →
  w_new S 6 0 (fun q40 S =>
  pX5_init q40 v18 x2 x3 S (fun S =>
  w_getI S (some x0) 8 9 (fun v58 =>
  w_at S (some q40) 6 (fun b61 => pX5_passTo b61 v2 v58 S (fun S =>
  w_getR S (some x0) 8 3 (fun v65 =>
  w_at S v65 7 (fun b70 => pX6_add b70 (some q40) S g (fun S =>
  post v18 S) xp))) xp))))) ∧ (¬ v18 < (40 : Int32) →
  xp "java/lang/UnsupportedOperationException" S))) xp))) xp) xp)
set_option maxHeartbeats 4000000 in
set_option maxRecDepth 100000 in
theorem kX7_single {l : Launch} (hl0 : l.stackTraces = false) {G : qG} {S : qS} {sz : Nat} {x0 : Nat} {x1 : Int32} {x2 : Int32} {x3 : Int32} {post : Int32 → qS → Prop} {xp : String → qS → Prop} {g : Nat × Nat} (he : G.2.2 = g) (h : pX7_single x0 x1 x2 x3 S g post xp) : q_M l yX7_single cX7_single 7 (some .int) 9 6 183 G S sz [va_rf (some x0), .int x1, .int x2, .int x3] (q_Qi G post) xp := by
  refine q_of (lv := [(0, va_rf (some x0)), (1, .int x1), (2, .int x2), (3, .int x3)]) hl0 (by decide) rfl (Nat.le_of_ble_eq_true rfl) (fun p e s m below meth c A ls X N hr hnm I hl => ?_)
  generalize ([va_rf (some x0), .int x1, .int x2, .int x3] : List Value).toArray = av at X ⊢
  unfold pX7_single at h
  refine q_aload_n X dX7_single_0 rfl (lv_at hl 0 rfl) ?_
  refine lv_iload_n X.1 X.2.1 dX7_single_1 rfl (lv_at hl 1 rfl) ?_
  refine q_cVr (As := [.int x1]) (rest := []) (c1 := 1) (s1 := 6) (d := 6) (mc := 1) (ms := 6) X N I hl.1 mX7_playerAt wd_483 dX7_single_2 rfl h (fun b h => kX7_playerAt hl0 h) rfl (Nat.le_of_ble_eq_true rfl) ⟨by decide, by decide⟩ ⟨by decide, by decide⟩ ⟨by decide, by decide⟩ rfl rfl (fun v2 S H locs I h => ?_)
  refine q_astore (i := 4) (lv' := [(4, va_rf v2), (0, va_rf (some x0)), (1, .int x1), (2, .int x2), (3, .int x3)]) X dX7_single_5 hl (by decide) rfl (fun ls hl => ?_)
  refine lv_iload_n X.1 X.2.1 dX7_single_7 rfl (lv_at hl 4 rfl) ?_
  refine lv_iconst (v := 0) X.1 X.2.1 dX7_single_8 (by decide) ?_
  refine lv_bipush (v := 8) X.1 X.2.1 dX7_single_9 (by decide) ?_
  refine q_cSv (As := [.int x3, .int (0 : Int32), .int (8 : Int32)]) (rest := []) (c1 := 2) (s1 := 12) (d := 6) (mc := 1) (ms := 6) X N I hl.1 mX7_checkRange wd_457 dX7_single_11 rfl (kX7_checkRange hl0 h) rfl (Nat.le_of_ble_eq_true rfl) ⟨by decide, by decide⟩ ⟨by decide, by decide⟩ ⟨by decide, by decide⟩ rfl rfl (fun S H locs I h => ?_)
  refine q_aload_n X dX7_single_14 rfl (lv_at hl 1 rfl) ?_
  refine q_getR (ci := 8) (k := 3) X I rfl inb_TX7 wd_101 (by decide) qt_323 dX7_single_15 h (fun v15 h => ?_)
  refine q_cVi (As := []) (rest := []) (c1 := 2) (s1 := 12) (d := 2) (mc := 0) (ms := 0) X N I hl.1 mX6_size wd_205 dX7_single_18 rfl h (fun b h => kX6_size hl0 h) rfl (Nat.le_of_ble_eq_true rfl) ⟨by decide, by decide⟩ ⟨by decide, by decide⟩ ⟨by decide, by decide⟩ rfl rfl (fun v18 S H locs I h => ?_)
  refine lv_istore (i := 5) (lv' := [(5, .int v18), (4, va_rf v2), (0, va_rf (some x0)), (1, .int x1), (2, .int x2), (3, .int x3)]) X.1 X.2.1 dX7_single_21 hl (by decide) (by simp [q_cat, q_catI, q_catJ]) (fun ls hl => ?_)
  refine lv_iload X.1 X.2.1 dX7_single_23 (lv_at hl 0 rfl) ?_
  refine lv_bipush (v := 40) X.1 X.2.1 dX7_single_25 (by decide) ?_
  refine lv_icmp_lt (tgt := 40) X.1 X.2.1 dX7_single_27 (by decide) (fun c27 => ?_) (fun c27 => ?_)
  · have h := h.1 c27
    refine q_new (ci := 6) (c1 := 3) (s1 := 23) X I rfl inb_TX5 tyX5_ok dv_TX5 wd_520 wd_521 wd_22 ⟨by decide, by decide⟩ rfl rfl dX7_single_40 h (fun q40 S H I h => ?_)
    refine lv_dup X.1 X.2.1 dX7_single_43 (q_cat _) ?_
    refine lv_iload X.1 X.2.1 dX7_single_44 (lv_at hl 0 rfl) ?_
    refine lv_iload_n X.1 X.2.1 dX7_single_46 rfl (lv_at hl 4 rfl) ?_
    refine lv_iload_n X.1 X.2.1 dX7_single_47 rfl (lv_at hl 5 rfl) ?_
    refine q_cI (As := [.int v18, .int x2, .int x3]) (rest := [va_rf (some q40)]) (c1 := 5) (s1 := 83) (d := 2) (mc := 2) (ms := 60) X I hl.1 mX5_init.1 mX5_init.2 rfl wd_522 dX7_single_48 rfl (kX5_init hl0 h) rfl (Nat.le_of_ble_eq_true rfl) ⟨by decide, by decide⟩ ⟨by decide, by decide⟩ rfl rfl (fun S H locs I h => ?_)
    refine q_astore (i := 6) (lv' := [(6, va_rf (some q40)), (5, .int v18), (4, va_rf v2), (0, va_rf (some x0)), (1, .int x1), (2, .int x2), (3, .int x3)]) X dX7_single_51 hl (by decide) rfl (fun ls hl => ?_)
    refine q_aload X dX7_single_53 (lv_at hl 0 rfl) ?_
    refine q_aload X dX7_single_55 (lv_at hl 2 rfl) ?_
    refine q_aload_n X dX7_single_57 rfl (lv_at hl 3 rfl) ?_
    refine q_getI (ci := 8) (k := 9) X I rfl inb_TX7 wd_107 (by decide) qt_329 dX7_single_58 h (fun v58 h => ?_)
    refine q_cVv (As := [va_rf v2, .int v58]) (rest := []) (c1 := 5) (s1 := 83) (d := 1) (mc := 0) (ms := 0) X N I hl.1 mX5_passTo wd_575 dX7_single_61 rfl h (fun b h => kX5_passTo hl0 h) rfl (Nat.le_of_ble_eq_true rfl) ⟨by decide, by decide⟩ ⟨by decide, by decide⟩ ⟨by decide, by decide⟩ rfl rfl (fun S H locs I h => ?_)
    refine q_aload_n X dX7_single_64 rfl (lv_at hl 3 rfl) ?_
    refine q_getR (ci := 8) (k := 3) X I rfl inb_TX7 wd_101 (by decide) qt_323 dX7_single_65 h (fun v65 h => ?_)
    refine q_aload X dX7_single_68 (lv_at hl 0 rfl) ?_
    refine q_cVv (As := [va_rf (some q40)]) (rest := []) (c1 := 6) (s1 := 183) (d := 8) (mc := 1) (ms := 100) X N I hl.1 mX6_add wd_579 dX7_single_70 rfl h (fun b h => kX6_add hl0 he h) rfl (Nat.le_of_ble_eq_true rfl) ⟨by decide, by decide⟩ ⟨by decide, by decide⟩ ⟨by decide, by decide⟩ rfl rfl (fun S H locs I h => ?_)
    refine lv_iload X.1 X.2.1 dX7_single_73 (lv_at hl 1 rfl) ?_
    exact q_iret X I hr dX7_single_75 h (by decide) (by decide)
  · have h := h.2 c27
    exact q_throw (text := "there are 40 singles") (R := q_rm 9 6 183) (cells := 2) (slots := 12) (mcQ := 6) (msQ := 183) (rest := []) X N I hl.1 th_RX7_55.1 th_RX7_55.2.1 wd_241 wd_11 (by decide) th_RX7_55.2.2.1 th_RX7_55.2.2.2.1 (th_RX7_55.2.2.2.2 _ rfl) dX7_single_30 dX7_single_33 dX7_single_34 dX7_single_36 dX7_single_39 (by decide) (Nat.le_of_ble_eq_true rfl) ⟨by decide, by decide⟩ ⟨by decide, by decide⟩ h

def pX7_offer (x0 : Nat) (x1 : Int32) (x2 : Int32) (x3 : Int32) (x4 : Int32) (x5 : Int32) (x6 : Int32) (x7 : Int32) (x8 : Int32) (S : qS) (g : Nat × Nat) (post : Int32 → qS → Prop) (xp : String → qS → Prop) : Prop :=
  w_at S (some x0) 8 (fun b7 => pX7_sideOf b7 x1 x3 x4 x5 S (fun v7 S =>
  w_at S (some x0) 8 (fun b20 => pX7_sideOf b20 x2 x6 x7 x8 S (fun v20 S =>
  ((¬ x1 = x2 →
  pX7_checkRange x3 (0 : Int32) (1000000 : Int32) S (fun S =>
  pX7_checkRange x6 (0 : Int32) (1000000 : Int32) S (fun S =>
  w_getR S (some x0) 8 2 (fun v56 =>
  w_at S v56 0 (fun b59 => pJx4a65c_size_8abf5 b59  S (fun v59 S =>
  ((v59 < (60 : Int32) →
  w_getR S (some x0) 8 2 (fun v82 =>
  w_new S 2 0 (fun q85 S =>
  pX1_init q85 v7 v20 S (fun S =>
  w_at S v82 0 (fun b96 => pJx4a65c_add_9ea2d b96 (some q85) S g (fun v96 S =>
  post v59 S) xp))))) ∧ (¬ v59 < (60 : Int32) →
  xp "java/lang/UnsupportedOperationException" S))) xp))) xp) xp) ∧ (x1 = x2 →
  xp "java/lang/IllegalArgumentException" S))) xp)) xp)
set_option maxHeartbeats 4000000 in
set_option maxRecDepth 100000 in
theorem kX7_offer {l : Launch} (hl0 : l.stackTraces = false) {G : qG} {S : qS} {sz : Nat} {x0 : Nat} {x1 : Int32} {x2 : Int32} {x3 : Int32} {x4 : Int32} {x5 : Int32} {x6 : Int32} {x7 : Int32} {x8 : Int32} {post : Int32 → qS → Prop} {xp : String → qS → Prop} {g : Nat × Nat} (he : G.2.2 = g) (h : pX7_offer x0 x1 x2 x3 x4 x5 x6 x7 x8 S g post xp) : q_M l yX7_offer cX7_offer 12 (some .int) 8 12 161 G S sz [va_rf (some x0), .int x1, .int x2, .int x3, .int x4, .int x5, .int x6, .int x7, .int x8] (q_Qi G post) xp := by
  refine q_of (lv := [(0, va_rf (some x0)), (1, .int x1), (2, .int x2), (3, .int x3), (4, .int x4), (5, .int x5), (6, .int x6), (7, .int x7), (8, .int x8)]) hl0 (by decide) rfl (Nat.le_of_ble_eq_true rfl) (fun p e s m below meth c A ls X N hr hnm I hl => ?_)
  generalize ([va_rf (some x0), .int x1, .int x2, .int x3, .int x4, .int x5, .int x6, .int x7, .int x8] : List Value).toArray = av at X ⊢
  unfold pX7_offer at h
  refine q_aload_n X dX7_offer_0 rfl (lv_at hl 0 rfl) ?_
  refine lv_iload_n X.1 X.2.1 dX7_offer_1 rfl (lv_at hl 1 rfl) ?_
  refine lv_iload_n X.1 X.2.1 dX7_offer_2 rfl (lv_at hl 3 rfl) ?_
  refine lv_iload X.1 X.2.1 dX7_offer_3 (lv_at hl 4 rfl) ?_
  refine lv_iload X.1 X.2.1 dX7_offer_5 (lv_at hl 5 rfl) ?_
  refine q_cVr (As := [.int x1, .int x3, .int x4, .int x5]) (rest := []) (c1 := 4) (s1 := 23) (d := 7) (mc := 4) (ms := 23) X N I hl.1 mX7_sideOf wd_723 dX7_offer_7 rfl h (fun b h => kX7_sideOf hl0 h) rfl (Nat.le_of_ble_eq_true rfl) ⟨by decide, by decide⟩ ⟨by decide, by decide⟩ ⟨by decide, by decide⟩ rfl rfl (fun v7 S H locs I h => ?_)
  refine q_astore (i := 9) (lv' := [(9, va_rf v7), (0, va_rf (some x0)), (1, .int x1), (2, .int x2), (3, .int x3), (4, .int x4), (5, .int x5), (6, .int x6), (7, .int x7), (8, .int x8)]) X dX7_offer_10 hl (by decide) rfl (fun ls hl => ?_)
  refine q_aload_n X dX7_offer_12 rfl (lv_at hl 1 rfl) ?_
  refine lv_iload_n X.1 X.2.1 dX7_offer_13 rfl (lv_at hl 3 rfl) ?_
  refine lv_iload X.1 X.2.1 dX7_offer_14 (lv_at hl 7 rfl) ?_
  refine lv_iload X.1 X.2.1 dX7_offer_16 (lv_at hl 8 rfl) ?_
  refine lv_iload X.1 X.2.1 dX7_offer_18 (lv_at hl 9 rfl) ?_
  refine q_cVr (As := [.int x2, .int x6, .int x7, .int x8]) (rest := []) (c1 := 8) (s1 := 46) (d := 7) (mc := 4) (ms := 23) X N I hl.1 mX7_sideOf wd_723 dX7_offer_20 rfl h (fun b h => kX7_sideOf hl0 h) rfl (Nat.le_of_ble_eq_true rfl) ⟨by decide, by decide⟩ ⟨by decide, by decide⟩ ⟨by decide, by decide⟩ rfl rfl (fun v20 S H locs I h => ?_)
  refine q_astore (i := 10) (lv' := [(10, va_rf v20), (9, va_rf v7), (0, va_rf (some x0)), (1, .int x1), (2, .int x2), (3, .int x3), (4, .int x4), (5, .int x5), (6, .int x6), (7, .int x7), (8, .int x8)]) X dX7_offer_23 hl (by decide) (by simp [q_cat, q_catI, q_catJ]) (fun ls hl => ?_)
  refine lv_iload_n X.1 X.2.1 dX7_offer_25 rfl (lv_at hl 3 rfl) ?_
  refine lv_iload_n X.1 X.2.1 dX7_offer_26 rfl (lv_at hl 4 rfl) ?_
  refine lv_icmp_ne (tgt := 40) X.1 X.2.1 dX7_offer_27 (by decide) (fun c27 => ?_) (fun c27 => ?_)
  · have h := h.1 c27
    refine lv_iload_n X.1 X.2.1 dX7_offer_40 rfl (lv_at hl 5 rfl) ?_
    refine lv_iconst (v := 0) X.1 X.2.1 dX7_offer_41 (by decide) ?_
    refine lv_ldc X.1 X.2.1 X.2.2.1 (X.2.2.2.1 _ wd_754) dX7_offer_42 ?_
    refine q_cSv (As := [.int x3, .int (0 : Int32), .int (1000000 : Int32)]) (rest := []) (c1 := 9) (s1 := 52) (d := 6) (mc := 1) (ms := 6) X N I hl.1 mX7_checkRange wd_457 dX7_offer_44 rfl (kX7_checkRange hl0 h) rfl (Nat.le_of_ble_eq_true rfl) ⟨by decide, by decide⟩ ⟨by decide, by decide⟩ ⟨by decide, by decide⟩ rfl rfl (fun S H locs I h => ?_)
    refine lv_iload X.1 X.2.1 dX7_offer_47 (lv_at hl 8 rfl) ?_
    refine lv_iconst (v := 0) X.1 X.2.1 dX7_offer_49 (by decide) ?_
    refine lv_ldc X.1 X.2.1 X.2.2.1 (X.2.2.2.1 _ wd_754) dX7_offer_50 ?_
    refine q_cSv (As := [.int x6, .int (0 : Int32), .int (1000000 : Int32)]) (rest := []) (c1 := 10) (s1 := 58) (d := 6) (mc := 1) (ms := 6) X N I hl.1 mX7_checkRange wd_457 dX7_offer_52 rfl (kX7_checkRange hl0 h) rfl (Nat.le_of_ble_eq_true rfl) ⟨by decide, by decide⟩ ⟨by decide, by decide⟩ ⟨by decide, by decide⟩ rfl rfl (fun S H locs I h => ?_)
    refine q_aload_n X dX7_offer_55 rfl (lv_at hl 2 rfl) ?_
    refine q_getR (ci := 8) (k := 2) X I rfl inb_TX7 wd_100 (by decide) qt_322 dX7_offer_56 h (fun v56 h => ?_)
    refine q_cVi (As := []) (rest := []) (c1 := 10) (s1 := 58) (d := 1) (mc := 0) (ms := 0) X N I hl.1 mJx4a65c_size_8abf5 wd_137 dX7_offer_59 rfl h (fun b h => kJx4a65c_size_8abf5 hl0 h) rfl (Nat.le_of_ble_eq_true rfl) ⟨by decide, by decide⟩ ⟨by decide, by decide⟩ ⟨by decide, by decide⟩ rfl rfl (fun v59 S H locs I h => ?_)
    refine lv_istore (i := 11) (lv' := [(11, .int v59), (10, va_rf v20), (9, va_rf v7), (0, va_rf (some x0)), (1, .int x1), (2, .int x2), (3, .int x3), (4, .int x4), (5, .int x5), (6, .int x6), (7, .int x7), (8, .int x8)]) X.1 X.2.1 dX7_offer_62 hl (by decide) (by simp [q_cat, q_catI, q_catJ]) (fun ls hl => ?_)
    refine lv_iload X.1 X.2.1 dX7_offer_64 (lv_at hl 0 rfl) ?_
    refine lv_bipush (v := 60) X.1 X.2.1 dX7_offer_66 (by decide) ?_
    refine lv_icmp_lt (tgt := 81) X.1 X.2.1 dX7_offer_68 (by decide) (fun c68 => ?_) (fun c68 => ?_)
    · have h := h.1 c68
      refine q_aload_n X dX7_offer_81 rfl (lv_at hl 3 rfl) ?_
      refine q_getR (ci := 8) (k := 2) X I rfl inb_TX7 wd_100 (by decide) qt_322 dX7_offer_82 h (fun v82 h => ?_)
      refine q_new (ci := 2) (c1 := 11) (s1 := 61) X I rfl inb_TX1 tyX1_ok dv_TX1 wd_232 wd_756 wd_25 ⟨by decide, by decide⟩ rfl rfl dX7_offer_85 h (fun q85 S H I h => ?_)
      refine lv_dup X.1 X.2.1 dX7_offer_88 (q_cat _) ?_
      refine q_aload X dX7_offer_89 (lv_at hl 2 rfl) ?_
      refine q_aload X dX7_offer_91 (lv_at hl 1 rfl) ?_
      refine q_cI (As := [va_rf v7, va_rf v20]) (rest := [va_rf (some q85), va_rf v82]) (c1 := 11) (s1 := 61) (d := 2) (mc := 0) (ms := 0) X I hl.1 mX1_init.1 mX1_init.2 rfl wd_757 dX7_offer_93 rfl (kX1_init hl0 h) rfl (by simp [q_cat, q_catI, q_catJ]) ⟨by decide, by decide⟩ ⟨by decide, by decide⟩ rfl rfl (fun S H locs I h => ?_)
      refine q_cVi (As := [va_rf (some q85)]) (rest := []) (c1 := 12) (s1 := 161) (d := 7) (mc := 1) (ms := 100) X N I hl.1 mJx4a65c_add_9ea2d wd_333 dX7_offer_96 rfl h (fun b h => kJx4a65c_add_9ea2d hl0 he h) rfl (Nat.le_of_ble_eq_true rfl) ⟨by decide, by decide⟩ ⟨by decide, by decide⟩ ⟨by decide, by decide⟩ rfl rfl (fun v96 S H locs I h => ?_)
      refine lv_pop X.1 X.2.1 dX7_offer_99 rfl ?_
      refine lv_iload X.1 X.2.1 dX7_offer_100 (lv_at hl 0 rfl) ?_
      exact q_iret X I hr dX7_offer_102 h (by decide) (by decide)
    · have h := h.2 c68
      exact q_throw (text := "there are 60 offers") (R := q_rm 8 12 161) (cells := 10) (slots := 58) (mcQ := 12) (msQ := 161) (rest := []) X N I hl.1 th_RX7_55.1 th_RX7_55.2.1 wd_241 wd_11 (by decide) th_RX7_55.2.2.1 th_RX7_55.2.2.2.1 (th_RX7_55.2.2.2.2 _ rfl) dX7_offer_71 dX7_offer_74 dX7_offer_75 dX7_offer_77 dX7_offer_80 (by decide) (Nat.le_of_ble_eq_true rfl) ⟨by decide, by decide⟩ ⟨by decide, by decide⟩ h
  · have h := h.2 c27
    exact q_throw (text := "the players are one") (R := q_rm 8 12 161) (cells := 8) (slots := 46) (mcQ := 12) (msQ := 161) (rest := []) X N I hl.1 th_RX7_222.1 th_RX7_222.2.1 wd_460 wd_21 (by decide) th_RX7_222.2.2.1 th_RX7_222.2.2.2.1 (th_RX7_222.2.2.2.2 _ rfl) dX7_offer_30 dX7_offer_33 dX7_offer_34 dX7_offer_36 dX7_offer_39 (by decide) (Nat.le_of_ble_eq_true rfl) ⟨by decide, by decide⟩ ⟨by decide, by decide⟩ h
