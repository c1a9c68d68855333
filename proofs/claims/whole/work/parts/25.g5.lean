def pX8_tries_J69 (k27 : Option Nat → Int32 → Int32 → qS → Prop) (rc : Nat → Int32 → Int32 → qS → (Int32 → qS → Prop) → (String → qS → Prop) → Prop) (post : Int32 → qS → Prop) (xp : String → qS → Prop) (x0 : Option Nat) (x2 : Int32) (x3 : Int32) (S : qS) : Prop :=
  k27 x0 x2 (x3 + 1) S
def pX8_tries_L27  (rc : Nat → Int32 → Int32 → qS → (Int32 → qS → Prop) → (String → qS → Prop) → Prop) (post : Int32 → qS → Prop) (xp : String → qS → Prop) : Nat → Option Nat → Int32 → Int32 → qS → Prop
  | 0, _, _, _, _ => False
  | n27 + 1, x0, x2, x3, S =>
  w_getI S x0 9 12 (fun v29 =>
  ((v29 ≤ x3 →
  (((0 : Int32) = 0 ∨ (0 : Int32) = 1) ∧ post (0 : Int32) S)) ∧ (¬ v29 ≤ x3 →
  w_getR S x0 9 9 (fun v36 =>
  w_ldI S v36 39 x3 (fun v40 =>
  ((v40 = 0 →
  w_getR S x0 9 29 (fun v48 =>
  w_stI S v48 59 x2 x3 (fun S =>
  w_at S x0 9 (fun b61 => rc b61 (x3 + (1 : Int32)) (x2 + (1 : Int32)) S (fun v61 S =>
  ((v61 = 0 →
  pX8_tries_J69 (pX8_tries_L27 rc post xp n27) rc post xp x0 x2 x3 S) ∧ (¬ v61 = 0 →
  (((1 : Int32) = 0 ∨ (1 : Int32) = 1) ∧ post (1 : Int32) S)))) xp)))) ∧ (¬ v40 = 0 →
  pX8_tries_J69 (pX8_tries_L27 rc post xp n27) rc post xp x0 x2 x3 S)))))))
def pX8_tries_J18  (rc : Nat → Int32 → Int32 → qS → (Int32 → qS → Prop) → (String → qS → Prop) → Prop) (post : Int32 → qS → Prop) (xp : String → qS → Prop) (x0 : Option Nat) (x1 : Int32) (x2 : Int32) (S : qS) : Prop :=
  ((¬ x2 = (4 : Int32) →
  ∃ n27, pX8_tries_L27 rc post xp n27 x0 x2 x1 S) ∧ (x2 = (4 : Int32) →
  (((0 : Int32) = 0 ∨ (0 : Int32) = 1) ∧ post (0 : Int32) S)))
def pX8_tries_B (x0 : Nat) (x1 : Int32) (x2 : Int32) (S : qS) (rc : Nat → Int32 → Int32 → qS → (Int32 → qS → Prop) → (String → qS → Prop) → Prop) (post : Int32 → qS → Prop) (xp : String → qS → Prop) : Prop :=
  ((x2 ≤ 0 →
  pX8_tries_J18 rc post xp (some x0) x1 x2 S) ∧ (¬ x2 ≤ 0 →
  w_putI S (some x0) 9 30 x2 (fun S =>
  w_at S (some x0) 9 (fun b10 => pX8_gainsWithSome b10  S (fun v10 S =>
  ((v10 = 0 →
  pX8_tries_J18 rc post xp (some x0) x1 x2 S) ∧ (¬ v10 = 0 →
  (((1 : Int32) = 0 ∨ (1 : Int32) = 1) ∧ post (1 : Int32) S)))) xp))))
def pX8_tries : Nat → Nat → Int32 → Int32 → qS → (Int32 → qS → Prop) → (String → qS → Prop) → Prop
  | 0, _, _, _, _, _, _ => False
  | f + 1, x0, x1, x2, S, post, xp => pX8_tries_B x0 x1 x2 S (pX8_tries f) post xp
set_option maxHeartbeats 4000000 in
set_option maxRecDepth 100000 in
theorem kX8_tries {l : Launch} (hl0 : l.stackTraces = false) {G : qG} : ∀ (f : Nat) {S : qS} {sz : Nat} {x0 : Nat} {x1 : Int32} {x2 : Int32} {post : Int32 → qS → Prop} {xp : String → qS → Prop} (h : pX8_tries f x0 x1 x2 S post xp), q_M l yX8_tries cX8_tries 4 (some .boolean) (5 + f) 0 0 G S sz [va_rf (some x0), .int x1, .int x2] (q_Qi G post) xp := by
  intro f
  induction f with
  | zero => intro S sz x0 x1 x2 post xp h; exact h.elim
  | succ f ihf =>
    intro S sz x0 x1 x2 post xp h
    refine q_of (lv := [(0, va_rf (some x0)), (1, .int x1), (2, .int x2)]) hl0 (by decide) rfl (Nat.le_of_ble_eq_true rfl) (fun p e s m below meth c A ls X N hr hnm I hl => ?_)
    generalize ([va_rf (some x0), .int x1, .int x2] : List Value).toArray = av at X ⊢
    unfold pX8_tries pX8_tries_B at h
    generalize hrc : pX8_tries f = rc at h
    have ihf : ∀ {S : qS} {sz : Nat} {x0 : Nat} {x1 : Int32} {x2 : Int32} {post : Int32 → qS → Prop} {xp : String → qS → Prop} (h : rc x0 x1 x2 S post xp), q_M l yX8_tries cX8_tries 4 (some .boolean) (5 + f) 0 0 G S sz [va_rf (some x0), .int x1, .int x2] (q_Qi G post) xp := by rw [← hrc]; exact ihf
    refine lv_iload_n X.1 X.2.1 dX8_tries_0 rfl (lv_at hl 2 rfl) ?_
    have jn18 : ∀ (x0 : Option Nat) (x1 : Int32) (x2 : Int32) (S : qS) (H : Heap) (locs : List Loc) (ls : Array Slot), pX8_tries_J18 rc post xp x0 x1 x2 S → q_H G A s H locs S → lv_has ls 4 [(0, va_rf x0), (1, .int x1), (2, .int x2)] → W p l e (q_rm (5 + (f + 1)) 0 0) s m av below meth c H locs 0 0 (vx_MQ below (q_Qi G post A) (q_XC G A xp) av s 0 0 A) (F0 m 18 ls []) := by
      intro x0 x1 x2 S H locs ls h I hl
      unfold pX8_tries_J18 at h
      refine lv_iload_n X.1 X.2.1 dX8_tries_18 rfl (lv_at hl 2 rfl) ?_
      refine lv_iconst (v := 4) X.1 X.2.1 dX8_tries_19 (by decide) ?_
      refine lv_icmp_ne (tgt := 25) X.1 X.2.1 dX8_tries_20 (by decide) (fun c20 => ?_) (fun c20 => ?_)
      · have h := h.1 c20
        refine lv_iload_n X.1 X.2.1 dX8_tries_25 rfl (lv_at hl 1 rfl) ?_
        refine lv_istore_n (i := 3) (lv' := [(3, .int x1), (0, va_rf x0), (1, .int x1), (2, .int x2)]) X.1 X.2.1 dX8_tries_26 rfl hl (by decide) rfl (fun ls hl => ?_)
        obtain ⟨n27, h⟩ := h
        have lp27 : ∀ (n27 : Nat) (x0 : Option Nat) (x2 : Int32) (x3 : Int32) (S : qS) (H : Heap) (locs : List Loc) (ls : Array Slot), pX8_tries_L27 rc post xp n27 x0 x2 x3 S → q_H G A s H locs S → lv_has ls 4 [(0, va_rf x0), (2, .int x2), (3, .int x3)] → W p l e (q_rm (5 + (f + 1)) 0 0) s m av below meth c H locs 0 0 (vx_MQ below (q_Qi G post A) (q_XC G A xp) av s 0 0 A) (F0 m 27 ls []) := by
          intro n27
          induction n27 with
          | zero => intro x0 x2 x3 S H locs ls h I hl; exact h.elim
          | succ n27 ih27 =>
            intro x0 x2 x3 S H locs ls h I hl
            unfold pX8_tries_L27 at h
            refine lv_iload_n X.1 X.2.1 dX8_tries_27 rfl (lv_at hl 2 rfl) ?_
            refine q_aload_n X dX8_tries_28 rfl (lv_at hl 0 rfl) ?_
            refine q_getI (ci := 9) (k := 12) X I rfl inb_TX8 wd_850 (by decide) qt_372 dX8_tries_29 h (fun v29 h => ?_)
            refine lv_icmp_ge (tgt := 75) X.1 X.2.1 dX8_tries_32 (by decide) (fun c32 => ?_) (fun c32 => ?_)
            · have h := h.1 c32
              refine lv_iconst (v := 0) X.1 X.2.1 dX8_tries_75 (by decide) ?_
              exact q_zret X I hr dX8_tries_76 h (by decide) (by decide)
            · have h := h.2 c32
              refine q_aload_n X dX8_tries_35 rfl (lv_at hl 0 rfl) ?_
              refine q_getR (ci := 9) (k := 9) X I rfl inb_TX8 wd_847 (by decide) qt_369 dX8_tries_36 h (fun v36 h => ?_)
              refine lv_iload_n X.1 X.2.1 dX8_tries_39 rfl (lv_at hl 2 rfl) ?_
              refine q_ldZ X I (by decide) (by decide) dX8_tries_40 h (fun v40 h => ?_)
              have jn69 : ∀ (x0 : Option Nat) (x2 : Int32) (x3 : Int32) (S : qS) (H : Heap) (locs : List Loc) (ls : Array Slot), pX8_tries_J69 (pX8_tries_L27 rc post xp n27) rc post xp x0 x2 x3 S → q_H G A s H locs S → lv_has ls 4 [(0, va_rf x0), (2, .int x2), (3, .int x3)] → W p l e (q_rm (5 + (f + 1)) 0 0) s m av below meth c H locs 0 0 (vx_MQ below (q_Qi G post A) (q_XC G A xp) av s 0 0 A) (F0 m 69 ls []) := by
                intro x0 x2 x3 S H locs ls h I hl
                unfold pX8_tries_J69 at h
                refine lv_iinc (v := (x3 + 1)) (lv' := [(3, .int (x3 + 1)), (0, va_rf x0), (2, .int x2)]) (k := 2) X.1 X.2.1 dX8_tries_69 hl rfl rfl (by decide) rfl (fun ls hl => ?_)
                refine lv_goto (tgt := 27) X.1 X.2.1 dX8_tries_72 (by decide) ?_
                exact ih27 _ _ _ _ _ _ _ h I (lv_sub hl [1, 2, 0] rfl)
              refine lv_if_eq (tgt := 47) X.1 X.2.1 dX8_tries_41 (by decide) (fun c41 => ?_) (fun c41 => ?_)
              · have h := h.1 c41
                refine q_aload_n X dX8_tries_47 rfl (lv_at hl 0 rfl) ?_
                refine q_getR (ci := 9) (k := 29) X I rfl inb_TX8 wd_867 (by decide) qt_389 dX8_tries_48 h (fun v48 h => ?_)
                refine lv_iload_n X.1 X.2.1 dX8_tries_51 rfl (lv_at hl 1 rfl) ?_
                refine lv_iload_n X.1 X.2.1 dX8_tries_52 rfl (lv_at hl 2 rfl) ?_
                refine q_stI X I (by decide) (by decide) dX8_tries_53 h (fun S H locs I h => ?_)
                refine q_aload_n X dX8_tries_54 rfl (lv_at hl 0 rfl) ?_
                refine lv_iload_n X.1 X.2.1 dX8_tries_55 rfl (lv_at hl 2 rfl) ?_
                refine lv_iconst (v := 1) X.1 X.2.1 dX8_tries_56 (by decide) ?_
                refine lv_iadd X.1 X.2.1 dX8_tries_57 ?_
                refine lv_iload_n X.1 X.2.1 dX8_tries_58 rfl (lv_at hl 1 rfl) ?_
                refine lv_iconst (v := 1) X.1 X.2.1 dX8_tries_59 (by decide) ?_
                refine lv_iadd X.1 X.2.1 dX8_tries_60 ?_
                refine q_cVi (As := [.int (x3 + (1 : Int32)), .int (x2 + (1 : Int32))]) (rest := []) (c1 := 0) (s1 := 0) (d := (5 + f)) (mc := 0) (ms := 0) X N I hl.1 mX8_tries wd_1090 dX8_tries_61 rfl h (fun b h => ihf h) rfl (Nat.le_of_ble_eq_true rfl) ⟨by simp only [q_rm]; omega, by simp only [q_rm]; omega⟩ ⟨by simp only [q_rm]; omega, by simp only [q_rm]; omega⟩ ⟨by decide, by decide⟩ rfl rfl (fun v61 S H locs I h => ?_)
                refine lv_if_eq (tgt := 69) X.1 X.2.1 dX8_tries_64 (by decide) (fun c64 => ?_) (fun c64 => ?_)
                · have h := h.1 c64
                  exact jn69 _ _ _ _ _ _ _ h I (lv_sub hl [0, 1, 2] rfl)
                · have h := h.2 c64
                  refine lv_iconst (v := 1) X.1 X.2.1 dX8_tries_67 (by decide) ?_
                  exact q_zret X I hr dX8_tries_68 h (by decide) (by decide)
              · have h := h.2 c41
                refine lv_goto (tgt := 69) X.1 X.2.1 dX8_tries_44 (by decide) ?_
                exact jn69 _ _ _ _ _ _ _ h I (lv_sub hl [0, 1, 2] rfl)
        exact lp27 n27 _ _ _ _ _ _ _ h I (lv_sub hl [1, 3, 0] rfl)
      · have h := h.2 c20
        refine lv_iconst (v := 0) X.1 X.2.1 dX8_tries_23 (by decide) ?_
        exact q_zret X I hr dX8_tries_24 h (by decide) (by decide)
    refine lv_if_le (tgt := 18) X.1 X.2.1 dX8_tries_1 (by decide) (fun c1 => ?_) (fun c1 => ?_)
    · have h := h.1 c1
      exact jn18 _ _ _ _ _ _ _ h I (lv_sub hl [0, 1, 2] rfl)
    · have h := h.2 c1
      refine q_aload_n X dX8_tries_4 rfl (lv_at hl 0 rfl) ?_
      refine lv_iload_n X.1 X.2.1 dX8_tries_5 rfl (lv_at hl 2 rfl) ?_
      refine q_putI (ci := 9) (k := 30) X I rfl inb_TX8 tyX8_ok nmX8 wd_868 (by decide) (Or.inl rfl) qt_390 rfl dX8_tries_6 h (fun S H locs I h => ?_)
      refine q_aload_n X dX8_tries_9 rfl (lv_at hl 0 rfl) ?_
      refine q_cVi (As := []) (rest := []) (c1 := 0) (s1 := 0) (d := 4) (mc := 0) (ms := 0) X N I hl.1 mX8_gainsWithSome wd_1094 dX8_tries_10 rfl h (fun b h => kX8_gainsWithSome hl0 h) rfl (Nat.le_of_ble_eq_true rfl) ⟨by simp only [q_rm]; omega, by simp only [q_rm]; omega⟩ ⟨by simp only [q_rm]; omega, by simp only [q_rm]; omega⟩ ⟨by decide, by decide⟩ rfl rfl (fun v10 S H locs I h => ?_)
      refine lv_if_eq (tgt := 18) X.1 X.2.1 dX8_tries_13 (by decide) (fun c13 => ?_) (fun c13 => ?_)
      · have h := h.1 c13
        exact jn18 _ _ _ _ _ _ _ h I (lv_sub hl [0, 1, 2] rfl)
      · have h := h.2 c13
        refine lv_iconst (v := 1) X.1 X.2.1 dX8_tries_16 (by decide) ?_
        exact q_zret X I hr dX8_tries_17 h (by decide) (by decide)

def pX8_gains (x0 : Nat) (S : qS) (post : Int32 → qS → Prop) (xp : String → qS → Prop) : Prop :=
  w_putI S (some x0) 9 0 (0 : Int32) (fun S =>
  w_at S (some x0) 9 (fun b8 => pX8_tries 5 b8 (0 : Int32) (0 : Int32) S (fun v8 S =>
  ((v8 = 0 ∨ v8 = 1) ∧ post v8 S)) xp))
set_option maxHeartbeats 4000000 in
set_option maxRecDepth 100000 in
theorem kX8_gains {l : Launch} (hl0 : l.stackTraces = false) {G : qG} {S : qS} {sz : Nat} {x0 : Nat} {post : Int32 → qS → Prop} {xp : String → qS → Prop} (h : pX8_gains x0 S post xp) : q_M l yX8_gains cX8_gains 1 (some .boolean) 11 0 0 G S sz [va_rf (some x0)] (q_Qi G post) xp := by
  refine q_of (lv := [(0, va_rf (some x0))]) hl0 (by decide) rfl (Nat.le_of_ble_eq_true rfl) (fun p e s m below meth c A ls X N hr hnm I hl => ?_)
  generalize ([va_rf (some x0)] : List Value).toArray = av at X ⊢
  unfold pX8_gains at h
  refine q_aload_n X dX8_gains_0 rfl (lv_at hl 0 rfl) ?_
  refine lv_iconst (v := 0) X.1 X.2.1 dX8_gains_1 (by decide) ?_
  refine q_putI (ci := 9) (k := 0) X I rfl inb_TX8 tyX8_ok nmX8 wd_838 (by decide) (Or.inl rfl) qt_360 rfl dX8_gains_2 h (fun S H locs I h => ?_)
  refine q_aload_n X dX8_gains_5 rfl (lv_at hl 0 rfl) ?_
  refine lv_iconst (v := 0) X.1 X.2.1 dX8_gains_6 (by decide) ?_
  refine lv_iconst (v := 0) X.1 X.2.1 dX8_gains_7 (by decide) ?_
  refine q_cVi (As := [.int (0 : Int32), .int (0 : Int32)]) (rest := []) (c1 := 0) (s1 := 0) (d := 10) (mc := 0) (ms := 0) X N I hl.1 mX8_tries wd_1090 dX8_gains_8 rfl h (fun b h => kX8_tries hl0 5 h) rfl (Nat.le_of_ble_eq_true rfl) ⟨by decide, by decide⟩ ⟨by decide, by decide⟩ ⟨by decide, by decide⟩ rfl rfl (fun v8 S H locs I h => ?_)
  exact q_zret X I hr dX8_gains_11 h (by decide) (by decide)
