def pL_player (x0 : Option Nat) (x1 : Option Nat) (S : qS) (g : Nat × Nat) (post : Int32 → qS → Prop) : Prop :=
  w_at S x0 8 (fun b3 => pX7_player b3  S g (fun v3 S =>
  w_stJ S x1 29 (0 : Int32) v3.toInt64 (fun S =>
  post (0 : Int32) S)) (fun E S => (E = "java/lang/UnsupportedOperationException" ∧ post (1 : Int32) S)))
set_option maxHeartbeats 4000000 in
set_option maxRecDepth 100000 in
theorem kL_player {l : Launch} (hl0 : l.stackTraces = false) {G : qG} {S : qS} {sz : Nat} {x0 : Option Nat} {x1 : Option Nat} {post : Int32 → qS → Prop} {g : Nat × Nat} (he : G.2.2 = g) (h : pL_player x0 x1 S g post) : q_MT l yL_player cL_player 3 (some .int) [(0, 8, 11, 13)] 9 3 108 G S sz [va_rf x0, va_rf x1] post := by
  refine q_ofT (lv := [(0, va_rf x0), (1, va_rf x1)]) hl0 (by decide) (by cases x0 <;> cases x1 <;> rfl) (by cases x0 <;> cases x1 <;> exact Nat.le_of_ble_eq_true rfl) (fun p e s m below meth c A ls X htab hr I hl => ?_)
  generalize ([va_rf x0, va_rf x1] : List Value).toArray = av at X ⊢
  unfold pL_player at h
  refine q_aload_n X dL_player_0 rfl (lv_at hl 1 rfl) ?_
  refine lv_iconst (v := 0) X.1 X.2.1 dL_player_1 (by decide) ?_
  refine q_aload_n X dL_player_2 rfl (lv_at hl 0 rfl) ?_
  refine q_cXi (As := []) (rest := [.int (0 : Int32), va_rf x1]) (c1 := 3) (s1 := 108) (d := 8) (mc := 3) (ms := 108) X I hl.1 mX7_player wd_237 dL_player_3 rfl h (fun b h => kX7_player hl0 he h) rfl (by simp [q_cat, q_catI, q_catJ]) ⟨by decide, by decide⟩ ⟨by decide, by decide⟩ rfl rfl (fun E ce q9 S H locs I h hce hcv hcl => ?_) (fun v3 S H locs I h => ?_)
  · obtain ⟨rfl, h⟩ := h
    refine q_catch (E := "java/lang/UnsupportedOperationException") (pre := []) (suf := []) (st := 0) (en := 8) (hd := 11) (ct := 13) X htab rfl (fun _ h => nomatch h) (by decide) (by decide) wd_236 (by decide +kernel) hce hcv hcl ?_
    refine q_astore_n (i := 2) (lv' := [(2, va_rf (some q9)), (0, va_rf x0), (1, va_rf x1)]) X dL_player_11 rfl hl (by decide) (by simp [q_cat, q_catI, q_catJ]) (fun ls hl => ?_)
    refine lv_iconst (v := 1) X.1 X.2.1 dL_player_12 (by decide) ?_
    exact q_iretN X I hr dL_player_13 h (by decide) (by decide)
  · refine lv_i2l X.1 X.2.1 dL_player_6 rfl ?_
    refine q_stJ X I (by decide) (by decide) dL_player_7 h (fun S H locs I h => ?_)
    refine lv_goto (tgt := 14) X.1 X.2.1 dL_player_8 (by decide) ?_
    refine lv_iconst (v := 0) X.1 X.2.1 dL_player_14 (by decide) ?_
    exact q_iretN X I hr dL_player_15 h (by decide) (by decide)

def pL_rule (x0 : Option Nat) (x1 : Int32) (x2 : Option Nat) (S : qS) (g : Nat × Nat) (post : Int32 → qS → Prop) : Prop :=
  w_at S x0 8 (fun b4 => pX7_rule b4 x1 S g (fun v4 S =>
  w_stJ S x2 29 (0 : Int32) v4.toInt64 (fun S =>
  post (0 : Int32) S)) (fun E S => (E = "java/lang/UnsupportedOperationException" ∧ post (1 : Int32) S)))
set_option maxHeartbeats 4000000 in
set_option maxRecDepth 100000 in
theorem kL_rule {l : Launch} (hl0 : l.stackTraces = false) {G : qG} {S : qS} {sz : Nat} {x0 : Option Nat} {x1 : Int32} {x2 : Option Nat} {post : Int32 → qS → Prop} {g : Nat × Nat} (he : G.2.2 = g) (h : pL_rule x0 x1 x2 S g post) : q_MT l yL_rule cL_rule 4 (some .int) [(0, 9, 12, 13)] 9 4 112 G S sz [va_rf x0, .int x1, va_rf x2] post := by
  refine q_ofT (lv := [(0, va_rf x0), (1, .int x1), (2, va_rf x2)]) hl0 (by decide) (by cases x0 <;> cases x2 <;> rfl) (by cases x0 <;> cases x2 <;> exact Nat.le_of_ble_eq_true rfl) (fun p e s m below meth c A ls X htab hr I hl => ?_)
  generalize ([va_rf x0, .int x1, va_rf x2] : List Value).toArray = av at X ⊢
  unfold pL_rule at h
  refine q_aload_n X dL_rule_0 rfl (lv_at hl 2 rfl) ?_
  refine lv_iconst (v := 0) X.1 X.2.1 dL_rule_1 (by decide) ?_
  refine q_aload_n X dL_rule_2 rfl (lv_at hl 0 rfl) ?_
  refine lv_iload_n X.1 X.2.1 dL_rule_3 rfl (lv_at hl 1 rfl) ?_
  refine q_cXi (As := [.int x1]) (rest := [.int (0 : Int32), va_rf x2]) (c1 := 4) (s1 := 112) (d := 8) (mc := 4) (ms := 112) X I hl.1 mX7_rule wd_397 dL_rule_4 rfl h (fun b h => kX7_rule hl0 he h) rfl (by simp [q_cat, q_catI, q_catJ]) ⟨by decide, by decide⟩ ⟨by decide, by decide⟩ rfl rfl (fun E ce q9 S H locs I h hce hcv hcl => ?_) (fun v4 S H locs I h => ?_)
  · obtain ⟨rfl, h⟩ := h
    refine q_catch (E := "java/lang/UnsupportedOperationException") (pre := []) (suf := []) (st := 0) (en := 9) (hd := 12) (ct := 13) X htab rfl (fun _ h => nomatch h) (by decide) (by decide) wd_236 (by decide +kernel) hce hcv hcl ?_
    refine q_astore_n (i := 3) (lv' := [(3, va_rf (some q9)), (0, va_rf x0), (1, .int x1), (2, va_rf x2)]) X dL_rule_12 rfl hl (by decide) (by simp [q_cat, q_catI, q_catJ]) (fun ls hl => ?_)
    refine lv_iconst (v := 1) X.1 X.2.1 dL_rule_13 (by decide) ?_
    exact q_iretN X I hr dL_rule_14 h (by decide) (by decide)
  · refine lv_i2l X.1 X.2.1 dL_rule_7 rfl ?_
    refine q_stJ X I (by decide) (by decide) dL_rule_8 h (fun S H locs I h => ?_)
    refine lv_goto (tgt := 15) X.1 X.2.1 dL_rule_9 (by decide) ?_
    refine lv_iconst (v := 0) X.1 X.2.1 dL_rule_15 (by decide) ?_
    exact q_iretN X I hr dL_rule_16 h (by decide) (by decide)

def pL_part (x0 : Option Nat) (x1 : Int32) (x2 : Int32) (x3 : Int32) (x4 : Int32) (S : qS) (post : Int32 → qS → Prop) : Prop :=
  w_at S x0 8 (fun b6 => pX7_part b6 x1 x2 x3 x4 S (fun S =>
  post (0 : Int32) S) (fun E S => (E = "java/lang/IndexOutOfBoundsException" ∧ post (1 : Int32) S) ∨ (E = "java/lang/IllegalArgumentException" ∧ post (2 : Int32) S)))
set_option maxHeartbeats 4000000 in
set_option maxRecDepth 100000 in
theorem kL_part {l : Launch} (hl0 : l.stackTraces = false) {G : qG} {S : qS} {sz : Nat} {x0 : Option Nat} {x1 : Int32} {x2 : Int32} {x3 : Int32} {x4 : Int32} {post : Int32 → qS → Prop} (h : pL_part x0 x1 x2 x3 x4 S post) : q_MT l yL_part cL_part 6 (some .int) [(0, 9, 12, 23), (0, 9, 16, 25)] 8 3 18 G S sz [va_rf x0, .int x1, .int x2, .int x3, .int x4] post := by
  refine q_ofT (lv := [(0, va_rf x0), (1, .int x1), (2, .int x2), (3, .int x3), (4, .int x4)]) hl0 (by decide) (by cases x0 <;> rfl) (by cases x0 <;> exact Nat.le_of_ble_eq_true rfl) (fun p e s m below meth c A ls X htab hr I hl => ?_)
  generalize ([va_rf x0, .int x1, .int x2, .int x3, .int x4] : List Value).toArray = av at X ⊢
  unfold pL_part at h
  refine q_aload_n X dL_part_0 rfl (lv_at hl 0 rfl) ?_
  refine lv_iload_n X.1 X.2.1 dL_part_1 rfl (lv_at hl 1 rfl) ?_
  refine lv_iload_n X.1 X.2.1 dL_part_2 rfl (lv_at hl 2 rfl) ?_
  refine lv_iload_n X.1 X.2.1 dL_part_3 rfl (lv_at hl 3 rfl) ?_
  refine lv_iload X.1 X.2.1 dL_part_4 (lv_at hl 4 rfl) ?_
  refine q_cXv (As := [.int x1, .int x2, .int x3, .int x4]) (rest := []) (c1 := 3) (s1 := 18) (d := 7) (mc := 3) (ms := 18) X I hl.1 mX7_part wd_429 dL_part_6 rfl h (fun b h => kX7_part hl0 h) rfl (Nat.le_of_ble_eq_true rfl) ⟨by decide, by decide⟩ ⟨by decide, by decide⟩ rfl rfl (fun E ce q9 S H locs I h hce hcv hcl => ?_) (fun S H locs I h => ?_)
  · rcases h with ⟨rfl, h⟩ | ⟨rfl, h⟩
    · refine q_catch (E := "java/lang/IndexOutOfBoundsException") (pre := []) (suf := [(0, 9, 16, 25)]) (st := 0) (en := 9) (hd := 12) (ct := 23) X htab rfl (fun _ h => nomatch h) (by decide) (by decide) wd_427 (by decide +kernel) hce hcv hcl ?_
      refine q_astore (i := 5) (lv' := [(5, va_rf (some q9)), (0, va_rf x0), (1, .int x1), (2, .int x2), (3, .int x3), (4, .int x4)]) X dL_part_12 hl (by decide) rfl (fun ls hl => ?_)
      refine lv_iconst (v := 1) X.1 X.2.1 dL_part_14 (by decide) ?_
      exact q_iretN X I hr dL_part_15 h (by decide) (by decide)
    · refine q_catch (E := "java/lang/IllegalArgumentException") (pre := [(0, 9, 12, 23)]) (suf := []) (st := 0) (en := 9) (hd := 16) (ct := 25) X htab rfl (by intro z hz; simp only [List.mem_cons, List.not_mem_nil, or_false] at hz; rcases hz with rfl <;> first | exact ⟨by decide, _, wd_427, by decide +kernel⟩) (by decide) (by decide) wd_428 (by decide +kernel) hce hcv hcl ?_
      refine q_astore (i := 5) (lv' := [(5, va_rf (some q9)), (0, va_rf x0), (1, .int x1), (2, .int x2), (3, .int x3), (4, .int x4)]) X dL_part_16 hl (by decide) rfl (fun ls hl => ?_)
      refine lv_iconst (v := 2) X.1 X.2.1 dL_part_18 (by decide) ?_
      exact q_iretN X I hr dL_part_19 h (by decide) (by decide)
  · refine lv_goto (tgt := 20) X.1 X.2.1 dL_part_9 (by decide) ?_
    refine lv_iconst (v := 0) X.1 X.2.1 dL_part_20 (by decide) ?_
    exact q_iretN X I hr dL_part_21 h (by decide) (by decide)

def pL_deed (x0 : Option Nat) (x1 : Int32) (x2 : Int32) (x3 : Int32) (x4 : Int32) (x5 : Option Nat) (S : qS) (post : Int32 → qS → Prop) : Prop :=
  w_at S x0 8 (fun b9 => pX7_deed b9 x1 x2 x3 x4 S (fun v9 S =>
  w_stJ S x5 29 (0 : Int32) v9.toInt64 (fun S =>
  post (0 : Int32) S)) (fun E S => (E = "java/lang/IndexOutOfBoundsException" ∧ post (1 : Int32) S) ∨ (E = "java/lang/IllegalArgumentException" ∧ post (2 : Int32) S)))
set_option maxHeartbeats 4000000 in
set_option maxRecDepth 100000 in
theorem kL_deed {l : Launch} (hl0 : l.stackTraces = false) {G : qG} {S : qS} {sz : Nat} {x0 : Option Nat} {x1 : Int32} {x2 : Int32} {x3 : Int32} {x4 : Int32} {x5 : Option Nat} {post : Int32 → qS → Prop} (h : pL_deed x0 x1 x2 x3 x4 x5 S post) : q_MT l yL_deed cL_deed 7 (some .int) [(0, 14, 17, 23), (0, 14, 21, 25)] 8 3 18 G S sz [va_rf x0, .int x1, .int x2, .int x3, .int x4, va_rf x5] post := by
  refine q_ofT (lv := [(0, va_rf x0), (1, .int x1), (2, .int x2), (3, .int x3), (4, .int x4), (5, va_rf x5)]) hl0 (by decide) (by cases x0 <;> cases x5 <;> rfl) (by cases x0 <;> cases x5 <;> exact Nat.le_of_ble_eq_true rfl) (fun p e s m below meth c A ls X htab hr I hl => ?_)
  generalize ([va_rf x0, .int x1, .int x2, .int x3, .int x4, va_rf x5] : List Value).toArray = av at X ⊢
  unfold pL_deed at h
  refine q_aload X dL_deed_0 (lv_at hl 5 rfl) ?_
  refine lv_iconst (v := 0) X.1 X.2.1 dL_deed_2 (by decide) ?_
  refine q_aload_n X dL_deed_3 rfl (lv_at hl 0 rfl) ?_
  refine lv_iload_n X.1 X.2.1 dL_deed_4 rfl (lv_at hl 1 rfl) ?_
  refine lv_iload_n X.1 X.2.1 dL_deed_5 rfl (lv_at hl 2 rfl) ?_
  refine lv_iload_n X.1 X.2.1 dL_deed_6 rfl (lv_at hl 3 rfl) ?_
  refine lv_iload X.1 X.2.1 dL_deed_7 (lv_at hl 4 rfl) ?_
  refine q_cXi (As := [.int x1, .int x2, .int x3, .int x4]) (rest := [.int (0 : Int32), va_rf x5]) (c1 := 3) (s1 := 18) (d := 7) (mc := 3) (ms := 18) X I hl.1 mX7_deed wd_479 dL_deed_9 rfl h (fun b h => kX7_deed hl0 h) rfl (by simp [q_cat, q_catI, q_catJ]) ⟨by decide, by decide⟩ ⟨by decide, by decide⟩ rfl rfl (fun E ce q9 S H locs I h hce hcv hcl => ?_) (fun v9 S H locs I h => ?_)
  · rcases h with ⟨rfl, h⟩ | ⟨rfl, h⟩
    · refine q_catch (E := "java/lang/IndexOutOfBoundsException") (pre := []) (suf := [(0, 14, 21, 25)]) (st := 0) (en := 14) (hd := 17) (ct := 23) X htab rfl (fun _ h => nomatch h) (by decide) (by decide) wd_427 (by decide +kernel) hce hcv hcl ?_
      refine q_astore (i := 6) (lv' := [(6, va_rf (some q9)), (0, va_rf x0), (1, .int x1), (2, .int x2), (3, .int x3), (4, .int x4), (5, va_rf x5)]) X dL_deed_17 hl (by decide) (by simp [q_cat, q_catI, q_catJ]) (fun ls hl => ?_)
      refine lv_iconst (v := 1) X.1 X.2.1 dL_deed_19 (by decide) ?_
      exact q_iretN X I hr dL_deed_20 h (by decide) (by decide)
    · refine q_catch (E := "java/lang/IllegalArgumentException") (pre := [(0, 14, 17, 23)]) (suf := []) (st := 0) (en := 14) (hd := 21) (ct := 25) X htab rfl (by intro z hz; simp only [List.mem_cons, List.not_mem_nil, or_false] at hz; rcases hz with rfl <;> first | exact ⟨by decide, _, wd_427, by decide +kernel⟩) (by decide) (by decide) wd_428 (by decide +kernel) hce hcv hcl ?_
      refine q_astore (i := 6) (lv' := [(6, va_rf (some q9)), (0, va_rf x0), (1, .int x1), (2, .int x2), (3, .int x3), (4, .int x4), (5, va_rf x5)]) X dL_deed_21 hl (by decide) (by simp [q_cat, q_catI, q_catJ]) (fun ls hl => ?_)
      refine lv_iconst (v := 2) X.1 X.2.1 dL_deed_23 (by decide) ?_
      exact q_iretN X I hr dL_deed_24 h (by decide) (by decide)
  · refine lv_i2l X.1 X.2.1 dL_deed_12 rfl ?_
    refine q_stJ X I (by decide) (by decide) dL_deed_13 h (fun S H locs I h => ?_)
    refine lv_goto (tgt := 25) X.1 X.2.1 dL_deed_14 (by decide) ?_
    refine lv_iconst (v := 0) X.1 X.2.1 dL_deed_25 (by decide) ?_
    exact q_iretN X I hr dL_deed_26 h (by decide) (by decide)

def pL_has (x0 : Option Nat) (x1 : Int32) (x2 : Int32) (x3 : Option Nat) (S : qS) (post : Int32 → qS → Prop) : Prop :=
  w_at S x0 8 (fun b5 => pX7_has b5 x1 x2 S (fun v5 S =>
  w_stJ S x3 29 (0 : Int32) v5.toInt64 (fun S =>
  post (0 : Int32) S)) (fun E S => (E = "java/lang/IndexOutOfBoundsException" ∧ post (1 : Int32) S)))
set_option maxHeartbeats 4000000 in
set_option maxRecDepth 100000 in
theorem kL_has {l : Launch} (hl0 : l.stackTraces = false) {G : qG} {S : qS} {sz : Nat} {x0 : Option Nat} {x1 : Int32} {x2 : Int32} {x3 : Option Nat} {post : Int32 → qS → Prop} (h : pL_has x0 x1 x2 x3 S post) : q_MT l yL_has cL_has 5 (some .int) [(0, 10, 13, 23)] 8 2 12 G S sz [va_rf x0, .int x1, .int x2, va_rf x3] post := by
  refine q_ofT (lv := [(0, va_rf x0), (1, .int x1), (2, .int x2), (3, va_rf x3)]) hl0 (by decide) (by cases x0 <;> cases x3 <;> rfl) (by cases x0 <;> cases x3 <;> exact Nat.le_of_ble_eq_true rfl) (fun p e s m below meth c A ls X htab hr I hl => ?_)
  generalize ([va_rf x0, .int x1, .int x2, va_rf x3] : List Value).toArray = av at X ⊢
  unfold pL_has at h
  refine q_aload_n X dL_has_0 rfl (lv_at hl 3 rfl) ?_
  refine lv_iconst (v := 0) X.1 X.2.1 dL_has_1 (by decide) ?_
  refine q_aload_n X dL_has_2 rfl (lv_at hl 0 rfl) ?_
  refine lv_iload_n X.1 X.2.1 dL_has_3 rfl (lv_at hl 1 rfl) ?_
  refine lv_iload_n X.1 X.2.1 dL_has_4 rfl (lv_at hl 2 rfl) ?_
  refine q_cXi (As := [.int x1, .int x2]) (rest := [.int (0 : Int32), va_rf x3]) (c1 := 2) (s1 := 12) (d := 7) (mc := 2) (ms := 12) X I hl.1 mX7_has wd_501 dL_has_5 rfl h (fun b h => kX7_has hl0 h) rfl (by simp [q_cat, q_catI, q_catJ]) ⟨by decide, by decide⟩ ⟨by decide, by decide⟩ rfl rfl (fun E ce q9 S H locs I h hce hcv hcl => ?_) (fun v5 S H locs I h => ?_)
  · obtain ⟨rfl, h⟩ := h
    refine q_catch (E := "java/lang/IndexOutOfBoundsException") (pre := []) (suf := []) (st := 0) (en := 10) (hd := 13) (ct := 23) X htab rfl (fun _ h => nomatch h) (by decide) (by decide) wd_427 (by decide +kernel) hce hcv hcl ?_
    refine q_astore (i := 4) (lv' := [(4, va_rf (some q9)), (0, va_rf x0), (1, .int x1), (2, .int x2), (3, va_rf x3)]) X dL_has_13 hl (by decide) (by simp [q_cat, q_catI, q_catJ]) (fun ls hl => ?_)
    refine lv_iconst (v := 1) X.1 X.2.1 dL_has_15 (by decide) ?_
    exact q_iretN X I hr dL_has_16 h (by decide) (by decide)
  · refine lv_i2l X.1 X.2.1 dL_has_8 rfl ?_
    refine q_stJ X I (by decide) (by decide) dL_has_9 h (fun S H locs I h => ?_)
    refine lv_goto (tgt := 17) X.1 X.2.1 dL_has_10 (by decide) ?_
    refine lv_iconst (v := 0) X.1 X.2.1 dL_has_17 (by decide) ?_
    exact q_iretN X I hr dL_has_18 h (by decide) (by decide)

def pL_sum (x0 : Option Nat) (x1 : Int32) (x2 : Int32) (x3 : Option Nat) (S : qS) (post : Int32 → qS → Prop) : Prop :=
  w_at S x0 8 (fun b5 => pX7_sum b5 x1 x2 S (fun v5 S =>
  w_stJ S x3 29 (0 : Int32) v5 (fun S =>
  post (0 : Int32) S)) (fun E S => (E = "java/lang/IndexOutOfBoundsException" ∧ post (1 : Int32) S)))
set_option maxHeartbeats 4000000 in
set_option maxRecDepth 100000 in
theorem kL_sum {l : Launch} (hl0 : l.stackTraces = false) {G : qG} {S : qS} {sz : Nat} {x0 : Option Nat} {x1 : Int32} {x2 : Int32} {x3 : Option Nat} {post : Int32 → qS → Prop} (h : pL_sum x0 x1 x2 x3 S post) : q_MT l yL_sum cL_sum 5 (some .int) [(0, 9, 12, 23)] 8 1 6 G S sz [va_rf x0, .int x1, .int x2, va_rf x3] post := by
  refine q_ofT (lv := [(0, va_rf x0), (1, .int x1), (2, .int x2), (3, va_rf x3)]) hl0 (by decide) (by cases x0 <;> cases x3 <;> rfl) (by cases x0 <;> cases x3 <;> exact Nat.le_of_ble_eq_true rfl) (fun p e s m below meth c A ls X htab hr I hl => ?_)
  generalize ([va_rf x0, .int x1, .int x2, va_rf x3] : List Value).toArray = av at X ⊢
  unfold pL_sum at h
  refine q_aload_n X dL_sum_0 rfl (lv_at hl 3 rfl) ?_
  refine lv_iconst (v := 0) X.1 X.2.1 dL_sum_1 (by decide) ?_
  refine q_aload_n X dL_sum_2 rfl (lv_at hl 0 rfl) ?_
  refine lv_iload_n X.1 X.2.1 dL_sum_3 rfl (lv_at hl 1 rfl) ?_
  refine lv_iload_n X.1 X.2.1 dL_sum_4 rfl (lv_at hl 2 rfl) ?_
  refine q_cXj (As := [.int x1, .int x2]) (rest := [.int (0 : Int32), va_rf x3]) (c1 := 1) (s1 := 6) (d := 7) (mc := 1) (ms := 6) X I hl.1 mX7_sum wd_508 dL_sum_5 rfl h (fun b h => kX7_sum hl0 h) rfl (by simp [q_cat, q_catI, q_catJ]) ⟨by decide, by decide⟩ ⟨by decide, by decide⟩ rfl rfl (fun E ce q9 S H locs I h hce hcv hcl => ?_) (fun v5 S H locs I h => ?_)
  · obtain ⟨rfl, h⟩ := h
    refine q_catch (E := "java/lang/IndexOutOfBoundsException") (pre := []) (suf := []) (st := 0) (en := 9) (hd := 12) (ct := 23) X htab rfl (fun _ h => nomatch h) (by decide) (by decide) wd_427 (by decide +kernel) hce hcv hcl ?_
    refine q_astore (i := 4) (lv' := [(4, va_rf (some q9)), (0, va_rf x0), (1, .int x1), (2, .int x2), (3, va_rf x3)]) X dL_sum_12 hl (by decide) (by simp [q_cat, q_catI, q_catJ]) (fun ls hl => ?_)
    refine lv_iconst (v := 1) X.1 X.2.1 dL_sum_14 (by decide) ?_
    exact q_iretN X I hr dL_sum_15 h (by decide) (by decide)
  · refine q_stJ X I (by decide) (by decide) dL_sum_8 h (fun S H locs I h => ?_)
    refine lv_goto (tgt := 16) X.1 X.2.1 dL_sum_9 (by decide) ?_
    refine lv_iconst (v := 0) X.1 X.2.1 dL_sum_16 (by decide) ?_
    exact q_iretN X I hr dL_sum_17 h (by decide) (by decide)

def pL_single (x0 : Option Nat) (x1 : Int32) (x2 : Int32) (x3 : Int32) (x4 : Option Nat) (S : qS) (g : Nat × Nat) (post : Int32 → qS → Prop) : Prop :=
  w_at S x0 8 (fun b7 => pX7_single b7 x1 x2 x3 S g (fun v7 S =>
  w_stJ S x4 29 (0 : Int32) v7.toInt64 (fun S =>
  post (0 : Int32) S)) (fun E S => (E = "java/lang/IndexOutOfBoundsException" ∧ post (1 : Int32) S) ∨ (E = "java/lang/IllegalArgumentException" ∧ post (2 : Int32) S) ∨ (E = "java/lang/UnsupportedOperationException" ∧ post (3 : Int32) S)))
set_option maxHeartbeats 4000000 in
set_option maxRecDepth 100000 in
theorem kL_single {l : Launch} (hl0 : l.stackTraces = false) {G : qG} {S : qS} {sz : Nat} {x0 : Option Nat} {x1 : Int32} {x2 : Int32} {x3 : Int32} {x4 : Option Nat} {post : Int32 → qS → Prop} {g : Nat × Nat} (he : G.2.2 = g) (h : pL_single x0 x1 x2 x3 x4 S g post) : q_MT l yL_single cL_single 6 (some .int) [(0, 12, 15, 23), (0, 12, 19, 25), (0, 12, 23, 13)] 10 6 183 G S sz [va_rf x0, .int x1, .int x2, .int x3, va_rf x4] post := by
  refine q_ofT (lv := [(0, va_rf x0), (1, .int x1), (2, .int x2), (3, .int x3), (4, va_rf x4)]) hl0 (by decide) (by cases x0 <;> cases x4 <;> rfl) (by cases x0 <;> cases x4 <;> exact Nat.le_of_ble_eq_true rfl) (fun p e s m below meth c A ls X htab hr I hl => ?_)
  generalize ([va_rf x0, .int x1, .int x2, .int x3, va_rf x4] : List Value).toArray = av at X ⊢
  unfold pL_single at h
  refine q_aload X dL_single_0 (lv_at hl 4 rfl) ?_
  refine lv_iconst (v := 0) X.1 X.2.1 dL_single_2 (by decide) ?_
  refine q_aload_n X dL_single_3 rfl (lv_at hl 0 rfl) ?_
  refine lv_iload_n X.1 X.2.1 dL_single_4 rfl (lv_at hl 1 rfl) ?_
  refine lv_iload_n X.1 X.2.1 dL_single_5 rfl (lv_at hl 2 rfl) ?_
  refine lv_iload_n X.1 X.2.1 dL_single_6 rfl (lv_at hl 3 rfl) ?_
  refine q_cXi (As := [.int x1, .int x2, .int x3]) (rest := [.int (0 : Int32), va_rf x4]) (c1 := 6) (s1 := 183) (d := 9) (mc := 6) (ms := 183) X I hl.1 mX7_single wd_515 dL_single_7 rfl h (fun b h => kX7_single hl0 he h) rfl (by simp [q_cat, q_catI, q_catJ]) ⟨by decide, by decide⟩ ⟨by decide, by decide⟩ rfl rfl (fun E ce q9 S H locs I h hce hcv hcl => ?_) (fun v7 S H locs I h => ?_)
  · rcases h with ⟨rfl, h⟩ | ⟨rfl, h⟩ | ⟨rfl, h⟩
    · refine q_catch (E := "java/lang/IndexOutOfBoundsException") (pre := []) (suf := [(0, 12, 19, 25), (0, 12, 23, 13)]) (st := 0) (en := 12) (hd := 15) (ct := 23) X htab rfl (fun _ h => nomatch h) (by decide) (by decide) wd_427 (by decide +kernel) hce hcv hcl ?_
      refine q_astore (i := 5) (lv' := [(5, va_rf (some q9)), (0, va_rf x0), (1, .int x1), (2, .int x2), (3, .int x3), (4, va_rf x4)]) X dL_single_15 hl (by decide) (by simp [q_cat, q_catI, q_catJ]) (fun ls hl => ?_)
      refine lv_iconst (v := 1) X.1 X.2.1 dL_single_17 (by decide) ?_
      exact q_iretN X I hr dL_single_18 h (by decide) (by decide)
    · refine q_catch (E := "java/lang/IllegalArgumentException") (pre := [(0, 12, 15, 23)]) (suf := [(0, 12, 23, 13)]) (st := 0) (en := 12) (hd := 19) (ct := 25) X htab rfl (by intro z hz; simp only [List.mem_cons, List.not_mem_nil, or_false] at hz; rcases hz with rfl <;> first | exact ⟨by decide, _, wd_427, by decide +kernel⟩) (by decide) (by decide) wd_428 (by decide +kernel) hce hcv hcl ?_
      refine q_astore (i := 5) (lv' := [(5, va_rf (some q9)), (0, va_rf x0), (1, .int x1), (2, .int x2), (3, .int x3), (4, va_rf x4)]) X dL_single_19 hl (by decide) (by simp [q_cat, q_catI, q_catJ]) (fun ls hl => ?_)
      refine lv_iconst (v := 2) X.1 X.2.1 dL_single_21 (by decide) ?_
      exact q_iretN X I hr dL_single_22 h (by decide) (by decide)
    · refine q_catch (E := "java/lang/UnsupportedOperationException") (pre := [(0, 12, 15, 23), (0, 12, 19, 25)]) (suf := []) (st := 0) (en := 12) (hd := 23) (ct := 13) X htab rfl (by intro z hz; simp only [List.mem_cons, List.not_mem_nil, or_false] at hz; rcases hz with rfl | rfl <;> first | exact ⟨by decide, _, wd_427, by decide +kernel⟩ | exact ⟨by decide, _, wd_428, by decide +kernel⟩) (by decide) (by decide) wd_236 (by decide +kernel) hce hcv hcl ?_
      refine q_astore (i := 5) (lv' := [(5, va_rf (some q9)), (0, va_rf x0), (1, .int x1), (2, .int x2), (3, .int x3), (4, va_rf x4)]) X dL_single_23 hl (by decide) (by simp [q_cat, q_catI, q_catJ]) (fun ls hl => ?_)
      refine lv_iconst (v := 3) X.1 X.2.1 dL_single_25 (by decide) ?_
      exact q_iretN X I hr dL_single_26 h (by decide) (by decide)
  · refine lv_i2l X.1 X.2.1 dL_single_10 rfl ?_
    refine q_stJ X I (by decide) (by decide) dL_single_11 h (fun S H locs I h => ?_)
    refine lv_goto (tgt := 27) X.1 X.2.1 dL_single_12 (by decide) ?_
    refine lv_iconst (v := 0) X.1 X.2.1 dL_single_27 (by decide) ?_
    exact q_iretN X I hr dL_single_28 h (by decide) (by decide)

def pL_put_J16  (post : Int32 → qS → Prop) (t0 : Option Nat) (t1 : Int32) (t2 : Int64) (S : qS) : Prop :=
  w_stJ S t0 29 t1 t2 (fun S =>
  post (0 : Int32) S)
def pL_put (x0 : Option Nat) (x1 : Int32) (x2 : Int32) (x3 : Option Nat) (S : qS) (post : Int32 → qS → Prop) : Prop :=
  w_at S x0 8 (fun b5 => pX7_put b5 x1 x2 S (fun v5 S =>
  ((v5 = 0 →
  pL_put_J16 post x3 (0 : Int32) (0 : Int64) S) ∧ (¬ v5 = 0 →
  pL_put_J16 post x3 (0 : Int32) (1 : Int64) S))) (fun E S => (E = "java/lang/IndexOutOfBoundsException" ∧ post (1 : Int32) S)))
set_option maxHeartbeats 4000000 in
set_option maxRecDepth 100000 in
theorem kL_put {l : Launch} (hl0 : l.stackTraces = false) {G : qG} {S : qS} {sz : Nat} {x0 : Option Nat} {x1 : Int32} {x2 : Int32} {x3 : Option Nat} {post : Int32 → qS → Prop} (h : pL_put x0 x1 x2 x3 S post) : q_MT l yL_put cL_put 5 (some .int) [(0, 17, 20, 23)] 8 2 12 G S sz [va_rf x0, .int x1, .int x2, va_rf x3] post := by
  refine q_ofT (lv := [(0, va_rf x0), (1, .int x1), (2, .int x2), (3, va_rf x3)]) hl0 (by decide) (by cases x0 <;> cases x3 <;> rfl) (by cases x0 <;> cases x3 <;> exact Nat.le_of_ble_eq_true rfl) (fun p e s m below meth c A ls X htab hr I hl => ?_)
  generalize ([va_rf x0, .int x1, .int x2, va_rf x3] : List Value).toArray = av at X ⊢
  unfold pL_put at h
  refine q_aload_n X dL_put_0 rfl (lv_at hl 3 rfl) ?_
  refine lv_iconst (v := 0) X.1 X.2.1 dL_put_1 (by decide) ?_
  refine q_aload_n X dL_put_2 rfl (lv_at hl 0 rfl) ?_
  refine lv_iload_n X.1 X.2.1 dL_put_3 rfl (lv_at hl 1 rfl) ?_
  refine lv_iload_n X.1 X.2.1 dL_put_4 rfl (lv_at hl 2 rfl) ?_
  refine q_cXi (As := [.int x1, .int x2]) (rest := [.int (0 : Int32), va_rf x3]) (c1 := 2) (s1 := 12) (d := 7) (mc := 2) (ms := 12) X I hl.1 mX7_put wd_587 dL_put_5 rfl h (fun b h => kX7_put hl0 h) rfl (by simp [q_cat, q_catI, q_catJ]) ⟨by decide, by decide⟩ ⟨by decide, by decide⟩ rfl rfl (fun E ce q9 S H locs I h hce hcv hcl => ?_) (fun v5 S H locs I h => ?_)
  · obtain ⟨rfl, h⟩ := h
    refine q_catch (E := "java/lang/IndexOutOfBoundsException") (pre := []) (suf := []) (st := 0) (en := 17) (hd := 20) (ct := 23) X htab rfl (fun _ h => nomatch h) (by decide) (by decide) wd_427 (by decide +kernel) hce hcv hcl ?_
    refine q_astore (i := 4) (lv' := [(4, va_rf (some q9)), (0, va_rf x0), (1, .int x1), (2, .int x2), (3, va_rf x3)]) X dL_put_20 hl (by decide) (by simp [q_cat, q_catI, q_catJ]) (fun ls hl => ?_)
    refine lv_iconst (v := 1) X.1 X.2.1 dL_put_22 (by decide) ?_
    exact q_iretN X I hr dL_put_23 h (by decide) (by decide)
  · have jn16 : ∀ (t0 : Option Nat) (t1 : Int32) (t2 : Int64) (S : qS) (H : Heap) (locs : List Loc) (ls : Array Slot), pL_put_J16 post t0 t1 t2 S → q_H G A s H locs S → lv_has ls 5 [] → W p l e (q_rm 8 2 12) s m av below meth c H locs 2 12 (MQ below (q_Qi G post A) av s 2 12 A) (F0 m 16 ls [.long t2, .int t1, va_rf t0]) := by
      intro t0 t1 t2 S H locs ls h I hl
      unfold pL_put_J16 at h
      refine q_stJ X I (by decide) (by decide) dL_put_16 h (fun S H locs I h => ?_)
      refine lv_goto (tgt := 24) X.1 X.2.1 dL_put_17 (by decide) ?_
      refine lv_iconst (v := 0) X.1 X.2.1 dL_put_24 (by decide) ?_
      exact q_iretN X I hr dL_put_25 h (by decide) (by decide)
    refine lv_if_eq (tgt := 15) X.1 X.2.1 dL_put_8 (by decide) (fun c8 => ?_) (fun c8 => ?_)
    · have h := h.1 c8
      refine lv_lconst (v := 0) X.1 X.2.1 dL_put_15 (by decide) ?_
      exact jn16 _ _ _ _ _ _ _ h I (lv_sub hl [] rfl)
    · have h := h.2 c8
      refine lv_lconst (v := 1) X.1 X.2.1 dL_put_11 (by decide) ?_
      refine lv_goto (tgt := 16) X.1 X.2.1 dL_put_12 (by decide) ?_
      exact jn16 _ _ _ _ _ _ _ h I (lv_sub hl [] rfl)

def pL_take_J15  (post : Int32 → qS → Prop) (t0 : Option Nat) (t1 : Int32) (t2 : Int64) (S : qS) : Prop :=
  w_stJ S t0 29 t1 t2 (fun S =>
  post (0 : Int32) S)
def pL_take (x0 : Option Nat) (x1 : Int32) (x2 : Option Nat) (S : qS) (post : Int32 → qS → Prop) : Prop :=
  w_at S x0 8 (fun b4 => pX7_take b4 x1 S (fun v4 S =>
  ((v4 = 0 →
  pL_take_J15 post x2 (0 : Int32) (0 : Int64) S) ∧ (¬ v4 = 0 →
  pL_take_J15 post x2 (0 : Int32) (1 : Int64) S))) (fun E S => (E = "java/lang/IndexOutOfBoundsException" ∧ post (1 : Int32) S)))
set_option maxHeartbeats 4000000 in
set_option maxRecDepth 100000 in
theorem kL_take {l : Launch} (hl0 : l.stackTraces = false) {G : qG} {S : qS} {sz : Nat} {x0 : Option Nat} {x1 : Int32} {x2 : Option Nat} {post : Int32 → qS → Prop} (h : pL_take x0 x1 x2 S post) : q_MT l yL_take cL_take 4 (some .int) [(0, 16, 19, 23)] 8 1 6 G S sz [va_rf x0, .int x1, va_rf x2] post := by
  refine q_ofT (lv := [(0, va_rf x0), (1, .int x1), (2, va_rf x2)]) hl0 (by decide) (by cases x0 <;> cases x2 <;> rfl) (by cases x0 <;> cases x2 <;> exact Nat.le_of_ble_eq_true rfl) (fun p e s m below meth c A ls X htab hr I hl => ?_)
  generalize ([va_rf x0, .int x1, va_rf x2] : List Value).toArray = av at X ⊢
  unfold pL_take at h
  refine q_aload_n X dL_take_0 rfl (lv_at hl 2 rfl) ?_
  refine lv_iconst (v := 0) X.1 X.2.1 dL_take_1 (by decide) ?_
  refine q_aload_n X dL_take_2 rfl (lv_at hl 0 rfl) ?_
  refine lv_iload_n X.1 X.2.1 dL_take_3 rfl (lv_at hl 1 rfl) ?_
  refine q_cXi (As := [.int x1]) (rest := [.int (0 : Int32), va_rf x2]) (c1 := 1) (s1 := 6) (d := 7) (mc := 1) (ms := 6) X I hl.1 mX7_take wd_613 dL_take_4 rfl h (fun b h => kX7_take hl0 h) rfl (by simp [q_cat, q_catI, q_catJ]) ⟨by decide, by decide⟩ ⟨by decide, by decide⟩ rfl rfl (fun E ce q9 S H locs I h hce hcv hcl => ?_) (fun v4 S H locs I h => ?_)
  · obtain ⟨rfl, h⟩ := h
    refine q_catch (E := "java/lang/IndexOutOfBoundsException") (pre := []) (suf := []) (st := 0) (en := 16) (hd := 19) (ct := 23) X htab rfl (fun _ h => nomatch h) (by decide) (by decide) wd_427 (by decide +kernel) hce hcv hcl ?_
    refine q_astore_n (i := 3) (lv' := [(3, va_rf (some q9)), (0, va_rf x0), (1, .int x1), (2, va_rf x2)]) X dL_take_19 rfl hl (by decide) (by simp [q_cat, q_catI, q_catJ]) (fun ls hl => ?_)
    refine lv_iconst (v := 1) X.1 X.2.1 dL_take_20 (by decide) ?_
    exact q_iretN X I hr dL_take_21 h (by decide) (by decide)
  · have jn15 : ∀ (t0 : Option Nat) (t1 : Int32) (t2 : Int64) (S : qS) (H : Heap) (locs : List Loc) (ls : Array Slot), pL_take_J15 post t0 t1 t2 S → q_H G A s H locs S → lv_has ls 4 [] → W p l e (q_rm 8 1 6) s m av below meth c H locs 1 6 (MQ below (q_Qi G post A) av s 1 6 A) (F0 m 15 ls [.long t2, .int t1, va_rf t0]) := by
      intro t0 t1 t2 S H locs ls h I hl
      unfold pL_take_J15 at h
      refine q_stJ X I (by decide) (by decide) dL_take_15 h (fun S H locs I h => ?_)
      refine lv_goto (tgt := 22) X.1 X.2.1 dL_take_16 (by decide) ?_
      refine lv_iconst (v := 0) X.1 X.2.1 dL_take_22 (by decide) ?_
      exact q_iretN X I hr dL_take_23 h (by decide) (by decide)
    refine lv_if_eq (tgt := 14) X.1 X.2.1 dL_take_7 (by decide) (fun c7 => ?_) (fun c7 => ?_)
    · have h := h.1 c7
      refine lv_lconst (v := 0) X.1 X.2.1 dL_take_14 (by decide) ?_
      exact jn15 _ _ _ _ _ _ _ h I (lv_sub hl [] rfl)
    · have h := h.2 c7
      refine lv_lconst (v := 1) X.1 X.2.1 dL_take_10 (by decide) ?_
      refine lv_goto (tgt := 15) X.1 X.2.1 dL_take_11 (by decide) ?_
      exact jn15 _ _ _ _ _ _ _ h I (lv_sub hl [] rfl)

def pL_give_J16  (post : Int32 → qS → Prop) (t0 : Option Nat) (t1 : Int32) (t2 : Int64) (S : qS) : Prop :=
  w_stJ S t0 29 t1 t2 (fun S =>
  post (0 : Int32) S)
def pL_give (x0 : Option Nat) (x1 : Int32) (x2 : Int32) (x3 : Option Nat) (S : qS) (post : Int32 → qS → Prop) : Prop :=
  w_at S x0 8 (fun b5 => pX7_give b5 x1 x2 S (fun v5 S =>
  ((v5 = 0 →
  pL_give_J16 post x3 (0 : Int32) (0 : Int64) S) ∧ (¬ v5 = 0 →
  pL_give_J16 post x3 (0 : Int32) (1 : Int64) S))) (fun E S => (E = "java/lang/IndexOutOfBoundsException" ∧ post (1 : Int32) S)))
set_option maxHeartbeats 4000000 in
set_option maxRecDepth 100000 in
theorem kL_give {l : Launch} (hl0 : l.stackTraces = false) {G : qG} {S : qS} {sz : Nat} {x0 : Option Nat} {x1 : Int32} {x2 : Int32} {x3 : Option Nat} {post : Int32 → qS → Prop} (h : pL_give x0 x1 x2 x3 S post) : q_MT l yL_give cL_give 5 (some .int) [(0, 17, 20, 23)] 8 2 12 G S sz [va_rf x0, .int x1, .int x2, va_rf x3] post := by
  refine q_ofT (lv := [(0, va_rf x0), (1, .int x1), (2, .int x2), (3, va_rf x3)]) hl0 (by decide) (by cases x0 <;> cases x3 <;> rfl) (by cases x0 <;> cases x3 <;> exact Nat.le_of_ble_eq_true rfl) (fun p e s m below meth c A ls X htab hr I hl => ?_)
  generalize ([va_rf x0, .int x1, .int x2, va_rf x3] : List Value).toArray = av at X ⊢
  unfold pL_give at h
  refine q_aload_n X dL_give_0 rfl (lv_at hl 3 rfl) ?_
  refine lv_iconst (v := 0) X.1 X.2.1 dL_give_1 (by decide) ?_
  refine q_aload_n X dL_give_2 rfl (lv_at hl 0 rfl) ?_
  refine lv_iload_n X.1 X.2.1 dL_give_3 rfl (lv_at hl 1 rfl) ?_
  refine lv_iload_n X.1 X.2.1 dL_give_4 rfl (lv_at hl 2 rfl) ?_
  refine q_cXi (As := [.int x1, .int x2]) (rest := [.int (0 : Int32), va_rf x3]) (c1 := 2) (s1 := 12) (d := 7) (mc := 2) (ms := 12) X I hl.1 mX7_give wd_620 dL_give_5 rfl h (fun b h => kX7_give hl0 h) rfl (by simp [q_cat, q_catI, q_catJ]) ⟨by decide, by decide⟩ ⟨by decide, by decide⟩ rfl rfl (fun E ce q9 S H locs I h hce hcv hcl => ?_) (fun v5 S H locs I h => ?_)
  · obtain ⟨rfl, h⟩ := h
    refine q_catch (E := "java/lang/IndexOutOfBoundsException") (pre := []) (suf := []) (st := 0) (en := 17) (hd := 20) (ct := 23) X htab rfl (fun _ h => nomatch h) (by decide) (by decide) wd_427 (by decide +kernel) hce hcv hcl ?_
    refine q_astore (i := 4) (lv' := [(4, va_rf (some q9)), (0, va_rf x0), (1, .int x1), (2, .int x2), (3, va_rf x3)]) X dL_give_20 hl (by decide) (by simp [q_cat, q_catI, q_catJ]) (fun ls hl => ?_)
    refine lv_iconst (v := 1) X.1 X.2.1 dL_give_22 (by decide) ?_
    exact q_iretN X I hr dL_give_23 h (by decide) (by decide)
  · have jn16 : ∀ (t0 : Option Nat) (t1 : Int32) (t2 : Int64) (S : qS) (H : Heap) (locs : List Loc) (ls : Array Slot), pL_give_J16 post t0 t1 t2 S → q_H G A s H locs S → lv_has ls 5 [] → W p l e (q_rm 8 2 12) s m av below meth c H locs 2 12 (MQ below (q_Qi G post A) av s 2 12 A) (F0 m 16 ls [.long t2, .int t1, va_rf t0]) := by
      intro t0 t1 t2 S H locs ls h I hl
      unfold pL_give_J16 at h
      refine q_stJ X I (by decide) (by decide) dL_give_16 h (fun S H locs I h => ?_)
      refine lv_goto (tgt := 24) X.1 X.2.1 dL_give_17 (by decide) ?_
      refine lv_iconst (v := 0) X.1 X.2.1 dL_give_24 (by decide) ?_
      exact q_iretN X I hr dL_give_25 h (by decide) (by decide)
    refine lv_if_eq (tgt := 15) X.1 X.2.1 dL_give_8 (by decide) (fun c8 => ?_) (fun c8 => ?_)
    · have h := h.1 c8
      refine lv_lconst (v := 0) X.1 X.2.1 dL_give_15 (by decide) ?_
      exact jn16 _ _ _ _ _ _ _ h I (lv_sub hl [] rfl)
    · have h := h.2 c8
      refine lv_lconst (v := 1) X.1 X.2.1 dL_give_11 (by decide) ?_
      refine lv_goto (tgt := 16) X.1 X.2.1 dL_give_12 (by decide) ?_
      exact jn16 _ _ _ _ _ _ _ h I (lv_sub hl [] rfl)

def pL_lend_J18  (post : Int32 → qS → Prop) (t0 : Option Nat) (t1 : Int32) (t2 : Int64) (S : qS) : Prop :=
  w_stJ S t0 29 t1 t2 (fun S =>
  post (0 : Int32) S)
def pL_lend (x0 : Option Nat) (x1 : Int32) (x2 : Int32) (x3 : Int32) (x4 : Option Nat) (S : qS) (post : Int32 → qS → Prop) : Prop :=
  w_at S x0 8 (fun b7 => pX7_lend b7 x1 x2 x3 S (fun v7 S =>
  ((v7 = 0 →
  pL_lend_J18 post x4 (0 : Int32) (0 : Int64) S) ∧ (¬ v7 = 0 →
  pL_lend_J18 post x4 (0 : Int32) (1 : Int64) S))) (fun E S => (E = "java/lang/IndexOutOfBoundsException" ∧ post (1 : Int32) S)))
set_option maxHeartbeats 4000000 in
set_option maxRecDepth 100000 in
theorem kL_lend {l : Launch} (hl0 : l.stackTraces = false) {G : qG} {S : qS} {sz : Nat} {x0 : Option Nat} {x1 : Int32} {x2 : Int32} {x3 : Int32} {x4 : Option Nat} {post : Int32 → qS → Prop} (h : pL_lend x0 x1 x2 x3 x4 S post) : q_MT l yL_lend cL_lend 6 (some .int) [(0, 19, 22, 23)] 8 2 12 G S sz [va_rf x0, .int x1, .int x2, .int x3, va_rf x4] post := by
  refine q_ofT (lv := [(0, va_rf x0), (1, .int x1), (2, .int x2), (3, .int x3), (4, va_rf x4)]) hl0 (by decide) (by cases x0 <;> cases x4 <;> rfl) (by cases x0 <;> cases x4 <;> exact Nat.le_of_ble_eq_true rfl) (fun p e s m below meth c A ls X htab hr I hl => ?_)
  generalize ([va_rf x0, .int x1, .int x2, .int x3, va_rf x4] : List Value).toArray = av at X ⊢
  unfold pL_lend at h
  refine q_aload X dL_lend_0 (lv_at hl 4 rfl) ?_
  refine lv_iconst (v := 0) X.1 X.2.1 dL_lend_2 (by decide) ?_
  refine q_aload_n X dL_lend_3 rfl (lv_at hl 0 rfl) ?_
  refine lv_iload_n X.1 X.2.1 dL_lend_4 rfl (lv_at hl 1 rfl) ?_
  refine lv_iload_n X.1 X.2.1 dL_lend_5 rfl (lv_at hl 2 rfl) ?_
  refine lv_iload_n X.1 X.2.1 dL_lend_6 rfl (lv_at hl 3 rfl) ?_
  refine q_cXi (As := [.int x1, .int x2, .int x3]) (rest := [.int (0 : Int32), va_rf x4]) (c1 := 2) (s1 := 12) (d := 7) (mc := 2) (ms := 12) X I hl.1 mX7_lend wd_639 dL_lend_7 rfl h (fun b h => kX7_lend hl0 h) rfl (by simp [q_cat, q_catI, q_catJ]) ⟨by decide, by decide⟩ ⟨by decide, by decide⟩ rfl rfl (fun E ce q9 S H locs I h hce hcv hcl => ?_) (fun v7 S H locs I h => ?_)
  · obtain ⟨rfl, h⟩ := h
    refine q_catch (E := "java/lang/IndexOutOfBoundsException") (pre := []) (suf := []) (st := 0) (en := 19) (hd := 22) (ct := 23) X htab rfl (fun _ h => nomatch h) (by decide) (by decide) wd_427 (by decide +kernel) hce hcv hcl ?_
    refine q_astore (i := 5) (lv' := [(5, va_rf (some q9)), (0, va_rf x0), (1, .int x1), (2, .int x2), (3, .int x3), (4, va_rf x4)]) X dL_lend_22 hl (by decide) (by simp [q_cat, q_catI, q_catJ]) (fun ls hl => ?_)
    refine lv_iconst (v := 1) X.1 X.2.1 dL_lend_24 (by decide) ?_
    exact q_iretN X I hr dL_lend_25 h (by decide) (by decide)
  · have jn18 : ∀ (t0 : Option Nat) (t1 : Int32) (t2 : Int64) (S : qS) (H : Heap) (locs : List Loc) (ls : Array Slot), pL_lend_J18 post t0 t1 t2 S → q_H G A s H locs S → lv_has ls 6 [] → W p l e (q_rm 8 2 12) s m av below meth c H locs 2 12 (MQ below (q_Qi G post A) av s 2 12 A) (F0 m 18 ls [.long t2, .int t1, va_rf t0]) := by
      intro t0 t1 t2 S H locs ls h I hl
      unfold pL_lend_J18 at h
      refine q_stJ X I (by decide) (by decide) dL_lend_18 h (fun S H locs I h => ?_)
      refine lv_goto (tgt := 26) X.1 X.2.1 dL_lend_19 (by decide) ?_
      refine lv_iconst (v := 0) X.1 X.2.1 dL_lend_26 (by decide) ?_
      exact q_iretN X I hr dL_lend_27 h (by decide) (by decide)
    refine lv_if_eq (tgt := 17) X.1 X.2.1 dL_lend_10 (by decide) (fun c10 => ?_) (fun c10 => ?_)
    · have h := h.1 c10
      refine lv_lconst (v := 0) X.1 X.2.1 dL_lend_17 (by decide) ?_
      exact jn18 _ _ _ _ _ _ _ h I (lv_sub hl [] rfl)
    · have h := h.2 c10
      refine lv_lconst (v := 1) X.1 X.2.1 dL_lend_13 (by decide) ?_
      refine lv_goto (tgt := 18) X.1 X.2.1 dL_lend_14 (by decide) ?_
      exact jn18 _ _ _ _ _ _ _ h I (lv_sub hl [] rfl)

def pL_wear (x0 : Option Nat) (x1 : Int32) (x2 : Int32) (x3 : Option Nat) (S : qS) (post : Int32 → qS → Prop) : Prop :=
  w_at S x0 8 (fun b5 => pX7_wear b5 x1 x2 S (fun v5 S =>
  w_stJ S x3 29 (0 : Int32) v5.toInt64 (fun S =>
  post (0 : Int32) S)) (fun E S => (E = "java/lang/IndexOutOfBoundsException" ∧ post (1 : Int32) S) ∨ (E = "java/lang/IllegalArgumentException" ∧ post (2 : Int32) S)))
set_option maxHeartbeats 4000000 in
set_option maxRecDepth 100000 in
theorem kL_wear {l : Launch} (hl0 : l.stackTraces = false) {G : qG} {S : qS} {sz : Nat} {x0 : Option Nat} {x1 : Int32} {x2 : Int32} {x3 : Option Nat} {post : Int32 → qS → Prop} (h : pL_wear x0 x1 x2 x3 S post) : q_MT l yL_wear cL_wear 5 (some .int) [(0, 10, 13, 23), (0, 10, 17, 25)] 8 2 12 G S sz [va_rf x0, .int x1, .int x2, va_rf x3] post := by
  refine q_ofT (lv := [(0, va_rf x0), (1, .int x1), (2, .int x2), (3, va_rf x3)]) hl0 (by decide) (by cases x0 <;> cases x3 <;> rfl) (by cases x0 <;> cases x3 <;> exact Nat.le_of_ble_eq_true rfl) (fun p e s m below meth c A ls X htab hr I hl => ?_)
  generalize ([va_rf x0, .int x1, .int x2, va_rf x3] : List Value).toArray = av at X ⊢
  unfold pL_wear at h
  refine q_aload_n X dL_wear_0 rfl (lv_at hl 3 rfl) ?_
  refine lv_iconst (v := 0) X.1 X.2.1 dL_wear_1 (by decide) ?_
  refine q_aload_n X dL_wear_2 rfl (lv_at hl 0 rfl) ?_
  refine lv_iload_n X.1 X.2.1 dL_wear_3 rfl (lv_at hl 1 rfl) ?_
  refine lv_iload_n X.1 X.2.1 dL_wear_4 rfl (lv_at hl 2 rfl) ?_
  refine q_cXi (As := [.int x1, .int x2]) (rest := [.int (0 : Int32), va_rf x3]) (c1 := 2) (s1 := 12) (d := 7) (mc := 2) (ms := 12) X I hl.1 mX7_wear wd_646 dL_wear_5 rfl h (fun b h => kX7_wear hl0 h) rfl (by simp [q_cat, q_catI, q_catJ]) ⟨by decide, by decide⟩ ⟨by decide, by decide⟩ rfl rfl (fun E ce q9 S H locs I h hce hcv hcl => ?_) (fun v5 S H locs I h => ?_)
  · rcases h with ⟨rfl, h⟩ | ⟨rfl, h⟩
    · refine q_catch (E := "java/lang/IndexOutOfBoundsException") (pre := []) (suf := [(0, 10, 17, 25)]) (st := 0) (en := 10) (hd := 13) (ct := 23) X htab rfl (fun _ h => nomatch h) (by decide) (by decide) wd_427 (by decide +kernel) hce hcv hcl ?_
      refine q_astore (i := 4) (lv' := [(4, va_rf (some q9)), (0, va_rf x0), (1, .int x1), (2, .int x2), (3, va_rf x3)]) X dL_wear_13 hl (by decide) (by simp [q_cat, q_catI, q_catJ]) (fun ls hl => ?_)
      refine lv_iconst (v := 1) X.1 X.2.1 dL_wear_15 (by decide) ?_
      exact q_iretN X I hr dL_wear_16 h (by decide) (by decide)
    · refine q_catch (E := "java/lang/IllegalArgumentException") (pre := [(0, 10, 13, 23)]) (suf := []) (st := 0) (en := 10) (hd := 17) (ct := 25) X htab rfl (by intro z hz; simp only [List.mem_cons, List.not_mem_nil, or_false] at hz; rcases hz with rfl <;> first | exact ⟨by decide, _, wd_427, by decide +kernel⟩) (by decide) (by decide) wd_428 (by decide +kernel) hce hcv hcl ?_
      refine q_astore (i := 4) (lv' := [(4, va_rf (some q9)), (0, va_rf x0), (1, .int x1), (2, .int x2), (3, va_rf x3)]) X dL_wear_17 hl (by decide) (by simp [q_cat, q_catI, q_catJ]) (fun ls hl => ?_)
      refine lv_iconst (v := 2) X.1 X.2.1 dL_wear_19 (by decide) ?_
      exact q_iretN X I hr dL_wear_20 h (by decide) (by decide)
  · refine lv_i2l X.1 X.2.1 dL_wear_8 rfl ?_
    refine q_stJ X I (by decide) (by decide) dL_wear_9 h (fun S H locs I h => ?_)
    refine lv_goto (tgt := 21) X.1 X.2.1 dL_wear_10 (by decide) ?_
    refine lv_iconst (v := 0) X.1 X.2.1 dL_wear_21 (by decide) ?_
    exact q_iretN X I hr dL_wear_22 h (by decide) (by decide)

def pL_days (x0 : Option Nat) (x1 : Int32) (x2 : Option Nat) (S : qS) (post : Int32 → qS → Prop) : Prop :=
  w_at S x0 8 (fun b4 => pX7_days b4 x1 S (fun v4 S =>
  w_stJ S x2 29 (0 : Int32) v4.toInt64 (fun S =>
  post (0 : Int32) S)) (fun E S => (E = "java/lang/IllegalArgumentException" ∧ post (1 : Int32) S)))
set_option maxHeartbeats 4000000 in
set_option maxRecDepth 100000 in
theorem kL_days {l : Launch} (hl0 : l.stackTraces = false) {G : qG} {S : qS} {sz : Nat} {x0 : Option Nat} {x1 : Int32} {x2 : Option Nat} {post : Int32 → qS → Prop} (h : pL_days x0 x1 x2 S post) : q_MT l yL_days cL_days 4 (some .int) [(0, 9, 12, 25)] 8 1 6 G S sz [va_rf x0, .int x1, va_rf x2] post := by
  refine q_ofT (lv := [(0, va_rf x0), (1, .int x1), (2, va_rf x2)]) hl0 (by decide) (by cases x0 <;> cases x2 <;> rfl) (by cases x0 <;> cases x2 <;> exact Nat.le_of_ble_eq_true rfl) (fun p e s m below meth c A ls X htab hr I hl => ?_)
  generalize ([va_rf x0, .int x1, va_rf x2] : List Value).toArray = av at X ⊢
  unfold pL_days at h
  refine q_aload_n X dL_days_0 rfl (lv_at hl 2 rfl) ?_
  refine lv_iconst (v := 0) X.1 X.2.1 dL_days_1 (by decide) ?_
  refine q_aload_n X dL_days_2 rfl (lv_at hl 0 rfl) ?_
  refine lv_iload_n X.1 X.2.1 dL_days_3 rfl (lv_at hl 1 rfl) ?_
  refine q_cXi (As := [.int x1]) (rest := [.int (0 : Int32), va_rf x2]) (c1 := 1) (s1 := 6) (d := 7) (mc := 1) (ms := 6) X I hl.1 mX7_days wd_663 dL_days_4 rfl h (fun b h => kX7_days hl0 h) rfl (by simp [q_cat, q_catI, q_catJ]) ⟨by decide, by decide⟩ ⟨by decide, by decide⟩ rfl rfl (fun E ce q9 S H locs I h hce hcv hcl => ?_) (fun v4 S H locs I h => ?_)
  · obtain ⟨rfl, h⟩ := h
    refine q_catch (E := "java/lang/IllegalArgumentException") (pre := []) (suf := []) (st := 0) (en := 9) (hd := 12) (ct := 25) X htab rfl (fun _ h => nomatch h) (by decide) (by decide) wd_428 (by decide +kernel) hce hcv hcl ?_
    refine q_astore_n (i := 3) (lv' := [(3, va_rf (some q9)), (0, va_rf x0), (1, .int x1), (2, va_rf x2)]) X dL_days_12 rfl hl (by decide) (by simp [q_cat, q_catI, q_catJ]) (fun ls hl => ?_)
    refine lv_iconst (v := 1) X.1 X.2.1 dL_days_13 (by decide) ?_
    exact q_iretN X I hr dL_days_14 h (by decide) (by decide)
  · refine lv_i2l X.1 X.2.1 dL_days_7 rfl ?_
    refine q_stJ X I (by decide) (by decide) dL_days_8 h (fun S H locs I h => ?_)
    refine lv_goto (tgt := 15) X.1 X.2.1 dL_days_9 (by decide) ?_
    refine lv_iconst (v := 0) X.1 X.2.1 dL_days_15 (by decide) ?_
    exact q_iretN X I hr dL_days_16 h (by decide) (by decide)

def pL_look (x0 : Option Nat) (x1 : Int32) (x2 : Int32) (x3 : Option Nat) (S : qS) (post : Int32 → qS → Prop) : Prop :=
  w_at S x0 8 (fun b5 => pX7_look b5 x1 x2 S (fun v5 S =>
  w_stJ S x3 29 (0 : Int32) v5.toInt64 (fun S =>
  post (0 : Int32) S)) (fun E S => (E = "java/lang/IndexOutOfBoundsException" ∧ post (1 : Int32) S) ∨ (E = "java/util/NoSuchElementException" ∧ post (2 : Int32) S)))
set_option maxHeartbeats 4000000 in
set_option maxRecDepth 100000 in
theorem kL_look {l : Launch} (hl0 : l.stackTraces = false) {G : qG} {S : qS} {sz : Nat} {x0 : Option Nat} {x1 : Int32} {x2 : Int32} {x3 : Option Nat} {post : Int32 → qS → Prop} (h : pL_look x0 x1 x2 x3 S post) : q_MT l yL_look cL_look 5 (some .int) [(0, 10, 13, 23), (0, 10, 17, 68)] 8 2 12 G S sz [va_rf x0, .int x1, .int x2, va_rf x3] post := by
  refine q_ofT (lv := [(0, va_rf x0), (1, .int x1), (2, .int x2), (3, va_rf x3)]) hl0 (by decide) (by cases x0 <;> cases x3 <;> rfl) (by cases x0 <;> cases x3 <;> exact Nat.le_of_ble_eq_true rfl) (fun p e s m below meth c A ls X htab hr I hl => ?_)
  generalize ([va_rf x0, .int x1, .int x2, va_rf x3] : List Value).toArray = av at X ⊢
  unfold pL_look at h
  refine q_aload_n X dL_look_0 rfl (lv_at hl 3 rfl) ?_
  refine lv_iconst (v := 0) X.1 X.2.1 dL_look_1 (by decide) ?_
  refine q_aload_n X dL_look_2 rfl (lv_at hl 0 rfl) ?_
  refine lv_iload_n X.1 X.2.1 dL_look_3 rfl (lv_at hl 1 rfl) ?_
  refine lv_iload_n X.1 X.2.1 dL_look_4 rfl (lv_at hl 2 rfl) ?_
  refine q_cXi (As := [.int x1, .int x2]) (rest := [.int (0 : Int32), va_rf x3]) (c1 := 2) (s1 := 12) (d := 7) (mc := 2) (ms := 12) X I hl.1 mX7_look wd_680 dL_look_5 rfl h (fun b h => kX7_look hl0 h) rfl (by simp [q_cat, q_catI, q_catJ]) ⟨by decide, by decide⟩ ⟨by decide, by decide⟩ rfl rfl (fun E ce q9 S H locs I h hce hcv hcl => ?_) (fun v5 S H locs I h => ?_)
  · rcases h with ⟨rfl, h⟩ | ⟨rfl, h⟩
    · refine q_catch (E := "java/lang/IndexOutOfBoundsException") (pre := []) (suf := [(0, 10, 17, 68)]) (st := 0) (en := 10) (hd := 13) (ct := 23) X htab rfl (fun _ h => nomatch h) (by decide) (by decide) wd_427 (by decide +kernel) hce hcv hcl ?_
      refine q_astore (i := 4) (lv' := [(4, va_rf (some q9)), (0, va_rf x0), (1, .int x1), (2, .int x2), (3, va_rf x3)]) X dL_look_13 hl (by decide) (by simp [q_cat, q_catI, q_catJ]) (fun ls hl => ?_)
      refine lv_iconst (v := 1) X.1 X.2.1 dL_look_15 (by decide) ?_
      exact q_iretN X I hr dL_look_16 h (by decide) (by decide)
    · refine q_catch (E := "java/util/NoSuchElementException") (pre := [(0, 10, 13, 23)]) (suf := []) (st := 0) (en := 10) (hd := 17) (ct := 68) X htab rfl (by intro z hz; simp only [List.mem_cons, List.not_mem_nil, or_false] at hz; rcases hz with rfl <;> first | exact ⟨by decide, _, wd_427, by decide +kernel⟩) (by decide) (by decide) wd_679 (by decide +kernel) hce hcv hcl ?_
      refine q_astore (i := 4) (lv' := [(4, va_rf (some q9)), (0, va_rf x0), (1, .int x1), (2, .int x2), (3, va_rf x3)]) X dL_look_17 hl (by decide) (by simp [q_cat, q_catI, q_catJ]) (fun ls hl => ?_)
      refine lv_iconst (v := 2) X.1 X.2.1 dL_look_19 (by decide) ?_
      exact q_iretN X I hr dL_look_20 h (by decide) (by decide)
  · refine lv_i2l X.1 X.2.1 dL_look_8 rfl ?_
    refine q_stJ X I (by decide) (by decide) dL_look_9 h (fun S H locs I h => ?_)
    refine lv_goto (tgt := 21) X.1 X.2.1 dL_look_10 (by decide) ?_
    refine lv_iconst (v := 0) X.1 X.2.1 dL_look_21 (by decide) ?_
    exact q_iretN X I hr dL_look_22 h (by decide) (by decide)

def pL_line (x0 : Option Nat) (x1 : Int32) (x2 : Int32) (x3 : Int32) (x4 : Option Nat) (S : qS) (post : Int32 → qS → Prop) : Prop :=
  w_at S x0 8 (fun b7 => pX7_line b7 x1 x2 x3 S (fun v7 S =>
  w_stJ S x4 29 (0 : Int32) v7.toInt64 (fun S =>
  post (0 : Int32) S)) (fun E S => (E = "java/lang/IndexOutOfBoundsException" ∧ post (1 : Int32) S)))
set_option maxHeartbeats 4000000 in
set_option maxRecDepth 100000 in
theorem kL_line {l : Launch} (hl0 : l.stackTraces = false) {G : qG} {S : qS} {sz : Nat} {x0 : Option Nat} {x1 : Int32} {x2 : Int32} {x3 : Int32} {x4 : Option Nat} {post : Int32 → qS → Prop} (h : pL_line x0 x1 x2 x3 x4 S post) : q_MT l yL_line cL_line 6 (some .int) [(0, 12, 15, 23)] 8 1 6 G S sz [va_rf x0, .int x1, .int x2, .int x3, va_rf x4] post := by
  refine q_ofT (lv := [(0, va_rf x0), (1, .int x1), (2, .int x2), (3, .int x3), (4, va_rf x4)]) hl0 (by decide) (by cases x0 <;> cases x4 <;> rfl) (by cases x0 <;> cases x4 <;> exact Nat.le_of_ble_eq_true rfl) (fun p e s m below meth c A ls X htab hr I hl => ?_)
  generalize ([va_rf x0, .int x1, .int x2, .int x3, va_rf x4] : List Value).toArray = av at X ⊢
  unfold pL_line at h
  refine q_aload X dL_line_0 (lv_at hl 4 rfl) ?_
  refine lv_iconst (v := 0) X.1 X.2.1 dL_line_2 (by decide) ?_
  refine q_aload_n X dL_line_3 rfl (lv_at hl 0 rfl) ?_
  refine lv_iload_n X.1 X.2.1 dL_line_4 rfl (lv_at hl 1 rfl) ?_
  refine lv_iload_n X.1 X.2.1 dL_line_5 rfl (lv_at hl 2 rfl) ?_
  refine lv_iload_n X.1 X.2.1 dL_line_6 rfl (lv_at hl 3 rfl) ?_
  refine q_cXi (As := [.int x1, .int x2, .int x3]) (rest := [.int (0 : Int32), va_rf x4]) (c1 := 1) (s1 := 6) (d := 7) (mc := 1) (ms := 6) X I hl.1 mX7_line wd_712 dL_line_7 rfl h (fun b h => kX7_line hl0 h) rfl (by simp [q_cat, q_catI, q_catJ]) ⟨by decide, by decide⟩ ⟨by decide, by decide⟩ rfl rfl (fun E ce q9 S H locs I h hce hcv hcl => ?_) (fun v7 S H locs I h => ?_)
  · obtain ⟨rfl, h⟩ := h
    refine q_catch (E := "java/lang/IndexOutOfBoundsException") (pre := []) (suf := []) (st := 0) (en := 12) (hd := 15) (ct := 23) X htab rfl (fun _ h => nomatch h) (by decide) (by decide) wd_427 (by decide +kernel) hce hcv hcl ?_
    refine q_astore (i := 5) (lv' := [(5, va_rf (some q9)), (0, va_rf x0), (1, .int x1), (2, .int x2), (3, .int x3), (4, va_rf x4)]) X dL_line_15 hl (by decide) (by simp [q_cat, q_catI, q_catJ]) (fun ls hl => ?_)
    refine lv_iconst (v := 1) X.1 X.2.1 dL_line_17 (by decide) ?_
    exact q_iretN X I hr dL_line_18 h (by decide) (by decide)
  · refine lv_i2l X.1 X.2.1 dL_line_10 rfl ?_
    refine q_stJ X I (by decide) (by decide) dL_line_11 h (fun S H locs I h => ?_)
    refine lv_goto (tgt := 19) X.1 X.2.1 dL_line_12 (by decide) ?_
    refine lv_iconst (v := 0) X.1 X.2.1 dL_line_19 (by decide) ?_
    exact q_iretN X I hr dL_line_20 h (by decide) (by decide)

def pL_offer (x0 : Option Nat) (x1 : Int32) (x2 : Int32) (x3 : Int32) (x4 : Int32) (x5 : Int32) (x6 : Int32) (x7 : Int32) (x8 : Int32) (x9 : Option Nat) (S : qS) (g : Nat × Nat) (post : Int32 → qS → Prop) : Prop :=
  w_at S x0 8 (fun b17 => pX7_offer b17 x1 x2 x3 x4 x5 x6 x7 x8 S g (fun v17 S =>
  w_stJ S x9 29 (0 : Int32) v17.toInt64 (fun S =>
  post (0 : Int32) S)) (fun E S => (E = "java/lang/IndexOutOfBoundsException" ∧ post (1 : Int32) S) ∨ (E = "java/lang/IllegalArgumentException" ∧ post (2 : Int32) S) ∨ (E = "java/lang/UnsupportedOperationException" ∧ post (3 : Int32) S)))
set_option maxHeartbeats 4000000 in
set_option maxRecDepth 100000 in
theorem kL_offer {l : Launch} (hl0 : l.stackTraces = false) {G : qG} {S : qS} {sz : Nat} {x0 : Option Nat} {x1 : Int32} {x2 : Int32} {x3 : Int32} {x4 : Int32} {x5 : Int32} {x6 : Int32} {x7 : Int32} {x8 : Int32} {x9 : Option Nat} {post : Int32 → qS → Prop} {g : Nat × Nat} (he : G.2.2 = g) (h : pL_offer x0 x1 x2 x3 x4 x5 x6 x7 x8 x9 S g post) : q_MT l yL_offer cL_offer 11 (some .int) [(0, 22, 25, 23), (0, 22, 29, 25), (0, 22, 33, 13)] 9 12 161 G S sz [va_rf x0, .int x1, .int x2, .int x3, .int x4, .int x5, .int x6, .int x7, .int x8, va_rf x9] post := by
  refine q_ofT (lv := [(0, va_rf x0), (1, .int x1), (2, .int x2), (3, .int x3), (4, .int x4), (5, .int x5), (6, .int x6), (7, .int x7), (8, .int x8), (9, va_rf x9)]) hl0 (by decide) (by cases x0 <;> cases x9 <;> rfl) (by cases x0 <;> cases x9 <;> exact Nat.le_of_ble_eq_true rfl) (fun p e s m below meth c A ls X htab hr I hl => ?_)
  generalize ([va_rf x0, .int x1, .int x2, .int x3, .int x4, .int x5, .int x6, .int x7, .int x8, va_rf x9] : List Value).toArray = av at X ⊢
  unfold pL_offer at h
  refine q_aload X dL_offer_0 (lv_at hl 9 rfl) ?_
  refine lv_iconst (v := 0) X.1 X.2.1 dL_offer_2 (by decide) ?_
  refine q_aload_n X dL_offer_3 rfl (lv_at hl 0 rfl) ?_
  refine lv_iload_n X.1 X.2.1 dL_offer_4 rfl (lv_at hl 1 rfl) ?_
  refine lv_iload_n X.1 X.2.1 dL_offer_5 rfl (lv_at hl 2 rfl) ?_
  refine lv_iload_n X.1 X.2.1 dL_offer_6 rfl (lv_at hl 3 rfl) ?_
  refine lv_iload X.1 X.2.1 dL_offer_7 (lv_at hl 4 rfl) ?_
  refine lv_iload X.1 X.2.1 dL_offer_9 (lv_at hl 5 rfl) ?_
  refine lv_iload X.1 X.2.1 dL_offer_11 (lv_at hl 6 rfl) ?_
  refine lv_iload X.1 X.2.1 dL_offer_13 (lv_at hl 7 rfl) ?_
  refine lv_iload X.1 X.2.1 dL_offer_15 (lv_at hl 8 rfl) ?_
  refine q_cXi (As := [.int x1, .int x2, .int x3, .int x4, .int x5, .int x6, .int x7, .int x8]) (rest := [.int (0 : Int32), va_rf x9]) (c1 := 12) (s1 := 161) (d := 8) (mc := 12) (ms := 161) X I hl.1 mX7_offer wd_719 dL_offer_17 rfl h (fun b h => kX7_offer hl0 he h) rfl (by simp [q_cat, q_catI, q_catJ]) ⟨by decide, by decide⟩ ⟨by decide, by decide⟩ rfl rfl (fun E ce q9 S H locs I h hce hcv hcl => ?_) (fun v17 S H locs I h => ?_)
  · rcases h with ⟨rfl, h⟩ | ⟨rfl, h⟩ | ⟨rfl, h⟩
    · refine q_catch (E := "java/lang/IndexOutOfBoundsException") (pre := []) (suf := [(0, 22, 29, 25), (0, 22, 33, 13)]) (st := 0) (en := 22) (hd := 25) (ct := 23) X htab rfl (fun _ h => nomatch h) (by decide) (by decide) wd_427 (by decide +kernel) hce hcv hcl ?_
      refine q_astore (i := 10) (lv' := [(10, va_rf (some q9)), (0, va_rf x0), (1, .int x1), (2, .int x2), (3, .int x3), (4, .int x4), (5, .int x5), (6, .int x6), (7, .int x7), (8, .int x8), (9, va_rf x9)]) X dL_offer_25 hl (by decide) (by simp [q_cat, q_catI, q_catJ]) (fun ls hl => ?_)
      refine lv_iconst (v := 1) X.1 X.2.1 dL_offer_27 (by decide) ?_
      exact q_iretN X I hr dL_offer_28 h (by decide) (by decide)
    · refine q_catch (E := "java/lang/IllegalArgumentException") (pre := [(0, 22, 25, 23)]) (suf := [(0, 22, 33, 13)]) (st := 0) (en := 22) (hd := 29) (ct := 25) X htab rfl (by intro z hz; simp only [List.mem_cons, List.not_mem_nil, or_false] at hz; rcases hz with rfl <;> first | exact ⟨by decide, _, wd_427, by decide +kernel⟩) (by decide) (by decide) wd_428 (by decide +kernel) hce hcv hcl ?_
      refine q_astore (i := 10) (lv' := [(10, va_rf (some q9)), (0, va_rf x0), (1, .int x1), (2, .int x2), (3, .int x3), (4, .int x4), (5, .int x5), (6, .int x6), (7, .int x7), (8, .int x8), (9, va_rf x9)]) X dL_offer_29 hl (by decide) (by simp [q_cat, q_catI, q_catJ]) (fun ls hl => ?_)
      refine lv_iconst (v := 2) X.1 X.2.1 dL_offer_31 (by decide) ?_
      exact q_iretN X I hr dL_offer_32 h (by decide) (by decide)
    · refine q_catch (E := "java/lang/UnsupportedOperationException") (pre := [(0, 22, 25, 23), (0, 22, 29, 25)]) (suf := []) (st := 0) (en := 22) (hd := 33) (ct := 13) X htab rfl (by intro z hz; simp only [List.mem_cons, List.not_mem_nil, or_false] at hz; rcases hz with rfl | rfl <;> first | exact ⟨by decide, _, wd_427, by decide +kernel⟩ | exact ⟨by decide, _, wd_428, by decide +kernel⟩) (by decide) (by decide) wd_236 (by decide +kernel) hce hcv hcl ?_
      refine q_astore (i := 10) (lv' := [(10, va_rf (some q9)), (0, va_rf x0), (1, .int x1), (2, .int x2), (3, .int x3), (4, .int x4), (5, .int x5), (6, .int x6), (7, .int x7), (8, .int x8), (9, va_rf x9)]) X dL_offer_33 hl (by decide) (by simp [q_cat, q_catI, q_catJ]) (fun ls hl => ?_)
      refine lv_iconst (v := 3) X.1 X.2.1 dL_offer_35 (by decide) ?_
      exact q_iretN X I hr dL_offer_36 h (by decide) (by decide)
  · refine lv_i2l X.1 X.2.1 dL_offer_20 rfl ?_
    refine q_stJ X I (by decide) (by decide) dL_offer_21 h (fun S H locs I h => ?_)
    refine lv_goto (tgt := 37) X.1 X.2.1 dL_offer_22 (by decide) ?_
    refine lv_iconst (v := 0) X.1 X.2.1 dL_offer_37 (by decide) ?_
    exact q_iretN X I hr dL_offer_38 h (by decide) (by decide)

def pL_agree (x0 : Option Nat) (x1 : Int32) (x2 : Option Nat) (S : qS) (post : Int32 → qS → Prop) : Prop :=
  w_at S x0 8 (fun b4 => pX7_agree b4 x1 S (fun v4 S =>
  w_stJ S x2 29 (0 : Int32) v4.toInt64 (fun S =>
  post (0 : Int32) S)) (fun E S => (E = "java/lang/IndexOutOfBoundsException" ∧ post (1 : Int32) S)))
set_option maxHeartbeats 4000000 in
set_option maxRecDepth 100000 in
theorem kL_agree {l : Launch} (hl0 : l.stackTraces = false) {G : qG} {S : qS} {sz : Nat} {x0 : Option Nat} {x1 : Int32} {x2 : Option Nat} {post : Int32 → qS → Prop} (h : pL_agree x0 x1 x2 S post) : q_MT l yL_agree cL_agree 4 (some .int) [(0, 9, 12, 23)] 8 1 6 G S sz [va_rf x0, .int x1, va_rf x2] post := by
  refine q_ofT (lv := [(0, va_rf x0), (1, .int x1), (2, va_rf x2)]) hl0 (by decide) (by cases x0 <;> cases x2 <;> rfl) (by cases x0 <;> cases x2 <;> exact Nat.le_of_ble_eq_true rfl) (fun p e s m below meth c A ls X htab hr I hl => ?_)
  generalize ([va_rf x0, .int x1, va_rf x2] : List Value).toArray = av at X ⊢
  unfold pL_agree at h
  refine q_aload_n X dL_agree_0 rfl (lv_at hl 2 rfl) ?_
  refine lv_iconst (v := 0) X.1 X.2.1 dL_agree_1 (by decide) ?_
  refine q_aload_n X dL_agree_2 rfl (lv_at hl 0 rfl) ?_
  refine lv_iload_n X.1 X.2.1 dL_agree_3 rfl (lv_at hl 1 rfl) ?_
  refine q_cXi (As := [.int x1]) (rest := [.int (0 : Int32), va_rf x2]) (c1 := 1) (s1 := 6) (d := 7) (mc := 1) (ms := 6) X I hl.1 mX7_agree wd_777 dL_agree_4 rfl h (fun b h => kX7_agree hl0 h) rfl (by simp [q_cat, q_catI, q_catJ]) ⟨by decide, by decide⟩ ⟨by decide, by decide⟩ rfl rfl (fun E ce q9 S H locs I h hce hcv hcl => ?_) (fun v4 S H locs I h => ?_)
  · obtain ⟨rfl, h⟩ := h
    refine q_catch (E := "java/lang/IndexOutOfBoundsException") (pre := []) (suf := []) (st := 0) (en := 9) (hd := 12) (ct := 23) X htab rfl (fun _ h => nomatch h) (by decide) (by decide) wd_427 (by decide +kernel) hce hcv hcl ?_
    refine q_astore_n (i := 3) (lv' := [(3, va_rf (some q9)), (0, va_rf x0), (1, .int x1), (2, va_rf x2)]) X dL_agree_12 rfl hl (by decide) (by simp [q_cat, q_catI, q_catJ]) (fun ls hl => ?_)
    refine lv_iconst (v := 1) X.1 X.2.1 dL_agree_13 (by decide) ?_
    exact q_iretN X I hr dL_agree_14 h (by decide) (by decide)
  · refine lv_i2l X.1 X.2.1 dL_agree_7 rfl ?_
    refine q_stJ X I (by decide) (by decide) dL_agree_8 h (fun S H locs I h => ?_)
    refine lv_goto (tgt := 15) X.1 X.2.1 dL_agree_9 (by decide) ?_
    refine lv_iconst (v := 0) X.1 X.2.1 dL_agree_15 (by decide) ?_
    exact q_iretN X I hr dL_agree_16 h (by decide) (by decide)

def pL_withdraw_J15  (post : Int32 → qS → Prop) (t0 : Option Nat) (t1 : Int32) (t2 : Int64) (S : qS) : Prop :=
  w_stJ S t0 29 t1 t2 (fun S =>
  post (0 : Int32) S)
def pL_withdraw (x0 : Option Nat) (x1 : Int32) (x2 : Option Nat) (S : qS) (post : Int32 → qS → Prop) : Prop :=
  w_at S x0 8 (fun b4 => pX7_withdraw b4 x1 S (fun v4 S =>
  ((v4 = 0 →
  pL_withdraw_J15 post x2 (0 : Int32) (0 : Int64) S) ∧ (¬ v4 = 0 →
  pL_withdraw_J15 post x2 (0 : Int32) (1 : Int64) S))) (fun E S => (E = "java/lang/IndexOutOfBoundsException" ∧ post (1 : Int32) S)))
set_option maxHeartbeats 4000000 in
set_option maxRecDepth 100000 in
theorem kL_withdraw {l : Launch} (hl0 : l.stackTraces = false) {G : qG} {S : qS} {sz : Nat} {x0 : Option Nat} {x1 : Int32} {x2 : Option Nat} {post : Int32 → qS → Prop} (h : pL_withdraw x0 x1 x2 S post) : q_MT l yL_withdraw cL_withdraw 4 (some .int) [(0, 16, 19, 23)] 8 1 6 G S sz [va_rf x0, .int x1, va_rf x2] post := by
  refine q_ofT (lv := [(0, va_rf x0), (1, .int x1), (2, va_rf x2)]) hl0 (by decide) (by cases x0 <;> cases x2 <;> rfl) (by cases x0 <;> cases x2 <;> exact Nat.le_of_ble_eq_true rfl) (fun p e s m below meth c A ls X htab hr I hl => ?_)
  generalize ([va_rf x0, .int x1, va_rf x2] : List Value).toArray = av at X ⊢
  unfold pL_withdraw at h
  refine q_aload_n X dL_withdraw_0 rfl (lv_at hl 2 rfl) ?_
  refine lv_iconst (v := 0) X.1 X.2.1 dL_withdraw_1 (by decide) ?_
  refine q_aload_n X dL_withdraw_2 rfl (lv_at hl 0 rfl) ?_
  refine lv_iload_n X.1 X.2.1 dL_withdraw_3 rfl (lv_at hl 1 rfl) ?_
  refine q_cXi (As := [.int x1]) (rest := [.int (0 : Int32), va_rf x2]) (c1 := 1) (s1 := 6) (d := 7) (mc := 1) (ms := 6) X I hl.1 mX7_withdraw wd_814 dL_withdraw_4 rfl h (fun b h => kX7_withdraw hl0 h) rfl (by simp [q_cat, q_catI, q_catJ]) ⟨by decide, by decide⟩ ⟨by decide, by decide⟩ rfl rfl (fun E ce q9 S H locs I h hce hcv hcl => ?_) (fun v4 S H locs I h => ?_)
  · obtain ⟨rfl, h⟩ := h
    refine q_catch (E := "java/lang/IndexOutOfBoundsException") (pre := []) (suf := []) (st := 0) (en := 16) (hd := 19) (ct := 23) X htab rfl (fun _ h => nomatch h) (by decide) (by decide) wd_427 (by decide +kernel) hce hcv hcl ?_
    refine q_astore_n (i := 3) (lv' := [(3, va_rf (some q9)), (0, va_rf x0), (1, .int x1), (2, va_rf x2)]) X dL_withdraw_19 rfl hl (by decide) (by simp [q_cat, q_catI, q_catJ]) (fun ls hl => ?_)
    refine lv_iconst (v := 1) X.1 X.2.1 dL_withdraw_20 (by decide) ?_
    exact q_iretN X I hr dL_withdraw_21 h (by decide) (by decide)
  · have jn15 : ∀ (t0 : Option Nat) (t1 : Int32) (t2 : Int64) (S : qS) (H : Heap) (locs : List Loc) (ls : Array Slot), pL_withdraw_J15 post t0 t1 t2 S → q_H G A s H locs S → lv_has ls 4 [] → W p l e (q_rm 8 1 6) s m av below meth c H locs 1 6 (MQ below (q_Qi G post A) av s 1 6 A) (F0 m 15 ls [.long t2, .int t1, va_rf t0]) := by
      intro t0 t1 t2 S H locs ls h I hl
      unfold pL_withdraw_J15 at h
      refine q_stJ X I (by decide) (by decide) dL_withdraw_15 h (fun S H locs I h => ?_)
      refine lv_goto (tgt := 22) X.1 X.2.1 dL_withdraw_16 (by decide) ?_
      refine lv_iconst (v := 0) X.1 X.2.1 dL_withdraw_22 (by decide) ?_
      exact q_iretN X I hr dL_withdraw_23 h (by decide) (by decide)
    refine lv_if_eq (tgt := 14) X.1 X.2.1 dL_withdraw_7 (by decide) (fun c7 => ?_) (fun c7 => ?_)
    · have h := h.1 c7
      refine lv_lconst (v := 0) X.1 X.2.1 dL_withdraw_14 (by decide) ?_
      exact jn15 _ _ _ _ _ _ _ h I (lv_sub hl [] rfl)
    · have h := h.2 c7
      refine lv_lconst (v := 1) X.1 X.2.1 dL_withdraw_10 (by decide) ?_
      refine lv_goto (tgt := 15) X.1 X.2.1 dL_withdraw_11 (by decide) ?_
      exact jn15 _ _ _ _ _ _ _ h I (lv_sub hl [] rfl)

def pL_times (x0 : Option Nat) (x1 : Int32) (x2 : Int32) (S : qS) (post : Int32 → qS → Prop) : Prop :=
  w_at S x0 8 (fun b3 => pX7_times b3 x1 x2 S (fun S =>
  post (0 : Int32) S) (fun E S => (E = "java/lang/IndexOutOfBoundsException" ∧ post (1 : Int32) S) ∨ (E = "java/lang/IllegalArgumentException" ∧ post (2 : Int32) S)))
set_option maxHeartbeats 4000000 in
set_option maxRecDepth 100000 in
theorem kL_times {l : Launch} (hl0 : l.stackTraces = false) {G : qG} {S : qS} {sz : Nat} {x0 : Option Nat} {x1 : Int32} {x2 : Int32} {post : Int32 → qS → Prop} (h : pL_times x0 x1 x2 S post) : q_MT l yL_times cL_times 4 (some .int) [(0, 6, 9, 23), (0, 6, 12, 25)] 8 2 12 G S sz [va_rf x0, .int x1, .int x2] post := by
  refine q_ofT (lv := [(0, va_rf x0), (1, .int x1), (2, .int x2)]) hl0 (by decide) (by cases x0 <;> rfl) (by cases x0 <;> exact Nat.le_of_ble_eq_true rfl) (fun p e s m below meth c A ls X htab hr I hl => ?_)
  generalize ([va_rf x0, .int x1, .int x2] : List Value).toArray = av at X ⊢
  unfold pL_times at h
  refine q_aload_n X dL_times_0 rfl (lv_at hl 0 rfl) ?_
  refine lv_iload_n X.1 X.2.1 dL_times_1 rfl (lv_at hl 1 rfl) ?_
  refine lv_iload_n X.1 X.2.1 dL_times_2 rfl (lv_at hl 2 rfl) ?_
  refine q_cXv (As := [.int x1, .int x2]) (rest := []) (c1 := 2) (s1 := 12) (d := 7) (mc := 2) (ms := 12) X I hl.1 mX7_times wd_821 dL_times_3 rfl h (fun b h => kX7_times hl0 h) rfl (Nat.le_of_ble_eq_true rfl) ⟨by decide, by decide⟩ ⟨by decide, by decide⟩ rfl rfl (fun E ce q9 S H locs I h hce hcv hcl => ?_) (fun S H locs I h => ?_)
  · rcases h with ⟨rfl, h⟩ | ⟨rfl, h⟩
    · refine q_catch (E := "java/lang/IndexOutOfBoundsException") (pre := []) (suf := [(0, 6, 12, 25)]) (st := 0) (en := 6) (hd := 9) (ct := 23) X htab rfl (fun _ h => nomatch h) (by decide) (by decide) wd_427 (by decide +kernel) hce hcv hcl ?_
      refine q_astore_n (i := 3) (lv' := [(3, va_rf (some q9)), (0, va_rf x0), (1, .int x1), (2, .int x2)]) X dL_times_9 rfl hl (by decide) rfl (fun ls hl => ?_)
      refine lv_iconst (v := 1) X.1 X.2.1 dL_times_10 (by decide) ?_
      exact q_iretN X I hr dL_times_11 h (by decide) (by decide)
    · refine q_catch (E := "java/lang/IllegalArgumentException") (pre := [(0, 6, 9, 23)]) (suf := []) (st := 0) (en := 6) (hd := 12) (ct := 25) X htab rfl (by intro z hz; simp only [List.mem_cons, List.not_mem_nil, or_false] at hz; rcases hz with rfl <;> first | exact ⟨by decide, _, wd_427, by decide +kernel⟩) (by decide) (by decide) wd_428 (by decide +kernel) hce hcv hcl ?_
      refine q_astore_n (i := 3) (lv' := [(3, va_rf (some q9)), (0, va_rf x0), (1, .int x1), (2, .int x2)]) X dL_times_12 rfl hl (by decide) rfl (fun ls hl => ?_)
      refine lv_iconst (v := 2) X.1 X.2.1 dL_times_13 (by decide) ?_
      exact q_iretN X I hr dL_times_14 h (by decide) (by decide)
  · refine lv_goto (tgt := 15) X.1 X.2.1 dL_times_6 (by decide) ?_
    refine lv_iconst (v := 0) X.1 X.2.1 dL_times_15 (by decide) ?_
    exact q_iretN X I hr dL_times_16 h (by decide) (by decide)

def pL_weigh (x0 : Option Nat) (x1 : Int32) (x2 : Int32) (S : qS) (post : Int32 → qS → Prop) : Prop :=
  w_at S x0 8 (fun b3 => pX7_weigh b3 x1 x2 S (fun S =>
  post (0 : Int32) S) (fun E S => (E = "java/lang/IndexOutOfBoundsException" ∧ post (1 : Int32) S) ∨ (E = "java/lang/IllegalArgumentException" ∧ post (2 : Int32) S)))
set_option maxHeartbeats 4000000 in
set_option maxRecDepth 100000 in
theorem kL_weigh {l : Launch} (hl0 : l.stackTraces = false) {G : qG} {S : qS} {sz : Nat} {x0 : Option Nat} {x1 : Int32} {x2 : Int32} {post : Int32 → qS → Prop} (h : pL_weigh x0 x1 x2 S post) : q_MT l yL_weigh cL_weigh 4 (some .int) [(0, 6, 9, 23), (0, 6, 12, 25)] 8 2 12 G S sz [va_rf x0, .int x1, .int x2] post := by
  refine q_ofT (lv := [(0, va_rf x0), (1, .int x1), (2, .int x2)]) hl0 (by decide) (by cases x0 <;> rfl) (by cases x0 <;> exact Nat.le_of_ble_eq_true rfl) (fun p e s m below meth c A ls X htab hr I hl => ?_)
  generalize ([va_rf x0, .int x1, .int x2] : List Value).toArray = av at X ⊢
  unfold pL_weigh at h
  refine q_aload_n X dL_weigh_0 rfl (lv_at hl 0 rfl) ?_
  refine lv_iload_n X.1 X.2.1 dL_weigh_1 rfl (lv_at hl 1 rfl) ?_
  refine lv_iload_n X.1 X.2.1 dL_weigh_2 rfl (lv_at hl 2 rfl) ?_
  refine q_cXv (As := [.int x1, .int x2]) (rest := []) (c1 := 2) (s1 := 12) (d := 7) (mc := 2) (ms := 12) X I hl.1 mX7_weigh wd_828 dL_weigh_3 rfl h (fun b h => kX7_weigh hl0 h) rfl (Nat.le_of_ble_eq_true rfl) ⟨by decide, by decide⟩ ⟨by decide, by decide⟩ rfl rfl (fun E ce q9 S H locs I h hce hcv hcl => ?_) (fun S H locs I h => ?_)
  · rcases h with ⟨rfl, h⟩ | ⟨rfl, h⟩
    · refine q_catch (E := "java/lang/IndexOutOfBoundsException") (pre := []) (suf := [(0, 6, 12, 25)]) (st := 0) (en := 6) (hd := 9) (ct := 23) X htab rfl (fun _ h => nomatch h) (by decide) (by decide) wd_427 (by decide +kernel) hce hcv hcl ?_
      refine q_astore_n (i := 3) (lv' := [(3, va_rf (some q9)), (0, va_rf x0), (1, .int x1), (2, .int x2)]) X dL_weigh_9 rfl hl (by decide) rfl (fun ls hl => ?_)
      refine lv_iconst (v := 1) X.1 X.2.1 dL_weigh_10 (by decide) ?_
      exact q_iretN X I hr dL_weigh_11 h (by decide) (by decide)
    · refine q_catch (E := "java/lang/IllegalArgumentException") (pre := [(0, 6, 9, 23)]) (suf := []) (st := 0) (en := 6) (hd := 12) (ct := 25) X htab rfl (by intro z hz; simp only [List.mem_cons, List.not_mem_nil, or_false] at hz; rcases hz with rfl <;> first | exact ⟨by decide, _, wd_427, by decide +kernel⟩) (by decide) (by decide) wd_428 (by decide +kernel) hce hcv hcl ?_
      refine q_astore_n (i := 3) (lv' := [(3, va_rf (some q9)), (0, va_rf x0), (1, .int x1), (2, .int x2)]) X dL_weigh_12 rfl hl (by decide) rfl (fun ls hl => ?_)
      refine lv_iconst (v := 2) X.1 X.2.1 dL_weigh_13 (by decide) ?_
      exact q_iretN X I hr dL_weigh_14 h (by decide) (by decide)
  · refine lv_goto (tgt := 15) X.1 X.2.1 dL_weigh_6 (by decide) ?_
    refine lv_iconst (v := 0) X.1 X.2.1 dL_weigh_15 (by decide) ?_
    exact q_iretN X I hr dL_weigh_16 h (by decide) (by decide)
