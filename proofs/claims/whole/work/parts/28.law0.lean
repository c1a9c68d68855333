def pL_law_J193 (k1708 : Int32 → qS → Prop) (xs : Nat → Int32) (L : Nat) (g : Nat × Nat) (x1 x2 x3 : Nat) (K : Int32 → qS → Prop) (x4 : Int32) (S : qS) : Prop :=
  k1708 x4 S
def pL_c0 (xs : Nat → Int32) (L : Nat) (g : Nat × Nat) (x1 x2 x3 : Nat) (K : Int32 → qS → Prop) (x4 : Int32) (S : qS) : Prop :=
  pL_player (some x1) (some x3) S g (fun v154 S =>
  w_at S (some x2) 9 (fun b160 => pX8_player b160  S (fun v160 S =>
  w_at S (some x2) 9 (fun b166 => pX8_thrown b166  S (fun v166 S =>
  ((v166 = v154 →
  ((¬ v154 = 0 →
  pL_law_J193 K xs L g x1 x2 x3 K x4 S) ∧ (v154 = 0 →
  w_ldJ S (some x3) 29 (0 : Int32) (fun v183 =>
  (((lg_cmp v183 v160.toInt64) = 0 →
  pL_law_J193 K xs L g x1 x2 x3 K x4 S) ∧ (¬ (lg_cmp v183 v160.toInt64) = 0 →
  False)))))) ∧ (¬ v166 = v154 →
  False))) (fun _ _ => False))) (fun _ _ => False)))
set_option maxHeartbeats 4000000 in
set_option maxRecDepth 100000 in
theorem kL_c0 {p : Program} {l : Launch} {e : Env} {s : State} {m : MethodId} {av : Array Value} {below : List Frame} {meth : Method} {c : Code} {H : Heap} {locs : List Loc} {ls : Array Slot} {cells slots : Nat} {Q : State → Prop} {G : qG} {A : Nat → Prop} {S : qS} {b L x1 x2 x3 : Nat} {x4 : Int32} {xs : Nat → Int32} {g : Nat × Nat} {K : Int32 → qS → Prop} (hl0 : l.stackTraces = false) (he : G.2.2 = g) (X : q_X p l s m av meth c cL_law RL 8 G A) (hX : va_X b L xs s s.heap) (hbl : b < s.heap.size) (hbA : ¬ A b) (hcs : cells + 12 ≤ 601024 ∧ slots + 183 ≤ 7293034) (I : q_H G A s H locs S) (hl : lv_has ls 8 [(0, va_rf (some b)), (1, va_rf (some x1)), (2, va_rf (some x2)), (3, va_rf (some x3)), (4, .int x4)]) (h : pL_c0 xs L g x1 x2 x3 K x4 S) (kk : ∀ (x4 : Int32) (S : qS) (H : Heap) (locs : List Loc) (ls : Array Slot), K x4 S → q_H G A s H locs S → lv_has ls 8 [(0, va_rf (some b)), (1, va_rf (some x1)), (2, va_rf (some x2)), (3, va_rf (some x3)), (4, .int x4)] → W p l e room_1 s m av below meth c H locs (cells + 12) (slots + 183) Q (F0 m 1708 ls [])) : W p l e room_1 s m av below meth c H locs cells slots Q (F0 m 152 ls []) := by
  unfold pL_c0 at h
  refine q_aload_n X dL_law_152 rfl (lv_at hl 1 rfl) ?_
  refine q_aload_n X dL_law_153 rfl (lv_at hl 3 rfl) ?_
  refine q_cT (n := 2) (hh := [(0, 8, 11, 13)]) (As := [va_rf (some x1), va_rf (some x3)]) (rest := []) (c1 := cells + 3) (s1 := slots + 108) (d := 9) (mc := 3) (ms := 108) X I hl.1 wd_235 wd_0 ⟨by decide, by decide⟩ (by decide +kernel) wd_234 wd_233 dL_law_154 rfl (kL_player hl0 he h) rfl (Nat.le_of_ble_eq_true rfl) ⟨by decide, by decide⟩ ⟨by show _ ≤ 601024; omega, by show _ ≤ 7293034; omega⟩ rfl rfl (fun v154 S H locs I h => ?_)
  refine lv_istore (i := 5) (lv' := [(5, .int v154), (0, va_rf (some b)), (1, va_rf (some x1)), (2, va_rf (some x2)), (3, va_rf (some x3)), (4, .int x4)]) X.1 X.2.1 dL_law_157 hl (by decide) rfl (fun ls hl => ?_)
  refine q_aload_n X dL_law_159 rfl (lv_at hl 3 rfl) ?_
  refine q_cXi (As := []) (rest := []) (c1 := cells + 3) (s1 := slots + 108) (d := 2) (mc := 0) (ms := 0) X I hl.1 mX8_player wd_943 dL_law_160 rfl h (fun b h => kX8_player hl0 h) rfl (Nat.le_of_ble_eq_true rfl) ⟨by decide, by decide⟩ ⟨by show _ ≤ 601024; omega, by show _ ≤ 7293034; omega⟩ rfl rfl (fun E ce q9 S H locs I h hce hcv hcl => h.elim) (fun v160 S H locs I h => ?_)
  refine lv_istore (i := 6) (lv' := [(6, .int v160), (5, .int v154), (0, va_rf (some b)), (1, va_rf (some x1)), (2, va_rf (some x2)), (3, va_rf (some x3)), (4, .int x4)]) X.1 X.2.1 dL_law_163 hl (by decide) rfl (fun ls hl => ?_)
  refine q_aload_n X dL_law_165 rfl (lv_at hl 4 rfl) ?_
  refine q_cXi (As := []) (rest := []) (c1 := cells + 3) (s1 := slots + 108) (d := 1) (mc := 0) (ms := 0) X I hl.1 mX8_thrown wd_939 dL_law_166 rfl h (fun b h => kX8_thrown hl0 h) rfl (Nat.le_of_ble_eq_true rfl) ⟨by decide, by decide⟩ ⟨by show _ ≤ 601024; omega, by show _ ≤ 7293034; omega⟩ rfl rfl (fun E ce q9 S H locs I h hce hcv hcl => h.elim) (fun v166 S H locs I h => ?_)
  refine lv_iload X.1 X.2.1 dL_law_169 (lv_at hl 1 rfl) ?_
  refine lv_icmp_eq (tgt := 176) X.1 X.2.1 dL_law_171 (by decide) (fun c171 => ?_) (fun c171 => ?_)
  · have h := h.1 c171
    refine lv_iload X.1 X.2.1 dL_law_176 (lv_at hl 1 rfl) ?_
    have jn193 : ∀ (x4 : Int32) (S : qS) (H : Heap) (locs : List Loc) (ls : Array Slot), pL_law_J193 K xs L g x1 x2 x3 K x4 S → q_H G A s H locs S → lv_has ls 8 [(0, va_rf (some b)), (1, va_rf (some x1)), (2, va_rf (some x2)), (3, va_rf (some x3)), (4, .int x4)] → W p l e room_1 s m av below meth c H locs (cells + 3) (slots + 108) Q (F0 m 193 ls []) := by
      intro x4 S H locs ls h I hl
      unfold pL_law_J193 at h
      refine lv_goto (tgt := 1708) X.1 X.2.1 dL_law_193 (by decide) ?_
      refine W.widen (k := cells + 12) (n := slots + 183) (by omega) (by omega) ?_
      exact kk _ _ _ _ _ h I (lv_sub hl [0, 1, 2, 3, 4] rfl)
    refine lv_if_ne (tgt := 193) X.1 X.2.1 dL_law_178 (by decide) (fun c178 => ?_) (fun c178 => ?_)
    · have h := h.1 c178
      exact jn193 _ _ _ _ _ h I (lv_sub hl [2, 3, 4, 5, 6] rfl)
    · have h := h.2 c178
      refine q_aload_n X dL_law_181 rfl (lv_at hl 5 rfl) ?_
      refine lv_iconst (v := 0) X.1 X.2.1 dL_law_182 (by decide) ?_
      refine q_ldJ X I (by decide) (by decide) dL_law_183 h (fun v183 h => ?_)
      refine lv_iload X.1 X.2.1 dL_law_184 (lv_at hl 0 rfl) ?_
      refine lv_i2l X.1 X.2.1 dL_law_186 rfl ?_
      refine W.lcmp X.1 X.2.1 dL_law_187 ?_
      refine lv_if_eq (tgt := 193) X.1 X.2.1 dL_law_188 (by decide) (fun c188 => ?_) (fun c188 => ?_)
      · have h := h.1 c188
        exact jn193 _ _ _ _ _ h I (lv_sub hl [2, 3, 4, 5, 6] rfl)
      · have h := h.2 c188
        refine lv_iconst (v := 0) X.1 X.2.1 dL_law_191 (by decide) ?_
        exact h.elim
  · have h := h.2 c171
    refine lv_iconst (v := 0) X.1 X.2.1 dL_law_174 (by decide) ?_
    exact h.elim

def pL_law_J265 (k1708 : Int32 → qS → Prop) (xs : Nat → Int32) (L : Nat) (g : Nat × Nat) (x1 x2 x3 : Nat) (K : Int32 → qS → Prop) (x4 : Int32) (S : qS) : Prop :=
  k1708 x4 S
def pL_law_J232 (k1708 : Int32 → qS → Prop) (xs : Nat → Int32) (L : Nat) (g : Nat × Nat) (x1 x2 x3 : Nat) (K : Int32 → qS → Prop) (x4 : Int32) (x5 : Int32) (t0 : Option Nat) (t1 : Int32) (S : qS) : Prop :=
  w_at S t0 9 (fun b232 => pX8_rule b232 t1 S (fun v232 S =>
  w_at S (some x2) 9 (fun b238 => pX8_thrown b238  S (fun v238 S =>
  ((v238 = x5 →
  ((¬ x5 = 0 →
  pL_law_J265 k1708 xs L g x1 x2 x3 K x4 S) ∧ (x5 = 0 →
  w_ldJ S (some x3) 29 (0 : Int32) (fun v255 =>
  (((lg_cmp v255 v232.toInt64) = 0 →
  pL_law_J265 k1708 xs L g x1 x2 x3 K x4 S) ∧ (¬ (lg_cmp v255 v232.toInt64) = 0 →
  False)))))) ∧ (¬ v238 = x5 →
  False))) (fun _ _ => False))) (fun _ _ => False))
def pL_law_J211 (k1708 : Int32 → qS → Prop) (xs : Nat → Int32) (L : Nat) (g : Nat × Nat) (x1 x2 x3 : Nat) (K : Int32 → qS → Prop) (x4 : Int32) (t0 : Option Nat) (t1 : Int32) (S : qS) : Prop :=
  pL_rule t0 t1 (some x3) S g (fun v212 S =>
  (vp_in (x4 + (1 : Int32)) L ∧
  (((xs (x4 + (1 : Int32)).toNatClampNeg) = 0 →
  pL_law_J232 k1708 xs L g x1 x2 x3 K x4 v212 (some x2) (0 : Int32) S) ∧ (¬ (xs (x4 + (1 : Int32)).toNatClampNeg) = 0 →
  pL_law_J232 k1708 xs L g x1 x2 x3 K x4 v212 (some x2) (1 : Int32) S))))
def pL_c1 (xs : Nat → Int32) (L : Nat) (g : Nat × Nat) (x1 x2 x3 : Nat) (K : Int32 → qS → Prop) (x4 : Int32) (S : qS) : Prop :=
  (vp_in (x4 + (1 : Int32)) L ∧
  (((xs (x4 + (1 : Int32)).toNatClampNeg) = 0 →
  pL_law_J211 K xs L g x1 x2 x3 K x4 (some x1) (0 : Int32) S) ∧ (¬ (xs (x4 + (1 : Int32)).toNatClampNeg) = 0 →
  pL_law_J211 K xs L g x1 x2 x3 K x4 (some x1) (1 : Int32) S)))
set_option maxHeartbeats 4000000 in
set_option maxRecDepth 100000 in
theorem kL_c1 {p : Program} {l : Launch} {e : Env} {s : State} {m : MethodId} {av : Array Value} {below : List Frame} {meth : Method} {c : Code} {H : Heap} {locs : List Loc} {ls : Array Slot} {cells slots : Nat} {Q : State → Prop} {G : qG} {A : Nat → Prop} {S : qS} {b L x1 x2 x3 : Nat} {x4 : Int32} {xs : Nat → Int32} {g : Nat × Nat} {K : Int32 → qS → Prop} (hl0 : l.stackTraces = false) (he : G.2.2 = g) (X : q_X p l s m av meth c cL_law RL 8 G A) (hX : va_X b L xs s s.heap) (hbl : b < s.heap.size) (hbA : ¬ A b) (hcs : cells + 12 ≤ 601024 ∧ slots + 183 ≤ 7293034) (I : q_H G A s H locs S) (hl : lv_has ls 8 [(0, va_rf (some b)), (1, va_rf (some x1)), (2, va_rf (some x2)), (3, va_rf (some x3)), (4, .int x4)]) (h : pL_c1 xs L g x1 x2 x3 K x4 S) (kk : ∀ (x4 : Int32) (S : qS) (H : Heap) (locs : List Loc) (ls : Array Slot), K x4 S → q_H G A s H locs S → lv_has ls 8 [(0, va_rf (some b)), (1, va_rf (some x1)), (2, va_rf (some x2)), (3, va_rf (some x3)), (4, .int x4)] → W p l e room_1 s m av below meth c H locs (cells + 12) (slots + 183) Q (F0 m 1708 ls [])) : W p l e room_1 s m av below meth c H locs cells slots Q (F0 m 196 ls []) := by
  unfold pL_c1 at h
  refine q_aload_n X dL_law_196 rfl (lv_at hl 1 rfl) ?_
  refine q_aload_n X dL_law_197 rfl (lv_at hl 0 rfl) ?_
  refine lv_iload X.1 X.2.1 dL_law_198 (lv_at hl 4 rfl) ?_
  refine lv_iconst (v := 1) X.1 X.2.1 dL_law_200 (by decide) ?_
  refine lv_iadd X.1 X.2.1 dL_law_201 ?_
  refine va_sld X.1 X.2.1 hX hbl hbA I.2.2 h.1 dL_law_202 ?_
  have h := h.2
  have jn211 : ∀ (x4 : Int32) (t0 : Option Nat) (t1 : Int32) (S : qS) (H : Heap) (locs : List Loc) (ls : Array Slot), pL_law_J211 K xs L g x1 x2 x3 K x4 t0 t1 S → q_H G A s H locs S → lv_has ls 8 [(0, va_rf (some b)), (1, va_rf (some x1)), (2, va_rf (some x2)), (3, va_rf (some x3)), (4, .int x4)] → W p l e room_1 s m av below meth c H locs (cells + 0) (slots + 0) Q (F0 m 211 ls [.int t1, va_rf t0]) := by
    intro x4 t0 t1 S H locs ls h I hl
    unfold pL_law_J211 at h
    refine q_aload_n X dL_law_211 rfl (lv_at hl 3 rfl) ?_
    refine q_cT (n := 3) (hh := [(0, 9, 12, 13)]) (As := [va_rf t0, .int t1, va_rf (some x3)]) (rest := []) (c1 := cells + 4) (s1 := slots + 112) (d := 9) (mc := 4) (ms := 112) X I hl.1 wd_396 wd_0 ⟨by decide, by decide⟩ (by decide +kernel) wd_395 wd_394 dL_law_212 rfl (kL_rule hl0 he h) rfl (Nat.le_of_ble_eq_true rfl) ⟨by decide, by decide⟩ ⟨by show _ ≤ 601024; omega, by show _ ≤ 7293034; omega⟩ rfl rfl (fun v212 S H locs I h => ?_)
    refine lv_istore (i := 5) (lv' := [(5, .int v212), (0, va_rf (some b)), (1, va_rf (some x1)), (2, va_rf (some x2)), (3, va_rf (some x3)), (4, .int x4)]) X.1 X.2.1 dL_law_215 hl (by decide) rfl (fun ls hl => ?_)
    refine q_aload_n X dL_law_217 rfl (lv_at hl 3 rfl) ?_
    refine q_aload_n X dL_law_218 rfl (lv_at hl 1 rfl) ?_
    refine lv_iload X.1 X.2.1 dL_law_219 (lv_at hl 5 rfl) ?_
    refine lv_iconst (v := 1) X.1 X.2.1 dL_law_221 (by decide) ?_
    refine lv_iadd X.1 X.2.1 dL_law_222 ?_
    refine va_sld X.1 X.2.1 hX hbl hbA I.2.2 h.1 dL_law_223 ?_
    have h := h.2
    have jn232 : ∀ (x4 : Int32) (x5 : Int32) (t0 : Option Nat) (t1 : Int32) (S : qS) (H : Heap) (locs : List Loc) (ls : Array Slot), pL_law_J232 K xs L g x1 x2 x3 K x4 x5 t0 t1 S → q_H G A s H locs S → lv_has ls 8 [(0, va_rf (some b)), (1, va_rf (some x1)), (2, va_rf (some x2)), (3, va_rf (some x3)), (4, .int x4), (5, .int x5)] → W p l e room_1 s m av below meth c H locs (cells + 4) (slots + 112) Q (F0 m 232 ls [.int t1, va_rf t0]) := by
      intro x4 x5 t0 t1 S H locs ls h I hl
      unfold pL_law_J232 at h
      refine q_cXi (As := [.int t1]) (rest := []) (c1 := cells + 4) (s1 := slots + 112) (d := 2) (mc := 0) (ms := 0) X I hl.1 mX8_rule wd_951 dL_law_232 rfl h (fun b h => kX8_rule hl0 h) rfl (Nat.le_of_ble_eq_true rfl) ⟨by decide, by decide⟩ ⟨by show _ ≤ 601024; omega, by show _ ≤ 7293034; omega⟩ rfl rfl (fun E ce q9 S H locs I h hce hcv hcl => h.elim) (fun v232 S H locs I h => ?_)
      refine lv_istore (i := 6) (lv' := [(6, .int v232), (0, va_rf (some b)), (1, va_rf (some x1)), (2, va_rf (some x2)), (3, va_rf (some x3)), (4, .int x4), (5, .int x5)]) X.1 X.2.1 dL_law_235 hl (by decide) rfl (fun ls hl => ?_)
      refine q_aload_n X dL_law_237 rfl (lv_at hl 3 rfl) ?_
      refine q_cXi (As := []) (rest := []) (c1 := cells + 4) (s1 := slots + 112) (d := 1) (mc := 0) (ms := 0) X I hl.1 mX8_thrown wd_939 dL_law_238 rfl h (fun b h => kX8_thrown hl0 h) rfl (Nat.le_of_ble_eq_true rfl) ⟨by decide, by decide⟩ ⟨by show _ ≤ 601024; omega, by show _ ≤ 7293034; omega⟩ rfl rfl (fun E ce q9 S H locs I h hce hcv hcl => h.elim) (fun v238 S H locs I h => ?_)
      refine lv_iload X.1 X.2.1 dL_law_241 (lv_at hl 6 rfl) ?_
      refine lv_icmp_eq (tgt := 248) X.1 X.2.1 dL_law_243 (by decide) (fun c243 => ?_) (fun c243 => ?_)
      · have h := h.1 c243
        refine lv_iload X.1 X.2.1 dL_law_248 (lv_at hl 6 rfl) ?_
        have jn265 : ∀ (x4 : Int32) (S : qS) (H : Heap) (locs : List Loc) (ls : Array Slot), pL_law_J265 K xs L g x1 x2 x3 K x4 S → q_H G A s H locs S → lv_has ls 8 [(0, va_rf (some b)), (1, va_rf (some x1)), (2, va_rf (some x2)), (3, va_rf (some x3)), (4, .int x4)] → W p l e room_1 s m av below meth c H locs (cells + 4) (slots + 112) Q (F0 m 265 ls []) := by
          intro x4 S H locs ls h I hl
          unfold pL_law_J265 at h
          refine lv_goto (tgt := 1708) X.1 X.2.1 dL_law_265 (by decide) ?_
          refine W.widen (k := cells + 12) (n := slots + 183) (by omega) (by omega) ?_
          exact kk _ _ _ _ _ h I (lv_sub hl [0, 1, 2, 3, 4] rfl)
        refine lv_if_ne (tgt := 265) X.1 X.2.1 dL_law_250 (by decide) (fun c250 => ?_) (fun c250 => ?_)
        · have h := h.1 c250
          exact jn265 _ _ _ _ _ h I (lv_sub hl [1, 2, 3, 4, 5] rfl)
        · have h := h.2 c250
          refine q_aload_n X dL_law_253 rfl (lv_at hl 4 rfl) ?_
          refine lv_iconst (v := 0) X.1 X.2.1 dL_law_254 (by decide) ?_
          refine q_ldJ X I (by decide) (by decide) dL_law_255 h (fun v255 h => ?_)
          refine lv_iload X.1 X.2.1 dL_law_256 (lv_at hl 0 rfl) ?_
          refine lv_i2l X.1 X.2.1 dL_law_258 rfl ?_
          refine W.lcmp X.1 X.2.1 dL_law_259 ?_
          refine lv_if_eq (tgt := 265) X.1 X.2.1 dL_law_260 (by decide) (fun c260 => ?_) (fun c260 => ?_)
          · have h := h.1 c260
            exact jn265 _ _ _ _ _ h I (lv_sub hl [1, 2, 3, 4, 5] rfl)
          · have h := h.2 c260
            refine lv_iconst (v := 0) X.1 X.2.1 dL_law_263 (by decide) ?_
            exact h.elim
      · have h := h.2 c243
        refine lv_iconst (v := 0) X.1 X.2.1 dL_law_246 (by decide) ?_
        exact h.elim
    refine lv_if_eq (tgt := 231) X.1 X.2.1 dL_law_224 (by decide) (fun c224 => ?_) (fun c224 => ?_)
    · have h := h.1 c224
      refine lv_iconst (v := 0) X.1 X.2.1 dL_law_231 (by decide) ?_
      exact jn232 _ _ _ _ _ _ _ _ h I (lv_sub hl [1, 2, 3, 4, 5, 0] rfl)
    · have h := h.2 c224
      refine lv_iconst (v := 1) X.1 X.2.1 dL_law_227 (by decide) ?_
      refine lv_goto (tgt := 232) X.1 X.2.1 dL_law_228 (by decide) ?_
      exact jn232 _ _ _ _ _ _ _ _ h I (lv_sub hl [1, 2, 3, 4, 5, 0] rfl)
  refine lv_if_eq (tgt := 210) X.1 X.2.1 dL_law_203 (by decide) (fun c203 => ?_) (fun c203 => ?_)
  · have h := h.1 c203
    refine lv_iconst (v := 0) X.1 X.2.1 dL_law_210 (by decide) ?_
    exact jn211 _ _ _ _ _ _ _ h I (lv_sub hl [0, 1, 2, 3, 4] rfl)
  · have h := h.2 c203
    refine lv_iconst (v := 1) X.1 X.2.1 dL_law_206 (by decide) ?_
    refine lv_goto (tgt := 211) X.1 X.2.1 dL_law_207 (by decide) ?_
    exact jn211 _ _ _ _ _ _ _ h I (lv_sub hl [0, 1, 2, 3, 4] rfl)

def pL_law_J333 (k1708 : Int32 → qS → Prop) (xs : Nat → Int32) (L : Nat) (g : Nat × Nat) (x1 x2 x3 : Nat) (K : Int32 → qS → Prop) (x4 : Int32) (x5 : Int32) (t0 : Option Nat) (t1 : Int32) (t2 : Int32) (t3 : Int32) (S : qS) : Prop :=
  (vp_in (x4 + (4 : Int32)) L ∧
  w_at S t0 9 (fun b339 => pX8_part b339 t1 t2 t3 (xs (x4 + (4 : Int32)).toNatClampNeg) S (fun S =>
  w_at S (some x2) 9 (fun b343 => pX8_thrown b343  S (fun v343 S =>
  ((v343 = x5 →
  k1708 x4 S) ∧ (¬ v343 = x5 →
  False))) (fun _ _ => False))) (fun _ _ => False)))
def pL_law_J295 (k1708 : Int32 → qS → Prop) (xs : Nat → Int32) (L : Nat) (g : Nat × Nat) (x1 x2 x3 : Nat) (K : Int32 → qS → Prop) (x4 : Int32) (t0 : Option Nat) (t1 : Int32) (t2 : Int32) (t3 : Int32) (S : qS) : Prop :=
  (vp_in (x4 + (4 : Int32)) L ∧
  pL_part t0 t1 t2 t3 (xs (x4 + (4 : Int32)).toNatClampNeg) S (fun v301 S =>
  (vp_in (x4 + (1 : Int32)) L ∧
  (vp_in (x4 + (2 : Int32)) L ∧
  (vp_in (x4 + (3 : Int32)) L ∧
  (((xs (x4 + (3 : Int32)).toNatClampNeg) = 0 →
  pL_law_J333 k1708 xs L g x1 x2 x3 K x4 v301 (some x2) (xs (x4 + (1 : Int32)).toNatClampNeg) (xs (x4 + (2 : Int32)).toNatClampNeg) (0 : Int32) S) ∧ (¬ (xs (x4 + (3 : Int32)).toNatClampNeg) = 0 →
  pL_law_J333 k1708 xs L g x1 x2 x3 K x4 v301 (some x2) (xs (x4 + (1 : Int32)).toNatClampNeg) (xs (x4 + (2 : Int32)).toNatClampNeg) (1 : Int32) S)))))))
def pL_c2 (xs : Nat → Int32) (L : Nat) (g : Nat × Nat) (x1 x2 x3 : Nat) (K : Int32 → qS → Prop) (x4 : Int32) (S : qS) : Prop :=
  (vp_in (x4 + (1 : Int32)) L ∧
  (vp_in (x4 + (2 : Int32)) L ∧
  (vp_in (x4 + (3 : Int32)) L ∧
  (((xs (x4 + (3 : Int32)).toNatClampNeg) = 0 →
  pL_law_J295 K xs L g x1 x2 x3 K x4 (some x1) (xs (x4 + (1 : Int32)).toNatClampNeg) (xs (x4 + (2 : Int32)).toNatClampNeg) (0 : Int32) S) ∧ (¬ (xs (x4 + (3 : Int32)).toNatClampNeg) = 0 →
  pL_law_J295 K xs L g x1 x2 x3 K x4 (some x1) (xs (x4 + (1 : Int32)).toNatClampNeg) (xs (x4 + (2 : Int32)).toNatClampNeg) (1 : Int32) S)))))
set_option maxHeartbeats 4000000 in
set_option maxRecDepth 100000 in
theorem kL_c2 {p : Program} {l : Launch} {e : Env} {s : State} {m : MethodId} {av : Array Value} {below : List Frame} {meth : Method} {c : Code} {H : Heap} {locs : List Loc} {ls : Array Slot} {cells slots : Nat} {Q : State → Prop} {G : qG} {A : Nat → Prop} {S : qS} {b L x1 x2 x3 : Nat} {x4 : Int32} {xs : Nat → Int32} {g : Nat × Nat} {K : Int32 → qS → Prop} (hl0 : l.stackTraces = false) (he : G.2.2 = g) (X : q_X p l s m av meth c cL_law RL 8 G A) (hX : va_X b L xs s s.heap) (hbl : b < s.heap.size) (hbA : ¬ A b) (hcs : cells + 12 ≤ 601024 ∧ slots + 183 ≤ 7293034) (I : q_H G A s H locs S) (hl : lv_has ls 8 [(0, va_rf (some b)), (1, va_rf (some x1)), (2, va_rf (some x2)), (3, va_rf (some x3)), (4, .int x4)]) (h : pL_c2 xs L g x1 x2 x3 K x4 S) (kk : ∀ (x4 : Int32) (S : qS) (H : Heap) (locs : List Loc) (ls : Array Slot), K x4 S → q_H G A s H locs S → lv_has ls 8 [(0, va_rf (some b)), (1, va_rf (some x1)), (2, va_rf (some x2)), (3, va_rf (some x3)), (4, .int x4)] → W p l e room_1 s m av below meth c H locs (cells + 12) (slots + 183) Q (F0 m 1708 ls [])) : W p l e room_1 s m av below meth c H locs cells slots Q (F0 m 268 ls []) := by
  unfold pL_c2 at h
  refine q_aload_n X dL_law_268 rfl (lv_at hl 1 rfl) ?_
  refine q_aload_n X dL_law_269 rfl (lv_at hl 0 rfl) ?_
  refine lv_iload X.1 X.2.1 dL_law_270 (lv_at hl 4 rfl) ?_
  refine lv_iconst (v := 1) X.1 X.2.1 dL_law_272 (by decide) ?_
  refine lv_iadd X.1 X.2.1 dL_law_273 ?_
  refine va_sld X.1 X.2.1 hX hbl hbA I.2.2 h.1 dL_law_274 ?_
  have h := h.2
  refine q_aload_n X dL_law_275 rfl (lv_at hl 0 rfl) ?_
  refine lv_iload X.1 X.2.1 dL_law_276 (lv_at hl 4 rfl) ?_
  refine lv_iconst (v := 2) X.1 X.2.1 dL_law_278 (by decide) ?_
  refine lv_iadd X.1 X.2.1 dL_law_279 ?_
  refine va_sld X.1 X.2.1 hX hbl hbA I.2.2 h.1 dL_law_280 ?_
  have h := h.2
  refine q_aload_n X dL_law_281 rfl (lv_at hl 0 rfl) ?_
  refine lv_iload X.1 X.2.1 dL_law_282 (lv_at hl 4 rfl) ?_
  refine lv_iconst (v := 3) X.1 X.2.1 dL_law_284 (by decide) ?_
  refine lv_iadd X.1 X.2.1 dL_law_285 ?_
  refine va_sld X.1 X.2.1 hX hbl hbA I.2.2 h.1 dL_law_286 ?_
  have h := h.2
  have jn295 : ∀ (x4 : Int32) (t0 : Option Nat) (t1 : Int32) (t2 : Int32) (t3 : Int32) (S : qS) (H : Heap) (locs : List Loc) (ls : Array Slot), pL_law_J295 K xs L g x1 x2 x3 K x4 t0 t1 t2 t3 S → q_H G A s H locs S → lv_has ls 8 [(0, va_rf (some b)), (1, va_rf (some x1)), (2, va_rf (some x2)), (3, va_rf (some x3)), (4, .int x4)] → W p l e room_1 s m av below meth c H locs (cells + 0) (slots + 0) Q (F0 m 295 ls [.int t3, .int t2, .int t1, va_rf t0]) := by
    intro x4 t0 t1 t2 t3 S H locs ls h I hl
    unfold pL_law_J295 at h
    refine q_aload_n X dL_law_295 rfl (lv_at hl 0 rfl) ?_
    refine lv_iload X.1 X.2.1 dL_law_296 (lv_at hl 4 rfl) ?_
    refine lv_iconst (v := 4) X.1 X.2.1 dL_law_298 (by decide) ?_
    refine lv_iadd X.1 X.2.1 dL_law_299 ?_
    refine va_sld X.1 X.2.1 hX hbl hbA I.2.2 h.1 dL_law_300 ?_
    have h := h.2
    refine q_cT (n := 5) (hh := [(0, 9, 12, 23), (0, 9, 16, 25)]) (As := [va_rf t0, .int t1, .int t2, .int t3, .int (xs (x4 + (4 : Int32)).toNatClampNeg)]) (rest := []) (c1 := cells + 3) (s1 := slots + 18) (d := 8) (mc := 3) (ms := 18) X I hl.1 wd_426 wd_0 ⟨by decide, by decide⟩ (by decide +kernel) wd_425 wd_424 dL_law_301 rfl (kL_part hl0 h) rfl (Nat.le_of_ble_eq_true rfl) ⟨by decide, by decide⟩ ⟨by show _ ≤ 601024; omega, by show _ ≤ 7293034; omega⟩ rfl rfl (fun v301 S H locs I h => ?_)
    refine lv_istore (i := 5) (lv' := [(5, .int v301), (0, va_rf (some b)), (1, va_rf (some x1)), (2, va_rf (some x2)), (3, va_rf (some x3)), (4, .int x4)]) X.1 X.2.1 dL_law_304 hl (by decide) rfl (fun ls hl => ?_)
    refine q_aload_n X dL_law_306 rfl (lv_at hl 3 rfl) ?_
    refine q_aload_n X dL_law_307 rfl (lv_at hl 1 rfl) ?_
    refine lv_iload X.1 X.2.1 dL_law_308 (lv_at hl 5 rfl) ?_
    refine lv_iconst (v := 1) X.1 X.2.1 dL_law_310 (by decide) ?_
    refine lv_iadd X.1 X.2.1 dL_law_311 ?_
    refine va_sld X.1 X.2.1 hX hbl hbA I.2.2 h.1 dL_law_312 ?_
    have h := h.2
    refine q_aload_n X dL_law_313 rfl (lv_at hl 1 rfl) ?_
    refine lv_iload X.1 X.2.1 dL_law_314 (lv_at hl 5 rfl) ?_
    refine lv_iconst (v := 2) X.1 X.2.1 dL_law_316 (by decide) ?_
    refine lv_iadd X.1 X.2.1 dL_law_317 ?_
    refine va_sld X.1 X.2.1 hX hbl hbA I.2.2 h.1 dL_law_318 ?_
    have h := h.2
    refine q_aload_n X dL_law_319 rfl (lv_at hl 1 rfl) ?_
    refine lv_iload X.1 X.2.1 dL_law_320 (lv_at hl 5 rfl) ?_
    refine lv_iconst (v := 3) X.1 X.2.1 dL_law_322 (by decide) ?_
    refine lv_iadd X.1 X.2.1 dL_law_323 ?_
    refine va_sld X.1 X.2.1 hX hbl hbA I.2.2 h.1 dL_law_324 ?_
    have h := h.2
    have jn333 : ∀ (x4 : Int32) (x5 : Int32) (t0 : Option Nat) (t1 : Int32) (t2 : Int32) (t3 : Int32) (S : qS) (H : Heap) (locs : List Loc) (ls : Array Slot), pL_law_J333 K xs L g x1 x2 x3 K x4 x5 t0 t1 t2 t3 S → q_H G A s H locs S → lv_has ls 8 [(0, va_rf (some b)), (1, va_rf (some x1)), (2, va_rf (some x2)), (3, va_rf (some x3)), (4, .int x4), (5, .int x5)] → W p l e room_1 s m av below meth c H locs (cells + 3) (slots + 18) Q (F0 m 333 ls [.int t3, .int t2, .int t1, va_rf t0]) := by
      intro x4 x5 t0 t1 t2 t3 S H locs ls h I hl
      unfold pL_law_J333 at h
      refine q_aload_n X dL_law_333 rfl (lv_at hl 0 rfl) ?_
      refine lv_iload X.1 X.2.1 dL_law_334 (lv_at hl 4 rfl) ?_
      refine lv_iconst (v := 4) X.1 X.2.1 dL_law_336 (by decide) ?_
      refine lv_iadd X.1 X.2.1 dL_law_337 ?_
      refine va_sld X.1 X.2.1 hX hbl hbA I.2.2 h.1 dL_law_338 ?_
      have h := h.2
      refine q_cXv (As := [.int t1, .int t2, .int t3, .int (xs (x4 + (4 : Int32)).toNatClampNeg)]) (rest := []) (c1 := cells + 3) (s1 := slots + 18) (d := 3) (mc := 0) (ms := 0) X I hl.1 mX8_part wd_955 dL_law_339 rfl h (fun b h => kX8_part hl0 h) rfl (Nat.le_of_ble_eq_true rfl) ⟨by decide, by decide⟩ ⟨by show _ ≤ 601024; omega, by show _ ≤ 7293034; omega⟩ rfl rfl (fun E ce q9 S H locs I h hce hcv hcl => h.elim) (fun S H locs I h => ?_)
      refine q_aload_n X dL_law_342 rfl (lv_at hl 2 rfl) ?_
      refine q_cXi (As := []) (rest := []) (c1 := cells + 3) (s1 := slots + 18) (d := 1) (mc := 0) (ms := 0) X I hl.1 mX8_thrown wd_939 dL_law_343 rfl h (fun b h => kX8_thrown hl0 h) rfl (Nat.le_of_ble_eq_true rfl) ⟨by decide, by decide⟩ ⟨by show _ ≤ 601024; omega, by show _ ≤ 7293034; omega⟩ rfl rfl (fun E ce q9 S H locs I h hce hcv hcl => h.elim) (fun v343 S H locs I h => ?_)
      refine lv_iload X.1 X.2.1 dL_law_346 (lv_at hl 5 rfl) ?_
      refine lv_icmp_eq (tgt := 353) X.1 X.2.1 dL_law_348 (by decide) (fun c348 => ?_) (fun c348 => ?_)
      · have h := h.1 c348
        refine lv_goto (tgt := 1708) X.1 X.2.1 dL_law_353 (by decide) ?_
        refine W.widen (k := cells + 12) (n := slots + 183) (by omega) (by omega) ?_
        exact kk _ _ _ _ _ h I (lv_sub hl [0, 1, 2, 3, 4] rfl)
      · have h := h.2 c348
        refine lv_iconst (v := 0) X.1 X.2.1 dL_law_351 (by decide) ?_
        exact h.elim
    refine lv_if_eq (tgt := 332) X.1 X.2.1 dL_law_325 (by decide) (fun c325 => ?_) (fun c325 => ?_)
    · have h := h.1 c325
      refine lv_iconst (v := 0) X.1 X.2.1 dL_law_332 (by decide) ?_
      exact jn333 _ _ _ _ _ _ _ _ _ _ h I (lv_sub hl [1, 2, 3, 4, 5, 0] rfl)
    · have h := h.2 c325
      refine lv_iconst (v := 1) X.1 X.2.1 dL_law_328 (by decide) ?_
      refine lv_goto (tgt := 333) X.1 X.2.1 dL_law_329 (by decide) ?_
      exact jn333 _ _ _ _ _ _ _ _ _ _ h I (lv_sub hl [1, 2, 3, 4, 5, 0] rfl)
  refine lv_if_eq (tgt := 294) X.1 X.2.1 dL_law_287 (by decide) (fun c287 => ?_) (fun c287 => ?_)
  · have h := h.1 c287
    refine lv_iconst (v := 0) X.1 X.2.1 dL_law_294 (by decide) ?_
    exact jn295 _ _ _ _ _ _ _ _ _ h I (lv_sub hl [0, 1, 2, 3, 4] rfl)
  · have h := h.2 c287
    refine lv_iconst (v := 1) X.1 X.2.1 dL_law_290 (by decide) ?_
    refine lv_goto (tgt := 295) X.1 X.2.1 dL_law_291 (by decide) ?_
    exact jn295 _ _ _ _ _ _ _ _ _ h I (lv_sub hl [0, 1, 2, 3, 4] rfl)

def pL_law_J445 (k1708 : Int32 → qS → Prop) (xs : Nat → Int32) (L : Nat) (g : Nat × Nat) (x1 x2 x3 : Nat) (K : Int32 → qS → Prop) (x4 : Int32) (S : qS) : Prop :=
  k1708 x4 S
def pL_c3 (xs : Nat → Int32) (L : Nat) (g : Nat × Nat) (x1 x2 x3 : Nat) (K : Int32 → qS → Prop) (x4 : Int32) (S : qS) : Prop :=
  (vp_in (x4 + (1 : Int32)) L ∧
  (vp_in (x4 + (2 : Int32)) L ∧
  (vp_in (x4 + (3 : Int32)) L ∧
  (vp_in (x4 + (4 : Int32)) L ∧
  pL_deed (some x1) (xs (x4 + (1 : Int32)).toNatClampNeg) (xs (x4 + (2 : Int32)).toNatClampNeg) (xs (x4 + (3 : Int32)).toNatClampNeg) (xs (x4 + (4 : Int32)).toNatClampNeg) (some x3) S (fun v382 S =>
  (vp_in (x4 + (1 : Int32)) L ∧
  (vp_in (x4 + (2 : Int32)) L ∧
  (vp_in (x4 + (3 : Int32)) L ∧
  (vp_in (x4 + (4 : Int32)) L ∧
  w_at S (some x2) 9 (fun b412 => pX8_deed b412 (xs (x4 + (1 : Int32)).toNatClampNeg) (xs (x4 + (2 : Int32)).toNatClampNeg) (xs (x4 + (3 : Int32)).toNatClampNeg) (xs (x4 + (4 : Int32)).toNatClampNeg) S (fun v412 S =>
  w_at S (some x2) 9 (fun b418 => pX8_thrown b418  S (fun v418 S =>
  ((v418 = v382 →
  ((¬ v382 = 0 →
  pL_law_J445 K xs L g x1 x2 x3 K x4 S) ∧ (v382 = 0 →
  w_ldJ S (some x3) 29 (0 : Int32) (fun v435 =>
  (((lg_cmp v435 v412.toInt64) = 0 →
  pL_law_J445 K xs L g x1 x2 x3 K x4 S) ∧ (¬ (lg_cmp v435 v412.toInt64) = 0 →
  False)))))) ∧ (¬ v418 = v382 →
  False))) (fun _ _ => False))) (fun _ _ => False)))))))))))
set_option maxHeartbeats 4000000 in
set_option maxRecDepth 100000 in
theorem kL_c3 {p : Program} {l : Launch} {e : Env} {s : State} {m : MethodId} {av : Array Value} {below : List Frame} {meth : Method} {c : Code} {H : Heap} {locs : List Loc} {ls : Array Slot} {cells slots : Nat} {Q : State → Prop} {G : qG} {A : Nat → Prop} {S : qS} {b L x1 x2 x3 : Nat} {x4 : Int32} {xs : Nat → Int32} {g : Nat × Nat} {K : Int32 → qS → Prop} (hl0 : l.stackTraces = false) (he : G.2.2 = g) (X : q_X p l s m av meth c cL_law RL 8 G A) (hX : va_X b L xs s s.heap) (hbl : b < s.heap.size) (hbA : ¬ A b) (hcs : cells + 12 ≤ 601024 ∧ slots + 183 ≤ 7293034) (I : q_H G A s H locs S) (hl : lv_has ls 8 [(0, va_rf (some b)), (1, va_rf (some x1)), (2, va_rf (some x2)), (3, va_rf (some x3)), (4, .int x4)]) (h : pL_c3 xs L g x1 x2 x3 K x4 S) (kk : ∀ (x4 : Int32) (S : qS) (H : Heap) (locs : List Loc) (ls : Array Slot), K x4 S → q_H G A s H locs S → lv_has ls 8 [(0, va_rf (some b)), (1, va_rf (some x1)), (2, va_rf (some x2)), (3, va_rf (some x3)), (4, .int x4)] → W p l e room_1 s m av below meth c H locs (cells + 12) (slots + 183) Q (F0 m 1708 ls [])) : W p l e room_1 s m av below meth c H locs cells slots Q (F0 m 356 ls []) := by
  unfold pL_c3 at h
  refine q_aload_n X dL_law_356 rfl (lv_at hl 1 rfl) ?_
  refine q_aload_n X dL_law_357 rfl (lv_at hl 0 rfl) ?_
  refine lv_iload X.1 X.2.1 dL_law_358 (lv_at hl 4 rfl) ?_
  refine lv_iconst (v := 1) X.1 X.2.1 dL_law_360 (by decide) ?_
  refine lv_iadd X.1 X.2.1 dL_law_361 ?_
  refine va_sld X.1 X.2.1 hX hbl hbA I.2.2 h.1 dL_law_362 ?_
  have h := h.2
  refine q_aload_n X dL_law_363 rfl (lv_at hl 0 rfl) ?_
  refine lv_iload X.1 X.2.1 dL_law_364 (lv_at hl 4 rfl) ?_
  refine lv_iconst (v := 2) X.1 X.2.1 dL_law_366 (by decide) ?_
  refine lv_iadd X.1 X.2.1 dL_law_367 ?_
  refine va_sld X.1 X.2.1 hX hbl hbA I.2.2 h.1 dL_law_368 ?_
  have h := h.2
  refine q_aload_n X dL_law_369 rfl (lv_at hl 0 rfl) ?_
  refine lv_iload X.1 X.2.1 dL_law_370 (lv_at hl 4 rfl) ?_
  refine lv_iconst (v := 3) X.1 X.2.1 dL_law_372 (by decide) ?_
  refine lv_iadd X.1 X.2.1 dL_law_373 ?_
  refine va_sld X.1 X.2.1 hX hbl hbA I.2.2 h.1 dL_law_374 ?_
  have h := h.2
  refine q_aload_n X dL_law_375 rfl (lv_at hl 0 rfl) ?_
  refine lv_iload X.1 X.2.1 dL_law_376 (lv_at hl 4 rfl) ?_
  refine lv_iconst (v := 4) X.1 X.2.1 dL_law_378 (by decide) ?_
  refine lv_iadd X.1 X.2.1 dL_law_379 ?_
  refine va_sld X.1 X.2.1 hX hbl hbA I.2.2 h.1 dL_law_380 ?_
  have h := h.2
  refine q_aload_n X dL_law_381 rfl (lv_at hl 3 rfl) ?_
  refine q_cT (n := 6) (hh := [(0, 14, 17, 23), (0, 14, 21, 25)]) (As := [va_rf (some x1), .int (xs (x4 + (1 : Int32)).toNatClampNeg), .int (xs (x4 + (2 : Int32)).toNatClampNeg), .int (xs (x4 + (3 : Int32)).toNatClampNeg), .int (xs (x4 + (4 : Int32)).toNatClampNeg), va_rf (some x3)]) (rest := []) (c1 := cells + 3) (s1 := slots + 18) (d := 8) (mc := 3) (ms := 18) X I hl.1 wd_478 wd_0 ⟨by decide, by decide⟩ (by decide +kernel) wd_477 wd_476 dL_law_382 rfl (kL_deed hl0 h) rfl (Nat.le_of_ble_eq_true rfl) ⟨by decide, by decide⟩ ⟨by show _ ≤ 601024; omega, by show _ ≤ 7293034; omega⟩ rfl rfl (fun v382 S H locs I h => ?_)
  refine lv_istore (i := 5) (lv' := [(5, .int v382), (0, va_rf (some b)), (1, va_rf (some x1)), (2, va_rf (some x2)), (3, va_rf (some x3)), (4, .int x4)]) X.1 X.2.1 dL_law_385 hl (by decide) rfl (fun ls hl => ?_)
  refine q_aload_n X dL_law_387 rfl (lv_at hl 3 rfl) ?_
  refine q_aload_n X dL_law_388 rfl (lv_at hl 1 rfl) ?_
  refine lv_iload X.1 X.2.1 dL_law_389 (lv_at hl 5 rfl) ?_
  refine lv_iconst (v := 1) X.1 X.2.1 dL_law_391 (by decide) ?_
  refine lv_iadd X.1 X.2.1 dL_law_392 ?_
  refine va_sld X.1 X.2.1 hX hbl hbA I.2.2 h.1 dL_law_393 ?_
  have h := h.2
  refine q_aload_n X dL_law_394 rfl (lv_at hl 1 rfl) ?_
  refine lv_iload X.1 X.2.1 dL_law_395 (lv_at hl 5 rfl) ?_
  refine lv_iconst (v := 2) X.1 X.2.1 dL_law_397 (by decide) ?_
  refine lv_iadd X.1 X.2.1 dL_law_398 ?_
  refine va_sld X.1 X.2.1 hX hbl hbA I.2.2 h.1 dL_law_399 ?_
  have h := h.2
  refine q_aload_n X dL_law_400 rfl (lv_at hl 1 rfl) ?_
  refine lv_iload X.1 X.2.1 dL_law_401 (lv_at hl 5 rfl) ?_
  refine lv_iconst (v := 3) X.1 X.2.1 dL_law_403 (by decide) ?_
  refine lv_iadd X.1 X.2.1 dL_law_404 ?_
  refine va_sld X.1 X.2.1 hX hbl hbA I.2.2 h.1 dL_law_405 ?_
  have h := h.2
  refine q_aload_n X dL_law_406 rfl (lv_at hl 1 rfl) ?_
  refine lv_iload X.1 X.2.1 dL_law_407 (lv_at hl 5 rfl) ?_
  refine lv_iconst (v := 4) X.1 X.2.1 dL_law_409 (by decide) ?_
  refine lv_iadd X.1 X.2.1 dL_law_410 ?_
  refine va_sld X.1 X.2.1 hX hbl hbA I.2.2 h.1 dL_law_411 ?_
  have h := h.2
  refine q_cXi (As := [.int (xs (x4 + (1 : Int32)).toNatClampNeg), .int (xs (x4 + (2 : Int32)).toNatClampNeg), .int (xs (x4 + (3 : Int32)).toNatClampNeg), .int (xs (x4 + (4 : Int32)).toNatClampNeg)]) (rest := []) (c1 := cells + 3) (s1 := slots + 18) (d := 3) (mc := 0) (ms := 0) X I hl.1 mX8_deed wd_971 dL_law_412 rfl h (fun b h => kX8_deed hl0 h) rfl (Nat.le_of_ble_eq_true rfl) ⟨by decide, by decide⟩ ⟨by show _ ≤ 601024; omega, by show _ ≤ 7293034; omega⟩ rfl rfl (fun E ce q9 S H locs I h hce hcv hcl => h.elim) (fun v412 S H locs I h => ?_)
  refine lv_istore (i := 6) (lv' := [(6, .int v412), (5, .int v382), (0, va_rf (some b)), (1, va_rf (some x1)), (2, va_rf (some x2)), (3, va_rf (some x3)), (4, .int x4)]) X.1 X.2.1 dL_law_415 hl (by decide) rfl (fun ls hl => ?_)
  refine q_aload_n X dL_law_417 rfl (lv_at hl 4 rfl) ?_
  refine q_cXi (As := []) (rest := []) (c1 := cells + 3) (s1 := slots + 18) (d := 1) (mc := 0) (ms := 0) X I hl.1 mX8_thrown wd_939 dL_law_418 rfl h (fun b h => kX8_thrown hl0 h) rfl (Nat.le_of_ble_eq_true rfl) ⟨by decide, by decide⟩ ⟨by show _ ≤ 601024; omega, by show _ ≤ 7293034; omega⟩ rfl rfl (fun E ce q9 S H locs I h hce hcv hcl => h.elim) (fun v418 S H locs I h => ?_)
  refine lv_iload X.1 X.2.1 dL_law_421 (lv_at hl 1 rfl) ?_
  refine lv_icmp_eq (tgt := 428) X.1 X.2.1 dL_law_423 (by decide) (fun c423 => ?_) (fun c423 => ?_)
  · have h := h.1 c423
    refine lv_iload X.1 X.2.1 dL_law_428 (lv_at hl 1 rfl) ?_
    have jn445 : ∀ (x4 : Int32) (S : qS) (H : Heap) (locs : List Loc) (ls : Array Slot), pL_law_J445 K xs L g x1 x2 x3 K x4 S → q_H G A s H locs S → lv_has ls 8 [(0, va_rf (some b)), (1, va_rf (some x1)), (2, va_rf (some x2)), (3, va_rf (some x3)), (4, .int x4)] → W p l e room_1 s m av below meth c H locs (cells + 3) (slots + 18) Q (F0 m 445 ls []) := by
      intro x4 S H locs ls h I hl
      unfold pL_law_J445 at h
      refine lv_goto (tgt := 1708) X.1 X.2.1 dL_law_445 (by decide) ?_
      refine W.widen (k := cells + 12) (n := slots + 183) (by omega) (by omega) ?_
      exact kk _ _ _ _ _ h I (lv_sub hl [0, 1, 2, 3, 4] rfl)
    refine lv_if_ne (tgt := 445) X.1 X.2.1 dL_law_430 (by decide) (fun c430 => ?_) (fun c430 => ?_)
    · have h := h.1 c430
      exact jn445 _ _ _ _ _ h I (lv_sub hl [2, 3, 4, 5, 6] rfl)
    · have h := h.2 c430
      refine q_aload_n X dL_law_433 rfl (lv_at hl 5 rfl) ?_
      refine lv_iconst (v := 0) X.1 X.2.1 dL_law_434 (by decide) ?_
      refine q_ldJ X I (by decide) (by decide) dL_law_435 h (fun v435 h => ?_)
      refine lv_iload X.1 X.2.1 dL_law_436 (lv_at hl 0 rfl) ?_
      refine lv_i2l X.1 X.2.1 dL_law_438 rfl ?_
      refine W.lcmp X.1 X.2.1 dL_law_439 ?_
      refine lv_if_eq (tgt := 445) X.1 X.2.1 dL_law_440 (by decide) (fun c440 => ?_) (fun c440 => ?_)
      · have h := h.1 c440
        exact jn445 _ _ _ _ _ h I (lv_sub hl [2, 3, 4, 5, 6] rfl)
      · have h := h.2 c440
        refine lv_iconst (v := 0) X.1 X.2.1 dL_law_443 (by decide) ?_
        exact h.elim
  · have h := h.2 c423
    refine lv_iconst (v := 0) X.1 X.2.1 dL_law_426 (by decide) ?_
    exact h.elim

def pL_law_J513 (k1708 : Int32 → qS → Prop) (xs : Nat → Int32) (L : Nat) (g : Nat × Nat) (x1 x2 x3 : Nat) (K : Int32 → qS → Prop) (x4 : Int32) (S : qS) : Prop :=
  k1708 x4 S
def pL_c4 (xs : Nat → Int32) (L : Nat) (g : Nat × Nat) (x1 x2 x3 : Nat) (K : Int32 → qS → Prop) (x4 : Int32) (S : qS) : Prop :=
  (vp_in (x4 + (1 : Int32)) L ∧
  (vp_in (x4 + (2 : Int32)) L ∧
  pL_has (some x1) (xs (x4 + (1 : Int32)).toNatClampNeg) (xs (x4 + (2 : Int32)).toNatClampNeg) (some x3) S (fun v462 S =>
  (vp_in (x4 + (1 : Int32)) L ∧
  (vp_in (x4 + (2 : Int32)) L ∧
  w_at S (some x2) 9 (fun b480 => pX8_has b480 (xs (x4 + (1 : Int32)).toNatClampNeg) (xs (x4 + (2 : Int32)).toNatClampNeg) S (fun v480 S =>
  w_at S (some x2) 9 (fun b486 => pX8_thrown b486  S (fun v486 S =>
  ((v486 = v462 →
  ((¬ v462 = 0 →
  pL_law_J513 K xs L g x1 x2 x3 K x4 S) ∧ (v462 = 0 →
  w_ldJ S (some x3) 29 (0 : Int32) (fun v503 =>
  (((lg_cmp v503 v480.toInt64) = 0 →
  pL_law_J513 K xs L g x1 x2 x3 K x4 S) ∧ (¬ (lg_cmp v503 v480.toInt64) = 0 →
  False)))))) ∧ (¬ v486 = v462 →
  False))) (fun _ _ => False))) (fun _ _ => False)))))))
set_option maxHeartbeats 4000000 in
set_option maxRecDepth 100000 in
theorem kL_c4 {p : Program} {l : Launch} {e : Env} {s : State} {m : MethodId} {av : Array Value} {below : List Frame} {meth : Method} {c : Code} {H : Heap} {locs : List Loc} {ls : Array Slot} {cells slots : Nat} {Q : State → Prop} {G : qG} {A : Nat → Prop} {S : qS} {b L x1 x2 x3 : Nat} {x4 : Int32} {xs : Nat → Int32} {g : Nat × Nat} {K : Int32 → qS → Prop} (hl0 : l.stackTraces = false) (he : G.2.2 = g) (X : q_X p l s m av meth c cL_law RL 8 G A) (hX : va_X b L xs s s.heap) (hbl : b < s.heap.size) (hbA : ¬ A b) (hcs : cells + 12 ≤ 601024 ∧ slots + 183 ≤ 7293034) (I : q_H G A s H locs S) (hl : lv_has ls 8 [(0, va_rf (some b)), (1, va_rf (some x1)), (2, va_rf (some x2)), (3, va_rf (some x3)), (4, .int x4)]) (h : pL_c4 xs L g x1 x2 x3 K x4 S) (kk : ∀ (x4 : Int32) (S : qS) (H : Heap) (locs : List Loc) (ls : Array Slot), K x4 S → q_H G A s H locs S → lv_has ls 8 [(0, va_rf (some b)), (1, va_rf (some x1)), (2, va_rf (some x2)), (3, va_rf (some x3)), (4, .int x4)] → W p l e room_1 s m av below meth c H locs (cells + 12) (slots + 183) Q (F0 m 1708 ls [])) : W p l e room_1 s m av below meth c H locs cells slots Q (F0 m 448 ls []) := by
  unfold pL_c4 at h
  refine q_aload_n X dL_law_448 rfl (lv_at hl 1 rfl) ?_
  refine q_aload_n X dL_law_449 rfl (lv_at hl 0 rfl) ?_
  refine lv_iload X.1 X.2.1 dL_law_450 (lv_at hl 4 rfl) ?_
  refine lv_iconst (v := 1) X.1 X.2.1 dL_law_452 (by decide) ?_
  refine lv_iadd X.1 X.2.1 dL_law_453 ?_
  refine va_sld X.1 X.2.1 hX hbl hbA I.2.2 h.1 dL_law_454 ?_
  have h := h.2
  refine q_aload_n X dL_law_455 rfl (lv_at hl 0 rfl) ?_
  refine lv_iload X.1 X.2.1 dL_law_456 (lv_at hl 4 rfl) ?_
  refine lv_iconst (v := 2) X.1 X.2.1 dL_law_458 (by decide) ?_
  refine lv_iadd X.1 X.2.1 dL_law_459 ?_
  refine va_sld X.1 X.2.1 hX hbl hbA I.2.2 h.1 dL_law_460 ?_
  have h := h.2
  refine q_aload_n X dL_law_461 rfl (lv_at hl 3 rfl) ?_
  refine q_cT (n := 4) (hh := [(0, 10, 13, 23)]) (As := [va_rf (some x1), .int (xs (x4 + (1 : Int32)).toNatClampNeg), .int (xs (x4 + (2 : Int32)).toNatClampNeg), va_rf (some x3)]) (rest := []) (c1 := cells + 2) (s1 := slots + 12) (d := 8) (mc := 2) (ms := 12) X I hl.1 wd_500 wd_0 ⟨by decide, by decide⟩ (by decide +kernel) wd_499 wd_498 dL_law_462 rfl (kL_has hl0 h) rfl (Nat.le_of_ble_eq_true rfl) ⟨by decide, by decide⟩ ⟨by show _ ≤ 601024; omega, by show _ ≤ 7293034; omega⟩ rfl rfl (fun v462 S H locs I h => ?_)
  refine lv_istore (i := 5) (lv' := [(5, .int v462), (0, va_rf (some b)), (1, va_rf (some x1)), (2, va_rf (some x2)), (3, va_rf (some x3)), (4, .int x4)]) X.1 X.2.1 dL_law_465 hl (by decide) rfl (fun ls hl => ?_)
  refine q_aload_n X dL_law_467 rfl (lv_at hl 3 rfl) ?_
  refine q_aload_n X dL_law_468 rfl (lv_at hl 1 rfl) ?_
  refine lv_iload X.1 X.2.1 dL_law_469 (lv_at hl 5 rfl) ?_
  refine lv_iconst (v := 1) X.1 X.2.1 dL_law_471 (by decide) ?_
  refine lv_iadd X.1 X.2.1 dL_law_472 ?_
  refine va_sld X.1 X.2.1 hX hbl hbA I.2.2 h.1 dL_law_473 ?_
  have h := h.2
  refine q_aload_n X dL_law_474 rfl (lv_at hl 1 rfl) ?_
  refine lv_iload X.1 X.2.1 dL_law_475 (lv_at hl 5 rfl) ?_
  refine lv_iconst (v := 2) X.1 X.2.1 dL_law_477 (by decide) ?_
  refine lv_iadd X.1 X.2.1 dL_law_478 ?_
  refine va_sld X.1 X.2.1 hX hbl hbA I.2.2 h.1 dL_law_479 ?_
  have h := h.2
  refine q_cXi (As := [.int (xs (x4 + (1 : Int32)).toNatClampNeg), .int (xs (x4 + (2 : Int32)).toNatClampNeg)]) (rest := []) (c1 := cells + 2) (s1 := slots + 12) (d := 3) (mc := 0) (ms := 0) X I hl.1 mX8_has wd_985 dL_law_480 rfl h (fun b h => kX8_has hl0 h) rfl (Nat.le_of_ble_eq_true rfl) ⟨by decide, by decide⟩ ⟨by show _ ≤ 601024; omega, by show _ ≤ 7293034; omega⟩ rfl rfl (fun E ce q9 S H locs I h hce hcv hcl => h.elim) (fun v480 S H locs I h => ?_)
  refine lv_istore (i := 6) (lv' := [(6, .int v480), (5, .int v462), (0, va_rf (some b)), (1, va_rf (some x1)), (2, va_rf (some x2)), (3, va_rf (some x3)), (4, .int x4)]) X.1 X.2.1 dL_law_483 hl (by decide) rfl (fun ls hl => ?_)
  refine q_aload_n X dL_law_485 rfl (lv_at hl 4 rfl) ?_
  refine q_cXi (As := []) (rest := []) (c1 := cells + 2) (s1 := slots + 12) (d := 1) (mc := 0) (ms := 0) X I hl.1 mX8_thrown wd_939 dL_law_486 rfl h (fun b h => kX8_thrown hl0 h) rfl (Nat.le_of_ble_eq_true rfl) ⟨by decide, by decide⟩ ⟨by show _ ≤ 601024; omega, by show _ ≤ 7293034; omega⟩ rfl rfl (fun E ce q9 S H locs I h hce hcv hcl => h.elim) (fun v486 S H locs I h => ?_)
  refine lv_iload X.1 X.2.1 dL_law_489 (lv_at hl 1 rfl) ?_
  refine lv_icmp_eq (tgt := 496) X.1 X.2.1 dL_law_491 (by decide) (fun c491 => ?_) (fun c491 => ?_)
  · have h := h.1 c491
    refine lv_iload X.1 X.2.1 dL_law_496 (lv_at hl 1 rfl) ?_
    have jn513 : ∀ (x4 : Int32) (S : qS) (H : Heap) (locs : List Loc) (ls : Array Slot), pL_law_J513 K xs L g x1 x2 x3 K x4 S → q_H G A s H locs S → lv_has ls 8 [(0, va_rf (some b)), (1, va_rf (some x1)), (2, va_rf (some x2)), (3, va_rf (some x3)), (4, .int x4)] → W p l e room_1 s m av below meth c H locs (cells + 2) (slots + 12) Q (F0 m 513 ls []) := by
      intro x4 S H locs ls h I hl
      unfold pL_law_J513 at h
      refine lv_goto (tgt := 1708) X.1 X.2.1 dL_law_513 (by decide) ?_
      refine W.widen (k := cells + 12) (n := slots + 183) (by omega) (by omega) ?_
      exact kk _ _ _ _ _ h I (lv_sub hl [0, 1, 2, 3, 4] rfl)
    refine lv_if_ne (tgt := 513) X.1 X.2.1 dL_law_498 (by decide) (fun c498 => ?_) (fun c498 => ?_)
    · have h := h.1 c498
      exact jn513 _ _ _ _ _ h I (lv_sub hl [2, 3, 4, 5, 6] rfl)
    · have h := h.2 c498
      refine q_aload_n X dL_law_501 rfl (lv_at hl 5 rfl) ?_
      refine lv_iconst (v := 0) X.1 X.2.1 dL_law_502 (by decide) ?_
      refine q_ldJ X I (by decide) (by decide) dL_law_503 h (fun v503 h => ?_)
      refine lv_iload X.1 X.2.1 dL_law_504 (lv_at hl 0 rfl) ?_
      refine lv_i2l X.1 X.2.1 dL_law_506 rfl ?_
      refine W.lcmp X.1 X.2.1 dL_law_507 ?_
      refine lv_if_eq (tgt := 513) X.1 X.2.1 dL_law_508 (by decide) (fun c508 => ?_) (fun c508 => ?_)
      · have h := h.1 c508
        exact jn513 _ _ _ _ _ h I (lv_sub hl [2, 3, 4, 5, 6] rfl)
      · have h := h.2 c508
        refine lv_iconst (v := 0) X.1 X.2.1 dL_law_511 (by decide) ?_
        exact h.elim
  · have h := h.2 c491
    refine lv_iconst (v := 0) X.1 X.2.1 dL_law_494 (by decide) ?_
    exact h.elim

def pL_law_J596 (k1708 : Int32 → qS → Prop) (xs : Nat → Int32) (L : Nat) (g : Nat × Nat) (x1 x2 x3 : Nat) (K : Int32 → qS → Prop) (x4 : Int32) (S : qS) : Prop :=
  k1708 x4 S
def pL_law_J564 (k1708 : Int32 → qS → Prop) (xs : Nat → Int32) (L : Nat) (g : Nat × Nat) (x1 x2 x3 : Nat) (K : Int32 → qS → Prop) (x4 : Int32) (x5 : Int32) (t0 : Option Nat) (t1 : Int32) (t2 : Int32) (S : qS) : Prop :=
  w_at S t0 9 (fun b564 => pX8_sum b564 t1 t2 S (fun v564 S =>
  w_at S (some x2) 9 (fun b570 => pX8_thrown b570  S (fun v570 S =>
  ((v570 = x5 →
  ((¬ x5 = 0 →
  pL_law_J596 k1708 xs L g x1 x2 x3 K x4 S) ∧ (x5 = 0 →
  w_ldJ S (some x3) 29 (0 : Int32) (fun v587 =>
  (((lg_cmp v587 v564) = 0 →
  pL_law_J596 k1708 xs L g x1 x2 x3 K x4 S) ∧ (¬ (lg_cmp v587 v564) = 0 →
  False)))))) ∧ (¬ v570 = x5 →
  False))) (fun _ _ => False))) (fun _ _ => False))
def pL_law_J537 (k1708 : Int32 → qS → Prop) (xs : Nat → Int32) (L : Nat) (g : Nat × Nat) (x1 x2 x3 : Nat) (K : Int32 → qS → Prop) (x4 : Int32) (t0 : Option Nat) (t1 : Int32) (t2 : Int32) (S : qS) : Prop :=
  pL_sum t0 t1 t2 (some x3) S (fun v538 S =>
  (vp_in (x4 + (1 : Int32)) L ∧
  (vp_in (x4 + (2 : Int32)) L ∧
  (((xs (x4 + (2 : Int32)).toNatClampNeg) = 0 →
  pL_law_J564 k1708 xs L g x1 x2 x3 K x4 v538 (some x2) (xs (x4 + (1 : Int32)).toNatClampNeg) (0 : Int32) S) ∧ (¬ (xs (x4 + (2 : Int32)).toNatClampNeg) = 0 →
  pL_law_J564 k1708 xs L g x1 x2 x3 K x4 v538 (some x2) (xs (x4 + (1 : Int32)).toNatClampNeg) (1 : Int32) S)))))
def pL_c5 (xs : Nat → Int32) (L : Nat) (g : Nat × Nat) (x1 x2 x3 : Nat) (K : Int32 → qS → Prop) (x4 : Int32) (S : qS) : Prop :=
  (vp_in (x4 + (1 : Int32)) L ∧
  (vp_in (x4 + (2 : Int32)) L ∧
  (((xs (x4 + (2 : Int32)).toNatClampNeg) = 0 →
  pL_law_J537 K xs L g x1 x2 x3 K x4 (some x1) (xs (x4 + (1 : Int32)).toNatClampNeg) (0 : Int32) S) ∧ (¬ (xs (x4 + (2 : Int32)).toNatClampNeg) = 0 →
  pL_law_J537 K xs L g x1 x2 x3 K x4 (some x1) (xs (x4 + (1 : Int32)).toNatClampNeg) (1 : Int32) S))))
set_option maxHeartbeats 4000000 in
set_option maxRecDepth 100000 in
theorem kL_c5 {p : Program} {l : Launch} {e : Env} {s : State} {m : MethodId} {av : Array Value} {below : List Frame} {meth : Method} {c : Code} {H : Heap} {locs : List Loc} {ls : Array Slot} {cells slots : Nat} {Q : State → Prop} {G : qG} {A : Nat → Prop} {S : qS} {b L x1 x2 x3 : Nat} {x4 : Int32} {xs : Nat → Int32} {g : Nat × Nat} {K : Int32 → qS → Prop} (hl0 : l.stackTraces = false) (he : G.2.2 = g) (X : q_X p l s m av meth c cL_law RL 8 G A) (hX : va_X b L xs s s.heap) (hbl : b < s.heap.size) (hbA : ¬ A b) (hcs : cells + 12 ≤ 601024 ∧ slots + 183 ≤ 7293034) (I : q_H G A s H locs S) (hl : lv_has ls 8 [(0, va_rf (some b)), (1, va_rf (some x1)), (2, va_rf (some x2)), (3, va_rf (some x3)), (4, .int x4)]) (h : pL_c5 xs L g x1 x2 x3 K x4 S) (kk : ∀ (x4 : Int32) (S : qS) (H : Heap) (locs : List Loc) (ls : Array Slot), K x4 S → q_H G A s H locs S → lv_has ls 8 [(0, va_rf (some b)), (1, va_rf (some x1)), (2, va_rf (some x2)), (3, va_rf (some x3)), (4, .int x4)] → W p l e room_1 s m av below meth c H locs (cells + 12) (slots + 183) Q (F0 m 1708 ls [])) : W p l e room_1 s m av below meth c H locs cells slots Q (F0 m 516 ls []) := by
  unfold pL_c5 at h
  refine q_aload_n X dL_law_516 rfl (lv_at hl 1 rfl) ?_
  refine q_aload_n X dL_law_517 rfl (lv_at hl 0 rfl) ?_
  refine lv_iload X.1 X.2.1 dL_law_518 (lv_at hl 4 rfl) ?_
  refine lv_iconst (v := 1) X.1 X.2.1 dL_law_520 (by decide) ?_
  refine lv_iadd X.1 X.2.1 dL_law_521 ?_
  refine va_sld X.1 X.2.1 hX hbl hbA I.2.2 h.1 dL_law_522 ?_
  have h := h.2
  refine q_aload_n X dL_law_523 rfl (lv_at hl 0 rfl) ?_
  refine lv_iload X.1 X.2.1 dL_law_524 (lv_at hl 4 rfl) ?_
  refine lv_iconst (v := 2) X.1 X.2.1 dL_law_526 (by decide) ?_
  refine lv_iadd X.1 X.2.1 dL_law_527 ?_
  refine va_sld X.1 X.2.1 hX hbl hbA I.2.2 h.1 dL_law_528 ?_
  have h := h.2
  have jn537 : ∀ (x4 : Int32) (t0 : Option Nat) (t1 : Int32) (t2 : Int32) (S : qS) (H : Heap) (locs : List Loc) (ls : Array Slot), pL_law_J537 K xs L g x1 x2 x3 K x4 t0 t1 t2 S → q_H G A s H locs S → lv_has ls 8 [(0, va_rf (some b)), (1, va_rf (some x1)), (2, va_rf (some x2)), (3, va_rf (some x3)), (4, .int x4)] → W p l e room_1 s m av below meth c H locs (cells + 0) (slots + 0) Q (F0 m 537 ls [.int t2, .int t1, va_rf t0]) := by
    intro x4 t0 t1 t2 S H locs ls h I hl
    unfold pL_law_J537 at h
    refine q_aload_n X dL_law_537 rfl (lv_at hl 3 rfl) ?_
    refine q_cT (n := 4) (hh := [(0, 9, 12, 23)]) (As := [va_rf t0, .int t1, .int t2, va_rf (some x3)]) (rest := []) (c1 := cells + 1) (s1 := slots + 6) (d := 8) (mc := 1) (ms := 6) X I hl.1 wd_507 wd_0 ⟨by decide, by decide⟩ (by decide +kernel) wd_506 wd_505 dL_law_538 rfl (kL_sum hl0 h) rfl (Nat.le_of_ble_eq_true rfl) ⟨by decide, by decide⟩ ⟨by show _ ≤ 601024; omega, by show _ ≤ 7293034; omega⟩ rfl rfl (fun v538 S H locs I h => ?_)
    refine lv_istore (i := 5) (lv' := [(5, .int v538), (0, va_rf (some b)), (1, va_rf (some x1)), (2, va_rf (some x2)), (3, va_rf (some x3)), (4, .int x4)]) X.1 X.2.1 dL_law_541 hl (by decide) rfl (fun ls hl => ?_)
    refine q_aload_n X dL_law_543 rfl (lv_at hl 3 rfl) ?_
    refine q_aload_n X dL_law_544 rfl (lv_at hl 1 rfl) ?_
    refine lv_iload X.1 X.2.1 dL_law_545 (lv_at hl 5 rfl) ?_
    refine lv_iconst (v := 1) X.1 X.2.1 dL_law_547 (by decide) ?_
    refine lv_iadd X.1 X.2.1 dL_law_548 ?_
    refine va_sld X.1 X.2.1 hX hbl hbA I.2.2 h.1 dL_law_549 ?_
    have h := h.2
    refine q_aload_n X dL_law_550 rfl (lv_at hl 1 rfl) ?_
    refine lv_iload X.1 X.2.1 dL_law_551 (lv_at hl 5 rfl) ?_
    refine lv_iconst (v := 2) X.1 X.2.1 dL_law_553 (by decide) ?_
    refine lv_iadd X.1 X.2.1 dL_law_554 ?_
    refine va_sld X.1 X.2.1 hX hbl hbA I.2.2 h.1 dL_law_555 ?_
    have h := h.2
    have jn564 : ∀ (x4 : Int32) (x5 : Int32) (t0 : Option Nat) (t1 : Int32) (t2 : Int32) (S : qS) (H : Heap) (locs : List Loc) (ls : Array Slot), pL_law_J564 K xs L g x1 x2 x3 K x4 x5 t0 t1 t2 S → q_H G A s H locs S → lv_has ls 8 [(0, va_rf (some b)), (1, va_rf (some x1)), (2, va_rf (some x2)), (3, va_rf (some x3)), (4, .int x4), (5, .int x5)] → W p l e room_1 s m av below meth c H locs (cells + 1) (slots + 6) Q (F0 m 564 ls [.int t2, .int t1, va_rf t0]) := by
      intro x4 x5 t0 t1 t2 S H locs ls h I hl
      unfold pL_law_J564 at h
      refine q_cXj (As := [.int t1, .int t2]) (rest := []) (c1 := cells + 1) (s1 := slots + 6) (d := 3) (mc := 0) (ms := 0) X I hl.1 mX8_sum wd_989 dL_law_564 rfl h (fun b h => kX8_sum hl0 h) rfl (Nat.le_of_ble_eq_true rfl) ⟨by decide, by decide⟩ ⟨by show _ ≤ 601024; omega, by show _ ≤ 7293034; omega⟩ rfl rfl (fun E ce q9 S H locs I h hce hcv hcl => h.elim) (fun v564 S H locs I h => ?_)
      refine lv_lstore (i := 6) (lv' := [(6, .long v564), (0, va_rf (some b)), (1, va_rf (some x1)), (2, va_rf (some x2)), (3, va_rf (some x3)), (4, .int x4), (5, .int x5)]) X.1 X.2.1 dL_law_567 hl (by decide) rfl (fun ls hl => ?_)
      refine q_aload_n X dL_law_569 rfl (lv_at hl 3 rfl) ?_
      refine q_cXi (As := []) (rest := []) (c1 := cells + 1) (s1 := slots + 6) (d := 1) (mc := 0) (ms := 0) X I hl.1 mX8_thrown wd_939 dL_law_570 rfl h (fun b h => kX8_thrown hl0 h) rfl (Nat.le_of_ble_eq_true rfl) ⟨by decide, by decide⟩ ⟨by show _ ≤ 601024; omega, by show _ ≤ 7293034; omega⟩ rfl rfl (fun E ce q9 S H locs I h hce hcv hcl => h.elim) (fun v570 S H locs I h => ?_)
      refine lv_iload X.1 X.2.1 dL_law_573 (lv_at hl 6 rfl) ?_
      refine lv_icmp_eq (tgt := 580) X.1 X.2.1 dL_law_575 (by decide) (fun c575 => ?_) (fun c575 => ?_)
      · have h := h.1 c575
        refine lv_iload X.1 X.2.1 dL_law_580 (lv_at hl 6 rfl) ?_
        have jn596 : ∀ (x4 : Int32) (S : qS) (H : Heap) (locs : List Loc) (ls : Array Slot), pL_law_J596 K xs L g x1 x2 x3 K x4 S → q_H G A s H locs S → lv_has ls 8 [(0, va_rf (some b)), (1, va_rf (some x1)), (2, va_rf (some x2)), (3, va_rf (some x3)), (4, .int x4)] → W p l e room_1 s m av below meth c H locs (cells + 1) (slots + 6) Q (F0 m 596 ls []) := by
          intro x4 S H locs ls h I hl
          unfold pL_law_J596 at h
          refine lv_goto (tgt := 1708) X.1 X.2.1 dL_law_596 (by decide) ?_
          refine W.widen (k := cells + 12) (n := slots + 183) (by omega) (by omega) ?_
          exact kk _ _ _ _ _ h I (lv_sub hl [0, 1, 2, 3, 4] rfl)
        refine lv_if_ne (tgt := 596) X.1 X.2.1 dL_law_582 (by decide) (fun c582 => ?_) (fun c582 => ?_)
        · have h := h.1 c582
          exact jn596 _ _ _ _ _ h I (lv_sub hl [1, 2, 3, 4, 5] rfl)
        · have h := h.2 c582
          refine q_aload_n X dL_law_585 rfl (lv_at hl 4 rfl) ?_
          refine lv_iconst (v := 0) X.1 X.2.1 dL_law_586 (by decide) ?_
          refine q_ldJ X I (by decide) (by decide) dL_law_587 h (fun v587 h => ?_)
          refine lv_lload X.1 X.2.1 dL_law_588 (lv_at hl 0 rfl) ?_
          refine W.lcmp X.1 X.2.1 dL_law_590 ?_
          refine lv_if_eq (tgt := 596) X.1 X.2.1 dL_law_591 (by decide) (fun c591 => ?_) (fun c591 => ?_)
          · have h := h.1 c591
            exact jn596 _ _ _ _ _ h I (lv_sub hl [1, 2, 3, 4, 5] rfl)
          · have h := h.2 c591
            refine lv_iconst (v := 0) X.1 X.2.1 dL_law_594 (by decide) ?_
            exact h.elim
      · have h := h.2 c575
        refine lv_iconst (v := 0) X.1 X.2.1 dL_law_578 (by decide) ?_
        exact h.elim
    refine lv_if_eq (tgt := 563) X.1 X.2.1 dL_law_556 (by decide) (fun c556 => ?_) (fun c556 => ?_)
    · have h := h.1 c556
      refine lv_iconst (v := 0) X.1 X.2.1 dL_law_563 (by decide) ?_
      exact jn564 _ _ _ _ _ _ _ _ _ h I (lv_sub hl [1, 2, 3, 4, 5, 0] rfl)
    · have h := h.2 c556
      refine lv_iconst (v := 1) X.1 X.2.1 dL_law_559 (by decide) ?_
      refine lv_goto (tgt := 564) X.1 X.2.1 dL_law_560 (by decide) ?_
      exact jn564 _ _ _ _ _ _ _ _ _ h I (lv_sub hl [1, 2, 3, 4, 5, 0] rfl)
  refine lv_if_eq (tgt := 536) X.1 X.2.1 dL_law_529 (by decide) (fun c529 => ?_) (fun c529 => ?_)
  · have h := h.1 c529
    refine lv_iconst (v := 0) X.1 X.2.1 dL_law_536 (by decide) ?_
    exact jn537 _ _ _ _ _ _ _ _ h I (lv_sub hl [0, 1, 2, 3, 4] rfl)
  · have h := h.2 c529
    refine lv_iconst (v := 1) X.1 X.2.1 dL_law_532 (by decide) ?_
    refine lv_goto (tgt := 537) X.1 X.2.1 dL_law_533 (by decide) ?_
    exact jn537 _ _ _ _ _ _ _ _ h I (lv_sub hl [0, 1, 2, 3, 4] rfl)

def pL_law_J692 (k1708 : Int32 → qS → Prop) (xs : Nat → Int32) (L : Nat) (g : Nat × Nat) (x1 x2 x3 : Nat) (K : Int32 → qS → Prop) (x4 : Int32) (S : qS) : Prop :=
  k1708 x4 S
def pL_law_J653 (k1708 : Int32 → qS → Prop) (xs : Nat → Int32) (L : Nat) (g : Nat × Nat) (x1 x2 x3 : Nat) (K : Int32 → qS → Prop) (x4 : Int32) (x5 : Int32) (t0 : Option Nat) (t1 : Int32) (t2 : Int32) (S : qS) : Prop :=
  (vp_in (x4 + (3 : Int32)) L ∧
  w_at S t0 9 (fun b659 => pX8_single b659 t1 t2 (xs (x4 + (3 : Int32)).toNatClampNeg) S (fun v659 S =>
  w_at S (some x2) 9 (fun b665 => pX8_thrown b665  S (fun v665 S =>
  ((v665 = x5 →
  ((¬ x5 = 0 →
  pL_law_J692 k1708 xs L g x1 x2 x3 K x4 S) ∧ (x5 = 0 →
  w_ldJ S (some x3) 29 (0 : Int32) (fun v682 =>
  (((lg_cmp v682 v659.toInt64) = 0 →
  pL_law_J692 k1708 xs L g x1 x2 x3 K x4 S) ∧ (¬ (lg_cmp v682 v659.toInt64) = 0 →
  False)))))) ∧ (¬ v665 = x5 →
  False))) (fun _ _ => False))) (fun _ _ => False)))
def pL_law_J620 (k1708 : Int32 → qS → Prop) (xs : Nat → Int32) (L : Nat) (g : Nat × Nat) (x1 x2 x3 : Nat) (K : Int32 → qS → Prop) (x4 : Int32) (t0 : Option Nat) (t1 : Int32) (t2 : Int32) (S : qS) : Prop :=
  (vp_in (x4 + (3 : Int32)) L ∧
  pL_single t0 t1 t2 (xs (x4 + (3 : Int32)).toNatClampNeg) (some x3) S g (fun v627 S =>
  (vp_in (x4 + (1 : Int32)) L ∧
  (vp_in (x4 + (2 : Int32)) L ∧
  (((xs (x4 + (2 : Int32)).toNatClampNeg) = 0 →
  pL_law_J653 k1708 xs L g x1 x2 x3 K x4 v627 (some x2) (xs (x4 + (1 : Int32)).toNatClampNeg) (0 : Int32) S) ∧ (¬ (xs (x4 + (2 : Int32)).toNatClampNeg) = 0 →
  pL_law_J653 k1708 xs L g x1 x2 x3 K x4 v627 (some x2) (xs (x4 + (1 : Int32)).toNatClampNeg) (1 : Int32) S))))))
def pL_c6 (xs : Nat → Int32) (L : Nat) (g : Nat × Nat) (x1 x2 x3 : Nat) (K : Int32 → qS → Prop) (x4 : Int32) (S : qS) : Prop :=
  (vp_in (x4 + (1 : Int32)) L ∧
  (vp_in (x4 + (2 : Int32)) L ∧
  (((xs (x4 + (2 : Int32)).toNatClampNeg) = 0 →
  pL_law_J620 K xs L g x1 x2 x3 K x4 (some x1) (xs (x4 + (1 : Int32)).toNatClampNeg) (0 : Int32) S) ∧ (¬ (xs (x4 + (2 : Int32)).toNatClampNeg) = 0 →
  pL_law_J620 K xs L g x1 x2 x3 K x4 (some x1) (xs (x4 + (1 : Int32)).toNatClampNeg) (1 : Int32) S))))
set_option maxHeartbeats 4000000 in
set_option maxRecDepth 100000 in
theorem kL_c6 {p : Program} {l : Launch} {e : Env} {s : State} {m : MethodId} {av : Array Value} {below : List Frame} {meth : Method} {c : Code} {H : Heap} {locs : List Loc} {ls : Array Slot} {cells slots : Nat} {Q : State → Prop} {G : qG} {A : Nat → Prop} {S : qS} {b L x1 x2 x3 : Nat} {x4 : Int32} {xs : Nat → Int32} {g : Nat × Nat} {K : Int32 → qS → Prop} (hl0 : l.stackTraces = false) (he : G.2.2 = g) (X : q_X p l s m av meth c cL_law RL 8 G A) (hX : va_X b L xs s s.heap) (hbl : b < s.heap.size) (hbA : ¬ A b) (hcs : cells + 12 ≤ 601024 ∧ slots + 183 ≤ 7293034) (I : q_H G A s H locs S) (hl : lv_has ls 8 [(0, va_rf (some b)), (1, va_rf (some x1)), (2, va_rf (some x2)), (3, va_rf (some x3)), (4, .int x4)]) (h : pL_c6 xs L g x1 x2 x3 K x4 S) (kk : ∀ (x4 : Int32) (S : qS) (H : Heap) (locs : List Loc) (ls : Array Slot), K x4 S → q_H G A s H locs S → lv_has ls 8 [(0, va_rf (some b)), (1, va_rf (some x1)), (2, va_rf (some x2)), (3, va_rf (some x3)), (4, .int x4)] → W p l e room_1 s m av below meth c H locs (cells + 12) (slots + 183) Q (F0 m 1708 ls [])) : W p l e room_1 s m av below meth c H locs cells slots Q (F0 m 599 ls []) := by
  unfold pL_c6 at h
  refine q_aload_n X dL_law_599 rfl (lv_at hl 1 rfl) ?_
  refine q_aload_n X dL_law_600 rfl (lv_at hl 0 rfl) ?_
  refine lv_iload X.1 X.2.1 dL_law_601 (lv_at hl 4 rfl) ?_
  refine lv_iconst (v := 1) X.1 X.2.1 dL_law_603 (by decide) ?_
  refine lv_iadd X.1 X.2.1 dL_law_604 ?_
  refine va_sld X.1 X.2.1 hX hbl hbA I.2.2 h.1 dL_law_605 ?_
  have h := h.2
  refine q_aload_n X dL_law_606 rfl (lv_at hl 0 rfl) ?_
  refine lv_iload X.1 X.2.1 dL_law_607 (lv_at hl 4 rfl) ?_
  refine lv_iconst (v := 2) X.1 X.2.1 dL_law_609 (by decide) ?_
  refine lv_iadd X.1 X.2.1 dL_law_610 ?_
  refine va_sld X.1 X.2.1 hX hbl hbA I.2.2 h.1 dL_law_611 ?_
  have h := h.2
  have jn620 : ∀ (x4 : Int32) (t0 : Option Nat) (t1 : Int32) (t2 : Int32) (S : qS) (H : Heap) (locs : List Loc) (ls : Array Slot), pL_law_J620 K xs L g x1 x2 x3 K x4 t0 t1 t2 S → q_H G A s H locs S → lv_has ls 8 [(0, va_rf (some b)), (1, va_rf (some x1)), (2, va_rf (some x2)), (3, va_rf (some x3)), (4, .int x4)] → W p l e room_1 s m av below meth c H locs (cells + 0) (slots + 0) Q (F0 m 620 ls [.int t2, .int t1, va_rf t0]) := by
    intro x4 t0 t1 t2 S H locs ls h I hl
    unfold pL_law_J620 at h
    refine q_aload_n X dL_law_620 rfl (lv_at hl 0 rfl) ?_
    refine lv_iload X.1 X.2.1 dL_law_621 (lv_at hl 4 rfl) ?_
    refine lv_iconst (v := 3) X.1 X.2.1 dL_law_623 (by decide) ?_
    refine lv_iadd X.1 X.2.1 dL_law_624 ?_
    refine va_sld X.1 X.2.1 hX hbl hbA I.2.2 h.1 dL_law_625 ?_
    have h := h.2
    refine q_aload_n X dL_law_626 rfl (lv_at hl 3 rfl) ?_
    refine q_cT (n := 5) (hh := [(0, 12, 15, 23), (0, 12, 19, 25), (0, 12, 23, 13)]) (As := [va_rf t0, .int t1, .int t2, .int (xs (x4 + (3 : Int32)).toNatClampNeg), va_rf (some x3)]) (rest := []) (c1 := cells + 6) (s1 := slots + 183) (d := 10) (mc := 6) (ms := 183) X I hl.1 wd_514 wd_0 ⟨by decide, by decide⟩ (by decide +kernel) wd_513 wd_512 dL_law_627 rfl (kL_single hl0 he h) rfl (Nat.le_of_ble_eq_true rfl) ⟨by decide, by decide⟩ ⟨by show _ ≤ 601024; omega, by show _ ≤ 7293034; omega⟩ rfl rfl (fun v627 S H locs I h => ?_)
    refine lv_istore (i := 5) (lv' := [(5, .int v627), (0, va_rf (some b)), (1, va_rf (some x1)), (2, va_rf (some x2)), (3, va_rf (some x3)), (4, .int x4)]) X.1 X.2.1 dL_law_630 hl (by decide) rfl (fun ls hl => ?_)
    refine q_aload_n X dL_law_632 rfl (lv_at hl 3 rfl) ?_
    refine q_aload_n X dL_law_633 rfl (lv_at hl 1 rfl) ?_
    refine lv_iload X.1 X.2.1 dL_law_634 (lv_at hl 5 rfl) ?_
    refine lv_iconst (v := 1) X.1 X.2.1 dL_law_636 (by decide) ?_
    refine lv_iadd X.1 X.2.1 dL_law_637 ?_
    refine va_sld X.1 X.2.1 hX hbl hbA I.2.2 h.1 dL_law_638 ?_
    have h := h.2
    refine q_aload_n X dL_law_639 rfl (lv_at hl 1 rfl) ?_
    refine lv_iload X.1 X.2.1 dL_law_640 (lv_at hl 5 rfl) ?_
    refine lv_iconst (v := 2) X.1 X.2.1 dL_law_642 (by decide) ?_
    refine lv_iadd X.1 X.2.1 dL_law_643 ?_
    refine va_sld X.1 X.2.1 hX hbl hbA I.2.2 h.1 dL_law_644 ?_
    have h := h.2
    have jn653 : ∀ (x4 : Int32) (x5 : Int32) (t0 : Option Nat) (t1 : Int32) (t2 : Int32) (S : qS) (H : Heap) (locs : List Loc) (ls : Array Slot), pL_law_J653 K xs L g x1 x2 x3 K x4 x5 t0 t1 t2 S → q_H G A s H locs S → lv_has ls 8 [(0, va_rf (some b)), (1, va_rf (some x1)), (2, va_rf (some x2)), (3, va_rf (some x3)), (4, .int x4), (5, .int x5)] → W p l e room_1 s m av below meth c H locs (cells + 6) (slots + 183) Q (F0 m 653 ls [.int t2, .int t1, va_rf t0]) := by
      intro x4 x5 t0 t1 t2 S H locs ls h I hl
      unfold pL_law_J653 at h
      refine q_aload_n X dL_law_653 rfl (lv_at hl 0 rfl) ?_
      refine lv_iload X.1 X.2.1 dL_law_654 (lv_at hl 4 rfl) ?_
      refine lv_iconst (v := 3) X.1 X.2.1 dL_law_656 (by decide) ?_
      refine lv_iadd X.1 X.2.1 dL_law_657 ?_
      refine va_sld X.1 X.2.1 hX hbl hbA I.2.2 h.1 dL_law_658 ?_
      have h := h.2
      refine q_cXi (As := [.int t1, .int t2, .int (xs (x4 + (3 : Int32)).toNatClampNeg)]) (rest := []) (c1 := cells + 6) (s1 := slots + 183) (d := 3) (mc := 0) (ms := 0) X I hl.1 mX8_single wd_993 dL_law_659 rfl h (fun b h => kX8_single hl0 h) rfl (Nat.le_of_ble_eq_true rfl) ⟨by decide, by decide⟩ ⟨by show _ ≤ 601024; omega, by show _ ≤ 7293034; omega⟩ rfl rfl (fun E ce q9 S H locs I h hce hcv hcl => h.elim) (fun v659 S H locs I h => ?_)
      refine lv_istore (i := 6) (lv' := [(6, .int v659), (0, va_rf (some b)), (1, va_rf (some x1)), (2, va_rf (some x2)), (3, va_rf (some x3)), (4, .int x4), (5, .int x5)]) X.1 X.2.1 dL_law_662 hl (by decide) rfl (fun ls hl => ?_)
      refine q_aload_n X dL_law_664 rfl (lv_at hl 3 rfl) ?_
      refine q_cXi (As := []) (rest := []) (c1 := cells + 6) (s1 := slots + 183) (d := 1) (mc := 0) (ms := 0) X I hl.1 mX8_thrown wd_939 dL_law_665 rfl h (fun b h => kX8_thrown hl0 h) rfl (Nat.le_of_ble_eq_true rfl) ⟨by decide, by decide⟩ ⟨by show _ ≤ 601024; omega, by show _ ≤ 7293034; omega⟩ rfl rfl (fun E ce q9 S H locs I h hce hcv hcl => h.elim) (fun v665 S H locs I h => ?_)
      refine lv_iload X.1 X.2.1 dL_law_668 (lv_at hl 6 rfl) ?_
      refine lv_icmp_eq (tgt := 675) X.1 X.2.1 dL_law_670 (by decide) (fun c670 => ?_) (fun c670 => ?_)
      · have h := h.1 c670
        refine lv_iload X.1 X.2.1 dL_law_675 (lv_at hl 6 rfl) ?_
        have jn692 : ∀ (x4 : Int32) (S : qS) (H : Heap) (locs : List Loc) (ls : Array Slot), pL_law_J692 K xs L g x1 x2 x3 K x4 S → q_H G A s H locs S → lv_has ls 8 [(0, va_rf (some b)), (1, va_rf (some x1)), (2, va_rf (some x2)), (3, va_rf (some x3)), (4, .int x4)] → W p l e room_1 s m av below meth c H locs (cells + 6) (slots + 183) Q (F0 m 692 ls []) := by
          intro x4 S H locs ls h I hl
          unfold pL_law_J692 at h
          refine lv_goto (tgt := 1708) X.1 X.2.1 dL_law_692 (by decide) ?_
          refine W.widen (k := cells + 12) (n := slots + 183) (by omega) (by omega) ?_
          exact kk _ _ _ _ _ h I (lv_sub hl [0, 1, 2, 3, 4] rfl)
        refine lv_if_ne (tgt := 692) X.1 X.2.1 dL_law_677 (by decide) (fun c677 => ?_) (fun c677 => ?_)
        · have h := h.1 c677
          exact jn692 _ _ _ _ _ h I (lv_sub hl [1, 2, 3, 4, 5] rfl)
        · have h := h.2 c677
          refine q_aload_n X dL_law_680 rfl (lv_at hl 4 rfl) ?_
          refine lv_iconst (v := 0) X.1 X.2.1 dL_law_681 (by decide) ?_
          refine q_ldJ X I (by decide) (by decide) dL_law_682 h (fun v682 h => ?_)
          refine lv_iload X.1 X.2.1 dL_law_683 (lv_at hl 0 rfl) ?_
          refine lv_i2l X.1 X.2.1 dL_law_685 rfl ?_
          refine W.lcmp X.1 X.2.1 dL_law_686 ?_
          refine lv_if_eq (tgt := 692) X.1 X.2.1 dL_law_687 (by decide) (fun c687 => ?_) (fun c687 => ?_)
          · have h := h.1 c687
            exact jn692 _ _ _ _ _ h I (lv_sub hl [1, 2, 3, 4, 5] rfl)
          · have h := h.2 c687
            refine lv_iconst (v := 0) X.1 X.2.1 dL_law_690 (by decide) ?_
            exact h.elim
      · have h := h.2 c670
        refine lv_iconst (v := 0) X.1 X.2.1 dL_law_673 (by decide) ?_
        exact h.elim
    refine lv_if_eq (tgt := 652) X.1 X.2.1 dL_law_645 (by decide) (fun c645 => ?_) (fun c645 => ?_)
    · have h := h.1 c645
      refine lv_iconst (v := 0) X.1 X.2.1 dL_law_652 (by decide) ?_
      exact jn653 _ _ _ _ _ _ _ _ _ h I (lv_sub hl [1, 2, 3, 4, 5, 0] rfl)
    · have h := h.2 c645
      refine lv_iconst (v := 1) X.1 X.2.1 dL_law_648 (by decide) ?_
      refine lv_goto (tgt := 653) X.1 X.2.1 dL_law_649 (by decide) ?_
      exact jn653 _ _ _ _ _ _ _ _ _ h I (lv_sub hl [1, 2, 3, 4, 5, 0] rfl)
  refine lv_if_eq (tgt := 619) X.1 X.2.1 dL_law_612 (by decide) (fun c612 => ?_) (fun c612 => ?_)
  · have h := h.1 c612
    refine lv_iconst (v := 0) X.1 X.2.1 dL_law_619 (by decide) ?_
    exact jn620 _ _ _ _ _ _ _ _ h I (lv_sub hl [0, 1, 2, 3, 4] rfl)
  · have h := h.2 c612
    refine lv_iconst (v := 1) X.1 X.2.1 dL_law_615 (by decide) ?_
    refine lv_goto (tgt := 620) X.1 X.2.1 dL_law_616 (by decide) ?_
    exact jn620 _ _ _ _ _ _ _ _ h I (lv_sub hl [0, 1, 2, 3, 4] rfl)

def pL_law_J767 (k1708 : Int32 → qS → Prop) (xs : Nat → Int32) (L : Nat) (g : Nat × Nat) (x1 x2 x3 : Nat) (K : Int32 → qS → Prop) (x4 : Int32) (S : qS) : Prop :=
  k1708 x4 S
def pL_law_J761 (k1708 : Int32 → qS → Prop) (xs : Nat → Int32) (L : Nat) (g : Nat × Nat) (x1 x2 x3 : Nat) (K : Int32 → qS → Prop) (x4 : Int32) (t0 : Int64) (t1 : Int64) (S : qS) : Prop :=
  (((lg_cmp t0 t1) = 0 →
  pL_law_J767 k1708 xs L g x1 x2 x3 K x4 S) ∧ (¬ (lg_cmp t0 t1) = 0 →
  False))
def pL_c7 (xs : Nat → Int32) (L : Nat) (g : Nat × Nat) (x1 x2 x3 : Nat) (K : Int32 → qS → Prop) (x4 : Int32) (S : qS) : Prop :=
  (vp_in (x4 + (1 : Int32)) L ∧
  (vp_in (x4 + (2 : Int32)) L ∧
  pL_put (some x1) (xs (x4 + (1 : Int32)).toNatClampNeg) (xs (x4 + (2 : Int32)).toNatClampNeg) (some x3) S (fun v709 S =>
  (vp_in (x4 + (1 : Int32)) L ∧
  (vp_in (x4 + (2 : Int32)) L ∧
  w_at S (some x2) 9 (fun b727 => pX8_put b727 (xs (x4 + (1 : Int32)).toNatClampNeg) (xs (x4 + (2 : Int32)).toNatClampNeg) S (fun v727 S =>
  w_at S (some x2) 9 (fun b733 => pX8_thrown b733  S (fun v733 S =>
  ((v733 = v709 →
  ((¬ v709 = 0 →
  pL_law_J767 K xs L g x1 x2 x3 K x4 S) ∧ (v709 = 0 →
  w_ldJ S (some x3) 29 (0 : Int32) (fun v750 =>
  ((v727 = 0 →
  pL_law_J761 K xs L g x1 x2 x3 K x4 v750 (0 : Int64) S) ∧ (¬ v727 = 0 →
  pL_law_J761 K xs L g x1 x2 x3 K x4 v750 (1 : Int64) S)))))) ∧ (¬ v733 = v709 →
  False))) (fun _ _ => False))) (fun _ _ => False)))))))
set_option maxHeartbeats 4000000 in
set_option maxRecDepth 100000 in
theorem kL_c7 {p : Program} {l : Launch} {e : Env} {s : State} {m : MethodId} {av : Array Value} {below : List Frame} {meth : Method} {c : Code} {H : Heap} {locs : List Loc} {ls : Array Slot} {cells slots : Nat} {Q : State → Prop} {G : qG} {A : Nat → Prop} {S : qS} {b L x1 x2 x3 : Nat} {x4 : Int32} {xs : Nat → Int32} {g : Nat × Nat} {K : Int32 → qS → Prop} (hl0 : l.stackTraces = false) (he : G.2.2 = g) (X : q_X p l s m av meth c cL_law RL 8 G A) (hX : va_X b L xs s s.heap) (hbl : b < s.heap.size) (hbA : ¬ A b) (hcs : cells + 12 ≤ 601024 ∧ slots + 183 ≤ 7293034) (I : q_H G A s H locs S) (hl : lv_has ls 8 [(0, va_rf (some b)), (1, va_rf (some x1)), (2, va_rf (some x2)), (3, va_rf (some x3)), (4, .int x4)]) (h : pL_c7 xs L g x1 x2 x3 K x4 S) (kk : ∀ (x4 : Int32) (S : qS) (H : Heap) (locs : List Loc) (ls : Array Slot), K x4 S → q_H G A s H locs S → lv_has ls 8 [(0, va_rf (some b)), (1, va_rf (some x1)), (2, va_rf (some x2)), (3, va_rf (some x3)), (4, .int x4)] → W p l e room_1 s m av below meth c H locs (cells + 12) (slots + 183) Q (F0 m 1708 ls [])) : W p l e room_1 s m av below meth c H locs cells slots Q (F0 m 695 ls []) := by
  unfold pL_c7 at h
  refine q_aload_n X dL_law_695 rfl (lv_at hl 1 rfl) ?_
  refine q_aload_n X dL_law_696 rfl (lv_at hl 0 rfl) ?_
  refine lv_iload X.1 X.2.1 dL_law_697 (lv_at hl 4 rfl) ?_
  refine lv_iconst (v := 1) X.1 X.2.1 dL_law_699 (by decide) ?_
  refine lv_iadd X.1 X.2.1 dL_law_700 ?_
  refine va_sld X.1 X.2.1 hX hbl hbA I.2.2 h.1 dL_law_701 ?_
  have h := h.2
  refine q_aload_n X dL_law_702 rfl (lv_at hl 0 rfl) ?_
  refine lv_iload X.1 X.2.1 dL_law_703 (lv_at hl 4 rfl) ?_
  refine lv_iconst (v := 2) X.1 X.2.1 dL_law_705 (by decide) ?_
  refine lv_iadd X.1 X.2.1 dL_law_706 ?_
  refine va_sld X.1 X.2.1 hX hbl hbA I.2.2 h.1 dL_law_707 ?_
  have h := h.2
  refine q_aload_n X dL_law_708 rfl (lv_at hl 3 rfl) ?_
  refine q_cT (n := 4) (hh := [(0, 17, 20, 23)]) (As := [va_rf (some x1), .int (xs (x4 + (1 : Int32)).toNatClampNeg), .int (xs (x4 + (2 : Int32)).toNatClampNeg), va_rf (some x3)]) (rest := []) (c1 := cells + 2) (s1 := slots + 12) (d := 8) (mc := 2) (ms := 12) X I hl.1 wd_586 wd_0 ⟨by decide, by decide⟩ (by decide +kernel) wd_585 wd_584 dL_law_709 rfl (kL_put hl0 h) rfl (Nat.le_of_ble_eq_true rfl) ⟨by decide, by decide⟩ ⟨by show _ ≤ 601024; omega, by show _ ≤ 7293034; omega⟩ rfl rfl (fun v709 S H locs I h => ?_)
  refine lv_istore (i := 5) (lv' := [(5, .int v709), (0, va_rf (some b)), (1, va_rf (some x1)), (2, va_rf (some x2)), (3, va_rf (some x3)), (4, .int x4)]) X.1 X.2.1 dL_law_712 hl (by decide) rfl (fun ls hl => ?_)
  refine q_aload_n X dL_law_714 rfl (lv_at hl 3 rfl) ?_
  refine q_aload_n X dL_law_715 rfl (lv_at hl 1 rfl) ?_
  refine lv_iload X.1 X.2.1 dL_law_716 (lv_at hl 5 rfl) ?_
  refine lv_iconst (v := 1) X.1 X.2.1 dL_law_718 (by decide) ?_
  refine lv_iadd X.1 X.2.1 dL_law_719 ?_
  refine va_sld X.1 X.2.1 hX hbl hbA I.2.2 h.1 dL_law_720 ?_
  have h := h.2
  refine q_aload_n X dL_law_721 rfl (lv_at hl 1 rfl) ?_
  refine lv_iload X.1 X.2.1 dL_law_722 (lv_at hl 5 rfl) ?_
  refine lv_iconst (v := 2) X.1 X.2.1 dL_law_724 (by decide) ?_
  refine lv_iadd X.1 X.2.1 dL_law_725 ?_
  refine va_sld X.1 X.2.1 hX hbl hbA I.2.2 h.1 dL_law_726 ?_
  have h := h.2
  refine q_cXi (As := [.int (xs (x4 + (1 : Int32)).toNatClampNeg), .int (xs (x4 + (2 : Int32)).toNatClampNeg)]) (rest := []) (c1 := cells + 2) (s1 := slots + 12) (d := 3) (mc := 0) (ms := 0) X I hl.1 mX8_put wd_1002 dL_law_727 rfl h (fun b h => kX8_put hl0 h) rfl (Nat.le_of_ble_eq_true rfl) ⟨by decide, by decide⟩ ⟨by show _ ≤ 601024; omega, by show _ ≤ 7293034; omega⟩ rfl rfl (fun E ce q9 S H locs I h hce hcv hcl => h.elim) (fun v727 S H locs I h => ?_)
  refine lv_istore (i := 6) (lv' := [(6, .int v727), (5, .int v709), (0, va_rf (some b)), (1, va_rf (some x1)), (2, va_rf (some x2)), (3, va_rf (some x3)), (4, .int x4)]) X.1 X.2.1 dL_law_730 hl (by decide) rfl (fun ls hl => ?_)
  refine q_aload_n X dL_law_732 rfl (lv_at hl 4 rfl) ?_
  refine q_cXi (As := []) (rest := []) (c1 := cells + 2) (s1 := slots + 12) (d := 1) (mc := 0) (ms := 0) X I hl.1 mX8_thrown wd_939 dL_law_733 rfl h (fun b h => kX8_thrown hl0 h) rfl (Nat.le_of_ble_eq_true rfl) ⟨by decide, by decide⟩ ⟨by show _ ≤ 601024; omega, by show _ ≤ 7293034; omega⟩ rfl rfl (fun E ce q9 S H locs I h hce hcv hcl => h.elim) (fun v733 S H locs I h => ?_)
  refine lv_iload X.1 X.2.1 dL_law_736 (lv_at hl 1 rfl) ?_
  refine lv_icmp_eq (tgt := 743) X.1 X.2.1 dL_law_738 (by decide) (fun c738 => ?_) (fun c738 => ?_)
  · have h := h.1 c738
    refine lv_iload X.1 X.2.1 dL_law_743 (lv_at hl 1 rfl) ?_
    have jn767 : ∀ (x4 : Int32) (S : qS) (H : Heap) (locs : List Loc) (ls : Array Slot), pL_law_J767 K xs L g x1 x2 x3 K x4 S → q_H G A s H locs S → lv_has ls 8 [(0, va_rf (some b)), (1, va_rf (some x1)), (2, va_rf (some x2)), (3, va_rf (some x3)), (4, .int x4)] → W p l e room_1 s m av below meth c H locs (cells + 2) (slots + 12) Q (F0 m 767 ls []) := by
      intro x4 S H locs ls h I hl
      unfold pL_law_J767 at h
      refine lv_goto (tgt := 1708) X.1 X.2.1 dL_law_767 (by decide) ?_
      refine W.widen (k := cells + 12) (n := slots + 183) (by omega) (by omega) ?_
      exact kk _ _ _ _ _ h I (lv_sub hl [0, 1, 2, 3, 4] rfl)
    refine lv_if_ne (tgt := 767) X.1 X.2.1 dL_law_745 (by decide) (fun c745 => ?_) (fun c745 => ?_)
    · have h := h.1 c745
      exact jn767 _ _ _ _ _ h I (lv_sub hl [2, 3, 4, 5, 6] rfl)
    · have h := h.2 c745
      refine q_aload_n X dL_law_748 rfl (lv_at hl 5 rfl) ?_
      refine lv_iconst (v := 0) X.1 X.2.1 dL_law_749 (by decide) ?_
      refine q_ldJ X I (by decide) (by decide) dL_law_750 h (fun v750 h => ?_)
      refine lv_iload X.1 X.2.1 dL_law_751 (lv_at hl 0 rfl) ?_
      have jn761 : ∀ (x4 : Int32) (t0 : Int64) (t1 : Int64) (S : qS) (H : Heap) (locs : List Loc) (ls : Array Slot), pL_law_J761 K xs L g x1 x2 x3 K x4 t0 t1 S → q_H G A s H locs S → lv_has ls 8 [(0, va_rf (some b)), (1, va_rf (some x1)), (2, va_rf (some x2)), (3, va_rf (some x3)), (4, .int x4)] → W p l e room_1 s m av below meth c H locs (cells + 2) (slots + 12) Q (F0 m 761 ls [.long t1, .long t0]) := by
        intro x4 t0 t1 S H locs ls h I hl
        unfold pL_law_J761 at h
        refine W.lcmp X.1 X.2.1 dL_law_761 ?_
        refine lv_if_eq (tgt := 767) X.1 X.2.1 dL_law_762 (by decide) (fun c762 => ?_) (fun c762 => ?_)
        · have h := h.1 c762
          exact jn767 _ _ _ _ _ h I (lv_sub hl [0, 1, 2, 3, 4] rfl)
        · have h := h.2 c762
          refine lv_iconst (v := 0) X.1 X.2.1 dL_law_765 (by decide) ?_
          exact h.elim
      refine lv_if_eq (tgt := 760) X.1 X.2.1 dL_law_753 (by decide) (fun c753 => ?_) (fun c753 => ?_)
      · have h := h.1 c753
        refine lv_lconst (v := 0) X.1 X.2.1 dL_law_760 (by decide) ?_
        exact jn761 _ _ _ _ _ _ _ h I (lv_sub hl [2, 3, 4, 5, 6] rfl)
      · have h := h.2 c753
        refine lv_lconst (v := 1) X.1 X.2.1 dL_law_756 (by decide) ?_
        refine lv_goto (tgt := 761) X.1 X.2.1 dL_law_757 (by decide) ?_
        exact jn761 _ _ _ _ _ _ _ h I (lv_sub hl [2, 3, 4, 5, 6] rfl)
  · have h := h.2 c738
    refine lv_iconst (v := 0) X.1 X.2.1 dL_law_741 (by decide) ?_
    exact h.elim

def pL_law_J830 (k1708 : Int32 → qS → Prop) (xs : Nat → Int32) (L : Nat) (g : Nat × Nat) (x1 x2 x3 : Nat) (K : Int32 → qS → Prop) (x4 : Int32) (S : qS) : Prop :=
  k1708 x4 S
def pL_law_J824 (k1708 : Int32 → qS → Prop) (xs : Nat → Int32) (L : Nat) (g : Nat × Nat) (x1 x2 x3 : Nat) (K : Int32 → qS → Prop) (x4 : Int32) (t0 : Int64) (t1 : Int64) (S : qS) : Prop :=
  (((lg_cmp t0 t1) = 0 →
  pL_law_J830 k1708 xs L g x1 x2 x3 K x4 S) ∧ (¬ (lg_cmp t0 t1) = 0 →
  False))
def pL_c8 (xs : Nat → Int32) (L : Nat) (g : Nat × Nat) (x1 x2 x3 : Nat) (K : Int32 → qS → Prop) (x4 : Int32) (S : qS) : Prop :=
  (vp_in (x4 + (1 : Int32)) L ∧
  pL_take (some x1) (xs (x4 + (1 : Int32)).toNatClampNeg) (some x3) S (fun v778 S =>
  (vp_in (x4 + (1 : Int32)) L ∧
  w_at S (some x2) 9 (fun b790 => pX8_take b790 (xs (x4 + (1 : Int32)).toNatClampNeg) S (fun v790 S =>
  w_at S (some x2) 9 (fun b796 => pX8_thrown b796  S (fun v796 S =>
  ((v796 = v778 →
  ((¬ v778 = 0 →
  pL_law_J830 K xs L g x1 x2 x3 K x4 S) ∧ (v778 = 0 →
  w_ldJ S (some x3) 29 (0 : Int32) (fun v813 =>
  ((v790 = 0 →
  pL_law_J824 K xs L g x1 x2 x3 K x4 v813 (0 : Int64) S) ∧ (¬ v790 = 0 →
  pL_law_J824 K xs L g x1 x2 x3 K x4 v813 (1 : Int64) S)))))) ∧ (¬ v796 = v778 →
  False))) (fun _ _ => False))) (fun _ _ => False)))))
set_option maxHeartbeats 4000000 in
set_option maxRecDepth 100000 in
theorem kL_c8 {p : Program} {l : Launch} {e : Env} {s : State} {m : MethodId} {av : Array Value} {below : List Frame} {meth : Method} {c : Code} {H : Heap} {locs : List Loc} {ls : Array Slot} {cells slots : Nat} {Q : State → Prop} {G : qG} {A : Nat → Prop} {S : qS} {b L x1 x2 x3 : Nat} {x4 : Int32} {xs : Nat → Int32} {g : Nat × Nat} {K : Int32 → qS → Prop} (hl0 : l.stackTraces = false) (he : G.2.2 = g) (X : q_X p l s m av meth c cL_law RL 8 G A) (hX : va_X b L xs s s.heap) (hbl : b < s.heap.size) (hbA : ¬ A b) (hcs : cells + 12 ≤ 601024 ∧ slots + 183 ≤ 7293034) (I : q_H G A s H locs S) (hl : lv_has ls 8 [(0, va_rf (some b)), (1, va_rf (some x1)), (2, va_rf (some x2)), (3, va_rf (some x3)), (4, .int x4)]) (h : pL_c8 xs L g x1 x2 x3 K x4 S) (kk : ∀ (x4 : Int32) (S : qS) (H : Heap) (locs : List Loc) (ls : Array Slot), K x4 S → q_H G A s H locs S → lv_has ls 8 [(0, va_rf (some b)), (1, va_rf (some x1)), (2, va_rf (some x2)), (3, va_rf (some x3)), (4, .int x4)] → W p l e room_1 s m av below meth c H locs (cells + 12) (slots + 183) Q (F0 m 1708 ls [])) : W p l e room_1 s m av below meth c H locs cells slots Q (F0 m 770 ls []) := by
  unfold pL_c8 at h
  refine q_aload_n X dL_law_770 rfl (lv_at hl 1 rfl) ?_
  refine q_aload_n X dL_law_771 rfl (lv_at hl 0 rfl) ?_
  refine lv_iload X.1 X.2.1 dL_law_772 (lv_at hl 4 rfl) ?_
  refine lv_iconst (v := 1) X.1 X.2.1 dL_law_774 (by decide) ?_
  refine lv_iadd X.1 X.2.1 dL_law_775 ?_
  refine va_sld X.1 X.2.1 hX hbl hbA I.2.2 h.1 dL_law_776 ?_
  have h := h.2
  refine q_aload_n X dL_law_777 rfl (lv_at hl 3 rfl) ?_
  refine q_cT (n := 3) (hh := [(0, 16, 19, 23)]) (As := [va_rf (some x1), .int (xs (x4 + (1 : Int32)).toNatClampNeg), va_rf (some x3)]) (rest := []) (c1 := cells + 1) (s1 := slots + 6) (d := 8) (mc := 1) (ms := 6) X I hl.1 wd_612 wd_0 ⟨by decide, by decide⟩ (by decide +kernel) wd_611 wd_610 dL_law_778 rfl (kL_take hl0 h) rfl (Nat.le_of_ble_eq_true rfl) ⟨by decide, by decide⟩ ⟨by show _ ≤ 601024; omega, by show _ ≤ 7293034; omega⟩ rfl rfl (fun v778 S H locs I h => ?_)
  refine lv_istore (i := 5) (lv' := [(5, .int v778), (0, va_rf (some b)), (1, va_rf (some x1)), (2, va_rf (some x2)), (3, va_rf (some x3)), (4, .int x4)]) X.1 X.2.1 dL_law_781 hl (by decide) rfl (fun ls hl => ?_)
  refine q_aload_n X dL_law_783 rfl (lv_at hl 3 rfl) ?_
  refine q_aload_n X dL_law_784 rfl (lv_at hl 1 rfl) ?_
  refine lv_iload X.1 X.2.1 dL_law_785 (lv_at hl 5 rfl) ?_
  refine lv_iconst (v := 1) X.1 X.2.1 dL_law_787 (by decide) ?_
  refine lv_iadd X.1 X.2.1 dL_law_788 ?_
  refine va_sld X.1 X.2.1 hX hbl hbA I.2.2 h.1 dL_law_789 ?_
  have h := h.2
  refine q_cXi (As := [.int (xs (x4 + (1 : Int32)).toNatClampNeg)]) (rest := []) (c1 := cells + 1) (s1 := slots + 6) (d := 3) (mc := 0) (ms := 0) X I hl.1 mX8_take wd_1022 dL_law_790 rfl h (fun b h => kX8_take hl0 h) rfl (Nat.le_of_ble_eq_true rfl) ⟨by decide, by decide⟩ ⟨by show _ ≤ 601024; omega, by show _ ≤ 7293034; omega⟩ rfl rfl (fun E ce q9 S H locs I h hce hcv hcl => h.elim) (fun v790 S H locs I h => ?_)
  refine lv_istore (i := 6) (lv' := [(6, .int v790), (5, .int v778), (0, va_rf (some b)), (1, va_rf (some x1)), (2, va_rf (some x2)), (3, va_rf (some x3)), (4, .int x4)]) X.1 X.2.1 dL_law_793 hl (by decide) rfl (fun ls hl => ?_)
  refine q_aload_n X dL_law_795 rfl (lv_at hl 4 rfl) ?_
  refine q_cXi (As := []) (rest := []) (c1 := cells + 1) (s1 := slots + 6) (d := 1) (mc := 0) (ms := 0) X I hl.1 mX8_thrown wd_939 dL_law_796 rfl h (fun b h => kX8_thrown hl0 h) rfl (Nat.le_of_ble_eq_true rfl) ⟨by decide, by decide⟩ ⟨by show _ ≤ 601024; omega, by show _ ≤ 7293034; omega⟩ rfl rfl (fun E ce q9 S H locs I h hce hcv hcl => h.elim) (fun v796 S H locs I h => ?_)
  refine lv_iload X.1 X.2.1 dL_law_799 (lv_at hl 1 rfl) ?_
  refine lv_icmp_eq (tgt := 806) X.1 X.2.1 dL_law_801 (by decide) (fun c801 => ?_) (fun c801 => ?_)
  · have h := h.1 c801
    refine lv_iload X.1 X.2.1 dL_law_806 (lv_at hl 1 rfl) ?_
    have jn830 : ∀ (x4 : Int32) (S : qS) (H : Heap) (locs : List Loc) (ls : Array Slot), pL_law_J830 K xs L g x1 x2 x3 K x4 S → q_H G A s H locs S → lv_has ls 8 [(0, va_rf (some b)), (1, va_rf (some x1)), (2, va_rf (some x2)), (3, va_rf (some x3)), (4, .int x4)] → W p l e room_1 s m av below meth c H locs (cells + 1) (slots + 6) Q (F0 m 830 ls []) := by
      intro x4 S H locs ls h I hl
      unfold pL_law_J830 at h
      refine lv_goto (tgt := 1708) X.1 X.2.1 dL_law_830 (by decide) ?_
      refine W.widen (k := cells + 12) (n := slots + 183) (by omega) (by omega) ?_
      exact kk _ _ _ _ _ h I (lv_sub hl [0, 1, 2, 3, 4] rfl)
    refine lv_if_ne (tgt := 830) X.1 X.2.1 dL_law_808 (by decide) (fun c808 => ?_) (fun c808 => ?_)
    · have h := h.1 c808
      exact jn830 _ _ _ _ _ h I (lv_sub hl [2, 3, 4, 5, 6] rfl)
    · have h := h.2 c808
      refine q_aload_n X dL_law_811 rfl (lv_at hl 5 rfl) ?_
      refine lv_iconst (v := 0) X.1 X.2.1 dL_law_812 (by decide) ?_
      refine q_ldJ X I (by decide) (by decide) dL_law_813 h (fun v813 h => ?_)
      refine lv_iload X.1 X.2.1 dL_law_814 (lv_at hl 0 rfl) ?_
      have jn824 : ∀ (x4 : Int32) (t0 : Int64) (t1 : Int64) (S : qS) (H : Heap) (locs : List Loc) (ls : Array Slot), pL_law_J824 K xs L g x1 x2 x3 K x4 t0 t1 S → q_H G A s H locs S → lv_has ls 8 [(0, va_rf (some b)), (1, va_rf (some x1)), (2, va_rf (some x2)), (3, va_rf (some x3)), (4, .int x4)] → W p l e room_1 s m av below meth c H locs (cells + 1) (slots + 6) Q (F0 m 824 ls [.long t1, .long t0]) := by
        intro x4 t0 t1 S H locs ls h I hl
        unfold pL_law_J824 at h
        refine W.lcmp X.1 X.2.1 dL_law_824 ?_
        refine lv_if_eq (tgt := 830) X.1 X.2.1 dL_law_825 (by decide) (fun c825 => ?_) (fun c825 => ?_)
        · have h := h.1 c825
          exact jn830 _ _ _ _ _ h I (lv_sub hl [0, 1, 2, 3, 4] rfl)
        · have h := h.2 c825
          refine lv_iconst (v := 0) X.1 X.2.1 dL_law_828 (by decide) ?_
          exact h.elim
      refine lv_if_eq (tgt := 823) X.1 X.2.1 dL_law_816 (by decide) (fun c816 => ?_) (fun c816 => ?_)
      · have h := h.1 c816
        refine lv_lconst (v := 0) X.1 X.2.1 dL_law_823 (by decide) ?_
        exact jn824 _ _ _ _ _ _ _ h I (lv_sub hl [2, 3, 4, 5, 6] rfl)
      · have h := h.2 c816
        refine lv_lconst (v := 1) X.1 X.2.1 dL_law_819 (by decide) ?_
        refine lv_goto (tgt := 824) X.1 X.2.1 dL_law_820 (by decide) ?_
        exact jn824 _ _ _ _ _ _ _ h I (lv_sub hl [2, 3, 4, 5, 6] rfl)
  · have h := h.2 c801
    refine lv_iconst (v := 0) X.1 X.2.1 dL_law_804 (by decide) ?_
    exact h.elim

def pL_law_J905 (k1708 : Int32 → qS → Prop) (xs : Nat → Int32) (L : Nat) (g : Nat × Nat) (x1 x2 x3 : Nat) (K : Int32 → qS → Prop) (x4 : Int32) (S : qS) : Prop :=
  k1708 x4 S
def pL_law_J899 (k1708 : Int32 → qS → Prop) (xs : Nat → Int32) (L : Nat) (g : Nat × Nat) (x1 x2 x3 : Nat) (K : Int32 → qS → Prop) (x4 : Int32) (t0 : Int64) (t1 : Int64) (S : qS) : Prop :=
  (((lg_cmp t0 t1) = 0 →
  pL_law_J905 k1708 xs L g x1 x2 x3 K x4 S) ∧ (¬ (lg_cmp t0 t1) = 0 →
  False))
def pL_c9 (xs : Nat → Int32) (L : Nat) (g : Nat × Nat) (x1 x2 x3 : Nat) (K : Int32 → qS → Prop) (x4 : Int32) (S : qS) : Prop :=
  (vp_in (x4 + (1 : Int32)) L ∧
  (vp_in (x4 + (2 : Int32)) L ∧
  pL_give (some x1) (xs (x4 + (1 : Int32)).toNatClampNeg) (xs (x4 + (2 : Int32)).toNatClampNeg) (some x3) S (fun v847 S =>
  (vp_in (x4 + (1 : Int32)) L ∧
  (vp_in (x4 + (2 : Int32)) L ∧
  w_at S (some x2) 9 (fun b865 => pX8_give b865 (xs (x4 + (1 : Int32)).toNatClampNeg) (xs (x4 + (2 : Int32)).toNatClampNeg) S (fun v865 S =>
  w_at S (some x2) 9 (fun b871 => pX8_thrown b871  S (fun v871 S =>
  ((v871 = v847 →
  ((¬ v847 = 0 →
  pL_law_J905 K xs L g x1 x2 x3 K x4 S) ∧ (v847 = 0 →
  w_ldJ S (some x3) 29 (0 : Int32) (fun v888 =>
  ((v865 = 0 →
  pL_law_J899 K xs L g x1 x2 x3 K x4 v888 (0 : Int64) S) ∧ (¬ v865 = 0 →
  pL_law_J899 K xs L g x1 x2 x3 K x4 v888 (1 : Int64) S)))))) ∧ (¬ v871 = v847 →
  False))) (fun _ _ => False))) (fun _ _ => False)))))))
set_option maxHeartbeats 4000000 in
set_option maxRecDepth 100000 in
theorem kL_c9 {p : Program} {l : Launch} {e : Env} {s : State} {m : MethodId} {av : Array Value} {below : List Frame} {meth : Method} {c : Code} {H : Heap} {locs : List Loc} {ls : Array Slot} {cells slots : Nat} {Q : State → Prop} {G : qG} {A : Nat → Prop} {S : qS} {b L x1 x2 x3 : Nat} {x4 : Int32} {xs : Nat → Int32} {g : Nat × Nat} {K : Int32 → qS → Prop} (hl0 : l.stackTraces = false) (he : G.2.2 = g) (X : q_X p l s m av meth c cL_law RL 8 G A) (hX : va_X b L xs s s.heap) (hbl : b < s.heap.size) (hbA : ¬ A b) (hcs : cells + 12 ≤ 601024 ∧ slots + 183 ≤ 7293034) (I : q_H G A s H locs S) (hl : lv_has ls 8 [(0, va_rf (some b)), (1, va_rf (some x1)), (2, va_rf (some x2)), (3, va_rf (some x3)), (4, .int x4)]) (h : pL_c9 xs L g x1 x2 x3 K x4 S) (kk : ∀ (x4 : Int32) (S : qS) (H : Heap) (locs : List Loc) (ls : Array Slot), K x4 S → q_H G A s H locs S → lv_has ls 8 [(0, va_rf (some b)), (1, va_rf (some x1)), (2, va_rf (some x2)), (3, va_rf (some x3)), (4, .int x4)] → W p l e room_1 s m av below meth c H locs (cells + 12) (slots + 183) Q (F0 m 1708 ls [])) : W p l e room_1 s m av below meth c H locs cells slots Q (F0 m 833 ls []) := by
  unfold pL_c9 at h
  refine q_aload_n X dL_law_833 rfl (lv_at hl 1 rfl) ?_
  refine q_aload_n X dL_law_834 rfl (lv_at hl 0 rfl) ?_
  refine lv_iload X.1 X.2.1 dL_law_835 (lv_at hl 4 rfl) ?_
  refine lv_iconst (v := 1) X.1 X.2.1 dL_law_837 (by decide) ?_
  refine lv_iadd X.1 X.2.1 dL_law_838 ?_
  refine va_sld X.1 X.2.1 hX hbl hbA I.2.2 h.1 dL_law_839 ?_
  have h := h.2
  refine q_aload_n X dL_law_840 rfl (lv_at hl 0 rfl) ?_
  refine lv_iload X.1 X.2.1 dL_law_841 (lv_at hl 4 rfl) ?_
  refine lv_iconst (v := 2) X.1 X.2.1 dL_law_843 (by decide) ?_
  refine lv_iadd X.1 X.2.1 dL_law_844 ?_
  refine va_sld X.1 X.2.1 hX hbl hbA I.2.2 h.1 dL_law_845 ?_
  have h := h.2
  refine q_aload_n X dL_law_846 rfl (lv_at hl 3 rfl) ?_
  refine q_cT (n := 4) (hh := [(0, 17, 20, 23)]) (As := [va_rf (some x1), .int (xs (x4 + (1 : Int32)).toNatClampNeg), .int (xs (x4 + (2 : Int32)).toNatClampNeg), va_rf (some x3)]) (rest := []) (c1 := cells + 2) (s1 := slots + 12) (d := 8) (mc := 2) (ms := 12) X I hl.1 wd_619 wd_0 ⟨by decide, by decide⟩ (by decide +kernel) wd_618 wd_617 dL_law_847 rfl (kL_give hl0 h) rfl (Nat.le_of_ble_eq_true rfl) ⟨by decide, by decide⟩ ⟨by show _ ≤ 601024; omega, by show _ ≤ 7293034; omega⟩ rfl rfl (fun v847 S H locs I h => ?_)
  refine lv_istore (i := 5) (lv' := [(5, .int v847), (0, va_rf (some b)), (1, va_rf (some x1)), (2, va_rf (some x2)), (3, va_rf (some x3)), (4, .int x4)]) X.1 X.2.1 dL_law_850 hl (by decide) rfl (fun ls hl => ?_)
  refine q_aload_n X dL_law_852 rfl (lv_at hl 3 rfl) ?_
  refine q_aload_n X dL_law_853 rfl (lv_at hl 1 rfl) ?_
  refine lv_iload X.1 X.2.1 dL_law_854 (lv_at hl 5 rfl) ?_
  refine lv_iconst (v := 1) X.1 X.2.1 dL_law_856 (by decide) ?_
  refine lv_iadd X.1 X.2.1 dL_law_857 ?_
  refine va_sld X.1 X.2.1 hX hbl hbA I.2.2 h.1 dL_law_858 ?_
  have h := h.2
  refine q_aload_n X dL_law_859 rfl (lv_at hl 1 rfl) ?_
  refine lv_iload X.1 X.2.1 dL_law_860 (lv_at hl 5 rfl) ?_
  refine lv_iconst (v := 2) X.1 X.2.1 dL_law_862 (by decide) ?_
  refine lv_iadd X.1 X.2.1 dL_law_863 ?_
  refine va_sld X.1 X.2.1 hX hbl hbA I.2.2 h.1 dL_law_864 ?_
  have h := h.2
  refine q_cXi (As := [.int (xs (x4 + (1 : Int32)).toNatClampNeg), .int (xs (x4 + (2 : Int32)).toNatClampNeg)]) (rest := []) (c1 := cells + 2) (s1 := slots + 12) (d := 3) (mc := 0) (ms := 0) X I hl.1 mX8_give wd_1026 dL_law_865 rfl h (fun b h => kX8_give hl0 h) rfl (Nat.le_of_ble_eq_true rfl) ⟨by decide, by decide⟩ ⟨by show _ ≤ 601024; omega, by show _ ≤ 7293034; omega⟩ rfl rfl (fun E ce q9 S H locs I h hce hcv hcl => h.elim) (fun v865 S H locs I h => ?_)
  refine lv_istore (i := 6) (lv' := [(6, .int v865), (5, .int v847), (0, va_rf (some b)), (1, va_rf (some x1)), (2, va_rf (some x2)), (3, va_rf (some x3)), (4, .int x4)]) X.1 X.2.1 dL_law_868 hl (by decide) rfl (fun ls hl => ?_)
  refine q_aload_n X dL_law_870 rfl (lv_at hl 4 rfl) ?_
  refine q_cXi (As := []) (rest := []) (c1 := cells + 2) (s1 := slots + 12) (d := 1) (mc := 0) (ms := 0) X I hl.1 mX8_thrown wd_939 dL_law_871 rfl h (fun b h => kX8_thrown hl0 h) rfl (Nat.le_of_ble_eq_true rfl) ⟨by decide, by decide⟩ ⟨by show _ ≤ 601024; omega, by show _ ≤ 7293034; omega⟩ rfl rfl (fun E ce q9 S H locs I h hce hcv hcl => h.elim) (fun v871 S H locs I h => ?_)
  refine lv_iload X.1 X.2.1 dL_law_874 (lv_at hl 1 rfl) ?_
  refine lv_icmp_eq (tgt := 881) X.1 X.2.1 dL_law_876 (by decide) (fun c876 => ?_) (fun c876 => ?_)
  · have h := h.1 c876
    refine lv_iload X.1 X.2.1 dL_law_881 (lv_at hl 1 rfl) ?_
    have jn905 : ∀ (x4 : Int32) (S : qS) (H : Heap) (locs : List Loc) (ls : Array Slot), pL_law_J905 K xs L g x1 x2 x3 K x4 S → q_H G A s H locs S → lv_has ls 8 [(0, va_rf (some b)), (1, va_rf (some x1)), (2, va_rf (some x2)), (3, va_rf (some x3)), (4, .int x4)] → W p l e room_1 s m av below meth c H locs (cells + 2) (slots + 12) Q (F0 m 905 ls []) := by
      intro x4 S H locs ls h I hl
      unfold pL_law_J905 at h
      refine lv_goto (tgt := 1708) X.1 X.2.1 dL_law_905 (by decide) ?_
      refine W.widen (k := cells + 12) (n := slots + 183) (by omega) (by omega) ?_
      exact kk _ _ _ _ _ h I (lv_sub hl [0, 1, 2, 3, 4] rfl)
    refine lv_if_ne (tgt := 905) X.1 X.2.1 dL_law_883 (by decide) (fun c883 => ?_) (fun c883 => ?_)
    · have h := h.1 c883
      exact jn905 _ _ _ _ _ h I (lv_sub hl [2, 3, 4, 5, 6] rfl)
    · have h := h.2 c883
      refine q_aload_n X dL_law_886 rfl (lv_at hl 5 rfl) ?_
      refine lv_iconst (v := 0) X.1 X.2.1 dL_law_887 (by decide) ?_
      refine q_ldJ X I (by decide) (by decide) dL_law_888 h (fun v888 h => ?_)
      refine lv_iload X.1 X.2.1 dL_law_889 (lv_at hl 0 rfl) ?_
      have jn899 : ∀ (x4 : Int32) (t0 : Int64) (t1 : Int64) (S : qS) (H : Heap) (locs : List Loc) (ls : Array Slot), pL_law_J899 K xs L g x1 x2 x3 K x4 t0 t1 S → q_H G A s H locs S → lv_has ls 8 [(0, va_rf (some b)), (1, va_rf (some x1)), (2, va_rf (some x2)), (3, va_rf (some x3)), (4, .int x4)] → W p l e room_1 s m av below meth c H locs (cells + 2) (slots + 12) Q (F0 m 899 ls [.long t1, .long t0]) := by
        intro x4 t0 t1 S H locs ls h I hl
        unfold pL_law_J899 at h
        refine W.lcmp X.1 X.2.1 dL_law_899 ?_
        refine lv_if_eq (tgt := 905) X.1 X.2.1 dL_law_900 (by decide) (fun c900 => ?_) (fun c900 => ?_)
        · have h := h.1 c900
          exact jn905 _ _ _ _ _ h I (lv_sub hl [0, 1, 2, 3, 4] rfl)
        · have h := h.2 c900
          refine lv_iconst (v := 0) X.1 X.2.1 dL_law_903 (by decide) ?_
          exact h.elim
      refine lv_if_eq (tgt := 898) X.1 X.2.1 dL_law_891 (by decide) (fun c891 => ?_) (fun c891 => ?_)
      · have h := h.1 c891
        refine lv_lconst (v := 0) X.1 X.2.1 dL_law_898 (by decide) ?_
        exact jn899 _ _ _ _ _ _ _ h I (lv_sub hl [2, 3, 4, 5, 6] rfl)
      · have h := h.2 c891
        refine lv_lconst (v := 1) X.1 X.2.1 dL_law_894 (by decide) ?_
        refine lv_goto (tgt := 899) X.1 X.2.1 dL_law_895 (by decide) ?_
        exact jn899 _ _ _ _ _ _ _ h I (lv_sub hl [2, 3, 4, 5, 6] rfl)
  · have h := h.2 c876
    refine lv_iconst (v := 0) X.1 X.2.1 dL_law_879 (by decide) ?_
    exact h.elim

def pL_law_J992 (k1708 : Int32 → qS → Prop) (xs : Nat → Int32) (L : Nat) (g : Nat × Nat) (x1 x2 x3 : Nat) (K : Int32 → qS → Prop) (x4 : Int32) (S : qS) : Prop :=
  k1708 x4 S
def pL_law_J986 (k1708 : Int32 → qS → Prop) (xs : Nat → Int32) (L : Nat) (g : Nat × Nat) (x1 x2 x3 : Nat) (K : Int32 → qS → Prop) (x4 : Int32) (t0 : Int64) (t1 : Int64) (S : qS) : Prop :=
  (((lg_cmp t0 t1) = 0 →
  pL_law_J992 k1708 xs L g x1 x2 x3 K x4 S) ∧ (¬ (lg_cmp t0 t1) = 0 →
  False))
def pL_c10 (xs : Nat → Int32) (L : Nat) (g : Nat × Nat) (x1 x2 x3 : Nat) (K : Int32 → qS → Prop) (x4 : Int32) (S : qS) : Prop :=
  (vp_in (x4 + (1 : Int32)) L ∧
  (vp_in (x4 + (2 : Int32)) L ∧
  (vp_in (x4 + (3 : Int32)) L ∧
  pL_lend (some x1) (xs (x4 + (1 : Int32)).toNatClampNeg) (xs (x4 + (2 : Int32)).toNatClampNeg) (xs (x4 + (3 : Int32)).toNatClampNeg) (some x3) S (fun v928 S =>
  (vp_in (x4 + (1 : Int32)) L ∧
  (vp_in (x4 + (2 : Int32)) L ∧
  (vp_in (x4 + (3 : Int32)) L ∧
  w_at S (some x2) 9 (fun b952 => pX8_lend b952 (xs (x4 + (1 : Int32)).toNatClampNeg) (xs (x4 + (2 : Int32)).toNatClampNeg) (xs (x4 + (3 : Int32)).toNatClampNeg) S (fun v952 S =>
  w_at S (some x2) 9 (fun b958 => pX8_thrown b958  S (fun v958 S =>
  ((v958 = v928 →
  ((¬ v928 = 0 →
  pL_law_J992 K xs L g x1 x2 x3 K x4 S) ∧ (v928 = 0 →
  w_ldJ S (some x3) 29 (0 : Int32) (fun v975 =>
  ((v952 = 0 →
  pL_law_J986 K xs L g x1 x2 x3 K x4 v975 (0 : Int64) S) ∧ (¬ v952 = 0 →
  pL_law_J986 K xs L g x1 x2 x3 K x4 v975 (1 : Int64) S)))))) ∧ (¬ v958 = v928 →
  False))) (fun _ _ => False))) (fun _ _ => False)))))))))
set_option maxHeartbeats 4000000 in
set_option maxRecDepth 100000 in
theorem kL_c10 {p : Program} {l : Launch} {e : Env} {s : State} {m : MethodId} {av : Array Value} {below : List Frame} {meth : Method} {c : Code} {H : Heap} {locs : List Loc} {ls : Array Slot} {cells slots : Nat} {Q : State → Prop} {G : qG} {A : Nat → Prop} {S : qS} {b L x1 x2 x3 : Nat} {x4 : Int32} {xs : Nat → Int32} {g : Nat × Nat} {K : Int32 → qS → Prop} (hl0 : l.stackTraces = false) (he : G.2.2 = g) (X : q_X p l s m av meth c cL_law RL 8 G A) (hX : va_X b L xs s s.heap) (hbl : b < s.heap.size) (hbA : ¬ A b) (hcs : cells + 12 ≤ 601024 ∧ slots + 183 ≤ 7293034) (I : q_H G A s H locs S) (hl : lv_has ls 8 [(0, va_rf (some b)), (1, va_rf (some x1)), (2, va_rf (some x2)), (3, va_rf (some x3)), (4, .int x4)]) (h : pL_c10 xs L g x1 x2 x3 K x4 S) (kk : ∀ (x4 : Int32) (S : qS) (H : Heap) (locs : List Loc) (ls : Array Slot), K x4 S → q_H G A s H locs S → lv_has ls 8 [(0, va_rf (some b)), (1, va_rf (some x1)), (2, va_rf (some x2)), (3, va_rf (some x3)), (4, .int x4)] → W p l e room_1 s m av below meth c H locs (cells + 12) (slots + 183) Q (F0 m 1708 ls [])) : W p l e room_1 s m av below meth c H locs cells slots Q (F0 m 908 ls []) := by
  unfold pL_c10 at h
  refine q_aload_n X dL_law_908 rfl (lv_at hl 1 rfl) ?_
  refine q_aload_n X dL_law_909 rfl (lv_at hl 0 rfl) ?_
  refine lv_iload X.1 X.2.1 dL_law_910 (lv_at hl 4 rfl) ?_
  refine lv_iconst (v := 1) X.1 X.2.1 dL_law_912 (by decide) ?_
  refine lv_iadd X.1 X.2.1 dL_law_913 ?_
  refine va_sld X.1 X.2.1 hX hbl hbA I.2.2 h.1 dL_law_914 ?_
  have h := h.2
  refine q_aload_n X dL_law_915 rfl (lv_at hl 0 rfl) ?_
  refine lv_iload X.1 X.2.1 dL_law_916 (lv_at hl 4 rfl) ?_
  refine lv_iconst (v := 2) X.1 X.2.1 dL_law_918 (by decide) ?_
  refine lv_iadd X.1 X.2.1 dL_law_919 ?_
  refine va_sld X.1 X.2.1 hX hbl hbA I.2.2 h.1 dL_law_920 ?_
  have h := h.2
  refine q_aload_n X dL_law_921 rfl (lv_at hl 0 rfl) ?_
  refine lv_iload X.1 X.2.1 dL_law_922 (lv_at hl 4 rfl) ?_
  refine lv_iconst (v := 3) X.1 X.2.1 dL_law_924 (by decide) ?_
  refine lv_iadd X.1 X.2.1 dL_law_925 ?_
  refine va_sld X.1 X.2.1 hX hbl hbA I.2.2 h.1 dL_law_926 ?_
  have h := h.2
  refine q_aload_n X dL_law_927 rfl (lv_at hl 3 rfl) ?_
  refine q_cT (n := 5) (hh := [(0, 19, 22, 23)]) (As := [va_rf (some x1), .int (xs (x4 + (1 : Int32)).toNatClampNeg), .int (xs (x4 + (2 : Int32)).toNatClampNeg), .int (xs (x4 + (3 : Int32)).toNatClampNeg), va_rf (some x3)]) (rest := []) (c1 := cells + 2) (s1 := slots + 12) (d := 8) (mc := 2) (ms := 12) X I hl.1 wd_638 wd_0 ⟨by decide, by decide⟩ (by decide +kernel) wd_637 wd_636 dL_law_928 rfl (kL_lend hl0 h) rfl (Nat.le_of_ble_eq_true rfl) ⟨by decide, by decide⟩ ⟨by show _ ≤ 601024; omega, by show _ ≤ 7293034; omega⟩ rfl rfl (fun v928 S H locs I h => ?_)
  refine lv_istore (i := 5) (lv' := [(5, .int v928), (0, va_rf (some b)), (1, va_rf (some x1)), (2, va_rf (some x2)), (3, va_rf (some x3)), (4, .int x4)]) X.1 X.2.1 dL_law_931 hl (by decide) rfl (fun ls hl => ?_)
  refine q_aload_n X dL_law_933 rfl (lv_at hl 3 rfl) ?_
  refine q_aload_n X dL_law_934 rfl (lv_at hl 1 rfl) ?_
  refine lv_iload X.1 X.2.1 dL_law_935 (lv_at hl 5 rfl) ?_
  refine lv_iconst (v := 1) X.1 X.2.1 dL_law_937 (by decide) ?_
  refine lv_iadd X.1 X.2.1 dL_law_938 ?_
  refine va_sld X.1 X.2.1 hX hbl hbA I.2.2 h.1 dL_law_939 ?_
  have h := h.2
  refine q_aload_n X dL_law_940 rfl (lv_at hl 1 rfl) ?_
  refine lv_iload X.1 X.2.1 dL_law_941 (lv_at hl 5 rfl) ?_
  refine lv_iconst (v := 2) X.1 X.2.1 dL_law_943 (by decide) ?_
  refine lv_iadd X.1 X.2.1 dL_law_944 ?_
  refine va_sld X.1 X.2.1 hX hbl hbA I.2.2 h.1 dL_law_945 ?_
  have h := h.2
  refine q_aload_n X dL_law_946 rfl (lv_at hl 1 rfl) ?_
  refine lv_iload X.1 X.2.1 dL_law_947 (lv_at hl 5 rfl) ?_
  refine lv_iconst (v := 3) X.1 X.2.1 dL_law_949 (by decide) ?_
  refine lv_iadd X.1 X.2.1 dL_law_950 ?_
  refine va_sld X.1 X.2.1 hX hbl hbA I.2.2 h.1 dL_law_951 ?_
  have h := h.2
  refine q_cXi (As := [.int (xs (x4 + (1 : Int32)).toNatClampNeg), .int (xs (x4 + (2 : Int32)).toNatClampNeg), .int (xs (x4 + (3 : Int32)).toNatClampNeg)]) (rest := []) (c1 := cells + 2) (s1 := slots + 12) (d := 3) (mc := 0) (ms := 0) X I hl.1 mX8_lend wd_1042 dL_law_952 rfl h (fun b h => kX8_lend hl0 h) rfl (Nat.le_of_ble_eq_true rfl) ⟨by decide, by decide⟩ ⟨by show _ ≤ 601024; omega, by show _ ≤ 7293034; omega⟩ rfl rfl (fun E ce q9 S H locs I h hce hcv hcl => h.elim) (fun v952 S H locs I h => ?_)
  refine lv_istore (i := 6) (lv' := [(6, .int v952), (5, .int v928), (0, va_rf (some b)), (1, va_rf (some x1)), (2, va_rf (some x2)), (3, va_rf (some x3)), (4, .int x4)]) X.1 X.2.1 dL_law_955 hl (by decide) rfl (fun ls hl => ?_)
  refine q_aload_n X dL_law_957 rfl (lv_at hl 4 rfl) ?_
  refine q_cXi (As := []) (rest := []) (c1 := cells + 2) (s1 := slots + 12) (d := 1) (mc := 0) (ms := 0) X I hl.1 mX8_thrown wd_939 dL_law_958 rfl h (fun b h => kX8_thrown hl0 h) rfl (Nat.le_of_ble_eq_true rfl) ⟨by decide, by decide⟩ ⟨by show _ ≤ 601024; omega, by show _ ≤ 7293034; omega⟩ rfl rfl (fun E ce q9 S H locs I h hce hcv hcl => h.elim) (fun v958 S H locs I h => ?_)
  refine lv_iload X.1 X.2.1 dL_law_961 (lv_at hl 1 rfl) ?_
  refine lv_icmp_eq (tgt := 968) X.1 X.2.1 dL_law_963 (by decide) (fun c963 => ?_) (fun c963 => ?_)
  · have h := h.1 c963
    refine lv_iload X.1 X.2.1 dL_law_968 (lv_at hl 1 rfl) ?_
    have jn992 : ∀ (x4 : Int32) (S : qS) (H : Heap) (locs : List Loc) (ls : Array Slot), pL_law_J992 K xs L g x1 x2 x3 K x4 S → q_H G A s H locs S → lv_has ls 8 [(0, va_rf (some b)), (1, va_rf (some x1)), (2, va_rf (some x2)), (3, va_rf (some x3)), (4, .int x4)] → W p l e room_1 s m av below meth c H locs (cells + 2) (slots + 12) Q (F0 m 992 ls []) := by
      intro x4 S H locs ls h I hl
      unfold pL_law_J992 at h
      refine lv_goto (tgt := 1708) X.1 X.2.1 dL_law_992 (by decide) ?_
      refine W.widen (k := cells + 12) (n := slots + 183) (by omega) (by omega) ?_
      exact kk _ _ _ _ _ h I (lv_sub hl [0, 1, 2, 3, 4] rfl)
    refine lv_if_ne (tgt := 992) X.1 X.2.1 dL_law_970 (by decide) (fun c970 => ?_) (fun c970 => ?_)
    · have h := h.1 c970
      exact jn992 _ _ _ _ _ h I (lv_sub hl [2, 3, 4, 5, 6] rfl)
    · have h := h.2 c970
      refine q_aload_n X dL_law_973 rfl (lv_at hl 5 rfl) ?_
      refine lv_iconst (v := 0) X.1 X.2.1 dL_law_974 (by decide) ?_
      refine q_ldJ X I (by decide) (by decide) dL_law_975 h (fun v975 h => ?_)
      refine lv_iload X.1 X.2.1 dL_law_976 (lv_at hl 0 rfl) ?_
      have jn986 : ∀ (x4 : Int32) (t0 : Int64) (t1 : Int64) (S : qS) (H : Heap) (locs : List Loc) (ls : Array Slot), pL_law_J986 K xs L g x1 x2 x3 K x4 t0 t1 S → q_H G A s H locs S → lv_has ls 8 [(0, va_rf (some b)), (1, va_rf (some x1)), (2, va_rf (some x2)), (3, va_rf (some x3)), (4, .int x4)] → W p l e room_1 s m av below meth c H locs (cells + 2) (slots + 12) Q (F0 m 986 ls [.long t1, .long t0]) := by
        intro x4 t0 t1 S H locs ls h I hl
        unfold pL_law_J986 at h
        refine W.lcmp X.1 X.2.1 dL_law_986 ?_
        refine lv_if_eq (tgt := 992) X.1 X.2.1 dL_law_987 (by decide) (fun c987 => ?_) (fun c987 => ?_)
        · have h := h.1 c987
          exact jn992 _ _ _ _ _ h I (lv_sub hl [0, 1, 2, 3, 4] rfl)
        · have h := h.2 c987
          refine lv_iconst (v := 0) X.1 X.2.1 dL_law_990 (by decide) ?_
          exact h.elim
      refine lv_if_eq (tgt := 985) X.1 X.2.1 dL_law_978 (by decide) (fun c978 => ?_) (fun c978 => ?_)
      · have h := h.1 c978
        refine lv_lconst (v := 0) X.1 X.2.1 dL_law_985 (by decide) ?_
        exact jn986 _ _ _ _ _ _ _ h I (lv_sub hl [2, 3, 4, 5, 6] rfl)
      · have h := h.2 c978
        refine lv_lconst (v := 1) X.1 X.2.1 dL_law_981 (by decide) ?_
        refine lv_goto (tgt := 986) X.1 X.2.1 dL_law_982 (by decide) ?_
        exact jn986 _ _ _ _ _ _ _ h I (lv_sub hl [2, 3, 4, 5, 6] rfl)
  · have h := h.2 c963
    refine lv_iconst (v := 0) X.1 X.2.1 dL_law_966 (by decide) ?_
    exact h.elim

def pL_law_J1060 (k1708 : Int32 → qS → Prop) (xs : Nat → Int32) (L : Nat) (g : Nat × Nat) (x1 x2 x3 : Nat) (K : Int32 → qS → Prop) (x4 : Int32) (S : qS) : Prop :=
  k1708 x4 S
def pL_c11 (xs : Nat → Int32) (L : Nat) (g : Nat × Nat) (x1 x2 x3 : Nat) (K : Int32 → qS → Prop) (x4 : Int32) (S : qS) : Prop :=
  (vp_in (x4 + (1 : Int32)) L ∧
  (vp_in (x4 + (2 : Int32)) L ∧
  pL_wear (some x1) (xs (x4 + (1 : Int32)).toNatClampNeg) (xs (x4 + (2 : Int32)).toNatClampNeg) (some x3) S (fun v1009 S =>
  (vp_in (x4 + (1 : Int32)) L ∧
  (vp_in (x4 + (2 : Int32)) L ∧
  w_at S (some x2) 9 (fun b1027 => pX8_wear b1027 (xs (x4 + (1 : Int32)).toNatClampNeg) (xs (x4 + (2 : Int32)).toNatClampNeg) S (fun v1027 S =>
  w_at S (some x2) 9 (fun b1033 => pX8_thrown b1033  S (fun v1033 S =>
  ((v1033 = v1009 →
  ((¬ v1009 = 0 →
  pL_law_J1060 K xs L g x1 x2 x3 K x4 S) ∧ (v1009 = 0 →
  w_ldJ S (some x3) 29 (0 : Int32) (fun v1050 =>
  (((lg_cmp v1050 v1027.toInt64) = 0 →
  pL_law_J1060 K xs L g x1 x2 x3 K x4 S) ∧ (¬ (lg_cmp v1050 v1027.toInt64) = 0 →
  False)))))) ∧ (¬ v1033 = v1009 →
  False))) (fun _ _ => False))) (fun _ _ => False)))))))
set_option maxHeartbeats 4000000 in
set_option maxRecDepth 100000 in
theorem kL_c11 {p : Program} {l : Launch} {e : Env} {s : State} {m : MethodId} {av : Array Value} {below : List Frame} {meth : Method} {c : Code} {H : Heap} {locs : List Loc} {ls : Array Slot} {cells slots : Nat} {Q : State → Prop} {G : qG} {A : Nat → Prop} {S : qS} {b L x1 x2 x3 : Nat} {x4 : Int32} {xs : Nat → Int32} {g : Nat × Nat} {K : Int32 → qS → Prop} (hl0 : l.stackTraces = false) (he : G.2.2 = g) (X : q_X p l s m av meth c cL_law RL 8 G A) (hX : va_X b L xs s s.heap) (hbl : b < s.heap.size) (hbA : ¬ A b) (hcs : cells + 12 ≤ 601024 ∧ slots + 183 ≤ 7293034) (I : q_H G A s H locs S) (hl : lv_has ls 8 [(0, va_rf (some b)), (1, va_rf (some x1)), (2, va_rf (some x2)), (3, va_rf (some x3)), (4, .int x4)]) (h : pL_c11 xs L g x1 x2 x3 K x4 S) (kk : ∀ (x4 : Int32) (S : qS) (H : Heap) (locs : List Loc) (ls : Array Slot), K x4 S → q_H G A s H locs S → lv_has ls 8 [(0, va_rf (some b)), (1, va_rf (some x1)), (2, va_rf (some x2)), (3, va_rf (some x3)), (4, .int x4)] → W p l e room_1 s m av below meth c H locs (cells + 12) (slots + 183) Q (F0 m 1708 ls [])) : W p l e room_1 s m av below meth c H locs cells slots Q (F0 m 995 ls []) := by
  unfold pL_c11 at h
  refine q_aload_n X dL_law_995 rfl (lv_at hl 1 rfl) ?_
  refine q_aload_n X dL_law_996 rfl (lv_at hl 0 rfl) ?_
  refine lv_iload X.1 X.2.1 dL_law_997 (lv_at hl 4 rfl) ?_
  refine lv_iconst (v := 1) X.1 X.2.1 dL_law_999 (by decide) ?_
  refine lv_iadd X.1 X.2.1 dL_law_1000 ?_
  refine va_sld X.1 X.2.1 hX hbl hbA I.2.2 h.1 dL_law_1001 ?_
  have h := h.2
  refine q_aload_n X dL_law_1002 rfl (lv_at hl 0 rfl) ?_
  refine lv_iload X.1 X.2.1 dL_law_1003 (lv_at hl 4 rfl) ?_
  refine lv_iconst (v := 2) X.1 X.2.1 dL_law_1005 (by decide) ?_
  refine lv_iadd X.1 X.2.1 dL_law_1006 ?_
  refine va_sld X.1 X.2.1 hX hbl hbA I.2.2 h.1 dL_law_1007 ?_
  have h := h.2
  refine q_aload_n X dL_law_1008 rfl (lv_at hl 3 rfl) ?_
  refine q_cT (n := 4) (hh := [(0, 10, 13, 23), (0, 10, 17, 25)]) (As := [va_rf (some x1), .int (xs (x4 + (1 : Int32)).toNatClampNeg), .int (xs (x4 + (2 : Int32)).toNatClampNeg), va_rf (some x3)]) (rest := []) (c1 := cells + 2) (s1 := slots + 12) (d := 8) (mc := 2) (ms := 12) X I hl.1 wd_645 wd_0 ⟨by decide, by decide⟩ (by decide +kernel) wd_644 wd_643 dL_law_1009 rfl (kL_wear hl0 h) rfl (Nat.le_of_ble_eq_true rfl) ⟨by decide, by decide⟩ ⟨by show _ ≤ 601024; omega, by show _ ≤ 7293034; omega⟩ rfl rfl (fun v1009 S H locs I h => ?_)
  refine lv_istore (i := 5) (lv' := [(5, .int v1009), (0, va_rf (some b)), (1, va_rf (some x1)), (2, va_rf (some x2)), (3, va_rf (some x3)), (4, .int x4)]) X.1 X.2.1 dL_law_1012 hl (by decide) rfl (fun ls hl => ?_)
  refine q_aload_n X dL_law_1014 rfl (lv_at hl 3 rfl) ?_
  refine q_aload_n X dL_law_1015 rfl (lv_at hl 1 rfl) ?_
  refine lv_iload X.1 X.2.1 dL_law_1016 (lv_at hl 5 rfl) ?_
  refine lv_iconst (v := 1) X.1 X.2.1 dL_law_1018 (by decide) ?_
  refine lv_iadd X.1 X.2.1 dL_law_1019 ?_
  refine va_sld X.1 X.2.1 hX hbl hbA I.2.2 h.1 dL_law_1020 ?_
  have h := h.2
  refine q_aload_n X dL_law_1021 rfl (lv_at hl 1 rfl) ?_
  refine lv_iload X.1 X.2.1 dL_law_1022 (lv_at hl 5 rfl) ?_
  refine lv_iconst (v := 2) X.1 X.2.1 dL_law_1024 (by decide) ?_
  refine lv_iadd X.1 X.2.1 dL_law_1025 ?_
  refine va_sld X.1 X.2.1 hX hbl hbA I.2.2 h.1 dL_law_1026 ?_
  have h := h.2
  refine q_cXi (As := [.int (xs (x4 + (1 : Int32)).toNatClampNeg), .int (xs (x4 + (2 : Int32)).toNatClampNeg)]) (rest := []) (c1 := cells + 2) (s1 := slots + 12) (d := 3) (mc := 0) (ms := 0) X I hl.1 mX8_wear wd_1046 dL_law_1027 rfl h (fun b h => kX8_wear hl0 h) rfl (Nat.le_of_ble_eq_true rfl) ⟨by decide, by decide⟩ ⟨by show _ ≤ 601024; omega, by show _ ≤ 7293034; omega⟩ rfl rfl (fun E ce q9 S H locs I h hce hcv hcl => h.elim) (fun v1027 S H locs I h => ?_)
  refine lv_istore (i := 6) (lv' := [(6, .int v1027), (5, .int v1009), (0, va_rf (some b)), (1, va_rf (some x1)), (2, va_rf (some x2)), (3, va_rf (some x3)), (4, .int x4)]) X.1 X.2.1 dL_law_1030 hl (by decide) rfl (fun ls hl => ?_)
  refine q_aload_n X dL_law_1032 rfl (lv_at hl 4 rfl) ?_
  refine q_cXi (As := []) (rest := []) (c1 := cells + 2) (s1 := slots + 12) (d := 1) (mc := 0) (ms := 0) X I hl.1 mX8_thrown wd_939 dL_law_1033 rfl h (fun b h => kX8_thrown hl0 h) rfl (Nat.le_of_ble_eq_true rfl) ⟨by decide, by decide⟩ ⟨by show _ ≤ 601024; omega, by show _ ≤ 7293034; omega⟩ rfl rfl (fun E ce q9 S H locs I h hce hcv hcl => h.elim) (fun v1033 S H locs I h => ?_)
  refine lv_iload X.1 X.2.1 dL_law_1036 (lv_at hl 1 rfl) ?_
  refine lv_icmp_eq (tgt := 1043) X.1 X.2.1 dL_law_1038 (by decide) (fun c1038 => ?_) (fun c1038 => ?_)
  · have h := h.1 c1038
    refine lv_iload X.1 X.2.1 dL_law_1043 (lv_at hl 1 rfl) ?_
    have jn1060 : ∀ (x4 : Int32) (S : qS) (H : Heap) (locs : List Loc) (ls : Array Slot), pL_law_J1060 K xs L g x1 x2 x3 K x4 S → q_H G A s H locs S → lv_has ls 8 [(0, va_rf (some b)), (1, va_rf (some x1)), (2, va_rf (some x2)), (3, va_rf (some x3)), (4, .int x4)] → W p l e room_1 s m av below meth c H locs (cells + 2) (slots + 12) Q (F0 m 1060 ls []) := by
      intro x4 S H locs ls h I hl
      unfold pL_law_J1060 at h
      refine lv_goto (tgt := 1708) X.1 X.2.1 dL_law_1060 (by decide) ?_
      refine W.widen (k := cells + 12) (n := slots + 183) (by omega) (by omega) ?_
      exact kk _ _ _ _ _ h I (lv_sub hl [0, 1, 2, 3, 4] rfl)
    refine lv_if_ne (tgt := 1060) X.1 X.2.1 dL_law_1045 (by decide) (fun c1045 => ?_) (fun c1045 => ?_)
    · have h := h.1 c1045
      exact jn1060 _ _ _ _ _ h I (lv_sub hl [2, 3, 4, 5, 6] rfl)
    · have h := h.2 c1045
      refine q_aload_n X dL_law_1048 rfl (lv_at hl 5 rfl) ?_
      refine lv_iconst (v := 0) X.1 X.2.1 dL_law_1049 (by decide) ?_
      refine q_ldJ X I (by decide) (by decide) dL_law_1050 h (fun v1050 h => ?_)
      refine lv_iload X.1 X.2.1 dL_law_1051 (lv_at hl 0 rfl) ?_
      refine lv_i2l X.1 X.2.1 dL_law_1053 rfl ?_
      refine W.lcmp X.1 X.2.1 dL_law_1054 ?_
      refine lv_if_eq (tgt := 1060) X.1 X.2.1 dL_law_1055 (by decide) (fun c1055 => ?_) (fun c1055 => ?_)
      · have h := h.1 c1055
        exact jn1060 _ _ _ _ _ h I (lv_sub hl [2, 3, 4, 5, 6] rfl)
      · have h := h.2 c1055
        refine lv_iconst (v := 0) X.1 X.2.1 dL_law_1058 (by decide) ?_
        exact h.elim
  · have h := h.2 c1038
    refine lv_iconst (v := 0) X.1 X.2.1 dL_law_1041 (by decide) ?_
    exact h.elim
