def pL_law_J1116 (k1708 : Int32 → qS → Prop) (xs : Nat → Int32) (L : Nat) (g : Nat × Nat) (x1 x2 x3 : Nat) (K : Int32 → qS → Prop) (x4 : Int32) (S : qS) : Prop :=
  k1708 x4 S
def pL_c12 (xs : Nat → Int32) (L : Nat) (g : Nat × Nat) (x1 x2 x3 : Nat) (K : Int32 → qS → Prop) (x4 : Int32) (S : qS) : Prop :=
  (vp_in (x4 + (1 : Int32)) L ∧
  pL_days (some x1) (xs (x4 + (1 : Int32)).toNatClampNeg) (some x3) S (fun v1071 S =>
  (vp_in (x4 + (1 : Int32)) L ∧
  w_at S (some x2) 9 (fun b1083 => pX8_days b1083 (xs (x4 + (1 : Int32)).toNatClampNeg) S (fun v1083 S =>
  w_at S (some x2) 9 (fun b1089 => pX8_thrown b1089  S (fun v1089 S =>
  ((v1089 = v1071 →
  ((¬ v1071 = 0 →
  pL_law_J1116 K xs L g x1 x2 x3 K x4 S) ∧ (v1071 = 0 →
  w_ldJ S (some x3) 29 (0 : Int32) (fun v1106 =>
  (((lg_cmp v1106 v1083.toInt64) = 0 →
  pL_law_J1116 K xs L g x1 x2 x3 K x4 S) ∧ (¬ (lg_cmp v1106 v1083.toInt64) = 0 →
  False)))))) ∧ (¬ v1089 = v1071 →
  False))) (fun _ _ => False))) (fun _ _ => False)))))
set_option maxHeartbeats 4000000 in
set_option maxRecDepth 100000 in
theorem kL_c12 {p : Program} {l : Launch} {e : Env} {s : State} {m : MethodId} {av : Array Value} {below : List Frame} {meth : Method} {c : Code} {H : Heap} {locs : List Loc} {ls : Array Slot} {cells slots : Nat} {Q : State → Prop} {G : qG} {A : Nat → Prop} {S : qS} {b L x1 x2 x3 : Nat} {x4 : Int32} {xs : Nat → Int32} {g : Nat × Nat} {K : Int32 → qS → Prop} (hl0 : l.stackTraces = false) (he : G.2.2 = g) (X : q_X p l s m av meth c cL_law RL 8 G A) (hX : va_X b L xs s s.heap) (hbl : b < s.heap.size) (hbA : ¬ A b) (hcs : cells + 12 ≤ 601024 ∧ slots + 183 ≤ 7293034) (I : q_H G A s H locs S) (hl : lv_has ls 8 [(0, va_rf (some b)), (1, va_rf (some x1)), (2, va_rf (some x2)), (3, va_rf (some x3)), (4, .int x4)]) (h : pL_c12 xs L g x1 x2 x3 K x4 S) (kk : ∀ (x4 : Int32) (S : qS) (H : Heap) (locs : List Loc) (ls : Array Slot), K x4 S → q_H G A s H locs S → lv_has ls 8 [(0, va_rf (some b)), (1, va_rf (some x1)), (2, va_rf (some x2)), (3, va_rf (some x3)), (4, .int x4)] → W p l e room_1 s m av below meth c H locs (cells + 12) (slots + 183) Q (F0 m 1708 ls [])) : W p l e room_1 s m av below meth c H locs cells slots Q (F0 m 1063 ls []) := by
  unfold pL_c12 at h
  refine q_aload_n X dL_law_1063 rfl (lv_at hl 1 rfl) ?_
  refine q_aload_n X dL_law_1064 rfl (lv_at hl 0 rfl) ?_
  refine lv_iload X.1 X.2.1 dL_law_1065 (lv_at hl 4 rfl) ?_
  refine lv_iconst (v := 1) X.1 X.2.1 dL_law_1067 (by decide) ?_
  refine lv_iadd X.1 X.2.1 dL_law_1068 ?_
  refine va_sld X.1 X.2.1 hX hbl hbA I.2.2 h.1 dL_law_1069 ?_
  have h := h.2
  refine q_aload_n X dL_law_1070 rfl (lv_at hl 3 rfl) ?_
  refine q_cT (n := 3) (hh := [(0, 9, 12, 25)]) (As := [va_rf (some x1), .int (xs (x4 + (1 : Int32)).toNatClampNeg), va_rf (some x3)]) (rest := []) (c1 := cells + 1) (s1 := slots + 6) (d := 8) (mc := 1) (ms := 6) X I hl.1 wd_662 wd_0 ⟨by decide, by decide⟩ (by decide +kernel) wd_661 wd_660 dL_law_1071 rfl (kL_days hl0 h) rfl (Nat.le_of_ble_eq_true rfl) ⟨by decide, by decide⟩ ⟨by show _ ≤ 601024; omega, by show _ ≤ 7293034; omega⟩ rfl rfl (fun v1071 S H locs I h => ?_)
  refine lv_istore (i := 5) (lv' := [(5, .int v1071), (0, va_rf (some b)), (1, va_rf (some x1)), (2, va_rf (some x2)), (3, va_rf (some x3)), (4, .int x4)]) X.1 X.2.1 dL_law_1074 hl (by decide) rfl (fun ls hl => ?_)
  refine q_aload_n X dL_law_1076 rfl (lv_at hl 3 rfl) ?_
  refine q_aload_n X dL_law_1077 rfl (lv_at hl 1 rfl) ?_
  refine lv_iload X.1 X.2.1 dL_law_1078 (lv_at hl 5 rfl) ?_
  refine lv_iconst (v := 1) X.1 X.2.1 dL_law_1080 (by decide) ?_
  refine lv_iadd X.1 X.2.1 dL_law_1081 ?_
  refine va_sld X.1 X.2.1 hX hbl hbA I.2.2 h.1 dL_law_1082 ?_
  have h := h.2
  refine q_cXi (As := [.int (xs (x4 + (1 : Int32)).toNatClampNeg)]) (rest := []) (c1 := cells + 1) (s1 := slots + 6) (d := 3) (mc := 0) (ms := 0) X I hl.1 mX8_days wd_1052 dL_law_1083 rfl h (fun b h => kX8_days hl0 h) rfl (Nat.le_of_ble_eq_true rfl) ⟨by decide, by decide⟩ ⟨by show _ ≤ 601024; omega, by show _ ≤ 7293034; omega⟩ rfl rfl (fun E ce q9 S H locs I h hce hcv hcl => h.elim) (fun v1083 S H locs I h => ?_)
  refine lv_istore (i := 6) (lv' := [(6, .int v1083), (5, .int v1071), (0, va_rf (some b)), (1, va_rf (some x1)), (2, va_rf (some x2)), (3, va_rf (some x3)), (4, .int x4)]) X.1 X.2.1 dL_law_1086 hl (by decide) rfl (fun ls hl => ?_)
  refine q_aload_n X dL_law_1088 rfl (lv_at hl 4 rfl) ?_
  refine q_cXi (As := []) (rest := []) (c1 := cells + 1) (s1 := slots + 6) (d := 1) (mc := 0) (ms := 0) X I hl.1 mX8_thrown wd_939 dL_law_1089 rfl h (fun b h => kX8_thrown hl0 h) rfl (Nat.le_of_ble_eq_true rfl) ⟨by decide, by decide⟩ ⟨by show _ ≤ 601024; omega, by show _ ≤ 7293034; omega⟩ rfl rfl (fun E ce q9 S H locs I h hce hcv hcl => h.elim) (fun v1089 S H locs I h => ?_)
  refine lv_iload X.1 X.2.1 dL_law_1092 (lv_at hl 1 rfl) ?_
  refine lv_icmp_eq (tgt := 1099) X.1 X.2.1 dL_law_1094 (by decide) (fun c1094 => ?_) (fun c1094 => ?_)
  · have h := h.1 c1094
    refine lv_iload X.1 X.2.1 dL_law_1099 (lv_at hl 1 rfl) ?_
    have jn1116 : ∀ (x4 : Int32) (S : qS) (H : Heap) (locs : List Loc) (ls : Array Slot), pL_law_J1116 K xs L g x1 x2 x3 K x4 S → q_H G A s H locs S → lv_has ls 8 [(0, va_rf (some b)), (1, va_rf (some x1)), (2, va_rf (some x2)), (3, va_rf (some x3)), (4, .int x4)] → W p l e room_1 s m av below meth c H locs (cells + 1) (slots + 6) Q (F0 m 1116 ls []) := by
      intro x4 S H locs ls h I hl
      unfold pL_law_J1116 at h
      refine lv_goto (tgt := 1708) X.1 X.2.1 dL_law_1116 (by decide) ?_
      refine W.widen (k := cells + 12) (n := slots + 183) (by omega) (by omega) ?_
      exact kk _ _ _ _ _ h I (lv_sub hl [0, 1, 2, 3, 4] rfl)
    refine lv_if_ne (tgt := 1116) X.1 X.2.1 dL_law_1101 (by decide) (fun c1101 => ?_) (fun c1101 => ?_)
    · have h := h.1 c1101
      exact jn1116 _ _ _ _ _ h I (lv_sub hl [2, 3, 4, 5, 6] rfl)
    · have h := h.2 c1101
      refine q_aload_n X dL_law_1104 rfl (lv_at hl 5 rfl) ?_
      refine lv_iconst (v := 0) X.1 X.2.1 dL_law_1105 (by decide) ?_
      refine q_ldJ X I (by decide) (by decide) dL_law_1106 h (fun v1106 h => ?_)
      refine lv_iload X.1 X.2.1 dL_law_1107 (lv_at hl 0 rfl) ?_
      refine lv_i2l X.1 X.2.1 dL_law_1109 rfl ?_
      refine W.lcmp X.1 X.2.1 dL_law_1110 ?_
      refine lv_if_eq (tgt := 1116) X.1 X.2.1 dL_law_1111 (by decide) (fun c1111 => ?_) (fun c1111 => ?_)
      · have h := h.1 c1111
        exact jn1116 _ _ _ _ _ h I (lv_sub hl [2, 3, 4, 5, 6] rfl)
      · have h := h.2 c1111
        refine lv_iconst (v := 0) X.1 X.2.1 dL_law_1114 (by decide) ?_
        exact h.elim
  · have h := h.2 c1094
    refine lv_iconst (v := 0) X.1 X.2.1 dL_law_1097 (by decide) ?_
    exact h.elim

def pL_law_J1184 (k1708 : Int32 → qS → Prop) (xs : Nat → Int32) (L : Nat) (g : Nat × Nat) (x1 x2 x3 : Nat) (K : Int32 → qS → Prop) (x4 : Int32) (S : qS) : Prop :=
  k1708 x4 S
def pL_c13 (xs : Nat → Int32) (L : Nat) (g : Nat × Nat) (x1 x2 x3 : Nat) (K : Int32 → qS → Prop) (x4 : Int32) (S : qS) : Prop :=
  (vp_in (x4 + (1 : Int32)) L ∧
  (vp_in (x4 + (2 : Int32)) L ∧
  pL_look (some x1) (xs (x4 + (1 : Int32)).toNatClampNeg) (xs (x4 + (2 : Int32)).toNatClampNeg) (some x3) S (fun v1133 S =>
  (vp_in (x4 + (1 : Int32)) L ∧
  (vp_in (x4 + (2 : Int32)) L ∧
  w_at S (some x2) 9 (fun b1151 => pX8_look b1151 (xs (x4 + (1 : Int32)).toNatClampNeg) (xs (x4 + (2 : Int32)).toNatClampNeg) S (fun v1151 S =>
  w_at S (some x2) 9 (fun b1157 => pX8_thrown b1157  S (fun v1157 S =>
  ((v1157 = v1133 →
  ((¬ v1133 = 0 →
  pL_law_J1184 K xs L g x1 x2 x3 K x4 S) ∧ (v1133 = 0 →
  w_ldJ S (some x3) 29 (0 : Int32) (fun v1174 =>
  (((lg_cmp v1174 v1151.toInt64) = 0 →
  pL_law_J1184 K xs L g x1 x2 x3 K x4 S) ∧ (¬ (lg_cmp v1174 v1151.toInt64) = 0 →
  False)))))) ∧ (¬ v1157 = v1133 →
  False))) (fun _ _ => False))) (fun _ _ => False)))))))
set_option maxHeartbeats 4000000 in
set_option maxRecDepth 100000 in
theorem kL_c13 {p : Program} {l : Launch} {e : Env} {s : State} {m : MethodId} {av : Array Value} {below : List Frame} {meth : Method} {c : Code} {H : Heap} {locs : List Loc} {ls : Array Slot} {cells slots : Nat} {Q : State → Prop} {G : qG} {A : Nat → Prop} {S : qS} {b L x1 x2 x3 : Nat} {x4 : Int32} {xs : Nat → Int32} {g : Nat × Nat} {K : Int32 → qS → Prop} (hl0 : l.stackTraces = false) (he : G.2.2 = g) (X : q_X p l s m av meth c cL_law RL 8 G A) (hX : va_X b L xs s s.heap) (hbl : b < s.heap.size) (hbA : ¬ A b) (hcs : cells + 12 ≤ 601024 ∧ slots + 183 ≤ 7293034) (I : q_H G A s H locs S) (hl : lv_has ls 8 [(0, va_rf (some b)), (1, va_rf (some x1)), (2, va_rf (some x2)), (3, va_rf (some x3)), (4, .int x4)]) (h : pL_c13 xs L g x1 x2 x3 K x4 S) (kk : ∀ (x4 : Int32) (S : qS) (H : Heap) (locs : List Loc) (ls : Array Slot), K x4 S → q_H G A s H locs S → lv_has ls 8 [(0, va_rf (some b)), (1, va_rf (some x1)), (2, va_rf (some x2)), (3, va_rf (some x3)), (4, .int x4)] → W p l e room_1 s m av below meth c H locs (cells + 12) (slots + 183) Q (F0 m 1708 ls [])) : W p l e room_1 s m av below meth c H locs cells slots Q (F0 m 1119 ls []) := by
  unfold pL_c13 at h
  refine q_aload_n X dL_law_1119 rfl (lv_at hl 1 rfl) ?_
  refine q_aload_n X dL_law_1120 rfl (lv_at hl 0 rfl) ?_
  refine lv_iload X.1 X.2.1 dL_law_1121 (lv_at hl 4 rfl) ?_
  refine lv_iconst (v := 1) X.1 X.2.1 dL_law_1123 (by decide) ?_
  refine lv_iadd X.1 X.2.1 dL_law_1124 ?_
  refine va_sld X.1 X.2.1 hX hbl hbA I.2.2 h.1 dL_law_1125 ?_
  have h := h.2
  refine q_aload_n X dL_law_1126 rfl (lv_at hl 0 rfl) ?_
  refine lv_iload X.1 X.2.1 dL_law_1127 (lv_at hl 4 rfl) ?_
  refine lv_iconst (v := 2) X.1 X.2.1 dL_law_1129 (by decide) ?_
  refine lv_iadd X.1 X.2.1 dL_law_1130 ?_
  refine va_sld X.1 X.2.1 hX hbl hbA I.2.2 h.1 dL_law_1131 ?_
  have h := h.2
  refine q_aload_n X dL_law_1132 rfl (lv_at hl 3 rfl) ?_
  refine q_cT (n := 4) (hh := [(0, 10, 13, 23), (0, 10, 17, 68)]) (As := [va_rf (some x1), .int (xs (x4 + (1 : Int32)).toNatClampNeg), .int (xs (x4 + (2 : Int32)).toNatClampNeg), va_rf (some x3)]) (rest := []) (c1 := cells + 2) (s1 := slots + 12) (d := 8) (mc := 2) (ms := 12) X I hl.1 wd_678 wd_0 ⟨by decide, by decide⟩ (by decide +kernel) wd_677 wd_676 dL_law_1133 rfl (kL_look hl0 h) rfl (Nat.le_of_ble_eq_true rfl) ⟨by decide, by decide⟩ ⟨by show _ ≤ 601024; omega, by show _ ≤ 7293034; omega⟩ rfl rfl (fun v1133 S H locs I h => ?_)
  refine lv_istore (i := 5) (lv' := [(5, .int v1133), (0, va_rf (some b)), (1, va_rf (some x1)), (2, va_rf (some x2)), (3, va_rf (some x3)), (4, .int x4)]) X.1 X.2.1 dL_law_1136 hl (by decide) rfl (fun ls hl => ?_)
  refine q_aload_n X dL_law_1138 rfl (lv_at hl 3 rfl) ?_
  refine q_aload_n X dL_law_1139 rfl (lv_at hl 1 rfl) ?_
  refine lv_iload X.1 X.2.1 dL_law_1140 (lv_at hl 5 rfl) ?_
  refine lv_iconst (v := 1) X.1 X.2.1 dL_law_1142 (by decide) ?_
  refine lv_iadd X.1 X.2.1 dL_law_1143 ?_
  refine va_sld X.1 X.2.1 hX hbl hbA I.2.2 h.1 dL_law_1144 ?_
  have h := h.2
  refine q_aload_n X dL_law_1145 rfl (lv_at hl 1 rfl) ?_
  refine lv_iload X.1 X.2.1 dL_law_1146 (lv_at hl 5 rfl) ?_
  refine lv_iconst (v := 2) X.1 X.2.1 dL_law_1148 (by decide) ?_
  refine lv_iadd X.1 X.2.1 dL_law_1149 ?_
  refine va_sld X.1 X.2.1 hX hbl hbA I.2.2 h.1 dL_law_1150 ?_
  have h := h.2
  refine q_cXi (As := [.int (xs (x4 + (1 : Int32)).toNatClampNeg), .int (xs (x4 + (2 : Int32)).toNatClampNeg)]) (rest := []) (c1 := cells + 2) (s1 := slots + 12) (d := 3) (mc := 0) (ms := 0) X I hl.1 mX8_look wd_1056 dL_law_1151 rfl h (fun b h => kX8_look hl0 h) rfl (Nat.le_of_ble_eq_true rfl) ⟨by decide, by decide⟩ ⟨by show _ ≤ 601024; omega, by show _ ≤ 7293034; omega⟩ rfl rfl (fun E ce q9 S H locs I h hce hcv hcl => h.elim) (fun v1151 S H locs I h => ?_)
  refine lv_istore (i := 6) (lv' := [(6, .int v1151), (5, .int v1133), (0, va_rf (some b)), (1, va_rf (some x1)), (2, va_rf (some x2)), (3, va_rf (some x3)), (4, .int x4)]) X.1 X.2.1 dL_law_1154 hl (by decide) rfl (fun ls hl => ?_)
  refine q_aload_n X dL_law_1156 rfl (lv_at hl 4 rfl) ?_
  refine q_cXi (As := []) (rest := []) (c1 := cells + 2) (s1 := slots + 12) (d := 1) (mc := 0) (ms := 0) X I hl.1 mX8_thrown wd_939 dL_law_1157 rfl h (fun b h => kX8_thrown hl0 h) rfl (Nat.le_of_ble_eq_true rfl) ⟨by decide, by decide⟩ ⟨by show _ ≤ 601024; omega, by show _ ≤ 7293034; omega⟩ rfl rfl (fun E ce q9 S H locs I h hce hcv hcl => h.elim) (fun v1157 S H locs I h => ?_)
  refine lv_iload X.1 X.2.1 dL_law_1160 (lv_at hl 1 rfl) ?_
  refine lv_icmp_eq (tgt := 1167) X.1 X.2.1 dL_law_1162 (by decide) (fun c1162 => ?_) (fun c1162 => ?_)
  · have h := h.1 c1162
    refine lv_iload X.1 X.2.1 dL_law_1167 (lv_at hl 1 rfl) ?_
    have jn1184 : ∀ (x4 : Int32) (S : qS) (H : Heap) (locs : List Loc) (ls : Array Slot), pL_law_J1184 K xs L g x1 x2 x3 K x4 S → q_H G A s H locs S → lv_has ls 8 [(0, va_rf (some b)), (1, va_rf (some x1)), (2, va_rf (some x2)), (3, va_rf (some x3)), (4, .int x4)] → W p l e room_1 s m av below meth c H locs (cells + 2) (slots + 12) Q (F0 m 1184 ls []) := by
      intro x4 S H locs ls h I hl
      unfold pL_law_J1184 at h
      refine lv_goto (tgt := 1708) X.1 X.2.1 dL_law_1184 (by decide) ?_
      refine W.widen (k := cells + 12) (n := slots + 183) (by omega) (by omega) ?_
      exact kk _ _ _ _ _ h I (lv_sub hl [0, 1, 2, 3, 4] rfl)
    refine lv_if_ne (tgt := 1184) X.1 X.2.1 dL_law_1169 (by decide) (fun c1169 => ?_) (fun c1169 => ?_)
    · have h := h.1 c1169
      exact jn1184 _ _ _ _ _ h I (lv_sub hl [2, 3, 4, 5, 6] rfl)
    · have h := h.2 c1169
      refine q_aload_n X dL_law_1172 rfl (lv_at hl 5 rfl) ?_
      refine lv_iconst (v := 0) X.1 X.2.1 dL_law_1173 (by decide) ?_
      refine q_ldJ X I (by decide) (by decide) dL_law_1174 h (fun v1174 h => ?_)
      refine lv_iload X.1 X.2.1 dL_law_1175 (lv_at hl 0 rfl) ?_
      refine lv_i2l X.1 X.2.1 dL_law_1177 rfl ?_
      refine W.lcmp X.1 X.2.1 dL_law_1178 ?_
      refine lv_if_eq (tgt := 1184) X.1 X.2.1 dL_law_1179 (by decide) (fun c1179 => ?_) (fun c1179 => ?_)
      · have h := h.1 c1179
        exact jn1184 _ _ _ _ _ h I (lv_sub hl [2, 3, 4, 5, 6] rfl)
      · have h := h.2 c1179
        refine lv_iconst (v := 0) X.1 X.2.1 dL_law_1182 (by decide) ?_
        exact h.elim
  · have h := h.2 c1162
    refine lv_iconst (v := 0) X.1 X.2.1 dL_law_1165 (by decide) ?_
    exact h.elim

def pL_law_J1280 (k1708 : Int32 → qS → Prop) (xs : Nat → Int32) (L : Nat) (g : Nat × Nat) (x1 x2 x3 : Nat) (K : Int32 → qS → Prop) (x4 : Int32) (S : qS) : Prop :=
  k1708 x4 S
def pL_law_J1247 (k1708 : Int32 → qS → Prop) (xs : Nat → Int32) (L : Nat) (g : Nat × Nat) (x1 x2 x3 : Nat) (K : Int32 → qS → Prop) (x4 : Int32) (x5 : Int32) (t0 : Option Nat) (t1 : Int32) (t2 : Int32) (t3 : Int32) (S : qS) : Prop :=
  w_at S t0 9 (fun b1247 => pX8_line b1247 t1 t2 t3 S (fun v1247 S =>
  w_at S (some x2) 9 (fun b1253 => pX8_thrown b1253  S (fun v1253 S =>
  ((v1253 = x5 →
  ((¬ x5 = 0 →
  pL_law_J1280 k1708 xs L g x1 x2 x3 K x4 S) ∧ (x5 = 0 →
  w_ldJ S (some x3) 29 (0 : Int32) (fun v1270 =>
  (((lg_cmp v1270 v1247.toInt64) = 0 →
  pL_law_J1280 k1708 xs L g x1 x2 x3 K x4 S) ∧ (¬ (lg_cmp v1270 v1247.toInt64) = 0 →
  False)))))) ∧ (¬ v1253 = x5 →
  False))) (fun _ _ => False))) (fun _ _ => False))
def pL_law_J1214 (k1708 : Int32 → qS → Prop) (xs : Nat → Int32) (L : Nat) (g : Nat × Nat) (x1 x2 x3 : Nat) (K : Int32 → qS → Prop) (x4 : Int32) (t0 : Option Nat) (t1 : Int32) (t2 : Int32) (t3 : Int32) (S : qS) : Prop :=
  pL_line t0 t1 t2 t3 (some x3) S (fun v1215 S =>
  (vp_in (x4 + (1 : Int32)) L ∧
  (vp_in (x4 + (2 : Int32)) L ∧
  (vp_in (x4 + (3 : Int32)) L ∧
  (((xs (x4 + (3 : Int32)).toNatClampNeg) = 0 →
  pL_law_J1247 k1708 xs L g x1 x2 x3 K x4 v1215 (some x2) (xs (x4 + (1 : Int32)).toNatClampNeg) (xs (x4 + (2 : Int32)).toNatClampNeg) (0 : Int32) S) ∧ (¬ (xs (x4 + (3 : Int32)).toNatClampNeg) = 0 →
  pL_law_J1247 k1708 xs L g x1 x2 x3 K x4 v1215 (some x2) (xs (x4 + (1 : Int32)).toNatClampNeg) (xs (x4 + (2 : Int32)).toNatClampNeg) (1 : Int32) S))))))
def pL_c14 (xs : Nat → Int32) (L : Nat) (g : Nat × Nat) (x1 x2 x3 : Nat) (K : Int32 → qS → Prop) (x4 : Int32) (S : qS) : Prop :=
  (vp_in (x4 + (1 : Int32)) L ∧
  (vp_in (x4 + (2 : Int32)) L ∧
  (vp_in (x4 + (3 : Int32)) L ∧
  (((xs (x4 + (3 : Int32)).toNatClampNeg) = 0 →
  pL_law_J1214 K xs L g x1 x2 x3 K x4 (some x1) (xs (x4 + (1 : Int32)).toNatClampNeg) (xs (x4 + (2 : Int32)).toNatClampNeg) (0 : Int32) S) ∧ (¬ (xs (x4 + (3 : Int32)).toNatClampNeg) = 0 →
  pL_law_J1214 K xs L g x1 x2 x3 K x4 (some x1) (xs (x4 + (1 : Int32)).toNatClampNeg) (xs (x4 + (2 : Int32)).toNatClampNeg) (1 : Int32) S)))))
set_option maxHeartbeats 4000000 in
set_option maxRecDepth 100000 in
theorem kL_c14 {p : Program} {l : Launch} {e : Env} {s : State} {m : MethodId} {av : Array Value} {below : List Frame} {meth : Method} {c : Code} {H : Heap} {locs : List Loc} {ls : Array Slot} {cells slots : Nat} {Q : State → Prop} {G : qG} {A : Nat → Prop} {S : qS} {b L x1 x2 x3 : Nat} {x4 : Int32} {xs : Nat → Int32} {g : Nat × Nat} {K : Int32 → qS → Prop} (hl0 : l.stackTraces = false) (he : G.2.2 = g) (X : q_X p l s m av meth c cL_law RL 8 G A) (hX : va_X b L xs s s.heap) (hbl : b < s.heap.size) (hbA : ¬ A b) (hcs : cells + 12 ≤ 601024 ∧ slots + 183 ≤ 7293034) (I : q_H G A s H locs S) (hl : lv_has ls 8 [(0, va_rf (some b)), (1, va_rf (some x1)), (2, va_rf (some x2)), (3, va_rf (some x3)), (4, .int x4)]) (h : pL_c14 xs L g x1 x2 x3 K x4 S) (kk : ∀ (x4 : Int32) (S : qS) (H : Heap) (locs : List Loc) (ls : Array Slot), K x4 S → q_H G A s H locs S → lv_has ls 8 [(0, va_rf (some b)), (1, va_rf (some x1)), (2, va_rf (some x2)), (3, va_rf (some x3)), (4, .int x4)] → W p l e room_1 s m av below meth c H locs (cells + 12) (slots + 183) Q (F0 m 1708 ls [])) : W p l e room_1 s m av below meth c H locs cells slots Q (F0 m 1187 ls []) := by
  unfold pL_c14 at h
  refine q_aload_n X dL_law_1187 rfl (lv_at hl 1 rfl) ?_
  refine q_aload_n X dL_law_1188 rfl (lv_at hl 0 rfl) ?_
  refine lv_iload X.1 X.2.1 dL_law_1189 (lv_at hl 4 rfl) ?_
  refine lv_iconst (v := 1) X.1 X.2.1 dL_law_1191 (by decide) ?_
  refine lv_iadd X.1 X.2.1 dL_law_1192 ?_
  refine va_sld X.1 X.2.1 hX hbl hbA I.2.2 h.1 dL_law_1193 ?_
  have h := h.2
  refine q_aload_n X dL_law_1194 rfl (lv_at hl 0 rfl) ?_
  refine lv_iload X.1 X.2.1 dL_law_1195 (lv_at hl 4 rfl) ?_
  refine lv_iconst (v := 2) X.1 X.2.1 dL_law_1197 (by decide) ?_
  refine lv_iadd X.1 X.2.1 dL_law_1198 ?_
  refine va_sld X.1 X.2.1 hX hbl hbA I.2.2 h.1 dL_law_1199 ?_
  have h := h.2
  refine q_aload_n X dL_law_1200 rfl (lv_at hl 0 rfl) ?_
  refine lv_iload X.1 X.2.1 dL_law_1201 (lv_at hl 4 rfl) ?_
  refine lv_iconst (v := 3) X.1 X.2.1 dL_law_1203 (by decide) ?_
  refine lv_iadd X.1 X.2.1 dL_law_1204 ?_
  refine va_sld X.1 X.2.1 hX hbl hbA I.2.2 h.1 dL_law_1205 ?_
  have h := h.2
  have jn1214 : ∀ (x4 : Int32) (t0 : Option Nat) (t1 : Int32) (t2 : Int32) (t3 : Int32) (S : qS) (H : Heap) (locs : List Loc) (ls : Array Slot), pL_law_J1214 K xs L g x1 x2 x3 K x4 t0 t1 t2 t3 S → q_H G A s H locs S → lv_has ls 8 [(0, va_rf (some b)), (1, va_rf (some x1)), (2, va_rf (some x2)), (3, va_rf (some x3)), (4, .int x4)] → W p l e room_1 s m av below meth c H locs (cells + 0) (slots + 0) Q (F0 m 1214 ls [.int t3, .int t2, .int t1, va_rf t0]) := by
    intro x4 t0 t1 t2 t3 S H locs ls h I hl
    unfold pL_law_J1214 at h
    refine q_aload_n X dL_law_1214 rfl (lv_at hl 3 rfl) ?_
    refine q_cT (n := 5) (hh := [(0, 12, 15, 23)]) (As := [va_rf t0, .int t1, .int t2, .int t3, va_rf (some x3)]) (rest := []) (c1 := cells + 1) (s1 := slots + 6) (d := 8) (mc := 1) (ms := 6) X I hl.1 wd_711 wd_0 ⟨by decide, by decide⟩ (by decide +kernel) wd_710 wd_709 dL_law_1215 rfl (kL_line hl0 h) rfl (Nat.le_of_ble_eq_true rfl) ⟨by decide, by decide⟩ ⟨by show _ ≤ 601024; omega, by show _ ≤ 7293034; omega⟩ rfl rfl (fun v1215 S H locs I h => ?_)
    refine lv_istore (i := 5) (lv' := [(5, .int v1215), (0, va_rf (some b)), (1, va_rf (some x1)), (2, va_rf (some x2)), (3, va_rf (some x3)), (4, .int x4)]) X.1 X.2.1 dL_law_1218 hl (by decide) rfl (fun ls hl => ?_)
    refine q_aload_n X dL_law_1220 rfl (lv_at hl 3 rfl) ?_
    refine q_aload_n X dL_law_1221 rfl (lv_at hl 1 rfl) ?_
    refine lv_iload X.1 X.2.1 dL_law_1222 (lv_at hl 5 rfl) ?_
    refine lv_iconst (v := 1) X.1 X.2.1 dL_law_1224 (by decide) ?_
    refine lv_iadd X.1 X.2.1 dL_law_1225 ?_
    refine va_sld X.1 X.2.1 hX hbl hbA I.2.2 h.1 dL_law_1226 ?_
    have h := h.2
    refine q_aload_n X dL_law_1227 rfl (lv_at hl 1 rfl) ?_
    refine lv_iload X.1 X.2.1 dL_law_1228 (lv_at hl 5 rfl) ?_
    refine lv_iconst (v := 2) X.1 X.2.1 dL_law_1230 (by decide) ?_
    refine lv_iadd X.1 X.2.1 dL_law_1231 ?_
    refine va_sld X.1 X.2.1 hX hbl hbA I.2.2 h.1 dL_law_1232 ?_
    have h := h.2
    refine q_aload_n X dL_law_1233 rfl (lv_at hl 1 rfl) ?_
    refine lv_iload X.1 X.2.1 dL_law_1234 (lv_at hl 5 rfl) ?_
    refine lv_iconst (v := 3) X.1 X.2.1 dL_law_1236 (by decide) ?_
    refine lv_iadd X.1 X.2.1 dL_law_1237 ?_
    refine va_sld X.1 X.2.1 hX hbl hbA I.2.2 h.1 dL_law_1238 ?_
    have h := h.2
    have jn1247 : ∀ (x4 : Int32) (x5 : Int32) (t0 : Option Nat) (t1 : Int32) (t2 : Int32) (t3 : Int32) (S : qS) (H : Heap) (locs : List Loc) (ls : Array Slot), pL_law_J1247 K xs L g x1 x2 x3 K x4 x5 t0 t1 t2 t3 S → q_H G A s H locs S → lv_has ls 8 [(0, va_rf (some b)), (1, va_rf (some x1)), (2, va_rf (some x2)), (3, va_rf (some x3)), (4, .int x4), (5, .int x5)] → W p l e room_1 s m av below meth c H locs (cells + 1) (slots + 6) Q (F0 m 1247 ls [.int t3, .int t2, .int t1, va_rf t0]) := by
      intro x4 x5 t0 t1 t2 t3 S H locs ls h I hl
      unfold pL_law_J1247 at h
      refine q_cXi (As := [.int t1, .int t2, .int t3]) (rest := []) (c1 := cells + 1) (s1 := slots + 6) (d := 3) (mc := 0) (ms := 0) X I hl.1 mX8_line wd_1060 dL_law_1247 rfl h (fun b h => kX8_line hl0 h) rfl (Nat.le_of_ble_eq_true rfl) ⟨by decide, by decide⟩ ⟨by show _ ≤ 601024; omega, by show _ ≤ 7293034; omega⟩ rfl rfl (fun E ce q9 S H locs I h hce hcv hcl => h.elim) (fun v1247 S H locs I h => ?_)
      refine lv_istore (i := 6) (lv' := [(6, .int v1247), (0, va_rf (some b)), (1, va_rf (some x1)), (2, va_rf (some x2)), (3, va_rf (some x3)), (4, .int x4), (5, .int x5)]) X.1 X.2.1 dL_law_1250 hl (by decide) rfl (fun ls hl => ?_)
      refine q_aload_n X dL_law_1252 rfl (lv_at hl 3 rfl) ?_
      refine q_cXi (As := []) (rest := []) (c1 := cells + 1) (s1 := slots + 6) (d := 1) (mc := 0) (ms := 0) X I hl.1 mX8_thrown wd_939 dL_law_1253 rfl h (fun b h => kX8_thrown hl0 h) rfl (Nat.le_of_ble_eq_true rfl) ⟨by decide, by decide⟩ ⟨by show _ ≤ 601024; omega, by show _ ≤ 7293034; omega⟩ rfl rfl (fun E ce q9 S H locs I h hce hcv hcl => h.elim) (fun v1253 S H locs I h => ?_)
      refine lv_iload X.1 X.2.1 dL_law_1256 (lv_at hl 6 rfl) ?_
      refine lv_icmp_eq (tgt := 1263) X.1 X.2.1 dL_law_1258 (by decide) (fun c1258 => ?_) (fun c1258 => ?_)
      · have h := h.1 c1258
        refine lv_iload X.1 X.2.1 dL_law_1263 (lv_at hl 6 rfl) ?_
        have jn1280 : ∀ (x4 : Int32) (S : qS) (H : Heap) (locs : List Loc) (ls : Array Slot), pL_law_J1280 K xs L g x1 x2 x3 K x4 S → q_H G A s H locs S → lv_has ls 8 [(0, va_rf (some b)), (1, va_rf (some x1)), (2, va_rf (some x2)), (3, va_rf (some x3)), (4, .int x4)] → W p l e room_1 s m av below meth c H locs (cells + 1) (slots + 6) Q (F0 m 1280 ls []) := by
          intro x4 S H locs ls h I hl
          unfold pL_law_J1280 at h
          refine lv_goto (tgt := 1708) X.1 X.2.1 dL_law_1280 (by decide) ?_
          refine W.widen (k := cells + 12) (n := slots + 183) (by omega) (by omega) ?_
          exact kk _ _ _ _ _ h I (lv_sub hl [0, 1, 2, 3, 4] rfl)
        refine lv_if_ne (tgt := 1280) X.1 X.2.1 dL_law_1265 (by decide) (fun c1265 => ?_) (fun c1265 => ?_)
        · have h := h.1 c1265
          exact jn1280 _ _ _ _ _ h I (lv_sub hl [1, 2, 3, 4, 5] rfl)
        · have h := h.2 c1265
          refine q_aload_n X dL_law_1268 rfl (lv_at hl 4 rfl) ?_
          refine lv_iconst (v := 0) X.1 X.2.1 dL_law_1269 (by decide) ?_
          refine q_ldJ X I (by decide) (by decide) dL_law_1270 h (fun v1270 h => ?_)
          refine lv_iload X.1 X.2.1 dL_law_1271 (lv_at hl 0 rfl) ?_
          refine lv_i2l X.1 X.2.1 dL_law_1273 rfl ?_
          refine W.lcmp X.1 X.2.1 dL_law_1274 ?_
          refine lv_if_eq (tgt := 1280) X.1 X.2.1 dL_law_1275 (by decide) (fun c1275 => ?_) (fun c1275 => ?_)
          · have h := h.1 c1275
            exact jn1280 _ _ _ _ _ h I (lv_sub hl [1, 2, 3, 4, 5] rfl)
          · have h := h.2 c1275
            refine lv_iconst (v := 0) X.1 X.2.1 dL_law_1278 (by decide) ?_
            exact h.elim
      · have h := h.2 c1258
        refine lv_iconst (v := 0) X.1 X.2.1 dL_law_1261 (by decide) ?_
        exact h.elim
    refine lv_if_eq (tgt := 1246) X.1 X.2.1 dL_law_1239 (by decide) (fun c1239 => ?_) (fun c1239 => ?_)
    · have h := h.1 c1239
      refine lv_iconst (v := 0) X.1 X.2.1 dL_law_1246 (by decide) ?_
      exact jn1247 _ _ _ _ _ _ _ _ _ _ h I (lv_sub hl [1, 2, 3, 4, 5, 0] rfl)
    · have h := h.2 c1239
      refine lv_iconst (v := 1) X.1 X.2.1 dL_law_1242 (by decide) ?_
      refine lv_goto (tgt := 1247) X.1 X.2.1 dL_law_1243 (by decide) ?_
      exact jn1247 _ _ _ _ _ _ _ _ _ _ h I (lv_sub hl [1, 2, 3, 4, 5, 0] rfl)
  refine lv_if_eq (tgt := 1213) X.1 X.2.1 dL_law_1206 (by decide) (fun c1206 => ?_) (fun c1206 => ?_)
  · have h := h.1 c1206
    refine lv_iconst (v := 0) X.1 X.2.1 dL_law_1213 (by decide) ?_
    exact jn1214 _ _ _ _ _ _ _ _ _ h I (lv_sub hl [0, 1, 2, 3, 4] rfl)
  · have h := h.2 c1206
    refine lv_iconst (v := 1) X.1 X.2.1 dL_law_1209 (by decide) ?_
    refine lv_goto (tgt := 1214) X.1 X.2.1 dL_law_1210 (by decide) ?_
    exact jn1214 _ _ _ _ _ _ _ _ _ h I (lv_sub hl [0, 1, 2, 3, 4] rfl)

def pL_law_J1426 (k1708 : Int32 → qS → Prop) (xs : Nat → Int32) (L : Nat) (g : Nat × Nat) (x1 x2 x3 : Nat) (K : Int32 → qS → Prop) (x4 : Int32) (S : qS) : Prop :=
  k1708 x4 S
def pL_c15 (xs : Nat → Int32) (L : Nat) (g : Nat × Nat) (x1 x2 x3 : Nat) (K : Int32 → qS → Prop) (x4 : Int32) (S : qS) : Prop :=
  (vp_in (x4 + (1 : Int32)) L ∧
  (vp_in (x4 + (2 : Int32)) L ∧
  (vp_in (x4 + (3 : Int32)) L ∧
  (vp_in (x4 + (4 : Int32)) L ∧
  (vp_in (x4 + (5 : Int32)) L ∧
  (vp_in (x4 + (6 : Int32)) L ∧
  (vp_in (x4 + (7 : Int32)) L ∧
  (vp_in (x4 + (8 : Int32)) L ∧
  pL_offer (some x1) (xs (x4 + (1 : Int32)).toNatClampNeg) (xs (x4 + (2 : Int32)).toNatClampNeg) (xs (x4 + (3 : Int32)).toNatClampNeg) (xs (x4 + (4 : Int32)).toNatClampNeg) (xs (x4 + (5 : Int32)).toNatClampNeg) (xs (x4 + (6 : Int32)).toNatClampNeg) (xs (x4 + (7 : Int32)).toNatClampNeg) (xs (x4 + (8 : Int32)).toNatClampNeg) (some x3) S g (fun v1336 S =>
  (vp_in (x4 + (1 : Int32)) L ∧
  (vp_in (x4 + (2 : Int32)) L ∧
  (vp_in (x4 + (3 : Int32)) L ∧
  (vp_in (x4 + (4 : Int32)) L ∧
  (vp_in (x4 + (5 : Int32)) L ∧
  (vp_in (x4 + (6 : Int32)) L ∧
  (vp_in (x4 + (7 : Int32)) L ∧
  (vp_in (x4 + (8 : Int32)) L ∧
  w_at S (some x2) 9 (fun b1393 => pX8_offer b1393 (xs (x4 + (1 : Int32)).toNatClampNeg) (xs (x4 + (2 : Int32)).toNatClampNeg) (xs (x4 + (3 : Int32)).toNatClampNeg) (xs (x4 + (4 : Int32)).toNatClampNeg) (xs (x4 + (5 : Int32)).toNatClampNeg) (xs (x4 + (6 : Int32)).toNatClampNeg) (xs (x4 + (7 : Int32)).toNatClampNeg) (xs (x4 + (8 : Int32)).toNatClampNeg) S (fun v1393 S =>
  w_at S (some x2) 9 (fun b1399 => pX8_thrown b1399  S (fun v1399 S =>
  ((v1399 = v1336 →
  ((¬ v1336 = 0 →
  pL_law_J1426 K xs L g x1 x2 x3 K x4 S) ∧ (v1336 = 0 →
  w_ldJ S (some x3) 29 (0 : Int32) (fun v1416 =>
  (((lg_cmp v1416 v1393.toInt64) = 0 →
  pL_law_J1426 K xs L g x1 x2 x3 K x4 S) ∧ (¬ (lg_cmp v1416 v1393.toInt64) = 0 →
  False)))))) ∧ (¬ v1399 = v1336 →
  False))) (fun _ _ => False))) (fun _ _ => False)))))))))))))))))))
set_option maxHeartbeats 4000000 in
set_option maxRecDepth 100000 in
theorem kL_c15 {p : Program} {l : Launch} {e : Env} {s : State} {m : MethodId} {av : Array Value} {below : List Frame} {meth : Method} {c : Code} {H : Heap} {locs : List Loc} {ls : Array Slot} {cells slots : Nat} {Q : State → Prop} {G : qG} {A : Nat → Prop} {S : qS} {b L x1 x2 x3 : Nat} {x4 : Int32} {xs : Nat → Int32} {g : Nat × Nat} {K : Int32 → qS → Prop} (hl0 : l.stackTraces = false) (he : G.2.2 = g) (X : q_X p l s m av meth c cL_law RL 8 G A) (hX : va_X b L xs s s.heap) (hbl : b < s.heap.size) (hbA : ¬ A b) (hcs : cells + 12 ≤ 601024 ∧ slots + 183 ≤ 7293034) (I : q_H G A s H locs S) (hl : lv_has ls 8 [(0, va_rf (some b)), (1, va_rf (some x1)), (2, va_rf (some x2)), (3, va_rf (some x3)), (4, .int x4)]) (h : pL_c15 xs L g x1 x2 x3 K x4 S) (kk : ∀ (x4 : Int32) (S : qS) (H : Heap) (locs : List Loc) (ls : Array Slot), K x4 S → q_H G A s H locs S → lv_has ls 8 [(0, va_rf (some b)), (1, va_rf (some x1)), (2, va_rf (some x2)), (3, va_rf (some x3)), (4, .int x4)] → W p l e room_1 s m av below meth c H locs (cells + 12) (slots + 183) Q (F0 m 1708 ls [])) : W p l e room_1 s m av below meth c H locs cells slots Q (F0 m 1283 ls []) := by
  unfold pL_c15 at h
  refine q_aload_n X dL_law_1283 rfl (lv_at hl 1 rfl) ?_
  refine q_aload_n X dL_law_1284 rfl (lv_at hl 0 rfl) ?_
  refine lv_iload X.1 X.2.1 dL_law_1285 (lv_at hl 4 rfl) ?_
  refine lv_iconst (v := 1) X.1 X.2.1 dL_law_1287 (by decide) ?_
  refine lv_iadd X.1 X.2.1 dL_law_1288 ?_
  refine va_sld X.1 X.2.1 hX hbl hbA I.2.2 h.1 dL_law_1289 ?_
  have h := h.2
  refine q_aload_n X dL_law_1290 rfl (lv_at hl 0 rfl) ?_
  refine lv_iload X.1 X.2.1 dL_law_1291 (lv_at hl 4 rfl) ?_
  refine lv_iconst (v := 2) X.1 X.2.1 dL_law_1293 (by decide) ?_
  refine lv_iadd X.1 X.2.1 dL_law_1294 ?_
  refine va_sld X.1 X.2.1 hX hbl hbA I.2.2 h.1 dL_law_1295 ?_
  have h := h.2
  refine q_aload_n X dL_law_1296 rfl (lv_at hl 0 rfl) ?_
  refine lv_iload X.1 X.2.1 dL_law_1297 (lv_at hl 4 rfl) ?_
  refine lv_iconst (v := 3) X.1 X.2.1 dL_law_1299 (by decide) ?_
  refine lv_iadd X.1 X.2.1 dL_law_1300 ?_
  refine va_sld X.1 X.2.1 hX hbl hbA I.2.2 h.1 dL_law_1301 ?_
  have h := h.2
  refine q_aload_n X dL_law_1302 rfl (lv_at hl 0 rfl) ?_
  refine lv_iload X.1 X.2.1 dL_law_1303 (lv_at hl 4 rfl) ?_
  refine lv_iconst (v := 4) X.1 X.2.1 dL_law_1305 (by decide) ?_
  refine lv_iadd X.1 X.2.1 dL_law_1306 ?_
  refine va_sld X.1 X.2.1 hX hbl hbA I.2.2 h.1 dL_law_1307 ?_
  have h := h.2
  refine q_aload_n X dL_law_1308 rfl (lv_at hl 0 rfl) ?_
  refine lv_iload X.1 X.2.1 dL_law_1309 (lv_at hl 4 rfl) ?_
  refine lv_iconst (v := 5) X.1 X.2.1 dL_law_1311 (by decide) ?_
  refine lv_iadd X.1 X.2.1 dL_law_1312 ?_
  refine va_sld X.1 X.2.1 hX hbl hbA I.2.2 h.1 dL_law_1313 ?_
  have h := h.2
  refine q_aload_n X dL_law_1314 rfl (lv_at hl 0 rfl) ?_
  refine lv_iload X.1 X.2.1 dL_law_1315 (lv_at hl 4 rfl) ?_
  refine lv_bipush (v := 6) X.1 X.2.1 dL_law_1317 (by decide) ?_
  refine lv_iadd X.1 X.2.1 dL_law_1319 ?_
  refine va_sld X.1 X.2.1 hX hbl hbA I.2.2 h.1 dL_law_1320 ?_
  have h := h.2
  refine q_aload_n X dL_law_1321 rfl (lv_at hl 0 rfl) ?_
  refine lv_iload X.1 X.2.1 dL_law_1322 (lv_at hl 4 rfl) ?_
  refine lv_bipush (v := 7) X.1 X.2.1 dL_law_1324 (by decide) ?_
  refine lv_iadd X.1 X.2.1 dL_law_1326 ?_
  refine va_sld X.1 X.2.1 hX hbl hbA I.2.2 h.1 dL_law_1327 ?_
  have h := h.2
  refine q_aload_n X dL_law_1328 rfl (lv_at hl 0 rfl) ?_
  refine lv_iload X.1 X.2.1 dL_law_1329 (lv_at hl 4 rfl) ?_
  refine lv_bipush (v := 8) X.1 X.2.1 dL_law_1331 (by decide) ?_
  refine lv_iadd X.1 X.2.1 dL_law_1333 ?_
  refine va_sld X.1 X.2.1 hX hbl hbA I.2.2 h.1 dL_law_1334 ?_
  have h := h.2
  refine q_aload_n X dL_law_1335 rfl (lv_at hl 3 rfl) ?_
  refine q_cT (n := 10) (hh := [(0, 22, 25, 23), (0, 22, 29, 25), (0, 22, 33, 13)]) (As := [va_rf (some x1), .int (xs (x4 + (1 : Int32)).toNatClampNeg), .int (xs (x4 + (2 : Int32)).toNatClampNeg), .int (xs (x4 + (3 : Int32)).toNatClampNeg), .int (xs (x4 + (4 : Int32)).toNatClampNeg), .int (xs (x4 + (5 : Int32)).toNatClampNeg), .int (xs (x4 + (6 : Int32)).toNatClampNeg), .int (xs (x4 + (7 : Int32)).toNatClampNeg), .int (xs (x4 + (8 : Int32)).toNatClampNeg), va_rf (some x3)]) (rest := []) (c1 := cells + 12) (s1 := slots + 161) (d := 9) (mc := 12) (ms := 161) X I hl.1 wd_718 wd_0 ⟨by decide, by decide⟩ (by decide +kernel) wd_717 wd_716 dL_law_1336 rfl (kL_offer hl0 he h) rfl (Nat.le_of_ble_eq_true rfl) ⟨by decide, by decide⟩ ⟨by show _ ≤ 601024; omega, by show _ ≤ 7293034; omega⟩ rfl rfl (fun v1336 S H locs I h => ?_)
  refine lv_istore (i := 5) (lv' := [(5, .int v1336), (0, va_rf (some b)), (1, va_rf (some x1)), (2, va_rf (some x2)), (3, va_rf (some x3)), (4, .int x4)]) X.1 X.2.1 dL_law_1339 hl (by decide) rfl (fun ls hl => ?_)
  refine q_aload_n X dL_law_1341 rfl (lv_at hl 3 rfl) ?_
  refine q_aload_n X dL_law_1342 rfl (lv_at hl 1 rfl) ?_
  refine lv_iload X.1 X.2.1 dL_law_1343 (lv_at hl 5 rfl) ?_
  refine lv_iconst (v := 1) X.1 X.2.1 dL_law_1345 (by decide) ?_
  refine lv_iadd X.1 X.2.1 dL_law_1346 ?_
  refine va_sld X.1 X.2.1 hX hbl hbA I.2.2 h.1 dL_law_1347 ?_
  have h := h.2
  refine q_aload_n X dL_law_1348 rfl (lv_at hl 1 rfl) ?_
  refine lv_iload X.1 X.2.1 dL_law_1349 (lv_at hl 5 rfl) ?_
  refine lv_iconst (v := 2) X.1 X.2.1 dL_law_1351 (by decide) ?_
  refine lv_iadd X.1 X.2.1 dL_law_1352 ?_
  refine va_sld X.1 X.2.1 hX hbl hbA I.2.2 h.1 dL_law_1353 ?_
  have h := h.2
  refine q_aload_n X dL_law_1354 rfl (lv_at hl 1 rfl) ?_
  refine lv_iload X.1 X.2.1 dL_law_1355 (lv_at hl 5 rfl) ?_
  refine lv_iconst (v := 3) X.1 X.2.1 dL_law_1357 (by decide) ?_
  refine lv_iadd X.1 X.2.1 dL_law_1358 ?_
  refine va_sld X.1 X.2.1 hX hbl hbA I.2.2 h.1 dL_law_1359 ?_
  have h := h.2
  refine q_aload_n X dL_law_1360 rfl (lv_at hl 1 rfl) ?_
  refine lv_iload X.1 X.2.1 dL_law_1361 (lv_at hl 5 rfl) ?_
  refine lv_iconst (v := 4) X.1 X.2.1 dL_law_1363 (by decide) ?_
  refine lv_iadd X.1 X.2.1 dL_law_1364 ?_
  refine va_sld X.1 X.2.1 hX hbl hbA I.2.2 h.1 dL_law_1365 ?_
  have h := h.2
  refine q_aload_n X dL_law_1366 rfl (lv_at hl 1 rfl) ?_
  refine lv_iload X.1 X.2.1 dL_law_1367 (lv_at hl 5 rfl) ?_
  refine lv_iconst (v := 5) X.1 X.2.1 dL_law_1369 (by decide) ?_
  refine lv_iadd X.1 X.2.1 dL_law_1370 ?_
  refine va_sld X.1 X.2.1 hX hbl hbA I.2.2 h.1 dL_law_1371 ?_
  have h := h.2
  refine q_aload_n X dL_law_1372 rfl (lv_at hl 1 rfl) ?_
  refine lv_iload X.1 X.2.1 dL_law_1373 (lv_at hl 5 rfl) ?_
  refine lv_bipush (v := 6) X.1 X.2.1 dL_law_1375 (by decide) ?_
  refine lv_iadd X.1 X.2.1 dL_law_1377 ?_
  refine va_sld X.1 X.2.1 hX hbl hbA I.2.2 h.1 dL_law_1378 ?_
  have h := h.2
  refine q_aload_n X dL_law_1379 rfl (lv_at hl 1 rfl) ?_
  refine lv_iload X.1 X.2.1 dL_law_1380 (lv_at hl 5 rfl) ?_
  refine lv_bipush (v := 7) X.1 X.2.1 dL_law_1382 (by decide) ?_
  refine lv_iadd X.1 X.2.1 dL_law_1384 ?_
  refine va_sld X.1 X.2.1 hX hbl hbA I.2.2 h.1 dL_law_1385 ?_
  have h := h.2
  refine q_aload_n X dL_law_1386 rfl (lv_at hl 1 rfl) ?_
  refine lv_iload X.1 X.2.1 dL_law_1387 (lv_at hl 5 rfl) ?_
  refine lv_bipush (v := 8) X.1 X.2.1 dL_law_1389 (by decide) ?_
  refine lv_iadd X.1 X.2.1 dL_law_1391 ?_
  refine va_sld X.1 X.2.1 hX hbl hbA I.2.2 h.1 dL_law_1392 ?_
  have h := h.2
  refine q_cXi (As := [.int (xs (x4 + (1 : Int32)).toNatClampNeg), .int (xs (x4 + (2 : Int32)).toNatClampNeg), .int (xs (x4 + (3 : Int32)).toNatClampNeg), .int (xs (x4 + (4 : Int32)).toNatClampNeg), .int (xs (x4 + (5 : Int32)).toNatClampNeg), .int (xs (x4 + (6 : Int32)).toNatClampNeg), .int (xs (x4 + (7 : Int32)).toNatClampNeg), .int (xs (x4 + (8 : Int32)).toNatClampNeg)]) (rest := []) (c1 := cells + 12) (s1 := slots + 161) (d := 3) (mc := 0) (ms := 0) X I hl.1 mX8_offer wd_1064 dL_law_1393 rfl h (fun b h => kX8_offer hl0 h) rfl (Nat.le_of_ble_eq_true rfl) ⟨by decide, by decide⟩ ⟨by show _ ≤ 601024; omega, by show _ ≤ 7293034; omega⟩ rfl rfl (fun E ce q9 S H locs I h hce hcv hcl => h.elim) (fun v1393 S H locs I h => ?_)
  refine lv_istore (i := 6) (lv' := [(6, .int v1393), (5, .int v1336), (0, va_rf (some b)), (1, va_rf (some x1)), (2, va_rf (some x2)), (3, va_rf (some x3)), (4, .int x4)]) X.1 X.2.1 dL_law_1396 hl (by decide) rfl (fun ls hl => ?_)
  refine q_aload_n X dL_law_1398 rfl (lv_at hl 4 rfl) ?_
  refine q_cXi (As := []) (rest := []) (c1 := cells + 12) (s1 := slots + 161) (d := 1) (mc := 0) (ms := 0) X I hl.1 mX8_thrown wd_939 dL_law_1399 rfl h (fun b h => kX8_thrown hl0 h) rfl (Nat.le_of_ble_eq_true rfl) ⟨by decide, by decide⟩ ⟨by show _ ≤ 601024; omega, by show _ ≤ 7293034; omega⟩ rfl rfl (fun E ce q9 S H locs I h hce hcv hcl => h.elim) (fun v1399 S H locs I h => ?_)
  refine lv_iload X.1 X.2.1 dL_law_1402 (lv_at hl 1 rfl) ?_
  refine lv_icmp_eq (tgt := 1409) X.1 X.2.1 dL_law_1404 (by decide) (fun c1404 => ?_) (fun c1404 => ?_)
  · have h := h.1 c1404
    refine lv_iload X.1 X.2.1 dL_law_1409 (lv_at hl 1 rfl) ?_
    have jn1426 : ∀ (x4 : Int32) (S : qS) (H : Heap) (locs : List Loc) (ls : Array Slot), pL_law_J1426 K xs L g x1 x2 x3 K x4 S → q_H G A s H locs S → lv_has ls 8 [(0, va_rf (some b)), (1, va_rf (some x1)), (2, va_rf (some x2)), (3, va_rf (some x3)), (4, .int x4)] → W p l e room_1 s m av below meth c H locs (cells + 12) (slots + 161) Q (F0 m 1426 ls []) := by
      intro x4 S H locs ls h I hl
      unfold pL_law_J1426 at h
      refine lv_goto (tgt := 1708) X.1 X.2.1 dL_law_1426 (by decide) ?_
      refine W.widen (k := cells + 12) (n := slots + 183) (by omega) (by omega) ?_
      exact kk _ _ _ _ _ h I (lv_sub hl [0, 1, 2, 3, 4] rfl)
    refine lv_if_ne (tgt := 1426) X.1 X.2.1 dL_law_1411 (by decide) (fun c1411 => ?_) (fun c1411 => ?_)
    · have h := h.1 c1411
      exact jn1426 _ _ _ _ _ h I (lv_sub hl [2, 3, 4, 5, 6] rfl)
    · have h := h.2 c1411
      refine q_aload_n X dL_law_1414 rfl (lv_at hl 5 rfl) ?_
      refine lv_iconst (v := 0) X.1 X.2.1 dL_law_1415 (by decide) ?_
      refine q_ldJ X I (by decide) (by decide) dL_law_1416 h (fun v1416 h => ?_)
      refine lv_iload X.1 X.2.1 dL_law_1417 (lv_at hl 0 rfl) ?_
      refine lv_i2l X.1 X.2.1 dL_law_1419 rfl ?_
      refine W.lcmp X.1 X.2.1 dL_law_1420 ?_
      refine lv_if_eq (tgt := 1426) X.1 X.2.1 dL_law_1421 (by decide) (fun c1421 => ?_) (fun c1421 => ?_)
      · have h := h.1 c1421
        exact jn1426 _ _ _ _ _ h I (lv_sub hl [2, 3, 4, 5, 6] rfl)
      · have h := h.2 c1421
        refine lv_iconst (v := 0) X.1 X.2.1 dL_law_1424 (by decide) ?_
        exact h.elim
  · have h := h.2 c1404
    refine lv_iconst (v := 0) X.1 X.2.1 dL_law_1407 (by decide) ?_
    exact h.elim

def pL_law_J1482 (k1708 : Int32 → qS → Prop) (xs : Nat → Int32) (L : Nat) (g : Nat × Nat) (x1 x2 x3 : Nat) (K : Int32 → qS → Prop) (x4 : Int32) (S : qS) : Prop :=
  k1708 x4 S
def pL_c16 (xs : Nat → Int32) (L : Nat) (g : Nat × Nat) (x1 x2 x3 : Nat) (K : Int32 → qS → Prop) (x4 : Int32) (S : qS) : Prop :=
  (vp_in (x4 + (1 : Int32)) L ∧
  pL_agree (some x1) (xs (x4 + (1 : Int32)).toNatClampNeg) (some x3) S (fun v1437 S =>
  (vp_in (x4 + (1 : Int32)) L ∧
  w_at S (some x2) 9 (fun b1449 => pX8_agree b1449 (xs (x4 + (1 : Int32)).toNatClampNeg) S (fun v1449 S =>
  w_at S (some x2) 9 (fun b1455 => pX8_thrown b1455  S (fun v1455 S =>
  ((v1455 = v1437 →
  ((¬ v1437 = 0 →
  pL_law_J1482 K xs L g x1 x2 x3 K x4 S) ∧ (v1437 = 0 →
  w_ldJ S (some x3) 29 (0 : Int32) (fun v1472 =>
  (((lg_cmp v1472 v1449.toInt64) = 0 →
  pL_law_J1482 K xs L g x1 x2 x3 K x4 S) ∧ (¬ (lg_cmp v1472 v1449.toInt64) = 0 →
  False)))))) ∧ (¬ v1455 = v1437 →
  False))) (fun _ _ => False))) (fun _ _ => False)))))
set_option maxHeartbeats 4000000 in
set_option maxRecDepth 100000 in
theorem kL_c16 {p : Program} {l : Launch} {e : Env} {s : State} {m : MethodId} {av : Array Value} {below : List Frame} {meth : Method} {c : Code} {H : Heap} {locs : List Loc} {ls : Array Slot} {cells slots : Nat} {Q : State → Prop} {G : qG} {A : Nat → Prop} {S : qS} {b L x1 x2 x3 : Nat} {x4 : Int32} {xs : Nat → Int32} {g : Nat × Nat} {K : Int32 → qS → Prop} (hl0 : l.stackTraces = false) (he : G.2.2 = g) (X : q_X p l s m av meth c cL_law RL 8 G A) (hX : va_X b L xs s s.heap) (hbl : b < s.heap.size) (hbA : ¬ A b) (hcs : cells + 12 ≤ 601024 ∧ slots + 183 ≤ 7293034) (I : q_H G A s H locs S) (hl : lv_has ls 8 [(0, va_rf (some b)), (1, va_rf (some x1)), (2, va_rf (some x2)), (3, va_rf (some x3)), (4, .int x4)]) (h : pL_c16 xs L g x1 x2 x3 K x4 S) (kk : ∀ (x4 : Int32) (S : qS) (H : Heap) (locs : List Loc) (ls : Array Slot), K x4 S → q_H G A s H locs S → lv_has ls 8 [(0, va_rf (some b)), (1, va_rf (some x1)), (2, va_rf (some x2)), (3, va_rf (some x3)), (4, .int x4)] → W p l e room_1 s m av below meth c H locs (cells + 12) (slots + 183) Q (F0 m 1708 ls [])) : W p l e room_1 s m av below meth c H locs cells slots Q (F0 m 1429 ls []) := by
  unfold pL_c16 at h
  refine q_aload_n X dL_law_1429 rfl (lv_at hl 1 rfl) ?_
  refine q_aload_n X dL_law_1430 rfl (lv_at hl 0 rfl) ?_
  refine lv_iload X.1 X.2.1 dL_law_1431 (lv_at hl 4 rfl) ?_
  refine lv_iconst (v := 1) X.1 X.2.1 dL_law_1433 (by decide) ?_
  refine lv_iadd X.1 X.2.1 dL_law_1434 ?_
  refine va_sld X.1 X.2.1 hX hbl hbA I.2.2 h.1 dL_law_1435 ?_
  have h := h.2
  refine q_aload_n X dL_law_1436 rfl (lv_at hl 3 rfl) ?_
  refine q_cT (n := 3) (hh := [(0, 9, 12, 23)]) (As := [va_rf (some x1), .int (xs (x4 + (1 : Int32)).toNatClampNeg), va_rf (some x3)]) (rest := []) (c1 := cells + 1) (s1 := slots + 6) (d := 8) (mc := 1) (ms := 6) X I hl.1 wd_776 wd_0 ⟨by decide, by decide⟩ (by decide +kernel) wd_775 wd_774 dL_law_1437 rfl (kL_agree hl0 h) rfl (Nat.le_of_ble_eq_true rfl) ⟨by decide, by decide⟩ ⟨by show _ ≤ 601024; omega, by show _ ≤ 7293034; omega⟩ rfl rfl (fun v1437 S H locs I h => ?_)
  refine lv_istore (i := 5) (lv' := [(5, .int v1437), (0, va_rf (some b)), (1, va_rf (some x1)), (2, va_rf (some x2)), (3, va_rf (some x3)), (4, .int x4)]) X.1 X.2.1 dL_law_1440 hl (by decide) rfl (fun ls hl => ?_)
  refine q_aload_n X dL_law_1442 rfl (lv_at hl 3 rfl) ?_
  refine q_aload_n X dL_law_1443 rfl (lv_at hl 1 rfl) ?_
  refine lv_iload X.1 X.2.1 dL_law_1444 (lv_at hl 5 rfl) ?_
  refine lv_iconst (v := 1) X.1 X.2.1 dL_law_1446 (by decide) ?_
  refine lv_iadd X.1 X.2.1 dL_law_1447 ?_
  refine va_sld X.1 X.2.1 hX hbl hbA I.2.2 h.1 dL_law_1448 ?_
  have h := h.2
  refine q_cXi (As := [.int (xs (x4 + (1 : Int32)).toNatClampNeg)]) (rest := []) (c1 := cells + 1) (s1 := slots + 6) (d := 4) (mc := 0) (ms := 0) X I hl.1 mX8_agree wd_1069 dL_law_1449 rfl h (fun b h => kX8_agree hl0 h) rfl (Nat.le_of_ble_eq_true rfl) ⟨by decide, by decide⟩ ⟨by show _ ≤ 601024; omega, by show _ ≤ 7293034; omega⟩ rfl rfl (fun E ce q9 S H locs I h hce hcv hcl => h.elim) (fun v1449 S H locs I h => ?_)
  refine lv_istore (i := 6) (lv' := [(6, .int v1449), (5, .int v1437), (0, va_rf (some b)), (1, va_rf (some x1)), (2, va_rf (some x2)), (3, va_rf (some x3)), (4, .int x4)]) X.1 X.2.1 dL_law_1452 hl (by decide) rfl (fun ls hl => ?_)
  refine q_aload_n X dL_law_1454 rfl (lv_at hl 4 rfl) ?_
  refine q_cXi (As := []) (rest := []) (c1 := cells + 1) (s1 := slots + 6) (d := 1) (mc := 0) (ms := 0) X I hl.1 mX8_thrown wd_939 dL_law_1455 rfl h (fun b h => kX8_thrown hl0 h) rfl (Nat.le_of_ble_eq_true rfl) ⟨by decide, by decide⟩ ⟨by show _ ≤ 601024; omega, by show _ ≤ 7293034; omega⟩ rfl rfl (fun E ce q9 S H locs I h hce hcv hcl => h.elim) (fun v1455 S H locs I h => ?_)
  refine lv_iload X.1 X.2.1 dL_law_1458 (lv_at hl 1 rfl) ?_
  refine lv_icmp_eq (tgt := 1465) X.1 X.2.1 dL_law_1460 (by decide) (fun c1460 => ?_) (fun c1460 => ?_)
  · have h := h.1 c1460
    refine lv_iload X.1 X.2.1 dL_law_1465 (lv_at hl 1 rfl) ?_
    have jn1482 : ∀ (x4 : Int32) (S : qS) (H : Heap) (locs : List Loc) (ls : Array Slot), pL_law_J1482 K xs L g x1 x2 x3 K x4 S → q_H G A s H locs S → lv_has ls 8 [(0, va_rf (some b)), (1, va_rf (some x1)), (2, va_rf (some x2)), (3, va_rf (some x3)), (4, .int x4)] → W p l e room_1 s m av below meth c H locs (cells + 1) (slots + 6) Q (F0 m 1482 ls []) := by
      intro x4 S H locs ls h I hl
      unfold pL_law_J1482 at h
      refine lv_goto (tgt := 1708) X.1 X.2.1 dL_law_1482 (by decide) ?_
      refine W.widen (k := cells + 12) (n := slots + 183) (by omega) (by omega) ?_
      exact kk _ _ _ _ _ h I (lv_sub hl [0, 1, 2, 3, 4] rfl)
    refine lv_if_ne (tgt := 1482) X.1 X.2.1 dL_law_1467 (by decide) (fun c1467 => ?_) (fun c1467 => ?_)
    · have h := h.1 c1467
      exact jn1482 _ _ _ _ _ h I (lv_sub hl [2, 3, 4, 5, 6] rfl)
    · have h := h.2 c1467
      refine q_aload_n X dL_law_1470 rfl (lv_at hl 5 rfl) ?_
      refine lv_iconst (v := 0) X.1 X.2.1 dL_law_1471 (by decide) ?_
      refine q_ldJ X I (by decide) (by decide) dL_law_1472 h (fun v1472 h => ?_)
      refine lv_iload X.1 X.2.1 dL_law_1473 (lv_at hl 0 rfl) ?_
      refine lv_i2l X.1 X.2.1 dL_law_1475 rfl ?_
      refine W.lcmp X.1 X.2.1 dL_law_1476 ?_
      refine lv_if_eq (tgt := 1482) X.1 X.2.1 dL_law_1477 (by decide) (fun c1477 => ?_) (fun c1477 => ?_)
      · have h := h.1 c1477
        exact jn1482 _ _ _ _ _ h I (lv_sub hl [2, 3, 4, 5, 6] rfl)
      · have h := h.2 c1477
        refine lv_iconst (v := 0) X.1 X.2.1 dL_law_1480 (by decide) ?_
        exact h.elim
  · have h := h.2 c1460
    refine lv_iconst (v := 0) X.1 X.2.1 dL_law_1463 (by decide) ?_
    exact h.elim

def pL_law_J1545 (k1708 : Int32 → qS → Prop) (xs : Nat → Int32) (L : Nat) (g : Nat × Nat) (x1 x2 x3 : Nat) (K : Int32 → qS → Prop) (x4 : Int32) (S : qS) : Prop :=
  k1708 x4 S
def pL_law_J1539 (k1708 : Int32 → qS → Prop) (xs : Nat → Int32) (L : Nat) (g : Nat × Nat) (x1 x2 x3 : Nat) (K : Int32 → qS → Prop) (x4 : Int32) (t0 : Int64) (t1 : Int64) (S : qS) : Prop :=
  (((lg_cmp t0 t1) = 0 →
  pL_law_J1545 k1708 xs L g x1 x2 x3 K x4 S) ∧ (¬ (lg_cmp t0 t1) = 0 →
  False))
def pL_c17 (xs : Nat → Int32) (L : Nat) (g : Nat × Nat) (x1 x2 x3 : Nat) (K : Int32 → qS → Prop) (x4 : Int32) (S : qS) : Prop :=
  (vp_in (x4 + (1 : Int32)) L ∧
  pL_withdraw (some x1) (xs (x4 + (1 : Int32)).toNatClampNeg) (some x3) S (fun v1493 S =>
  (vp_in (x4 + (1 : Int32)) L ∧
  w_at S (some x2) 9 (fun b1505 => pX8_withdraw b1505 (xs (x4 + (1 : Int32)).toNatClampNeg) S (fun v1505 S =>
  w_at S (some x2) 9 (fun b1511 => pX8_thrown b1511  S (fun v1511 S =>
  ((v1511 = v1493 →
  ((¬ v1493 = 0 →
  pL_law_J1545 K xs L g x1 x2 x3 K x4 S) ∧ (v1493 = 0 →
  w_ldJ S (some x3) 29 (0 : Int32) (fun v1528 =>
  ((v1505 = 0 →
  pL_law_J1539 K xs L g x1 x2 x3 K x4 v1528 (0 : Int64) S) ∧ (¬ v1505 = 0 →
  pL_law_J1539 K xs L g x1 x2 x3 K x4 v1528 (1 : Int64) S)))))) ∧ (¬ v1511 = v1493 →
  False))) (fun _ _ => False))) (fun _ _ => False)))))
set_option maxHeartbeats 4000000 in
set_option maxRecDepth 100000 in
theorem kL_c17 {p : Program} {l : Launch} {e : Env} {s : State} {m : MethodId} {av : Array Value} {below : List Frame} {meth : Method} {c : Code} {H : Heap} {locs : List Loc} {ls : Array Slot} {cells slots : Nat} {Q : State → Prop} {G : qG} {A : Nat → Prop} {S : qS} {b L x1 x2 x3 : Nat} {x4 : Int32} {xs : Nat → Int32} {g : Nat × Nat} {K : Int32 → qS → Prop} (hl0 : l.stackTraces = false) (he : G.2.2 = g) (X : q_X p l s m av meth c cL_law RL 8 G A) (hX : va_X b L xs s s.heap) (hbl : b < s.heap.size) (hbA : ¬ A b) (hcs : cells + 12 ≤ 601024 ∧ slots + 183 ≤ 7293034) (I : q_H G A s H locs S) (hl : lv_has ls 8 [(0, va_rf (some b)), (1, va_rf (some x1)), (2, va_rf (some x2)), (3, va_rf (some x3)), (4, .int x4)]) (h : pL_c17 xs L g x1 x2 x3 K x4 S) (kk : ∀ (x4 : Int32) (S : qS) (H : Heap) (locs : List Loc) (ls : Array Slot), K x4 S → q_H G A s H locs S → lv_has ls 8 [(0, va_rf (some b)), (1, va_rf (some x1)), (2, va_rf (some x2)), (3, va_rf (some x3)), (4, .int x4)] → W p l e room_1 s m av below meth c H locs (cells + 12) (slots + 183) Q (F0 m 1708 ls [])) : W p l e room_1 s m av below meth c H locs cells slots Q (F0 m 1485 ls []) := by
  unfold pL_c17 at h
  refine q_aload_n X dL_law_1485 rfl (lv_at hl 1 rfl) ?_
  refine q_aload_n X dL_law_1486 rfl (lv_at hl 0 rfl) ?_
  refine lv_iload X.1 X.2.1 dL_law_1487 (lv_at hl 4 rfl) ?_
  refine lv_iconst (v := 1) X.1 X.2.1 dL_law_1489 (by decide) ?_
  refine lv_iadd X.1 X.2.1 dL_law_1490 ?_
  refine va_sld X.1 X.2.1 hX hbl hbA I.2.2 h.1 dL_law_1491 ?_
  have h := h.2
  refine q_aload_n X dL_law_1492 rfl (lv_at hl 3 rfl) ?_
  refine q_cT (n := 3) (hh := [(0, 16, 19, 23)]) (As := [va_rf (some x1), .int (xs (x4 + (1 : Int32)).toNatClampNeg), va_rf (some x3)]) (rest := []) (c1 := cells + 1) (s1 := slots + 6) (d := 8) (mc := 1) (ms := 6) X I hl.1 wd_813 wd_0 ⟨by decide, by decide⟩ (by decide +kernel) wd_812 wd_811 dL_law_1493 rfl (kL_withdraw hl0 h) rfl (Nat.le_of_ble_eq_true rfl) ⟨by decide, by decide⟩ ⟨by show _ ≤ 601024; omega, by show _ ≤ 7293034; omega⟩ rfl rfl (fun v1493 S H locs I h => ?_)
  refine lv_istore (i := 5) (lv' := [(5, .int v1493), (0, va_rf (some b)), (1, va_rf (some x1)), (2, va_rf (some x2)), (3, va_rf (some x3)), (4, .int x4)]) X.1 X.2.1 dL_law_1496 hl (by decide) rfl (fun ls hl => ?_)
  refine q_aload_n X dL_law_1498 rfl (lv_at hl 3 rfl) ?_
  refine q_aload_n X dL_law_1499 rfl (lv_at hl 1 rfl) ?_
  refine lv_iload X.1 X.2.1 dL_law_1500 (lv_at hl 5 rfl) ?_
  refine lv_iconst (v := 1) X.1 X.2.1 dL_law_1502 (by decide) ?_
  refine lv_iadd X.1 X.2.1 dL_law_1503 ?_
  refine va_sld X.1 X.2.1 hX hbl hbA I.2.2 h.1 dL_law_1504 ?_
  have h := h.2
  refine q_cXi (As := [.int (xs (x4 + (1 : Int32)).toNatClampNeg)]) (rest := []) (c1 := cells + 1) (s1 := slots + 6) (d := 2) (mc := 0) (ms := 0) X I hl.1 mX8_withdraw wd_1082 dL_law_1505 rfl h (fun b h => kX8_withdraw hl0 h) rfl (Nat.le_of_ble_eq_true rfl) ⟨by decide, by decide⟩ ⟨by show _ ≤ 601024; omega, by show _ ≤ 7293034; omega⟩ rfl rfl (fun E ce q9 S H locs I h hce hcv hcl => h.elim) (fun v1505 S H locs I h => ?_)
  refine lv_istore (i := 6) (lv' := [(6, .int v1505), (5, .int v1493), (0, va_rf (some b)), (1, va_rf (some x1)), (2, va_rf (some x2)), (3, va_rf (some x3)), (4, .int x4)]) X.1 X.2.1 dL_law_1508 hl (by decide) rfl (fun ls hl => ?_)
  refine q_aload_n X dL_law_1510 rfl (lv_at hl 4 rfl) ?_
  refine q_cXi (As := []) (rest := []) (c1 := cells + 1) (s1 := slots + 6) (d := 1) (mc := 0) (ms := 0) X I hl.1 mX8_thrown wd_939 dL_law_1511 rfl h (fun b h => kX8_thrown hl0 h) rfl (Nat.le_of_ble_eq_true rfl) ⟨by decide, by decide⟩ ⟨by show _ ≤ 601024; omega, by show _ ≤ 7293034; omega⟩ rfl rfl (fun E ce q9 S H locs I h hce hcv hcl => h.elim) (fun v1511 S H locs I h => ?_)
  refine lv_iload X.1 X.2.1 dL_law_1514 (lv_at hl 1 rfl) ?_
  refine lv_icmp_eq (tgt := 1521) X.1 X.2.1 dL_law_1516 (by decide) (fun c1516 => ?_) (fun c1516 => ?_)
  · have h := h.1 c1516
    refine lv_iload X.1 X.2.1 dL_law_1521 (lv_at hl 1 rfl) ?_
    have jn1545 : ∀ (x4 : Int32) (S : qS) (H : Heap) (locs : List Loc) (ls : Array Slot), pL_law_J1545 K xs L g x1 x2 x3 K x4 S → q_H G A s H locs S → lv_has ls 8 [(0, va_rf (some b)), (1, va_rf (some x1)), (2, va_rf (some x2)), (3, va_rf (some x3)), (4, .int x4)] → W p l e room_1 s m av below meth c H locs (cells + 1) (slots + 6) Q (F0 m 1545 ls []) := by
      intro x4 S H locs ls h I hl
      unfold pL_law_J1545 at h
      refine lv_goto (tgt := 1708) X.1 X.2.1 dL_law_1545 (by decide) ?_
      refine W.widen (k := cells + 12) (n := slots + 183) (by omega) (by omega) ?_
      exact kk _ _ _ _ _ h I (lv_sub hl [0, 1, 2, 3, 4] rfl)
    refine lv_if_ne (tgt := 1545) X.1 X.2.1 dL_law_1523 (by decide) (fun c1523 => ?_) (fun c1523 => ?_)
    · have h := h.1 c1523
      exact jn1545 _ _ _ _ _ h I (lv_sub hl [2, 3, 4, 5, 6] rfl)
    · have h := h.2 c1523
      refine q_aload_n X dL_law_1526 rfl (lv_at hl 5 rfl) ?_
      refine lv_iconst (v := 0) X.1 X.2.1 dL_law_1527 (by decide) ?_
      refine q_ldJ X I (by decide) (by decide) dL_law_1528 h (fun v1528 h => ?_)
      refine lv_iload X.1 X.2.1 dL_law_1529 (lv_at hl 0 rfl) ?_
      have jn1539 : ∀ (x4 : Int32) (t0 : Int64) (t1 : Int64) (S : qS) (H : Heap) (locs : List Loc) (ls : Array Slot), pL_law_J1539 K xs L g x1 x2 x3 K x4 t0 t1 S → q_H G A s H locs S → lv_has ls 8 [(0, va_rf (some b)), (1, va_rf (some x1)), (2, va_rf (some x2)), (3, va_rf (some x3)), (4, .int x4)] → W p l e room_1 s m av below meth c H locs (cells + 1) (slots + 6) Q (F0 m 1539 ls [.long t1, .long t0]) := by
        intro x4 t0 t1 S H locs ls h I hl
        unfold pL_law_J1539 at h
        refine W.lcmp X.1 X.2.1 dL_law_1539 ?_
        refine lv_if_eq (tgt := 1545) X.1 X.2.1 dL_law_1540 (by decide) (fun c1540 => ?_) (fun c1540 => ?_)
        · have h := h.1 c1540
          exact jn1545 _ _ _ _ _ h I (lv_sub hl [0, 1, 2, 3, 4] rfl)
        · have h := h.2 c1540
          refine lv_iconst (v := 0) X.1 X.2.1 dL_law_1543 (by decide) ?_
          exact h.elim
      refine lv_if_eq (tgt := 1538) X.1 X.2.1 dL_law_1531 (by decide) (fun c1531 => ?_) (fun c1531 => ?_)
      · have h := h.1 c1531
        refine lv_lconst (v := 0) X.1 X.2.1 dL_law_1538 (by decide) ?_
        exact jn1539 _ _ _ _ _ _ _ h I (lv_sub hl [2, 3, 4, 5, 6] rfl)
      · have h := h.2 c1531
        refine lv_lconst (v := 1) X.1 X.2.1 dL_law_1534 (by decide) ?_
        refine lv_goto (tgt := 1539) X.1 X.2.1 dL_law_1535 (by decide) ?_
        exact jn1539 _ _ _ _ _ _ _ h I (lv_sub hl [2, 3, 4, 5, 6] rfl)
  · have h := h.2 c1516
    refine lv_iconst (v := 0) X.1 X.2.1 dL_law_1519 (by decide) ?_
    exact h.elim


def pL_c18 (xs : Nat → Int32) (L : Nat) (g : Nat × Nat) (x1 x2 x3 : Nat) (K : Int32 → qS → Prop) (x4 : Int32) (S : qS) : Prop :=
  w_at S (some x1) 8 (fun b1549 => pX7_gains b1549  S (fun v1549 S =>
  w_at S (some x2) 9 (fun b1553 => pX8_gains b1553  S (fun v1553 S =>
  ((v1549 = v1553 →
  K x4 S) ∧ (¬ v1549 = v1553 →
  False))) (fun _ _ => False))) (fun _ _ => False))
set_option maxHeartbeats 4000000 in
set_option maxRecDepth 100000 in
theorem kL_c18 {p : Program} {l : Launch} {e : Env} {s : State} {m : MethodId} {av : Array Value} {below : List Frame} {meth : Method} {c : Code} {H : Heap} {locs : List Loc} {ls : Array Slot} {cells slots : Nat} {Q : State → Prop} {G : qG} {A : Nat → Prop} {S : qS} {b L x1 x2 x3 : Nat} {x4 : Int32} {xs : Nat → Int32} {g : Nat × Nat} {K : Int32 → qS → Prop} (hl0 : l.stackTraces = false) (he : G.2.2 = g) (X : q_X p l s m av meth c cL_law RL 8 G A) (hX : va_X b L xs s s.heap) (hbl : b < s.heap.size) (hbA : ¬ A b) (hcs : cells + 12 ≤ 601024 ∧ slots + 183 ≤ 7293034) (I : q_H G A s H locs S) (hl : lv_has ls 8 [(0, va_rf (some b)), (1, va_rf (some x1)), (2, va_rf (some x2)), (3, va_rf (some x3)), (4, .int x4)]) (h : pL_c18 xs L g x1 x2 x3 K x4 S) (kk : ∀ (x4 : Int32) (S : qS) (H : Heap) (locs : List Loc) (ls : Array Slot), K x4 S → q_H G A s H locs S → lv_has ls 8 [(0, va_rf (some b)), (1, va_rf (some x1)), (2, va_rf (some x2)), (3, va_rf (some x3)), (4, .int x4)] → W p l e room_1 s m av below meth c H locs (cells + 12) (slots + 183) Q (F0 m 1708 ls [])) : W p l e room_1 s m av below meth c H locs cells slots Q (F0 m 1548 ls []) := by
  unfold pL_c18 at h
  refine q_aload_n X dL_law_1548 rfl (lv_at hl 1 rfl) ?_
  refine q_cXi (As := []) (rest := []) (c1 := cells + 0) (s1 := slots + 0) (d := 4) (mc := 0) (ms := 0) X I hl.1 mX7_gains wd_129 dL_law_1549 rfl h (fun b h => kX7_gains hl0 h) rfl (Nat.le_of_ble_eq_true rfl) ⟨by decide, by decide⟩ ⟨by show _ ≤ 601024; omega, by show _ ≤ 7293034; omega⟩ rfl rfl (fun E ce q9 S H locs I h hce hcv hcl => h.elim) (fun v1549 S H locs I h => ?_)
  refine q_aload_n X dL_law_1552 rfl (lv_at hl 2 rfl) ?_
  refine q_cXi (As := []) (rest := [.int v1549]) (c1 := cells + 0) (s1 := slots + 0) (d := 11) (mc := 0) (ms := 0) X I hl.1 mX8_gains wd_1086 dL_law_1553 rfl h (fun b h => kX8_gains hl0 h) rfl (Nat.le_of_ble_eq_true rfl) ⟨by decide, by decide⟩ ⟨by show _ ≤ 601024; omega, by show _ ≤ 7293034; omega⟩ rfl rfl (fun E ce q9 S H locs I h hce hcv hcl => h.elim) (fun v1553 S H locs I h => ?_)
  refine lv_icmp_eq (tgt := 1708) X.1 X.2.1 dL_law_1556 (by decide) (fun c1556 => ?_) (fun c1556 => ?_)
  · have h := h.1 c1556
    refine W.widen (k := cells + 12) (n := slots + 183) (by omega) (by omega) ?_
    exact kk _ _ _ _ _ h I (lv_sub hl [0, 1, 2, 3, 4] rfl)
  · have h := h.2 c1556
    refine lv_iconst (v := 0) X.1 X.2.1 dL_law_1559 (by decide) ?_
    exact h.elim


def pL_c19 (xs : Nat → Int32) (L : Nat) (g : Nat × Nat) (x1 x2 x3 : Nat) (K : Int32 → qS → Prop) (x4 : Int32) (S : qS) : Prop :=
  (vp_in (x4 + (1 : Int32)) L ∧
  (vp_in (x4 + (2 : Int32)) L ∧
  pL_times (some x1) (xs (x4 + (1 : Int32)).toNatClampNeg) (xs (x4 + (2 : Int32)).toNatClampNeg) S (fun v1574 S =>
  (vp_in (x4 + (1 : Int32)) L ∧
  (vp_in (x4 + (2 : Int32)) L ∧
  w_at S (some x2) 9 (fun b1592 => pX8_times b1592 (xs (x4 + (1 : Int32)).toNatClampNeg) (xs (x4 + (2 : Int32)).toNatClampNeg) S (fun S =>
  w_at S (some x2) 9 (fun b1596 => pX8_thrown b1596  S (fun v1596 S =>
  ((v1596 = v1574 →
  K x4 S) ∧ (¬ v1596 = v1574 →
  False))) (fun _ _ => False))) (fun _ _ => False)))))))
set_option maxHeartbeats 4000000 in
set_option maxRecDepth 100000 in
theorem kL_c19 {p : Program} {l : Launch} {e : Env} {s : State} {m : MethodId} {av : Array Value} {below : List Frame} {meth : Method} {c : Code} {H : Heap} {locs : List Loc} {ls : Array Slot} {cells slots : Nat} {Q : State → Prop} {G : qG} {A : Nat → Prop} {S : qS} {b L x1 x2 x3 : Nat} {x4 : Int32} {xs : Nat → Int32} {g : Nat × Nat} {K : Int32 → qS → Prop} (hl0 : l.stackTraces = false) (he : G.2.2 = g) (X : q_X p l s m av meth c cL_law RL 8 G A) (hX : va_X b L xs s s.heap) (hbl : b < s.heap.size) (hbA : ¬ A b) (hcs : cells + 12 ≤ 601024 ∧ slots + 183 ≤ 7293034) (I : q_H G A s H locs S) (hl : lv_has ls 8 [(0, va_rf (some b)), (1, va_rf (some x1)), (2, va_rf (some x2)), (3, va_rf (some x3)), (4, .int x4)]) (h : pL_c19 xs L g x1 x2 x3 K x4 S) (kk : ∀ (x4 : Int32) (S : qS) (H : Heap) (locs : List Loc) (ls : Array Slot), K x4 S → q_H G A s H locs S → lv_has ls 8 [(0, va_rf (some b)), (1, va_rf (some x1)), (2, va_rf (some x2)), (3, va_rf (some x3)), (4, .int x4)] → W p l e room_1 s m av below meth c H locs (cells + 12) (slots + 183) Q (F0 m 1708 ls [])) : W p l e room_1 s m av below meth c H locs cells slots Q (F0 m 1561 ls []) := by
  unfold pL_c19 at h
  refine q_aload_n X dL_law_1561 rfl (lv_at hl 1 rfl) ?_
  refine q_aload_n X dL_law_1562 rfl (lv_at hl 0 rfl) ?_
  refine lv_iload X.1 X.2.1 dL_law_1563 (lv_at hl 4 rfl) ?_
  refine lv_iconst (v := 1) X.1 X.2.1 dL_law_1565 (by decide) ?_
  refine lv_iadd X.1 X.2.1 dL_law_1566 ?_
  refine va_sld X.1 X.2.1 hX hbl hbA I.2.2 h.1 dL_law_1567 ?_
  have h := h.2
  refine q_aload_n X dL_law_1568 rfl (lv_at hl 0 rfl) ?_
  refine lv_iload X.1 X.2.1 dL_law_1569 (lv_at hl 4 rfl) ?_
  refine lv_iconst (v := 2) X.1 X.2.1 dL_law_1571 (by decide) ?_
  refine lv_iadd X.1 X.2.1 dL_law_1572 ?_
  refine va_sld X.1 X.2.1 hX hbl hbA I.2.2 h.1 dL_law_1573 ?_
  have h := h.2
  refine q_cT (n := 3) (hh := [(0, 6, 9, 23), (0, 6, 12, 25)]) (As := [va_rf (some x1), .int (xs (x4 + (1 : Int32)).toNatClampNeg), .int (xs (x4 + (2 : Int32)).toNatClampNeg)]) (rest := []) (c1 := cells + 2) (s1 := slots + 12) (d := 8) (mc := 2) (ms := 12) X I hl.1 wd_820 wd_0 ⟨by decide, by decide⟩ (by decide +kernel) wd_819 wd_818 dL_law_1574 rfl (kL_times hl0 h) rfl (Nat.le_of_ble_eq_true rfl) ⟨by decide, by decide⟩ ⟨by show _ ≤ 601024; omega, by show _ ≤ 7293034; omega⟩ rfl rfl (fun v1574 S H locs I h => ?_)
  refine lv_istore (i := 5) (lv' := [(5, .int v1574), (0, va_rf (some b)), (1, va_rf (some x1)), (2, va_rf (some x2)), (3, va_rf (some x3)), (4, .int x4)]) X.1 X.2.1 dL_law_1577 hl (by decide) rfl (fun ls hl => ?_)
  refine q_aload_n X dL_law_1579 rfl (lv_at hl 3 rfl) ?_
  refine q_aload_n X dL_law_1580 rfl (lv_at hl 1 rfl) ?_
  refine lv_iload X.1 X.2.1 dL_law_1581 (lv_at hl 5 rfl) ?_
  refine lv_iconst (v := 1) X.1 X.2.1 dL_law_1583 (by decide) ?_
  refine lv_iadd X.1 X.2.1 dL_law_1584 ?_
  refine va_sld X.1 X.2.1 hX hbl hbA I.2.2 h.1 dL_law_1585 ?_
  have h := h.2
  refine q_aload_n X dL_law_1586 rfl (lv_at hl 1 rfl) ?_
  refine lv_iload X.1 X.2.1 dL_law_1587 (lv_at hl 5 rfl) ?_
  refine lv_iconst (v := 2) X.1 X.2.1 dL_law_1589 (by decide) ?_
  refine lv_iadd X.1 X.2.1 dL_law_1590 ?_
  refine va_sld X.1 X.2.1 hX hbl hbA I.2.2 h.1 dL_law_1591 ?_
  have h := h.2
  refine q_cXv (As := [.int (xs (x4 + (1 : Int32)).toNatClampNeg), .int (xs (x4 + (2 : Int32)).toNatClampNeg)]) (rest := []) (c1 := cells + 2) (s1 := slots + 12) (d := 3) (mc := 0) (ms := 0) X I hl.1 mX8_times wd_1123 dL_law_1592 rfl h (fun b h => kX8_times hl0 h) rfl (Nat.le_of_ble_eq_true rfl) ⟨by decide, by decide⟩ ⟨by show _ ≤ 601024; omega, by show _ ≤ 7293034; omega⟩ rfl rfl (fun E ce q9 S H locs I h hce hcv hcl => h.elim) (fun S H locs I h => ?_)
  refine q_aload_n X dL_law_1595 rfl (lv_at hl 3 rfl) ?_
  refine q_cXi (As := []) (rest := []) (c1 := cells + 2) (s1 := slots + 12) (d := 1) (mc := 0) (ms := 0) X I hl.1 mX8_thrown wd_939 dL_law_1596 rfl h (fun b h => kX8_thrown hl0 h) rfl (Nat.le_of_ble_eq_true rfl) ⟨by decide, by decide⟩ ⟨by show _ ≤ 601024; omega, by show _ ≤ 7293034; omega⟩ rfl rfl (fun E ce q9 S H locs I h hce hcv hcl => h.elim) (fun v1596 S H locs I h => ?_)
  refine lv_iload X.1 X.2.1 dL_law_1599 (lv_at hl 0 rfl) ?_
  refine lv_icmp_eq (tgt := 1606) X.1 X.2.1 dL_law_1601 (by decide) (fun c1601 => ?_) (fun c1601 => ?_)
  · have h := h.1 c1601
    refine lv_goto (tgt := 1708) X.1 X.2.1 dL_law_1606 (by decide) ?_
    refine W.widen (k := cells + 12) (n := slots + 183) (by omega) (by omega) ?_
    exact kk _ _ _ _ _ h I (lv_sub hl [1, 2, 3, 4, 5] rfl)
  · have h := h.2 c1601
    refine lv_iconst (v := 0) X.1 X.2.1 dL_law_1604 (by decide) ?_
    exact h.elim


def pL_c20 (xs : Nat → Int32) (L : Nat) (g : Nat × Nat) (x1 x2 x3 : Nat) (K : Int32 → qS → Prop) (x4 : Int32) (S : qS) : Prop :=
  w_at S (some x1) 8 (fun b1610 => pX7_earns b1610  S (fun v1610 S =>
  w_at S (some x2) 9 (fun b1614 => pX8_earns b1614  S (fun v1614 S =>
  ((v1610 = v1614 →
  K x4 S) ∧ (¬ v1610 = v1614 →
  False))) (fun _ _ => False))) (fun _ _ => False))
set_option maxHeartbeats 4000000 in
set_option maxRecDepth 100000 in
theorem kL_c20 {p : Program} {l : Launch} {e : Env} {s : State} {m : MethodId} {av : Array Value} {below : List Frame} {meth : Method} {c : Code} {H : Heap} {locs : List Loc} {ls : Array Slot} {cells slots : Nat} {Q : State → Prop} {G : qG} {A : Nat → Prop} {S : qS} {b L x1 x2 x3 : Nat} {x4 : Int32} {xs : Nat → Int32} {g : Nat × Nat} {K : Int32 → qS → Prop} (hl0 : l.stackTraces = false) (he : G.2.2 = g) (X : q_X p l s m av meth c cL_law RL 8 G A) (hX : va_X b L xs s s.heap) (hbl : b < s.heap.size) (hbA : ¬ A b) (hcs : cells + 12 ≤ 601024 ∧ slots + 183 ≤ 7293034) (I : q_H G A s H locs S) (hl : lv_has ls 8 [(0, va_rf (some b)), (1, va_rf (some x1)), (2, va_rf (some x2)), (3, va_rf (some x3)), (4, .int x4)]) (h : pL_c20 xs L g x1 x2 x3 K x4 S) (kk : ∀ (x4 : Int32) (S : qS) (H : Heap) (locs : List Loc) (ls : Array Slot), K x4 S → q_H G A s H locs S → lv_has ls 8 [(0, va_rf (some b)), (1, va_rf (some x1)), (2, va_rf (some x2)), (3, va_rf (some x3)), (4, .int x4)] → W p l e room_1 s m av below meth c H locs (cells + 12) (slots + 183) Q (F0 m 1708 ls [])) : W p l e room_1 s m av below meth c H locs cells slots Q (F0 m 1609 ls []) := by
  unfold pL_c20 at h
  refine q_aload_n X dL_law_1609 rfl (lv_at hl 1 rfl) ?_
  refine q_cXi (As := []) (rest := []) (c1 := cells + 0) (s1 := slots + 0) (d := 5) (mc := 0) (ms := 0) X I hl.1 mX7_earns wd_184 dL_law_1610 rfl h (fun b h => kX7_earns hl0 h) rfl (Nat.le_of_ble_eq_true rfl) ⟨by decide, by decide⟩ ⟨by show _ ≤ 601024; omega, by show _ ≤ 7293034; omega⟩ rfl rfl (fun E ce q9 S H locs I h hce hcv hcl => h.elim) (fun v1610 S H locs I h => ?_)
  refine q_aload_n X dL_law_1613 rfl (lv_at hl 2 rfl) ?_
  refine q_cXi (As := []) (rest := [.int v1610]) (c1 := cells + 0) (s1 := slots + 0) (d := 2) (mc := 0) (ms := 0) X I hl.1 mX8_earns wd_1127 dL_law_1614 rfl h (fun b h => kX8_earns hl0 h) rfl (Nat.le_of_ble_eq_true rfl) ⟨by decide, by decide⟩ ⟨by show _ ≤ 601024; omega, by show _ ≤ 7293034; omega⟩ rfl rfl (fun E ce q9 S H locs I h hce hcv hcl => h.elim) (fun v1614 S H locs I h => ?_)
  refine lv_icmp_eq (tgt := 1708) X.1 X.2.1 dL_law_1617 (by decide) (fun c1617 => ?_) (fun c1617 => ?_)
  · have h := h.1 c1617
    refine W.widen (k := cells + 12) (n := slots + 183) (by omega) (by omega) ?_
    exact kk _ _ _ _ _ h I (lv_sub hl [0, 1, 2, 3, 4] rfl)
  · have h := h.2 c1617
    refine lv_iconst (v := 0) X.1 X.2.1 dL_law_1620 (by decide) ?_
    exact h.elim


def pL_c21 (xs : Nat → Int32) (L : Nat) (g : Nat × Nat) (x1 x2 x3 : Nat) (K : Int32 → qS → Prop) (x4 : Int32) (S : qS) : Prop :=
  (vp_in (x4 + (1 : Int32)) L ∧
  (vp_in (x4 + (2 : Int32)) L ∧
  pL_weigh (some x1) (xs (x4 + (1 : Int32)).toNatClampNeg) (xs (x4 + (2 : Int32)).toNatClampNeg) S (fun v1635 S =>
  (vp_in (x4 + (1 : Int32)) L ∧
  (vp_in (x4 + (2 : Int32)) L ∧
  w_at S (some x2) 9 (fun b1653 => pX8_weigh b1653 (xs (x4 + (1 : Int32)).toNatClampNeg) (xs (x4 + (2 : Int32)).toNatClampNeg) S (fun S =>
  w_at S (some x2) 9 (fun b1657 => pX8_thrown b1657  S (fun v1657 S =>
  ((v1657 = v1635 →
  K x4 S) ∧ (¬ v1657 = v1635 →
  False))) (fun _ _ => False))) (fun _ _ => False)))))))
set_option maxHeartbeats 4000000 in
set_option maxRecDepth 100000 in
theorem kL_c21 {p : Program} {l : Launch} {e : Env} {s : State} {m : MethodId} {av : Array Value} {below : List Frame} {meth : Method} {c : Code} {H : Heap} {locs : List Loc} {ls : Array Slot} {cells slots : Nat} {Q : State → Prop} {G : qG} {A : Nat → Prop} {S : qS} {b L x1 x2 x3 : Nat} {x4 : Int32} {xs : Nat → Int32} {g : Nat × Nat} {K : Int32 → qS → Prop} (hl0 : l.stackTraces = false) (he : G.2.2 = g) (X : q_X p l s m av meth c cL_law RL 8 G A) (hX : va_X b L xs s s.heap) (hbl : b < s.heap.size) (hbA : ¬ A b) (hcs : cells + 12 ≤ 601024 ∧ slots + 183 ≤ 7293034) (I : q_H G A s H locs S) (hl : lv_has ls 8 [(0, va_rf (some b)), (1, va_rf (some x1)), (2, va_rf (some x2)), (3, va_rf (some x3)), (4, .int x4)]) (h : pL_c21 xs L g x1 x2 x3 K x4 S) (kk : ∀ (x4 : Int32) (S : qS) (H : Heap) (locs : List Loc) (ls : Array Slot), K x4 S → q_H G A s H locs S → lv_has ls 8 [(0, va_rf (some b)), (1, va_rf (some x1)), (2, va_rf (some x2)), (3, va_rf (some x3)), (4, .int x4)] → W p l e room_1 s m av below meth c H locs (cells + 12) (slots + 183) Q (F0 m 1708 ls [])) : W p l e room_1 s m av below meth c H locs cells slots Q (F0 m 1622 ls []) := by
  unfold pL_c21 at h
  refine q_aload_n X dL_law_1622 rfl (lv_at hl 1 rfl) ?_
  refine q_aload_n X dL_law_1623 rfl (lv_at hl 0 rfl) ?_
  refine lv_iload X.1 X.2.1 dL_law_1624 (lv_at hl 4 rfl) ?_
  refine lv_iconst (v := 1) X.1 X.2.1 dL_law_1626 (by decide) ?_
  refine lv_iadd X.1 X.2.1 dL_law_1627 ?_
  refine va_sld X.1 X.2.1 hX hbl hbA I.2.2 h.1 dL_law_1628 ?_
  have h := h.2
  refine q_aload_n X dL_law_1629 rfl (lv_at hl 0 rfl) ?_
  refine lv_iload X.1 X.2.1 dL_law_1630 (lv_at hl 4 rfl) ?_
  refine lv_iconst (v := 2) X.1 X.2.1 dL_law_1632 (by decide) ?_
  refine lv_iadd X.1 X.2.1 dL_law_1633 ?_
  refine va_sld X.1 X.2.1 hX hbl hbA I.2.2 h.1 dL_law_1634 ?_
  have h := h.2
  refine q_cT (n := 3) (hh := [(0, 6, 9, 23), (0, 6, 12, 25)]) (As := [va_rf (some x1), .int (xs (x4 + (1 : Int32)).toNatClampNeg), .int (xs (x4 + (2 : Int32)).toNatClampNeg)]) (rest := []) (c1 := cells + 2) (s1 := slots + 12) (d := 8) (mc := 2) (ms := 12) X I hl.1 wd_827 wd_0 ⟨by decide, by decide⟩ (by decide +kernel) wd_826 wd_825 dL_law_1635 rfl (kL_weigh hl0 h) rfl (Nat.le_of_ble_eq_true rfl) ⟨by decide, by decide⟩ ⟨by show _ ≤ 601024; omega, by show _ ≤ 7293034; omega⟩ rfl rfl (fun v1635 S H locs I h => ?_)
  refine lv_istore (i := 5) (lv' := [(5, .int v1635), (0, va_rf (some b)), (1, va_rf (some x1)), (2, va_rf (some x2)), (3, va_rf (some x3)), (4, .int x4)]) X.1 X.2.1 dL_law_1638 hl (by decide) rfl (fun ls hl => ?_)
  refine q_aload_n X dL_law_1640 rfl (lv_at hl 3 rfl) ?_
  refine q_aload_n X dL_law_1641 rfl (lv_at hl 1 rfl) ?_
  refine lv_iload X.1 X.2.1 dL_law_1642 (lv_at hl 5 rfl) ?_
  refine lv_iconst (v := 1) X.1 X.2.1 dL_law_1644 (by decide) ?_
  refine lv_iadd X.1 X.2.1 dL_law_1645 ?_
  refine va_sld X.1 X.2.1 hX hbl hbA I.2.2 h.1 dL_law_1646 ?_
  have h := h.2
  refine q_aload_n X dL_law_1647 rfl (lv_at hl 1 rfl) ?_
  refine lv_iload X.1 X.2.1 dL_law_1648 (lv_at hl 5 rfl) ?_
  refine lv_iconst (v := 2) X.1 X.2.1 dL_law_1650 (by decide) ?_
  refine lv_iadd X.1 X.2.1 dL_law_1651 ?_
  refine va_sld X.1 X.2.1 hX hbl hbA I.2.2 h.1 dL_law_1652 ?_
  have h := h.2
  refine q_cXv (As := [.int (xs (x4 + (1 : Int32)).toNatClampNeg), .int (xs (x4 + (2 : Int32)).toNatClampNeg)]) (rest := []) (c1 := cells + 2) (s1 := slots + 12) (d := 3) (mc := 0) (ms := 0) X I hl.1 mX8_weigh wd_1131 dL_law_1653 rfl h (fun b h => kX8_weigh hl0 h) rfl (Nat.le_of_ble_eq_true rfl) ⟨by decide, by decide⟩ ⟨by show _ ≤ 601024; omega, by show _ ≤ 7293034; omega⟩ rfl rfl (fun E ce q9 S H locs I h hce hcv hcl => h.elim) (fun S H locs I h => ?_)
  refine q_aload_n X dL_law_1656 rfl (lv_at hl 3 rfl) ?_
  refine q_cXi (As := []) (rest := []) (c1 := cells + 2) (s1 := slots + 12) (d := 1) (mc := 0) (ms := 0) X I hl.1 mX8_thrown wd_939 dL_law_1657 rfl h (fun b h => kX8_thrown hl0 h) rfl (Nat.le_of_ble_eq_true rfl) ⟨by decide, by decide⟩ ⟨by show _ ≤ 601024; omega, by show _ ≤ 7293034; omega⟩ rfl rfl (fun E ce q9 S H locs I h hce hcv hcl => h.elim) (fun v1657 S H locs I h => ?_)
  refine lv_iload X.1 X.2.1 dL_law_1660 (lv_at hl 0 rfl) ?_
  refine lv_icmp_eq (tgt := 1667) X.1 X.2.1 dL_law_1662 (by decide) (fun c1662 => ?_) (fun c1662 => ?_)
  · have h := h.1 c1662
    refine lv_goto (tgt := 1708) X.1 X.2.1 dL_law_1667 (by decide) ?_
    refine W.widen (k := cells + 12) (n := slots + 183) (by omega) (by omega) ?_
    exact kk _ _ _ _ _ h I (lv_sub hl [1, 2, 3, 4, 5] rfl)
  · have h := h.2 c1662
    refine lv_iconst (v := 0) X.1 X.2.1 dL_law_1665 (by decide) ?_
    exact h.elim


def pL_c22 (xs : Nat → Int32) (L : Nat) (g : Nat × Nat) (x1 x2 x3 : Nat) (K : Int32 → qS → Prop) (x4 : Int32) (S : qS) : Prop :=
  w_at S (some x1) 8 (fun b1671 => pX7_bars b1671  S (fun v1671 S =>
  w_at S (some x2) 9 (fun b1675 => pX8_bars b1675  S (fun v1675 S =>
  ((v1671 = v1675 →
  K x4 S) ∧ (¬ v1671 = v1675 →
  False))) (fun _ _ => False))) (fun _ _ => False))
set_option maxHeartbeats 4000000 in
set_option maxRecDepth 100000 in
theorem kL_c22 {p : Program} {l : Launch} {e : Env} {s : State} {m : MethodId} {av : Array Value} {below : List Frame} {meth : Method} {c : Code} {H : Heap} {locs : List Loc} {ls : Array Slot} {cells slots : Nat} {Q : State → Prop} {G : qG} {A : Nat → Prop} {S : qS} {b L x1 x2 x3 : Nat} {x4 : Int32} {xs : Nat → Int32} {g : Nat × Nat} {K : Int32 → qS → Prop} (hl0 : l.stackTraces = false) (he : G.2.2 = g) (X : q_X p l s m av meth c cL_law RL 8 G A) (hX : va_X b L xs s s.heap) (hbl : b < s.heap.size) (hbA : ¬ A b) (hcs : cells + 12 ≤ 601024 ∧ slots + 183 ≤ 7293034) (I : q_H G A s H locs S) (hl : lv_has ls 8 [(0, va_rf (some b)), (1, va_rf (some x1)), (2, va_rf (some x2)), (3, va_rf (some x3)), (4, .int x4)]) (h : pL_c22 xs L g x1 x2 x3 K x4 S) (kk : ∀ (x4 : Int32) (S : qS) (H : Heap) (locs : List Loc) (ls : Array Slot), K x4 S → q_H G A s H locs S → lv_has ls 8 [(0, va_rf (some b)), (1, va_rf (some x1)), (2, va_rf (some x2)), (3, va_rf (some x3)), (4, .int x4)] → W p l e room_1 s m av below meth c H locs (cells + 12) (slots + 183) Q (F0 m 1708 ls [])) : W p l e room_1 s m av below meth c H locs cells slots Q (F0 m 1670 ls []) := by
  unfold pL_c22 at h
  refine q_aload_n X dL_law_1670 rfl (lv_at hl 1 rfl) ?_
  refine q_cXi (As := []) (rest := []) (c1 := cells + 0) (s1 := slots + 0) (d := 4) (mc := 0) (ms := 0) X I hl.1 mX7_bars wd_193 dL_law_1671 rfl h (fun b h => kX7_bars hl0 h) rfl (Nat.le_of_ble_eq_true rfl) ⟨by decide, by decide⟩ ⟨by show _ ≤ 601024; omega, by show _ ≤ 7293034; omega⟩ rfl rfl (fun E ce q9 S H locs I h hce hcv hcl => h.elim) (fun v1671 S H locs I h => ?_)
  refine q_aload_n X dL_law_1674 rfl (lv_at hl 2 rfl) ?_
  refine q_cXi (As := []) (rest := [.int v1671]) (c1 := cells + 0) (s1 := slots + 0) (d := 2) (mc := 0) (ms := 0) X I hl.1 mX8_bars wd_1135 dL_law_1675 rfl h (fun b h => kX8_bars hl0 h) rfl (Nat.le_of_ble_eq_true rfl) ⟨by decide, by decide⟩ ⟨by show _ ≤ 601024; omega, by show _ ≤ 7293034; omega⟩ rfl rfl (fun E ce q9 S H locs I h hce hcv hcl => h.elim) (fun v1675 S H locs I h => ?_)
  refine lv_icmp_eq (tgt := 1708) X.1 X.2.1 dL_law_1678 (by decide) (fun c1678 => ?_) (fun c1678 => ?_)
  · have h := h.1 c1678
    refine W.widen (k := cells + 12) (n := slots + 183) (by omega) (by omega) ?_
    exact kk _ _ _ _ _ h I (lv_sub hl [0, 1, 2, 3, 4] rfl)
  · have h := h.2 c1678
    refine lv_iconst (v := 0) X.1 X.2.1 dL_law_1681 (by decide) ?_
    exact h.elim


def pL_c23 (xs : Nat → Int32) (L : Nat) (g : Nat × Nat) (x1 x2 x3 : Nat) (K : Int32 → qS → Prop) (x4 : Int32) (S : qS) : Prop :=
  (vp_in (x4 + (1 : Int32)) L ∧
  w_at S (some x1) 8 (fun b1690 => pX7_count b1690 (xs (x4 + (1 : Int32)).toNatClampNeg) S (fun v1690 S =>
  (vp_in (x4 + (1 : Int32)) L ∧
  w_at S (some x2) 9 (fun b1700 => pX8_count b1700 (xs (x4 + (1 : Int32)).toNatClampNeg) S (fun v1700 S =>
  ((v1690 = v1700 →
  K x4 S) ∧ (¬ v1690 = v1700 →
  False))) (fun _ _ => False)))) (fun _ _ => False)))
set_option maxHeartbeats 4000000 in
set_option maxRecDepth 100000 in
theorem kL_c23 {p : Program} {l : Launch} {e : Env} {s : State} {m : MethodId} {av : Array Value} {below : List Frame} {meth : Method} {c : Code} {H : Heap} {locs : List Loc} {ls : Array Slot} {cells slots : Nat} {Q : State → Prop} {G : qG} {A : Nat → Prop} {S : qS} {b L x1 x2 x3 : Nat} {x4 : Int32} {xs : Nat → Int32} {g : Nat × Nat} {K : Int32 → qS → Prop} (hl0 : l.stackTraces = false) (he : G.2.2 = g) (X : q_X p l s m av meth c cL_law RL 8 G A) (hX : va_X b L xs s s.heap) (hbl : b < s.heap.size) (hbA : ¬ A b) (hcs : cells + 12 ≤ 601024 ∧ slots + 183 ≤ 7293034) (I : q_H G A s H locs S) (hl : lv_has ls 8 [(0, va_rf (some b)), (1, va_rf (some x1)), (2, va_rf (some x2)), (3, va_rf (some x3)), (4, .int x4)]) (h : pL_c23 xs L g x1 x2 x3 K x4 S) (kk : ∀ (x4 : Int32) (S : qS) (H : Heap) (locs : List Loc) (ls : Array Slot), K x4 S → q_H G A s H locs S → lv_has ls 8 [(0, va_rf (some b)), (1, va_rf (some x1)), (2, va_rf (some x2)), (3, va_rf (some x3)), (4, .int x4)] → W p l e room_1 s m av below meth c H locs (cells + 12) (slots + 183) Q (F0 m 1708 ls [])) : W p l e room_1 s m av below meth c H locs cells slots Q (F0 m 1683 ls []) := by
  unfold pL_c23 at h
  refine q_aload_n X dL_law_1683 rfl (lv_at hl 1 rfl) ?_
  refine q_aload_n X dL_law_1684 rfl (lv_at hl 0 rfl) ?_
  refine lv_iload X.1 X.2.1 dL_law_1685 (lv_at hl 4 rfl) ?_
  refine lv_iconst (v := 1) X.1 X.2.1 dL_law_1687 (by decide) ?_
  refine lv_iadd X.1 X.2.1 dL_law_1688 ?_
  refine va_sld X.1 X.2.1 hX hbl hbA I.2.2 h.1 dL_law_1689 ?_
  have h := h.2
  refine q_cXi (As := [.int (xs (x4 + (1 : Int32)).toNatClampNeg)]) (rest := []) (c1 := cells + 0) (s1 := slots + 0) (d := 5) (mc := 0) (ms := 0) X I hl.1 mX7_count wd_201 dL_law_1690 rfl h (fun b h => kX7_count hl0 h) rfl (Nat.le_of_ble_eq_true rfl) ⟨by decide, by decide⟩ ⟨by show _ ≤ 601024; omega, by show _ ≤ 7293034; omega⟩ rfl rfl (fun E ce q9 S H locs I h hce hcv hcl => h.elim) (fun v1690 S H locs I h => ?_)
  refine q_aload_n X dL_law_1693 rfl (lv_at hl 2 rfl) ?_
  refine q_aload_n X dL_law_1694 rfl (lv_at hl 0 rfl) ?_
  refine lv_iload X.1 X.2.1 dL_law_1695 (lv_at hl 4 rfl) ?_
  refine lv_iconst (v := 1) X.1 X.2.1 dL_law_1697 (by decide) ?_
  refine lv_iadd X.1 X.2.1 dL_law_1698 ?_
  refine va_sld X.1 X.2.1 hX hbl hbA I.2.2 h.1 dL_law_1699 ?_
  have h := h.2
  refine q_cXi (As := [.int (xs (x4 + (1 : Int32)).toNatClampNeg)]) (rest := [.int v1690]) (c1 := cells + 0) (s1 := slots + 0) (d := 2) (mc := 0) (ms := 0) X I hl.1 mX8_count wd_1139 dL_law_1700 rfl h (fun b h => kX8_count hl0 h) rfl (Nat.le_of_ble_eq_true rfl) ⟨by decide, by decide⟩ ⟨by show _ ≤ 601024; omega, by show _ ≤ 7293034; omega⟩ rfl rfl (fun E ce q9 S H locs I h hce hcv hcl => h.elim) (fun v1700 S H locs I h => ?_)
  refine lv_icmp_eq (tgt := 1708) X.1 X.2.1 dL_law_1703 (by decide) (fun c1703 => ?_) (fun c1703 => ?_)
  · have h := h.1 c1703
    refine W.widen (k := cells + 12) (n := slots + 183) (by omega) (by omega) ?_
    exact kk _ _ _ _ _ h I (lv_sub hl [0, 1, 2, 3, 4] rfl)
  · have h := h.2 c1703
    refine lv_iconst (v := 0) X.1 X.2.1 dL_law_1706 (by decide) ?_
    exact h.elim
