def lw_S0 : qS := ([], fun _ => 0, fun _ _ => 0, fun _ _ => 0, fun _ _ => none, fun _ => 0, fun _ _ _ => 0, fun _ _ _ => 0, fun _ _ _ => none)
set_option maxHeartbeats 4000000 in
set_option maxRecDepth 100000 in
theorem whole_of {V : Nat × Nat → Nat → Nat → Nat → Nat → qS → Prop} (hV : lw_V V) {p : Program} {e : Env} {s : State} {m : MethodId} {below : List Frame} {meth : Method} {c : Code} (l : Launch) (hl0 : l.stackTraces = false) {b L : Nat} {xs : Nat → Int32} (hL : L ≤ 4608) (C0 : lw_At p s m meth c b L xs) : W p l e room_1 s m #[Value.ref b] below meth c s.heap [] 0 0 (lw_Z below #[Value.ref b] s) (entryFrame m ([Value.ref b] : List Value).toArray 8) := by
  obtain ⟨hx, hb, hr, hml, hown, hts, hX, hbl, hlocks, hgv⟩ := C0
  obtain ⟨G, hE⟩ := lw_env hts hgv
  have X : q_X p l s m #[Value.ref b] meth c cL_law RL 8 G (fun q => s.heap.size ≤ q) := ⟨hx, hb, hown, fun w hw => hts w (List.mem_filter.mp hw).1, hml, hlocks, hl0, fun _ h => h, hE⟩
  have I : q_H G (fun q => s.heap.size ≤ q) s s.heap [] lw_S0 := ⟨fun k q h => by simp [q_w, va_pl, lw_S0, qL] at h, ⟨fun i j p q h => by simp [q_w, va_pl, lw_S0, qL] at h, fun k q h => by simp [q_w, va_pl, lw_S0, qL] at h⟩, va_S.rf⟩
  have h := (hV G.2.2).1 lw_S0 rfl
  have hl := lv_entry ([Value.ref b]) (n := 8) (Nat.le_of_ble_eq_true rfl)
  rw [lg_entry_eq]
  generalize (lg_sl ([Value.ref b]) ++ List.replicate (8 - (lg_sl ([Value.ref b])).length) Slot.unset).toArray = ls at hl ⊢
  have hl : lv_has ls 8 [(0, va_rf (some b))] := hl
  have he : G.2.2 = G.2.2 := rfl
  refine q_new (ci := 8) (c1 := 1) (s1 := 10) X I rfl inb_TX7 tyX7_ok dv_TX7 wd_26 wd_27 wd_1 ⟨by decide, by decide⟩ rfl rfl dL_law_0 h (fun x1 S H I h => ?_)
  refine lv_dup X.1 X.2.1 dL_law_3 (q_cat _) ?_
  refine q_cI (As := []) (rest := [va_rf (some x1)]) (c1 := 18) (s1 := 109) (d := 6) (mc := 17) (ms := 99) X I hl.1 mX7_init.1 mX7_init.2 rfl wd_28 dL_law_4 rfl (kX7_init hl0 he h) rfl (Nat.le_of_ble_eq_true rfl) ⟨by decide, by decide⟩ ⟨by decide, by decide⟩ rfl rfl (fun S H locs I h => ?_)
  refine q_astore_n (i := 1) (lv' := [(1, va_rf (some x1)), (0, va_rf (some b))]) X dL_law_7 rfl hl (by decide) rfl (fun ls hl => ?_)
  refine q_new (ci := 9) (c1 := 19) (s1 := 142) X I rfl inb_TX8 tyX8_ok dv_TX8 wd_832 wd_833 wd_7 ⟨by decide, by decide⟩ rfl rfl dL_law_8 h (fun x2 S H I h => ?_)
  refine lv_dup X.1 X.2.1 dL_law_11 (q_cat _) ?_
  refine q_cI (As := []) (rest := [va_rf (some x2)]) (c1 := 44) (s1 := 3734) (d := 2) (mc := 25) (ms := 3592) X I hl.1 mX8_init.1 mX8_init.2 rfl wd_834 dL_law_12 rfl (kX8_init hl0 h) rfl (Nat.le_of_ble_eq_true rfl) ⟨by decide, by decide⟩ ⟨by decide, by decide⟩ rfl rfl (fun S H locs I h => ?_)
  refine q_astore_n (i := 2) (lv' := [(2, va_rf (some x2)), (1, va_rf (some x1)), (0, va_rf (some b))]) X dL_law_15 rfl hl (by decide) rfl (fun ls hl => ?_)
  refine lv_iconst (v := 1) X.1 X.2.1 dL_law_16 (by decide) ?_
  refine q_newJ (k := 29) (N := 1) (c1 := 45) (s1 := 3735) X I (by decide) (by decide) wd_96 ⟨by decide, by decide, by decide⟩ ⟨by decide, by decide⟩ rfl rfl dL_law_17 h (fun x3 S H I h => ?_)
  refine q_astore_n (i := 3) (lv' := [(3, va_rf (some x3)), (2, va_rf (some x2)), (1, va_rf (some x1)), (0, va_rf (some b))]) X dL_law_19 rfl hl (by decide) rfl (fun ls hl => ?_)
  refine lv_iconst (v := 0) X.1 X.2.1 dL_law_20 (by decide) ?_
  refine lv_istore (i := 4) (lv' := [(4, .int 0), (3, va_rf (some x3)), (2, va_rf (some x2)), (1, va_rf (some x1)), (0, va_rf (some b))]) X.1 X.2.1 dL_law_21 hl (by decide) rfl (fun ls hl => ?_)
  refine W.widen (k := 100 + 12 * 0) (n := 5000 + 183 * 0) (by decide) (by decide) ?_
  exact lw_loop hV hl0 hL X hr hX hbl 512 0 x1 x2 x3 0 S H _ ls (by decide) (by decide) nI_0.symm h I (lv_sub hl [4, 3, 2, 1, 0] rfl)
