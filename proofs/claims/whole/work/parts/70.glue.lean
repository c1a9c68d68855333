/-! The law's cases, from the calls' likeness. -/
theorem ag.rf {S : qS} : ag S S := ⟨rfl, rfl, rfl, fun _ _ => rfl, rfl, rfl, fun _ _ => rfl, fun _ _ => rfl, rfl⟩
theorem ag.tr {S S1 S2 : qS} (h : ag S S1) (k : ag S1 S2) : ag S S2 := ⟨k.1.trans h.1, k.2.1.trans h.2.1, k.2.2.1.trans h.2.2.1, fun f hf => (k.2.2.2.1 f hf).trans (h.2.2.2.1 f hf), k.2.2.2.2.1.trans h.2.2.2.2.1, k.2.2.2.2.2.1.trans h.2.2.2.2.2.1, fun f hf => (k.2.2.2.2.2.2.1 f hf).trans (h.2.2.2.2.2.2.1 f hf), fun f hf => (k.2.2.2.2.2.2.2.1 f hf).trans (h.2.2.2.2.2.2.2.1 f hf), k.2.2.2.2.2.2.2.2.trans h.2.2.2.2.2.2.2.2⟩
theorem i2l_inj {a b : Int32} (h : a.toInt64 = b.toInt64) : a = b := by
  have := congrArg Int64.toInt h
  rw [Int32.toInt_toInt64, Int32.toInt_toInt64] at this
  exact Int32.toInt_inj.mp this
section GL
variable {g : Nat × Nat} {n x2 x3 np nr ns no : Nat} {S1 SC S2 : qS} {A : Nat → Nat → Nat} {C ad : Nat → Nat} {T1 T2 : mT} {k : Int32} {v b : Int64}
theorem gl_V (hU1 : RU g S1 A C (cN np nr ns no) T1) (ha : ag S1 SC) (ho : outP S1 x3) (hM2 : RM S2 x2 ad T2) (hf : mfr SC S2) (hO : OK n np nr ns no k v b T1 T2) : VV g (n + 1) (A 8 0) x2 x3 S2 := fin hU1 (ha.tr (ag.of hf)) hM2 ho hO.2.2.1 hO.2.2.2
theorem gl_o (hf : mfr SC S2) {v : Int64} (hv : qAJ SC 29 x3 0 = v) : qAJ S2 29 x3 0 = v := by
  rw [hf.2.2.2.2.2.2.2.1 29 (by decide)]
  exact hv
theorem tl_i (hU1 : RU g S1 A C (cN np nr ns no) T1) (ha : ag S1 SC) (ho : outP S1 x3) (hM2 : RM S2 x2 ad T2) (hf : mfr SC S2) (hO : OK n np nr ns no k v b T1 T2) (hv : k = 0 → qAJ SC 29 x3 0 = v) {J : qS → Prop} (hJ : VV g (n + 1) (A 8 0) x2 x3 S2 → J S2) {b' : Int64} (hb : k = 0 → b' = b) : w_at S2 (some x2) 9 (fun b => pX8_thrown b S2 (fun w S => ((w = k → ((¬ k = 0 → J S) ∧ (k = 0 → w_ldJ S (some x3) 29 (0 : Int32) (fun y => (((lg_cmp y b') = 0 → J S) ∧ (¬ (lg_cmp y b') = 0 → False)))))) ∧ (¬ w = k → False))) (fun _ _ => False)) := by
  have hV := hJ (gl_V hU1 ha ho hM2 hf hO)
  have ho2 : outP S2 x3 := (ho.ag ha).ag (ag.of hf)
  refine mg_at hM2 (e_thrown hM2 ⟨fun _ => ⟨fun _ => hV, fun z => outr ho2 (gl_o hf (hv z)) ⟨fun _ => hV, fun q => q ((cmp_eq _ _).mpr ?_)⟩⟩, fun z => z hO.1⟩)
  rw [hb z]
  exact hO.2.1 z
theorem tl_b {w : Int32} {w' : Int32} (hU1 : RU g S1 A C (cN np nr ns no) T1) (ha : ag S1 SC) (ho : outP S1 x3) (hM2 : RM S2 x2 ad T2) (hf : mfr SC S2) (hO : OK n np nr ns no k v b T1 T2) (hw : k = 0 → w = w') (hv : k = 0 → qAJ SC 29 x3 0 = if w = 0 then 0 else 1) {J : qS → Prop} (hJ : VV g (n + 1) (A 8 0) x2 x3 S2 → J S2) : w_at S2 (some x2) 9 (fun b => pX8_thrown b S2 (fun u S => ((u = k → ((¬ k = 0 → J S) ∧ (k = 0 → w_ldJ S (some x3) 29 (0 : Int32) (fun y => ((w' = 0 → (((lg_cmp y (0 : Int64)) = 0 → J S) ∧ (¬ (lg_cmp y (0 : Int64)) = 0 → False))) ∧ (¬ w' = 0 → (((lg_cmp y (1 : Int64)) = 0 → J S) ∧ (¬ (lg_cmp y (1 : Int64)) = 0 → False)))))))) ∧ (¬ u = k → False))) (fun _ _ => False)) := by
  have hV := hJ (gl_V hU1 ha ho hM2 hf hO)
  have ho2 : outP S2 x3 := (ho.ag ha).ag (ag.of hf)
  refine mg_at hM2 (e_thrown hM2 ⟨fun _ => ⟨fun _ => hV, fun z => outr ho2 (gl_o hf (hv z)) ⟨fun q => ⟨fun _ => hV, fun q2 => q2 ((cmp_eq _ _).mpr ?_)⟩, fun q => ⟨fun _ => hV, fun q2 => q2 ((cmp_eq _ _).mpr ?_)⟩⟩⟩, fun z => z hO.1⟩)
  · rw [if_pos ((hw z).trans q)]
  · rw [if_neg (fun y => q ((hw z).symm.trans y))]
theorem tl_v (hU1 : RU g S1 A C (cN np nr ns no) T1) (ho : outP S1 x3) (hM2 : RM S2 x2 ad T2) (hf : mfr S1 S2) (hO : OK n np nr ns no k v b T1 T2) {J : qS → Prop} (hJ : VV g (n + 1) (A 8 0) x2 x3 S2 → J S2) : w_at S2 (some x2) 9 (fun b => pX8_thrown b S2 (fun w S => ((w = k → J S) ∧ (¬ w = k → False))) (fun _ _ => False)) :=
  mg_at hM2 (e_thrown hM2 ⟨fun _ => hJ (gl_V hU1 ag.rf ho hM2 hf hO), fun z => z hO.1⟩)
end GL
section GC
variable {g : Nat × Nat} {n x1 x2 x3 L : Nat} {xs : Nat → Int32} {S : qS}

theorem gl_part (hn : n < 512) (hL1 : 9 * n + 9 ≤ L) (hL : L ≤ 4608) (h : VV g n x1 x2 x3 S) : pL_c2 xs L g x1 x2 x3 (fun x S => x = nI (9 * n) ∧ VV g (n + 1) x1 x2 x3 S) (nI (9 * n)) S := by
  obtain ⟨A, C, ad, T, np, nr, ns, no, hI, hU, rfl, hM, ho⟩ := h
  have v1 : vp_in (nI (9 * n) + 1) L := vin (j := 1) (by decide) hL1 hL
  have v2 : vp_in (nI (9 * n) + 2) L := vin (j := 2) (by decide) hL1 hL
  have v3 : vp_in (nI (9 * n) + 3) L := vin (j := 3) (by decide) hL1 hL
  have v4 : vp_in (nI (9 * n) + 4) L := vin (j := 4) (by decide) hL1 hL
  by_cases zb : xs (nI (9 * n) + 3).toNatClampNeg = 0
  · refine ⟨v1, v2, v3, ifp zb ⟨v4, hU.at8 (rX7_part hU (sim_part hI _ _ 0 _) (fun T1 S1 h hU1 hF => ⟨v1, v2, v3, ifp zb ⟨v4, ?_⟩⟩) (fun E T1 S1 h hU1 hF => ?_))⟩⟩
    · exact mg_at (hM.cfr hF) (rX8_part (hM.cfr hF) h (fun T2 S2 hO hM2 hf => tl_v hU1 (ho.cfr hF) hM2 hf hO (fun q => ⟨rfl, q⟩)))
    · rcases h with ⟨rfl, h⟩ | ⟨rfl, h⟩
      · exact Or.inl ⟨rfl, v1, v2, v3, ifp zb ⟨v4, mg_at (hM.cfr hF) (rX8_part (hM.cfr hF) h (fun T2 S2 hO hM2 hf => tl_v hU1 (ho.cfr hF) hM2 hf hO (fun q => ⟨rfl, q⟩)))⟩⟩
      · exact Or.inr ⟨rfl, v1, v2, v3, ifp zb ⟨v4, mg_at (hM.cfr hF) (rX8_part (hM.cfr hF) h (fun T2 S2 hO hM2 hf => tl_v hU1 (ho.cfr hF) hM2 hf hO (fun q => ⟨rfl, q⟩)))⟩⟩
  · refine ⟨v1, v2, v3, ifn zb ⟨v4, hU.at8 (rX7_part hU (sim_part hI _ _ 1 _) (fun T1 S1 h hU1 hF => ⟨v1, v2, v3, ifn zb ⟨v4, ?_⟩⟩) (fun E T1 S1 h hU1 hF => ?_))⟩⟩
    · exact mg_at (hM.cfr hF) (rX8_part (hM.cfr hF) h (fun T2 S2 hO hM2 hf => tl_v hU1 (ho.cfr hF) hM2 hf hO (fun q => ⟨rfl, q⟩)))
    · rcases h with ⟨rfl, h⟩ | ⟨rfl, h⟩
      · exact Or.inl ⟨rfl, v1, v2, v3, ifn zb ⟨v4, mg_at (hM.cfr hF) (rX8_part (hM.cfr hF) h (fun T2 S2 hO hM2 hf => tl_v hU1 (ho.cfr hF) hM2 hf hO (fun q => ⟨rfl, q⟩)))⟩⟩
      · exact Or.inr ⟨rfl, v1, v2, v3, ifn zb ⟨v4, mg_at (hM.cfr hF) (rX8_part (hM.cfr hF) h (fun T2 S2 hO hM2 hf => tl_v hU1 (ho.cfr hF) hM2 hf hO (fun q => ⟨rfl, q⟩)))⟩⟩

theorem gl_deed (hn : n < 512) (hL1 : 9 * n + 9 ≤ L) (hL : L ≤ 4608) (h : VV g n x1 x2 x3 S) : pL_c3 xs L g x1 x2 x3 (fun x S => x = nI (9 * n) ∧ VV g (n + 1) x1 x2 x3 S) (nI (9 * n)) S := by
  obtain ⟨A, C, ad, T, np, nr, ns, no, hI, hU, rfl, hM, ho⟩ := h
  have v1 : vp_in (nI (9 * n) + 1) L := vin (j := 1) (by decide) hL1 hL
  have v2 : vp_in (nI (9 * n) + 2) L := vin (j := 2) (by decide) hL1 hL
  have v3 : vp_in (nI (9 * n) + 3) L := vin (j := 3) (by decide) hL1 hL
  have v4 : vp_in (nI (9 * n) + 4) L := vin (j := 4) (by decide) hL1 hL
  refine ⟨v1, v2, v3, v4, hU.at8 (rX7_deed hU (sim_deed hI _ _ _ _) (fun w T1 S1 h hU1 hF => outw (ho.cfr hF) ⟨v1, v2, v3, v4, ?_⟩) (fun E T1 S1 h hU1 hF => ?_))⟩
  · exact mg_at (hM.cfr hF).out (rX8_deed (hM.cfr hF).out h (fun w2 T2 S2 hO hM2 hf => tl_i hU1 (ag.out _ _ _ _) (ho.cfr hF) hM2 hf hO (fun _ => outv _ _ _) (fun q => ⟨rfl, q⟩) (fun _ => rfl)))
  · rcases h with ⟨rfl, h⟩ | ⟨rfl, h⟩
    · exact Or.inl ⟨rfl, v1, v2, v3, v4, mg_at (hM.cfr hF) (rX8_deed (hM.cfr hF) h (fun w2 T2 S2 hO hM2 hf => tl_i hU1 ag.rf (ho.cfr hF) hM2 hf hO (fun z => absurd z (by decide)) (fun q => ⟨rfl, q⟩) (fun z => absurd z (by decide))))⟩
    · exact Or.inr ⟨rfl, v1, v2, v3, v4, mg_at (hM.cfr hF) (rX8_deed (hM.cfr hF) h (fun w2 T2 S2 hO hM2 hf => tl_i hU1 ag.rf (ho.cfr hF) hM2 hf hO (fun z => absurd z (by decide)) (fun q => ⟨rfl, q⟩) (fun z => absurd z (by decide))))⟩

theorem gl_has (hn : n < 512) (hL1 : 9 * n + 9 ≤ L) (hL : L ≤ 4608) (h : VV g n x1 x2 x3 S) : pL_c4 xs L g x1 x2 x3 (fun x S => x = nI (9 * n) ∧ VV g (n + 1) x1 x2 x3 S) (nI (9 * n)) S := by
  obtain ⟨A, C, ad, T, np, nr, ns, no, hI, hU, rfl, hM, ho⟩ := h
  have v1 : vp_in (nI (9 * n) + 1) L := vin (j := 1) (by decide) hL1 hL
  have v2 : vp_in (nI (9 * n) + 2) L := vin (j := 2) (by decide) hL1 hL
  refine ⟨v1, v2, hU.at8 (rX7_has hU (sim_has hI _ _) (fun w T1 S1 h hU1 hF => outw (ho.cfr hF) ⟨v1, v2, ?_⟩) (fun E T1 S1 h hU1 hF => ⟨h.1, v1, v2, ?_⟩))⟩
  · exact mg_at (hM.cfr hF).out (rX8_has (hM.cfr hF).out h (fun w2 T2 S2 hO hM2 hf => tl_i hU1 (ag.out _ _ _ _) (ho.cfr hF) hM2 hf hO (fun _ => outv _ _ _) (fun q => ⟨rfl, q⟩) (fun _ => rfl)))
  · exact mg_at (hM.cfr hF) (rX8_has (hM.cfr hF) h.2 (fun w2 T2 S2 hO hM2 hf => tl_i hU1 ag.rf (ho.cfr hF) hM2 hf hO (fun z => absurd z (by decide)) (fun q => ⟨rfl, q⟩) (fun z => absurd z (by decide))))

theorem gl_sum (hn : n < 512) (hL1 : 9 * n + 9 ≤ L) (hL : L ≤ 4608) (h : VV g n x1 x2 x3 S) : pL_c5 xs L g x1 x2 x3 (fun x S => x = nI (9 * n) ∧ VV g (n + 1) x1 x2 x3 S) (nI (9 * n)) S := by
  obtain ⟨A, C, ad, T, np, nr, ns, no, hI, hU, rfl, hM, ho⟩ := h
  have v1 : vp_in (nI (9 * n) + 1) L := vin (j := 1) (by decide) hL1 hL
  have v2 : vp_in (nI (9 * n) + 2) L := vin (j := 2) (by decide) hL1 hL
  by_cases zb : xs (nI (9 * n) + 2).toNatClampNeg = 0
  · refine ⟨v1, v2, ifp zb (hU.at8 (rX7_sum hU (sim_sum hI _ 0) (fun w T1 S1 h hU1 hF => outw (ho.cfr hF) ⟨v1, v2, ifp zb (?_)⟩) (fun E T1 S1 h hU1 hF => ⟨h.1, v1, v2, ifp zb (?_)⟩)))⟩
    · exact mg_at (hM.cfr hF).out (rX8_sum (hM.cfr hF).out h (fun w2 T2 S2 hO hM2 hf => tl_i hU1 (ag.out _ _ _ _) (ho.cfr hF) hM2 hf hO (fun _ => outv _ _ _) (fun q => ⟨rfl, q⟩) (fun _ => rfl)))
    · exact mg_at (hM.cfr hF) (rX8_sum (hM.cfr hF) h.2 (fun w2 T2 S2 hO hM2 hf => tl_i hU1 ag.rf (ho.cfr hF) hM2 hf hO (fun z => absurd z (by decide)) (fun q => ⟨rfl, q⟩) (fun z => absurd z (by decide))))
  · refine ⟨v1, v2, ifn zb (hU.at8 (rX7_sum hU (sim_sum hI _ 1) (fun w T1 S1 h hU1 hF => outw (ho.cfr hF) ⟨v1, v2, ifn zb (?_)⟩) (fun E T1 S1 h hU1 hF => ⟨h.1, v1, v2, ifn zb (?_)⟩)))⟩
    · exact mg_at (hM.cfr hF).out (rX8_sum (hM.cfr hF).out h (fun w2 T2 S2 hO hM2 hf => tl_i hU1 (ag.out _ _ _ _) (ho.cfr hF) hM2 hf hO (fun _ => outv _ _ _) (fun q => ⟨rfl, q⟩) (fun _ => rfl)))
    · exact mg_at (hM.cfr hF) (rX8_sum (hM.cfr hF) h.2 (fun w2 T2 S2 hO hM2 hf => tl_i hU1 ag.rf (ho.cfr hF) hM2 hf hO (fun z => absurd z (by decide)) (fun q => ⟨rfl, q⟩) (fun z => absurd z (by decide))))

theorem gl_put (hn : n < 512) (hL1 : 9 * n + 9 ≤ L) (hL : L ≤ 4608) (h : VV g n x1 x2 x3 S) : pL_c7 xs L g x1 x2 x3 (fun x S => x = nI (9 * n) ∧ VV g (n + 1) x1 x2 x3 S) (nI (9 * n)) S := by
  obtain ⟨A, C, ad, T, np, nr, ns, no, hI, hU, rfl, hM, ho⟩ := h
  have v1 : vp_in (nI (9 * n) + 1) L := vin (j := 1) (by decide) hL1 hL
  have v2 : vp_in (nI (9 * n) + 2) L := vin (j := 2) (by decide) hL1 hL
  refine ⟨v1, v2, hU.at8 (rX7_put hU (sim_put hI _ _) (fun w T1 S1 h hU1 hF => ⟨fun q => outw (ho.cfr hF) ⟨v1, v2, ?_⟩, fun q => outw (ho.cfr hF) ⟨v1, v2, ?_⟩⟩) (fun E T1 S1 h hU1 hF => ⟨h.1, v1, v2, ?_⟩))⟩
  · exact mg_at (hM.cfr hF).out (rX8_put (hM.cfr hF).out h (fun w2 T2 S2 hO hM2 hf => tl_b (w := w) (w' := w2) hU1 (ag.out _ _ _ _) (ho.cfr hF) hM2 hf hO (fun z => i2l_inj (hO.2.1 z)) (fun _ => (outv _ _ _).trans (if_pos q).symm) (fun q => ⟨rfl, q⟩)))
  · exact mg_at (hM.cfr hF).out (rX8_put (hM.cfr hF).out h (fun w2 T2 S2 hO hM2 hf => tl_b (w := w) (w' := w2) hU1 (ag.out _ _ _ _) (ho.cfr hF) hM2 hf hO (fun z => i2l_inj (hO.2.1 z)) (fun _ => (outv _ _ _).trans (if_neg q).symm) (fun q => ⟨rfl, q⟩)))
  · exact mg_at (hM.cfr hF) (rX8_put (hM.cfr hF) h.2 (fun w2 T2 S2 hO hM2 hf => tl_b (w := 0) (w' := w2) hU1 ag.rf (ho.cfr hF) hM2 hf hO (fun z => absurd z (by decide)) (fun z => absurd z (by decide)) (fun q => ⟨rfl, q⟩)))

theorem gl_take (hn : n < 512) (hL1 : 9 * n + 9 ≤ L) (hL : L ≤ 4608) (h : VV g n x1 x2 x3 S) : pL_c8 xs L g x1 x2 x3 (fun x S => x = nI (9 * n) ∧ VV g (n + 1) x1 x2 x3 S) (nI (9 * n)) S := by
  obtain ⟨A, C, ad, T, np, nr, ns, no, hI, hU, rfl, hM, ho⟩ := h
  have v1 : vp_in (nI (9 * n) + 1) L := vin (j := 1) (by decide) hL1 hL
  refine ⟨v1, hU.at8 (rX7_take hU (sim_take hI _) (fun w T1 S1 h hU1 hF => ⟨fun q => outw (ho.cfr hF) ⟨v1, ?_⟩, fun q => outw (ho.cfr hF) ⟨v1, ?_⟩⟩) (fun E T1 S1 h hU1 hF => ⟨h.1, v1, ?_⟩))⟩
  · exact mg_at (hM.cfr hF).out (rX8_take (hM.cfr hF).out h (fun w2 T2 S2 hO hM2 hf => tl_b (w := w) (w' := w2) hU1 (ag.out _ _ _ _) (ho.cfr hF) hM2 hf hO (fun z => i2l_inj (hO.2.1 z)) (fun _ => (outv _ _ _).trans (if_pos q).symm) (fun q => ⟨rfl, q⟩)))
  · exact mg_at (hM.cfr hF).out (rX8_take (hM.cfr hF).out h (fun w2 T2 S2 hO hM2 hf => tl_b (w := w) (w' := w2) hU1 (ag.out _ _ _ _) (ho.cfr hF) hM2 hf hO (fun z => i2l_inj (hO.2.1 z)) (fun _ => (outv _ _ _).trans (if_neg q).symm) (fun q => ⟨rfl, q⟩)))
  · exact mg_at (hM.cfr hF) (rX8_take (hM.cfr hF) h.2 (fun w2 T2 S2 hO hM2 hf => tl_b (w := 0) (w' := w2) hU1 ag.rf (ho.cfr hF) hM2 hf hO (fun z => absurd z (by decide)) (fun z => absurd z (by decide)) (fun q => ⟨rfl, q⟩)))

theorem gl_give (hn : n < 512) (hL1 : 9 * n + 9 ≤ L) (hL : L ≤ 4608) (h : VV g n x1 x2 x3 S) : pL_c9 xs L g x1 x2 x3 (fun x S => x = nI (9 * n) ∧ VV g (n + 1) x1 x2 x3 S) (nI (9 * n)) S := by
  obtain ⟨A, C, ad, T, np, nr, ns, no, hI, hU, rfl, hM, ho⟩ := h
  have hn2 : n ≤ 600 := by omega
  have v1 : vp_in (nI (9 * n) + 1) L := vin (j := 1) (by decide) hL1 hL
  have v2 : vp_in (nI (9 * n) + 2) L := vin (j := 2) (by decide) hL1 hL
  refine ⟨v1, v2, hU.at8 (rX7_give hU (sim_give hI hn2 _ _) (fun w T1 S1 h hU1 hF => ⟨fun q => outw (ho.cfr hF) ⟨v1, v2, ?_⟩, fun q => outw (ho.cfr hF) ⟨v1, v2, ?_⟩⟩) (fun E T1 S1 h hU1 hF => ⟨h.1, v1, v2, ?_⟩))⟩
  · exact mg_at (hM.cfr hF).out (rX8_give (hM.cfr hF).out h (fun w2 T2 S2 hO hM2 hf => tl_b (w := w) (w' := w2) hU1 (ag.out _ _ _ _) (ho.cfr hF) hM2 hf hO (fun z => i2l_inj (hO.2.1 z)) (fun _ => (outv _ _ _).trans (if_pos q).symm) (fun q => ⟨rfl, q⟩)))
  · exact mg_at (hM.cfr hF).out (rX8_give (hM.cfr hF).out h (fun w2 T2 S2 hO hM2 hf => tl_b (w := w) (w' := w2) hU1 (ag.out _ _ _ _) (ho.cfr hF) hM2 hf hO (fun z => i2l_inj (hO.2.1 z)) (fun _ => (outv _ _ _).trans (if_neg q).symm) (fun q => ⟨rfl, q⟩)))
  · exact mg_at (hM.cfr hF) (rX8_give (hM.cfr hF) h.2 (fun w2 T2 S2 hO hM2 hf => tl_b (w := 0) (w' := w2) hU1 ag.rf (ho.cfr hF) hM2 hf hO (fun z => absurd z (by decide)) (fun z => absurd z (by decide)) (fun q => ⟨rfl, q⟩)))

theorem gl_lend (hn : n < 512) (hL1 : 9 * n + 9 ≤ L) (hL : L ≤ 4608) (h : VV g n x1 x2 x3 S) : pL_c10 xs L g x1 x2 x3 (fun x S => x = nI (9 * n) ∧ VV g (n + 1) x1 x2 x3 S) (nI (9 * n)) S := by
  obtain ⟨A, C, ad, T, np, nr, ns, no, hI, hU, rfl, hM, ho⟩ := h
  have hn2 : n ≤ 600 := by omega
  have v1 : vp_in (nI (9 * n) + 1) L := vin (j := 1) (by decide) hL1 hL
  have v2 : vp_in (nI (9 * n) + 2) L := vin (j := 2) (by decide) hL1 hL
  have v3 : vp_in (nI (9 * n) + 3) L := vin (j := 3) (by decide) hL1 hL
  refine ⟨v1, v2, v3, hU.at8 (rX7_lend hU (sim_lend hI hn2 _ _ _) (fun w T1 S1 h hU1 hF => ⟨fun q => outw (ho.cfr hF) ⟨v1, v2, v3, ?_⟩, fun q => outw (ho.cfr hF) ⟨v1, v2, v3, ?_⟩⟩) (fun E T1 S1 h hU1 hF => ⟨h.1, v1, v2, v3, ?_⟩))⟩
  · exact mg_at (hM.cfr hF).out (rX8_lend (hM.cfr hF).out h (fun w2 T2 S2 hO hM2 hf => tl_b (w := w) (w' := w2) hU1 (ag.out _ _ _ _) (ho.cfr hF) hM2 hf hO (fun z => i2l_inj (hO.2.1 z)) (fun _ => (outv _ _ _).trans (if_pos q).symm) (fun q => ⟨rfl, q⟩)))
  · exact mg_at (hM.cfr hF).out (rX8_lend (hM.cfr hF).out h (fun w2 T2 S2 hO hM2 hf => tl_b (w := w) (w' := w2) hU1 (ag.out _ _ _ _) (ho.cfr hF) hM2 hf hO (fun z => i2l_inj (hO.2.1 z)) (fun _ => (outv _ _ _).trans (if_neg q).symm) (fun q => ⟨rfl, q⟩)))
  · exact mg_at (hM.cfr hF) (rX8_lend (hM.cfr hF) h.2 (fun w2 T2 S2 hO hM2 hf => tl_b (w := 0) (w' := w2) hU1 ag.rf (ho.cfr hF) hM2 hf hO (fun z => absurd z (by decide)) (fun z => absurd z (by decide)) (fun q => ⟨rfl, q⟩)))

theorem gl_wear (hn : n < 512) (hL1 : 9 * n + 9 ≤ L) (hL : L ≤ 4608) (h : VV g n x1 x2 x3 S) : pL_c11 xs L g x1 x2 x3 (fun x S => x = nI (9 * n) ∧ VV g (n + 1) x1 x2 x3 S) (nI (9 * n)) S := by
  obtain ⟨A, C, ad, T, np, nr, ns, no, hI, hU, rfl, hM, ho⟩ := h
  have v1 : vp_in (nI (9 * n) + 1) L := vin (j := 1) (by decide) hL1 hL
  have v2 : vp_in (nI (9 * n) + 2) L := vin (j := 2) (by decide) hL1 hL
  refine ⟨v1, v2, hU.at8 (rX7_wear hU (sim_wear hI _ _) (fun w T1 S1 h hU1 hF => outw (ho.cfr hF) ⟨v1, v2, ?_⟩) (fun E T1 S1 h hU1 hF => ?_))⟩
  · exact mg_at (hM.cfr hF).out (rX8_wear (hM.cfr hF).out h (fun w2 T2 S2 hO hM2 hf => tl_i hU1 (ag.out _ _ _ _) (ho.cfr hF) hM2 hf hO (fun _ => outv _ _ _) (fun q => ⟨rfl, q⟩) (fun _ => rfl)))
  · rcases h with ⟨rfl, h⟩ | ⟨rfl, h⟩
    · exact Or.inl ⟨rfl, v1, v2, mg_at (hM.cfr hF) (rX8_wear (hM.cfr hF) h (fun w2 T2 S2 hO hM2 hf => tl_i hU1 ag.rf (ho.cfr hF) hM2 hf hO (fun z => absurd z (by decide)) (fun q => ⟨rfl, q⟩) (fun z => absurd z (by decide))))⟩
    · exact Or.inr ⟨rfl, v1, v2, mg_at (hM.cfr hF) (rX8_wear (hM.cfr hF) h (fun w2 T2 S2 hO hM2 hf => tl_i hU1 ag.rf (ho.cfr hF) hM2 hf hO (fun z => absurd z (by decide)) (fun q => ⟨rfl, q⟩) (fun z => absurd z (by decide))))⟩

theorem gl_days (hn : n < 512) (hL1 : 9 * n + 9 ≤ L) (hL : L ≤ 4608) (h : VV g n x1 x2 x3 S) : pL_c12 xs L g x1 x2 x3 (fun x S => x = nI (9 * n) ∧ VV g (n + 1) x1 x2 x3 S) (nI (9 * n)) S := by
  obtain ⟨A, C, ad, T, np, nr, ns, no, hI, hU, rfl, hM, ho⟩ := h
  have hn2 : n ≤ 600 := by omega
  have v1 : vp_in (nI (9 * n) + 1) L := vin (j := 1) (by decide) hL1 hL
  refine ⟨v1, hU.at8 (rX7_days hU (sim_days hI hn2 _) (fun w T1 S1 h hU1 hF => outw (ho.cfr hF) ⟨v1, ?_⟩) (fun E T1 S1 h hU1 hF => ⟨h.1, v1, ?_⟩))⟩
  · exact mg_at (hM.cfr hF).out (rX8_days (hM.cfr hF).out h (fun w2 T2 S2 hO hM2 hf => tl_i hU1 (ag.out _ _ _ _) (ho.cfr hF) hM2 hf hO (fun _ => outv _ _ _) (fun q => ⟨rfl, q⟩) (fun _ => rfl)))
  · exact mg_at (hM.cfr hF) (rX8_days (hM.cfr hF) h.2 (fun w2 T2 S2 hO hM2 hf => tl_i hU1 ag.rf (ho.cfr hF) hM2 hf hO (fun z => absurd z (by decide)) (fun q => ⟨rfl, q⟩) (fun z => absurd z (by decide))))

theorem gl_look (hn : n < 512) (hL1 : 9 * n + 9 ≤ L) (hL : L ≤ 4608) (h : VV g n x1 x2 x3 S) : pL_c13 xs L g x1 x2 x3 (fun x S => x = nI (9 * n) ∧ VV g (n + 1) x1 x2 x3 S) (nI (9 * n)) S := by
  obtain ⟨A, C, ad, T, np, nr, ns, no, hI, hU, rfl, hM, ho⟩ := h
  have v1 : vp_in (nI (9 * n) + 1) L := vin (j := 1) (by decide) hL1 hL
  have v2 : vp_in (nI (9 * n) + 2) L := vin (j := 2) (by decide) hL1 hL
  refine ⟨v1, v2, hU.at8 (rX7_look hU (sim_look hI _ _) (fun w T1 S1 h hU1 hF => outw (ho.cfr hF) ⟨v1, v2, ?_⟩) (fun E T1 S1 h hU1 hF => ?_))⟩
  · exact mg_at (hM.cfr hF).out (rX8_look (hM.cfr hF).out h (fun w2 T2 S2 hO hM2 hf => tl_i hU1 (ag.out _ _ _ _) (ho.cfr hF) hM2 hf hO (fun _ => outv _ _ _) (fun q => ⟨rfl, q⟩) (fun _ => rfl)))
  · rcases h with ⟨rfl, h⟩ | ⟨rfl, h⟩
    · exact Or.inl ⟨rfl, v1, v2, mg_at (hM.cfr hF) (rX8_look (hM.cfr hF) h (fun w2 T2 S2 hO hM2 hf => tl_i hU1 ag.rf (ho.cfr hF) hM2 hf hO (fun z => absurd z (by decide)) (fun q => ⟨rfl, q⟩) (fun z => absurd z (by decide))))⟩
    · exact Or.inr ⟨rfl, v1, v2, mg_at (hM.cfr hF) (rX8_look (hM.cfr hF) h (fun w2 T2 S2 hO hM2 hf => tl_i hU1 ag.rf (ho.cfr hF) hM2 hf hO (fun z => absurd z (by decide)) (fun q => ⟨rfl, q⟩) (fun z => absurd z (by decide))))⟩

theorem gl_line (hn : n < 512) (hL1 : 9 * n + 9 ≤ L) (hL : L ≤ 4608) (h : VV g n x1 x2 x3 S) : pL_c14 xs L g x1 x2 x3 (fun x S => x = nI (9 * n) ∧ VV g (n + 1) x1 x2 x3 S) (nI (9 * n)) S := by
  obtain ⟨A, C, ad, T, np, nr, ns, no, hI, hU, rfl, hM, ho⟩ := h
  have v1 : vp_in (nI (9 * n) + 1) L := vin (j := 1) (by decide) hL1 hL
  have v2 : vp_in (nI (9 * n) + 2) L := vin (j := 2) (by decide) hL1 hL
  have v3 : vp_in (nI (9 * n) + 3) L := vin (j := 3) (by decide) hL1 hL
  by_cases zb : xs (nI (9 * n) + 3).toNatClampNeg = 0
  · refine ⟨v1, v2, v3, ifp zb (hU.at8 (rX7_line hU (sim_line hI _ _ 0) (fun w T1 S1 h hU1 hF => outw (ho.cfr hF) ⟨v1, v2, v3, ifp zb (?_)⟩) (fun E T1 S1 h hU1 hF => ⟨h.1, v1, v2, v3, ifp zb (?_)⟩)))⟩
    · exact mg_at (hM.cfr hF).out (rX8_line (hM.cfr hF).out h (fun w2 T2 S2 hO hM2 hf => tl_i hU1 (ag.out _ _ _ _) (ho.cfr hF) hM2 hf hO (fun _ => outv _ _ _) (fun q => ⟨rfl, q⟩) (fun _ => rfl)))
    · exact mg_at (hM.cfr hF) (rX8_line (hM.cfr hF) h.2 (fun w2 T2 S2 hO hM2 hf => tl_i hU1 ag.rf (ho.cfr hF) hM2 hf hO (fun z => absurd z (by decide)) (fun q => ⟨rfl, q⟩) (fun z => absurd z (by decide))))
  · refine ⟨v1, v2, v3, ifn zb (hU.at8 (rX7_line hU (sim_line hI _ _ 1) (fun w T1 S1 h hU1 hF => outw (ho.cfr hF) ⟨v1, v2, v3, ifn zb (?_)⟩) (fun E T1 S1 h hU1 hF => ⟨h.1, v1, v2, v3, ifn zb (?_)⟩)))⟩
    · exact mg_at (hM.cfr hF).out (rX8_line (hM.cfr hF).out h (fun w2 T2 S2 hO hM2 hf => tl_i hU1 (ag.out _ _ _ _) (ho.cfr hF) hM2 hf hO (fun _ => outv _ _ _) (fun q => ⟨rfl, q⟩) (fun _ => rfl)))
    · exact mg_at (hM.cfr hF) (rX8_line (hM.cfr hF) h.2 (fun w2 T2 S2 hO hM2 hf => tl_i hU1 ag.rf (ho.cfr hF) hM2 hf hO (fun z => absurd z (by decide)) (fun q => ⟨rfl, q⟩) (fun z => absurd z (by decide))))

theorem gl_agree (hn : n < 512) (hL1 : 9 * n + 9 ≤ L) (hL : L ≤ 4608) (h : VV g n x1 x2 x3 S) : pL_c16 xs L g x1 x2 x3 (fun x S => x = nI (9 * n) ∧ VV g (n + 1) x1 x2 x3 S) (nI (9 * n)) S := by
  obtain ⟨A, C, ad, T, np, nr, ns, no, hI, hU, rfl, hM, ho⟩ := h
  have hn2 : n ≤ 600 := by omega
  have v1 : vp_in (nI (9 * n) + 1) L := vin (j := 1) (by decide) hL1 hL
  refine ⟨v1, hU.at8 (rX7_agree hU (sim_agree hI hn2 _) (fun w T1 S1 h hU1 hF => outw (ho.cfr hF) ⟨v1, ?_⟩) (fun E T1 S1 h hU1 hF => ⟨h.1, v1, ?_⟩))⟩
  · exact mg_at (hM.cfr hF).out (rX8_agree (hM.cfr hF).out h (fun w2 T2 S2 hO hM2 hf => tl_i hU1 (ag.out _ _ _ _) (ho.cfr hF) hM2 hf hO (fun _ => outv _ _ _) (fun q => ⟨rfl, q⟩) (fun _ => rfl)))
  · exact mg_at (hM.cfr hF) (rX8_agree (hM.cfr hF) h.2 (fun w2 T2 S2 hO hM2 hf => tl_i hU1 ag.rf (ho.cfr hF) hM2 hf hO (fun z => absurd z (by decide)) (fun q => ⟨rfl, q⟩) (fun z => absurd z (by decide))))

theorem gl_withdraw (hn : n < 512) (hL1 : 9 * n + 9 ≤ L) (hL : L ≤ 4608) (h : VV g n x1 x2 x3 S) : pL_c17 xs L g x1 x2 x3 (fun x S => x = nI (9 * n) ∧ VV g (n + 1) x1 x2 x3 S) (nI (9 * n)) S := by
  obtain ⟨A, C, ad, T, np, nr, ns, no, hI, hU, rfl, hM, ho⟩ := h
  have v1 : vp_in (nI (9 * n) + 1) L := vin (j := 1) (by decide) hL1 hL
  refine ⟨v1, hU.at8 (rX7_withdraw hU (sim_withdraw hI _) (fun w T1 S1 h hU1 hF => ⟨fun q => outw (ho.cfr hF) ⟨v1, ?_⟩, fun q => outw (ho.cfr hF) ⟨v1, ?_⟩⟩) (fun E T1 S1 h hU1 hF => ⟨h.1, v1, ?_⟩))⟩
  · exact mg_at (hM.cfr hF).out (rX8_withdraw (hM.cfr hF).out h (fun w2 T2 S2 hO hM2 hf => tl_b (w := w) (w' := w2) hU1 (ag.out _ _ _ _) (ho.cfr hF) hM2 hf hO (fun z => i2l_inj (hO.2.1 z)) (fun _ => (outv _ _ _).trans (if_pos q).symm) (fun q => ⟨rfl, q⟩)))
  · exact mg_at (hM.cfr hF).out (rX8_withdraw (hM.cfr hF).out h (fun w2 T2 S2 hO hM2 hf => tl_b (w := w) (w' := w2) hU1 (ag.out _ _ _ _) (ho.cfr hF) hM2 hf hO (fun z => i2l_inj (hO.2.1 z)) (fun _ => (outv _ _ _).trans (if_neg q).symm) (fun q => ⟨rfl, q⟩)))
  · exact mg_at (hM.cfr hF) (rX8_withdraw (hM.cfr hF) h.2 (fun w2 T2 S2 hO hM2 hf => tl_b (w := 0) (w' := w2) hU1 ag.rf (ho.cfr hF) hM2 hf hO (fun z => absurd z (by decide)) (fun z => absurd z (by decide)) (fun q => ⟨rfl, q⟩)))

theorem gl_times (hn : n < 512) (hL1 : 9 * n + 9 ≤ L) (hL : L ≤ 4608) (h : VV g n x1 x2 x3 S) : pL_c19 xs L g x1 x2 x3 (fun x S => x = nI (9 * n) ∧ VV g (n + 1) x1 x2 x3 S) (nI (9 * n)) S := by
  obtain ⟨A, C, ad, T, np, nr, ns, no, hI, hU, rfl, hM, ho⟩ := h
  have v1 : vp_in (nI (9 * n) + 1) L := vin (j := 1) (by decide) hL1 hL
  have v2 : vp_in (nI (9 * n) + 2) L := vin (j := 2) (by decide) hL1 hL
  refine ⟨v1, v2, hU.at8 (rX7_times hU (sim_times hI _ _) (fun T1 S1 h hU1 hF => ⟨v1, v2, ?_⟩) (fun E T1 S1 h hU1 hF => ?_))⟩
  · exact mg_at (hM.cfr hF) (rX8_times (hM.cfr hF) h (fun T2 S2 hO hM2 hf => tl_v hU1 (ho.cfr hF) hM2 hf hO (fun q => ⟨rfl, q⟩)))
  · rcases h with ⟨rfl, h⟩ | ⟨rfl, h⟩
    · exact Or.inl ⟨rfl, v1, v2, mg_at (hM.cfr hF) (rX8_times (hM.cfr hF) h (fun T2 S2 hO hM2 hf => tl_v hU1 (ho.cfr hF) hM2 hf hO (fun q => ⟨rfl, q⟩)))⟩
    · exact Or.inr ⟨rfl, v1, v2, mg_at (hM.cfr hF) (rX8_times (hM.cfr hF) h (fun T2 S2 hO hM2 hf => tl_v hU1 (ho.cfr hF) hM2 hf hO (fun q => ⟨rfl, q⟩)))⟩

theorem gl_weigh (hn : n < 512) (hL1 : 9 * n + 9 ≤ L) (hL : L ≤ 4608) (h : VV g n x1 x2 x3 S) : pL_c21 xs L g x1 x2 x3 (fun x S => x = nI (9 * n) ∧ VV g (n + 1) x1 x2 x3 S) (nI (9 * n)) S := by
  obtain ⟨A, C, ad, T, np, nr, ns, no, hI, hU, rfl, hM, ho⟩ := h
  have v1 : vp_in (nI (9 * n) + 1) L := vin (j := 1) (by decide) hL1 hL
  have v2 : vp_in (nI (9 * n) + 2) L := vin (j := 2) (by decide) hL1 hL
  refine ⟨v1, v2, hU.at8 (rX7_weigh hU (sim_weigh hI _ _) (fun T1 S1 h hU1 hF => ⟨v1, v2, ?_⟩) (fun E T1 S1 h hU1 hF => ?_))⟩
  · exact mg_at (hM.cfr hF) (rX8_weigh (hM.cfr hF) h (fun T2 S2 hO hM2 hf => tl_v hU1 (ho.cfr hF) hM2 hf hO (fun q => ⟨rfl, q⟩)))
  · rcases h with ⟨rfl, h⟩ | ⟨rfl, h⟩
    · exact Or.inl ⟨rfl, v1, v2, mg_at (hM.cfr hF) (rX8_weigh (hM.cfr hF) h (fun T2 S2 hO hM2 hf => tl_v hU1 (ho.cfr hF) hM2 hf hO (fun q => ⟨rfl, q⟩)))⟩
    · exact Or.inr ⟨rfl, v1, v2, mg_at (hM.cfr hF) (rX8_weigh (hM.cfr hF) h (fun T2 S2 hO hM2 hf => tl_v hU1 (ho.cfr hF) hM2 hf hO (fun q => ⟨rfl, q⟩)))⟩

theorem gl_gains (hn : n < 512) (hL1 : 9 * n + 9 ≤ L) (hL : L ≤ 4608) (h : VV g n x1 x2 x3 S) : pL_c18 xs L g x1 x2 x3 (fun x S => x = nI (9 * n) ∧ VV g (n + 1) x1 x2 x3 S) (nI (9 * n)) S := by
  obtain ⟨A, C, ad, T, np, nr, ns, no, hI, hU, rfl, hM, ho⟩ := h
  exact hU.at8 (rX7_gains hU (X := fun _ _ => False) (sim_gains hI) (fun w T1 S1 h hU1 hF => mg_at (hM.cfr hF) (rX8_gains (hM.cfr hF) h (fun w2 T2 S2 hO hM2 hf => ⟨fun _ => ⟨rfl, gl_V hU1 ag.rf (ho.cfr hF) hM2 hf hO.2⟩, fun z => z hO.1⟩))) (fun E T1 S1 h hU1 hF => h))

theorem gl_earns (hn : n < 512) (hL1 : 9 * n + 9 ≤ L) (hL : L ≤ 4608) (h : VV g n x1 x2 x3 S) : pL_c20 xs L g x1 x2 x3 (fun x S => x = nI (9 * n) ∧ VV g (n + 1) x1 x2 x3 S) (nI (9 * n)) S := by
  obtain ⟨A, C, ad, T, np, nr, ns, no, hI, hU, rfl, hM, ho⟩ := h
  exact hU.at8 (rX7_earns hU (X := fun _ _ => False) (sim_earns hI) (fun w T1 S1 h hU1 hF => mg_at (hM.cfr hF) (rX8_earns (hM.cfr hF) h (fun w2 T2 S2 hO hM2 hf => ⟨fun _ => ⟨rfl, gl_V hU1 ag.rf (ho.cfr hF) hM2 hf hO.2⟩, fun z => z hO.1⟩))) (fun E T1 S1 h hU1 hF => h))

theorem gl_bars (hn : n < 512) (hL1 : 9 * n + 9 ≤ L) (hL : L ≤ 4608) (h : VV g n x1 x2 x3 S) : pL_c22 xs L g x1 x2 x3 (fun x S => x = nI (9 * n) ∧ VV g (n + 1) x1 x2 x3 S) (nI (9 * n)) S := by
  obtain ⟨A, C, ad, T, np, nr, ns, no, hI, hU, rfl, hM, ho⟩ := h
  exact hU.at8 (rX7_bars hU (X := fun _ _ => False) (sim_bars hI) (fun w T1 S1 h hU1 hF => mg_at (hM.cfr hF) (rX8_bars (hM.cfr hF) h (fun w2 T2 S2 hO hM2 hf => ⟨fun _ => ⟨rfl, gl_V hU1 ag.rf (ho.cfr hF) hM2 hf hO.2⟩, fun z => z hO.1⟩))) (fun E T1 S1 h hU1 hF => h))

theorem gl_count (hn : n < 512) (hL1 : 9 * n + 9 ≤ L) (hL : L ≤ 4608) (h : VV g n x1 x2 x3 S) : pL_c23 xs L g x1 x2 x3 (fun x S => x = nI (9 * n) ∧ VV g (n + 1) x1 x2 x3 S) (nI (9 * n)) S := by
  obtain ⟨A, C, ad, T, np, nr, ns, no, hI, hU, rfl, hM, ho⟩ := h
  have v1 : vp_in (nI (9 * n) + 1) L := vin (j := 1) (by decide) hL1 hL
  exact ⟨v1, hU.at8 (rX7_count hU (X := fun _ _ => False) (sim_count hI _) (fun w T1 S1 h hU1 hF => ⟨v1, mg_at (hM.cfr hF) (rX8_count (hM.cfr hF) h (fun w2 T2 S2 hO hM2 hf => ⟨fun _ => ⟨rfl, gl_V hU1 ag.rf (ho.cfr hF) hM2 hf hO.2⟩, fun z => z hO.1⟩))⟩) (fun E T1 S1 h hU1 hF => h))⟩

end GC
