/-! player, rule, single, offer: the Model's side, and the law's cases. -/
theorem rv.mono {v : Int32} {m m' : Nat} (h : rv v m) (hm : m ≤ m') : rv v m' := by
  rcases h with e | ⟨j, hj, e⟩
  · exact Or.inl e
  · exact Or.inr ⟨j, by omega, e⟩
section NM
variable {n np nr ns no : Nat} {T : mT} {Q : Int32 → mT → Prop}
theorem ivO_mono {R : Nat → Nat → Int32} {np' ns' : Nat} (h : ivO R np ns no) (h1 : np ≤ np') (h2 : ns ≤ ns') : ivO R np' ns' no := fun i hi => by
  obtain ⟨⟨a, b, ha, hb, hab, r0, r1⟩, a2, a3, a4, a5, a6, a7, a8⟩ := h i hi
  exact ⟨⟨a, b, by omega, by omega, hab, r0, r1⟩, a2, a3, a4, a5, a6.mono h2, a7.mono h2, a8⟩
theorem ivS_mono {R : Nat → Nat → Int32} {t : Int32} {np' : Nat} (h : ivS R t n np ns) (h1 : np ≤ np') : ivS R t n np' ns := ⟨fun i hi => by
  obtain ⟨a1, a2, a3, a4, a5, a6, a7, a8, a9⟩ := h.1 i hi
  exact ⟨a1, a2, a3, a4, a5.mono h1, a6.mono h1, a7, a8, a9⟩, h.2⟩
theorem m_player (h5 : T.1 5 = nI np) (hn : np ≤ 10) (h1 : np = 10 → Q 0 (m_sI (m_sI T 0 0) 0 1)) (h2 : np < 10 → Q (nI np) (m_sI (m_sI T 0 0) 5 (nI (np + 1)))) : tX8_player T Q := by
  show (¬ T.1 5 = 10 → _) ∧ (T.1 5 = 10 → _)
  rw [h5, show (10 : Int32) = nI 10 from rfl, nI_eq (by omega) (by omega)]
  refine ⟨fun z => m_ti0 (ifp rfl ?_), fun z => m_ti1 (ifn one0 (h1 z))⟩
  show Q ((m_sI (m_sI T 0 0) 5 (T.1 5 + 1)).1 5 - 1) (m_sI (m_sI T 0 0) 5 (T.1 5 + 1))
  rw [h5, nI_1]
  show Q (nI (np + 1) - 1) _
  rw [nI_pred]
  exact h2 (by omega)
theorem IV.player (hI : IV n T np nr ns no) (hn : np < 10) : IV (n + 1) (m_sI (m_sI T 0 0) 5 (nI (np + 1))) (np + 1) nr ns no := by
  obtain ⟨w1, w2, w3, w4, w5, w6⟩ := hI.up
  exact ⟨⟨⟨rfl, by omega⟩, w1.2⟩, w2, ⟨w3.1, fun j hj => w3.2.1 j (by omega), fun i hi => w3.2.2 i (by omega)⟩, w4, ivS_mono w5 (by omega), ivO_mono w6 (by omega) (Nat.le_refl _)⟩
theorem m_rule {x : Int32} (hx : x = 0 ∨ x = 1) (h5 : T.1 12 = nI nr) (hn : nr ≤ 10) (h1 : nr = 10 → Q 0 (m_sI (m_sI T 0 0) 0 1)) (h2 : nr < 10 → Q (nI nr) (m_sI (m_sI (m_sA T 9 nr x) 0 0) 12 (nI (nr + 1)))) : tX8_rule x T Q := by
  show (¬ T.1 12 = 10 → _) ∧ (T.1 12 = 10 → _)
  rw [h5, show (10 : Int32) = nI 10 from rfl, nI_eq (by omega) (by omega)]
  refine ⟨fun z => m_ti0 (ifp rfl ?_), fun z => m_ti1 (ifn one0 (h1 z))⟩
  show t_stZ (m_sI T 0 0) 9 (T.1 12) x (fun T => t_getI T 12 fun v41 => t_putI T 12 (v41 + 1) fun T => t_getI T 12 fun v50 => Q (v50 - 1) T)
  rw [h5]
  refine m_stZ hx (show nr < 10 by omega) ?_
  show Q ((m_sI (m_sA (m_sI T 0 0) 9 nr x) 12 (T.1 12 + 1)).1 12 - 1) (m_sI (m_sA (m_sI T 0 0) 9 nr x) 12 (T.1 12 + 1))
  rw [h5, nI_1]
  show Q (nI (nr + 1) - 1) _
  rw [nI_pred]
  exact h2 (by omega)
theorem IV.rule {x : Int32} (hx : x = 0 ∨ x = 1) (hI : IV n T np nr ns no) (hn : nr < 10) : IV (n + 1) (m_sI (m_sI (m_sA T 9 nr x) 0 0) 12 (nI (nr + 1))) np (nr + 1) ns no := by
  obtain ⟨w1, w2, w3, w4, w5, w6⟩ := hI.up
  exact ⟨⟨w1.1, ⟨rfl, by omega⟩, w1.2.2⟩, w2, w3, ⟨w4.1, fun j hj => w4.2.1 j (by omega), w4.2.2.1, fun i hi => w4.2.2.2.1 i (by omega), w4.2.2.2.2.1, fun i => upd_c (P := fun y => y = 0 ∨ y = 1) hx (w4.2.2.2.2.2 i)⟩, w5, w6⟩
theorem e8l : (8 : Int64) = (8 : Int32).toInt64 := i2l_lit (v := 8) (by decide) (by decide)
theorem eMl : (1000000 : Int64) = (1000000 : Int32).toInt64 := i2l_lit (v := 1000000) (by decide) (by decide)
theorem m_single {i : Nat} {b r : Int32} (hb : b = 0 ∨ b = 1) (hI : IV n T np nr ns no) (hi : i < np) (hr1 : ¬ r < 0) (hr2 : r ≤ 8) (h1 : ns = 40 → Q 0 (m_sI (m_sI T 0 0) 0 3)) (h2 : ns < 40 → Q (nI ns) (m_sI (m_sI (sgT T ns b r (nI i) (T.1 1)) 0 0) 25 (nI (ns + 1)))) : tX8_single (nI i) b r T Q := by
  have h25 := hI.1.2.2.1
  have hnp := hI.1.1
  refine m_pl (n := np) hnp.1 (by omega) hi (m_ti0 (ifp' rfl (m_in e0l e8l hr1 hr2 (ifn' one0 (m_ti0 (ifp' rfl ?_))))))
  show (¬ T.1 25 = 40 → _) ∧ (T.1 25 = 40 → _)
  rw [h25.1, show (40 : Int32) = nI 40 from rfl, nI_eq (by omega) (by omega)]
  refine ⟨fun z => m_ti0 (ifp rfl ?_), fun z => m_ti1 (ifn one0 (h1 z))⟩
  have hn : ns < 40 := by omega
  have z24 : T.2.1 24 ns = 0 := (hI.2.2.2.2.1.2.1 ns (Nat.le_refl _)).2
  show t_stZ (m_sI (m_sI T 0 0) 25 (T.1 25 + 1)) 16 (T.1 25) b (fun T' => t_stI T' 17 (T.1 25) r (fun T' => t_stI T' 18 (T.1 25) (-1) (fun T' => t_stI T' 19 (T.1 25) (nI i) (fun T' => t_stI T' 20 (T.1 25) (-1) (fun T' => t_stI T' 21 (T.1 25) (-1) (fun T' => tX8_lines (T.1 25) (nI i) T' (fun T' => Q (T.1 25) T')))))))
  rw [h25.1, nI_1]
  refine m_stZ hb (show ns < 40 from hn) (m_st (show ns < 40 from hn) (m_st (show ns < 40 from hn) (m_st (show ns < 40 from hn) (m_st (show ns < 40 from hn) (m_st (show ns < 40 from hn) (m_lines hn ?_ ?_))))))
  · show 0 ≤ (T.2.1 24 ns).toInt
    rw [z24]
    decide
  · have e : linT (m_sA (m_sA (m_sA (m_sA (m_sA (m_sA (m_sI (m_sI T 0 0) 25 (nI (ns + 1))) 16 ns b) 17 ns r) 18 ns (-1)) 19 ns (nI i)) 20 ns (-1)) 21 ns (-1)) ns (nI i) (T.1 1) = m_sI (m_sI (sgT T ns b r (nI i) (T.1 1)) 0 0) 25 (nI (ns + 1)) := by
      unfold linT
      show (if (30 : Int32) ≤ T.2.1 24 ns then _ else m_sA (m_sA (m_sA _ 22 (30 * ns + (T.2.1 24 ns).toNatClampNeg) (nI i)) 23 (30 * ns + (T.2.1 24 ns).toNatClampNeg) (T.1 1)) 24 ns (T.2.1 24 ns + 1)) = _
      rw [z24, if_neg (by decide)]
      rfl
    show Q (nI ns) (linT (m_sA (m_sA (m_sA (m_sA (m_sA (m_sA (m_sI (m_sI T 0 0) 25 (nI (ns + 1))) 16 ns b) 17 ns r) 18 ns (-1)) 19 ns (nI i)) 20 ns (-1)) 21 ns (-1)) ns (nI i) (T.1 1))
    rw [e]
    exact h2 hn
theorem IV.single {i : Nat} {b r : Int32} (hb : b = 0 ∨ b = 1) (hI : IV n T np nr ns no) (hi : i < np) (hr1 : ¬ r < 0) (hr2 : r ≤ 8) (hn : ns < 40) : IV (n + 1) (m_sI (m_sI (sgT T ns b r (nI i) (T.1 1)) 0 0) 25 (nI (ns + 1))) np nr (ns + 1) no := by
  obtain ⟨w1, w2, w3, w4, w5, w6⟩ := hI.up
  obtain ⟨t16, t17, t18, t19, t20, t21, t22, t23, t24⟩ := sgT_r T ns b r (nI i) (T.1 1)
  have hsh := hI.sh
  have hr : bt r 0 8 := bt_of hr1 hr2 (by decide) (by decide)
  refine ⟨⟨w1.1, w1.2.1, ⟨rfl, by omega⟩, w1.2.2.2⟩, w2, w3, w4, ?_, ivO_mono w6 (Nat.le_refl _) (by omega)⟩
  show ivS (sgT T ns b r (nI i) (T.1 1)).2.1 (T.1 1) (n + 1) np (ns + 1)
  have chm : ∀ {f k}, chn (T.2.1 18) f k → chn (upd (T.2.1 18) ns (-1)) f k := fun hc => chn_m (fun k => by
    unfold upd
    split
    · exact Or.inr rfl
    · exact Or.inl rfl) hc
  unfold ivS
  rw [t16, t17, t18, t19, t20, t21, t22, t23, t24, sgT_o (show ¬ (16 ≤ 15 ∧ 15 ≤ 24) by decide)]
  refine ⟨fun k hk => ?_, fun k hk => ⟨(w5.2.1 k (by omega)).1, ?_⟩, fun j hj => ⟨?_, ?_⟩⟩
  · by_cases e : k = ns
    · subst e
      rw [upd_eq, upd_eq, upd_eq, upd_eq, upd_eq, upd_eq, upd_eq, (w5.2.1 k (Nat.le_refl _)).1]
      refine ⟨⟨by decide, by decide⟩, hb, hr, Or.inl rfl, rv_p hi, Or.inl rfl, Or.inl ⟨rfl, rfl⟩, ⟨by decide, ?_⟩, 1, Or.inl upd_eq⟩
      have : (1 : Int32).toInt = 1 := rfl
      omega
    · rw [upd_ne e, upd_ne e, upd_ne e, upd_ne e, upd_ne e, upd_ne e, upd_ne e]
      obtain ⟨a1, a2, a3, a4, a5, a6, a7, a8, f, a9⟩ := w5.1 k (by omega)
      exact ⟨a1, a2, a3, a4.mono (by omega), a5, a6, a7, a8, f, chm a9⟩
  · rw [upd_ne (by omega)]
    exact (w5.2.1 k (by omega)).2
  · rw [upd_ne (by omega)]
    exact (w5.2.2 j (by omega)).1
  · rw [upd_ne (by omega)]
    exact (w5.2.2 j (by omega)).2
end NM
section GN
variable {g : Nat × Nat} {n x1 x2 x3 L : Nat} {xs : Nat → Int32} {S : qS}
theorem gl_player (hn : n < 512) (hL1 : 9 * n + 9 ≤ L) (hL : L ≤ 4608) (h : VV g n x1 x2 x3 S) : pL_c0 xs L g x1 x2 x3 (fun x S => x = nI (9 * n) ∧ VV g (n + 1) x1 x2 x3 S) (nI (9 * n)) S := by
  obtain ⟨A, C, ad, T, np, nr, ns, no, hI, hU, rfl, hM, ho⟩ := h
  have h5 := hI.1.1
  refine hU.at8 (c_player hI hU (fun hn A' C' S' hU' hA hF => outw (ho.cfr hF) ?_) (fun hn => ⟨rfl, ?_⟩))
  · refine mg_at (hM.cfr hF).out (rX8_player (Q := fun b T2 => OK n (np + 1) nr ns no 0 (nI np).toInt64 b.toInt64 T T2) (hM.cfr hF).out (m_player h5.1 h5.2 (fun z => by omega) (fun z => ⟨rfl, fun _ => rfl, ⟨rfl, rfl, fun _ _ => rfl, rfl, rfl⟩, hI.player z⟩)) (fun b T2 S2 hO hM2 hf => tl_i hU' (ag.out _ _ _ _) (ho.cfr hF) hM2 hf hO (fun _ => outv _ _ _) (fun q => ⟨rfl, by rw [← hA]; exact q⟩) (fun _ => rfl)))
  · refine mg_at hM (rX8_player (Q := fun b T2 => OK n np nr ns no 1 0 0 T T2) hM (m_player h5.1 h5.2 (fun z => OK.bad hI one0) (fun z => absurd z hn)) (fun b T2 S2 hO hM2 hf => tl_i hU ag.rf ho hM2 hf hO (fun z => absurd z (by decide)) (fun q => ⟨rfl, q⟩) (fun z => absurd z (by decide))))
theorem gl_rule (hn : n < 512) (hL1 : 9 * n + 9 ≤ L) (hL : L ≤ 4608) (h : VV g n x1 x2 x3 S) : pL_c1 xs L g x1 x2 x3 (fun x S => x = nI (9 * n) ∧ VV g (n + 1) x1 x2 x3 S) (nI (9 * n)) S := by
  obtain ⟨A, C, ad, T, np, nr, ns, no, hI, hU, rfl, hM, ho⟩ := h
  have h5 := hI.1.2.1
  have v1 : vp_in (nI (9 * n) + 1) L := vin (j := 1) (by decide) hL1 hL
  have ok0 : ∀ x, (x = 0 ∨ x = 1) → nr < 10 → tX8_rule x T (fun b T2 => OK n np (nr + 1) ns no 0 (nI nr).toInt64 b.toInt64 (m_sA T 9 nr x) T2) := fun x hx hn => m_rule hx h5.1 h5.2 (fun z => by omega) (fun z => ⟨rfl, fun _ => rfl, ⟨rfl, rfl, fun _ _ => rfl, rfl, rfl⟩, hI.rule hx z⟩)
  have ok1 : ∀ x, (x = 0 ∨ x = 1) → ¬ nr < 10 → tX8_rule x T (fun b T2 => OK n np nr ns no 1 0 0 T T2) := fun x hx hn => m_rule hx h5.1 h5.2 (fun z => OK.bad hI one0) (fun z => absurd z hn)
  by_cases zb : xs (nI (9 * n) + 1).toNatClampNeg = 0
  · refine ⟨v1, ifp zb (hU.at8 (c_rule (Or.inl rfl) hI hU (fun hn A' C' S' hU' hA hF => outw (ho.cfr hF) ⟨v1, ifp zb ?_⟩) (fun hn => ⟨rfl, v1, ifp zb ?_⟩)))⟩
    · exact mg_at (hM.cfr hF).out (rX8_rule (hM.cfr hF).out (ok0 0 (Or.inl rfl) hn) (fun b T2 S2 hO hM2 hf => tl_i hU' (ag.out _ _ _ _) (ho.cfr hF) hM2 hf hO (fun _ => outv _ _ _) (fun q => ⟨rfl, by rw [← hA]; exact q⟩) (fun _ => rfl)))
    · exact mg_at hM (rX8_rule hM (ok1 0 (Or.inl rfl) hn) (fun b T2 S2 hO hM2 hf => tl_i hU ag.rf ho hM2 hf hO (fun z => absurd z (by decide)) (fun q => ⟨rfl, q⟩) (fun z => absurd z (by decide))))
  · refine ⟨v1, ifn zb (hU.at8 (c_rule (Or.inr rfl) hI hU (fun hn A' C' S' hU' hA hF => outw (ho.cfr hF) ⟨v1, ifn zb ?_⟩) (fun hn => ⟨rfl, v1, ifn zb ?_⟩)))⟩
    · exact mg_at (hM.cfr hF).out (rX8_rule (hM.cfr hF).out (ok0 1 (Or.inr rfl) hn) (fun b T2 S2 hO hM2 hf => tl_i hU' (ag.out _ _ _ _) (ho.cfr hF) hM2 hf hO (fun _ => outv _ _ _) (fun q => ⟨rfl, by rw [← hA]; exact q⟩) (fun _ => rfl)))
    · exact mg_at hM (rX8_rule hM (ok1 1 (Or.inr rfl) hn) (fun b T2 S2 hO hM2 hf => tl_i hU ag.rf ho hM2 hf hO (fun z => absurd z (by decide)) (fun q => ⟨rfl, q⟩) (fun z => absurd z (by decide))))
theorem sg_case {A : Nat → Nat → Nat} {C ad : Nat → Nat} {T : mT} {np nr ns no : Nat} {p b r : Int32} {post : Int32 → qS → Prop} (hb : b = 0 ∨ b = 1) (hI : IV n T np nr ns no) (hU : RU g S A C (cN np nr ns no) T) (hM : RM S x2 ad T) (ho : outP S x3) (h : ∀ (k : Int32) (S1 SC : qS) (A' : Nat → Nat → Nat) (C' : Nat → Nat) (T1 : mT) (ns' : Nat) (v : Int64), RU g S1 A' C' (cN np nr ns' no) T1 → A' 8 0 = A 8 0 → ag S1 SC → outP S1 x3 → RM SC x2 ad T → (k = 0 → qAJ SC 29 x3 0 = v) → tX8_single p b r T (fun w T2 => OK n np nr ns' no k v (if k = 0 then w.toInt64 else 0) T1 T2) → post k SC) : pL_single (some (A 8 0)) p b r (some x3) S g post := by
  have h5 := hI.1.1
  rcases okc p (show np ≤ 200 by omega) with ⟨i, hi, rfl⟩ | hno
  · rcases rngc r 0 8 with ⟨h1, h2⟩ | hno
    · refine hU.at8 (c_single hb hI hU hi h1 h2 (fun hn A' C' S' hU' hA hF => outw (ho.cfr hF) ?_) (fun hn => Or.inr (Or.inr ⟨rfl, ?_⟩)))
      · exact h 0 S' _ A' C' _ (ns + 1) (nI ns).toInt64 hU' hA (ag.out _ _ _ _) (ho.cfr hF) (hM.cfr hF).out (fun _ => outv _ _ _) (m_single hb hI hi h1 h2 (fun z => by omega) (fun z => ⟨rfl, fun _ => rfl, ⟨rfl, rfl, fun _ _ => rfl, rfl, rfl⟩, hI.single hb hi h1 h2 z⟩))
      · exact h 3 S S A C T ns 0 hU rfl ag.rf ho hM (fun z => absurd z (by decide)) (m_single hb hI hi h1 h2 (fun z => OK.bad hI (by decide)) (fun z => absurd z hn))
    · refine hU.at8 (hU.at8 (p_pl hU hi h5.2 (p_cr_no hno (Or.inr (Or.inl ⟨rfl, ?_⟩)))))
      exact h 2 S S A C T ns 0 hU rfl ag.rf ho hM (fun z => absurd z (by decide)) (m_pl (n := np) h5.1 (by omega) hi (m_ti0 (ifp' rfl (m_in_no e0l e8l hno (ifp' rfl (m_ti1 (ifn' one0 (OK.bad hI (by decide)))))))))
  · refine hU.at8 (hU.at8 (p_pl_no hU hno h5.2 (Or.inl ⟨rfl, ?_⟩)))
    exact h 1 S S A C T ns 0 hU rfl ag.rf ho hM (fun z => absurd z (by decide)) (m_pl_no (n := np) h5.1 (by omega) hno (m_ti1 (ifn' one0 (OK.bad hI (by decide)))))
theorem gl_single (hn : n < 512) (hL1 : 9 * n + 9 ≤ L) (hL : L ≤ 4608) (h : VV g n x1 x2 x3 S) : pL_c6 xs L g x1 x2 x3 (fun x S => x = nI (9 * n) ∧ VV g (n + 1) x1 x2 x3 S) (nI (9 * n)) S := by
  obtain ⟨A, C, ad, T, np, nr, ns, no, hI, hU, rfl, hM, ho⟩ := h
  have v1 : vp_in (nI (9 * n) + 1) L := vin (j := 1) (by decide) hL1 hL
  have v2 : vp_in (nI (9 * n) + 2) L := vin (j := 2) (by decide) hL1 hL
  have v3 : vp_in (nI (9 * n) + 3) L := vin (j := 3) (by decide) hL1 hL
  by_cases zb : xs (nI (9 * n) + 2).toNatClampNeg = 0
  · refine ⟨v1, v2, ifp zb ⟨v3, sg_case (Or.inl rfl) hI hU hM ho fun k S1 SC A' C' T1 ns' v hU' hA ha ho' hM' hv hm => ⟨v1, v2, ifp zb ⟨v3, ?_⟩⟩⟩⟩
    exact mg_at hM' (rX8_single hM' hm (fun b T2 S2 hO hM2 hf => tl_i hU' ha ho' hM2 hf hO hv (fun q => ⟨rfl, by rw [← hA]; exact q⟩) (fun z => (if_pos z).symm)))
  · refine ⟨v1, v2, ifn zb ⟨v3, sg_case (Or.inr rfl) hI hU hM ho fun k S1 SC A' C' T1 ns' v hU' hA ha ho' hM' hv hm => ⟨v1, v2, ifn zb ⟨v3, ?_⟩⟩⟩⟩
    exact mg_at hM' (rX8_single hM' hm (fun b T2 S2 hO hM2 hf => tl_i hU' ha ho' hM2 hf hO hv (fun q => ⟨rfl, by rw [← hA]; exact q⟩) (fun z => (if_pos z).symm)))
end GN
