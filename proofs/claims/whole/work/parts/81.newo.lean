/-! offer: the Model's side, and the law's case. -/
section NO
variable {n np nr ns no : Nat} {T : mT} {Q : Int32 → mT → Prop} {a b m k s m' k' s' : Int32}
theorem e_noKind {x : Int32} {T : mT} (hx : ok x 4 → Q 0 T) (hy : ¬ ok x 4 → Q 1 T) : tX8_noKind x T Q := e_no (n := 4) (J := tX8_noKind_J17) (fun t T h => h) (by decide) hx hy
def ofA (np ns : Nat) (a b k s k' s' : Int32) : Prop := ok a np ∧ ok k 4 ∧ sgl s ns ∧ ok b np ∧ ok k' 4 ∧ sgl s' ns
theorem m_of9 {o : Nat} {w : Int32} (ho : o < 60) (h28 : T.1 28 = nI o) (h : Q (nI o) (m_sI (m_sA (m_sA T 26 (10 * o + 9) w) 27 o 1) 28 (nI (o + 1)))) : tX8_offer_J296 Q (nI (10 * o) + 9) w T := by
  unfold tX8_offer_J296
  rw [show nI (10 * o) + 9 = nI (10 * o + 9) from nI_add _ 9]
  refine m_st (show 10 * o + 9 < 600 by omega) ?_
  show t_stZ (m_sA T 26 (10 * o + 9) w) 27 (T.1 28) 1 (fun T => t_getI T 28 fun v309 => t_putI T 28 (v309 + 1) fun T => t_getI T 28 fun v318 => Q (v318 - 1) T)
  rw [h28]
  refine m_stZ (Or.inr rfl) (show o < 60 from ho) ?_
  show Q ((m_sI (m_sA (m_sA T 26 (10 * o + 9) w) 27 o 1) 28 (T.1 28 + 1)).1 28 - 1) (m_sI (m_sA (m_sA T 26 (10 * o + 9) w) 27 o 1) 28 (T.1 28 + 1))
  rw [h28, nI_1]
  show Q (nI (o + 1) - 1) _
  rw [nI_pred]
  exact h
theorem m_of8 {o : Nat} {w : Int32} (ho : o < 60) (hns : ns ≤ 40) (h28 : T.1 28 = nI o) (hs : sgl s' ns) (h : Q (nI o) (m_sI (m_sA (m_sA (m_sA T 26 (10 * o + 8) w) 26 (10 * o + 9) (wnt T.2.1 s')) 27 o 1) 28 (nI (o + 1)))) : tX8_offer_J270 Q s' (nI (10 * o)) (nI (10 * o) + 8) w T := by
  unfold tX8_offer_J270
  rw [show nI (10 * o) + 8 = nI (10 * o + 8) from nI_add _ 8]
  refine m_st (show 10 * o + 8 < 600 by omega) ?_
  rcases hs with e | e
  · subst e
    have ew : wnt T.2.1 (-1) = 0 := if_pos m1lt
    rw [ew] at h
    exact ifn (by decide) (m_of9 ho h28 h)
  · obtain ⟨t, ht, rfl⟩ := ok_nI e (by omega)
    have ew : wnt T.2.1 (nI t) = T.2.1 15 t := by
      unfold wnt
      rw [if_neg (nInn (by omega)), nI_clamp (by omega)]
    rw [ew] at h
    exact ifp (nI_pos' (by omega)) (m_ld (show t < 40 by omega) (m_of9 ho h28 h))
theorem m_offer (hI : IV n T np nr ns no) (hb : ¬ ofA np ns a b k s k' s' → Q 0 (m_sI (m_sI T 0 0) 0 1)) (hc : ofA np ns a b k s k' s' → (a = b ∨ ¬ (¬ m < 0 ∧ m ≤ 1000000) ∨ ¬ (¬ m' < 0 ∧ m' ≤ 1000000)) → Q 0 (m_sI (m_sI T 0 0) 0 2)) (hd : ofA np ns a b k s k' s' → a ≠ b → (¬ m < 0 ∧ m ≤ 1000000) → (¬ m' < 0 ∧ m' ≤ 1000000) → no = 60 → Q 0 (m_sI (m_sI T 0 0) 0 3)) (he : ofA np ns a b k s k' s' → a ≠ b → (¬ m < 0 ∧ m ≤ 1000000) → (¬ m' < 0 ∧ m' ≤ 1000000) → no < 60 → Q (nI no) (m_sI (m_sI (ofT T no a b m k s m' k' s' (wnt T.2.1 s) (wnt T.2.1 s')) 0 0) 28 (nI (no + 1)))) : tX8_offer a b m k s m' k' s' T Q := by
  have h5 := hI.1.1
  have h25 := hI.1.2.2.1
  have h28 := hI.1.2.2.2
  have bad : ¬ ofA np ns a b k s k' s' → tX8_offer_J67 Q a b m k s m' k' s' (m_sI T 0 0) := fun z => m_ti1 (ifn' one0 (hb z))
  have good : ofA np ns a b k s k' s' → tX8_offer_J71 Q a b m k s m' k' s' (m_sI T 0 0) := fun z => by
    have bad2 : (a = b ∨ ¬ (¬ m < 0 ∧ m ≤ 1000000) ∨ ¬ (¬ m' < 0 ∧ m' ≤ 1000000)) → tX8_offer_J115 Q a b m k s m' k' s' (m_sI T 0 0) := fun y => m_ti1 (ifn' one0 (hc z y))
    refine m_ti0 (ifp' rfl ⟨fun e => bad2 (Or.inl e), fun e => ?_⟩)
    rcases rngc m 0 1000000 with r1 | r1
    · refine m_in e0l eMl r1.1 r1.2 (ifn one0 ?_)
      rcases rngc m' 0 1000000 with r2 | r2
      · refine m_in e0l eMl r2.1 r2.2 (ifn' one0 (m_ti0 (ifp' rfl ?_)))
        show (¬ T.1 28 = 60 → _) ∧ (T.1 28 = 60 → _)
        rw [h28.1, show (60 : Int32) = nI 60 from rfl, nI_eq (by omega) (by omega)]
        refine ⟨fun y => m_ti0 (ifp rfl ?_), fun y => m_ti1 (ifn one0 (hd z e r1 r2 y))⟩
        have hno : no < 60 := by omega
        have L : ∀ x, x < 10 → 10 * no + x < 600 := fun x hx => by omega
        show t_stI (m_sI T 0 0) 26 ((10 : Int32) * T.1 28) a (fun T' => t_stI T' 26 (((10 : Int32) * T.1 28) + 1) b (fun T' => t_stI T' 26 (((10 : Int32) * T.1 28) + 2) m (fun T' => t_stI T' 26 (((10 : Int32) * T.1 28) + 3) k (fun T' => t_stI T' 26 (((10 : Int32) * T.1 28) + 4) s (fun T' => t_stI T' 26 (((10 : Int32) * T.1 28) + 5) m' (fun T' => t_stI T' 26 (((10 : Int32) * T.1 28) + 6) k' (fun T' => t_stI T' 26 (((10 : Int32) * T.1 28) + 7) s' (fun T' => ((0 ≤ s → t_ldI T' 15 s (fun v269 => tX8_offer_J270 Q s' ((10 : Int32) * T.1 28) (((10 : Int32) * T.1 28) + 8) v269 T')) ∧ (¬ 0 ≤ s → tX8_offer_J270 Q s' ((10 : Int32) * T.1 28) (((10 : Int32) * T.1 28) + 8) 0 T'))))))))))
        rw [h28.1, ix10, show nI (10 * no) + 1 = nI (10 * no + 1) from nI_add _ 1, show nI (10 * no) + 2 = nI (10 * no + 2) from nI_add _ 2, show nI (10 * no) + 3 = nI (10 * no + 3) from nI_add _ 3, show nI (10 * no) + 4 = nI (10 * no + 4) from nI_add _ 4, show nI (10 * no) + 5 = nI (10 * no + 5) from nI_add _ 5, show nI (10 * no) + 6 = nI (10 * no + 6) from nI_add _ 6, show nI (10 * no) + 7 = nI (10 * no + 7) from nI_add _ 7]
        refine m_st (L 0 (by decide)) (m_st (L 1 (by decide)) (m_st (L 2 (by decide)) (m_st (L 3 (by decide)) (m_st (L 4 (by decide)) (m_st (L 5 (by decide)) (m_st (L 6 (by decide)) (m_st (L 7 (by decide)) ?_)))))))
        have hq := he z e r1 r2 hno
        rcases z.2.2.1 with es | es
        · have ew : wnt T.2.1 s = 0 := by rw [es]; exact if_pos m1lt
          rw [ew] at hq
          exact ifn (by rw [es]; decide) (m_of8 hno h25.2 h28.1 z.2.2.2.2.2 hq)
        · obtain ⟨t, ht, et⟩ := ok_nI es (by omega)
          have ew : wnt T.2.1 s = T.2.1 15 t := by
            unfold wnt
            rw [et, if_neg (nInn (by omega)), nI_clamp (by omega)]
          rw [ew] at hq
          refine ifp (by rw [et]; exact nI_pos' (by omega)) ?_
          have l : t_ldI (m_sA (m_sA (m_sA (m_sA (m_sA (m_sA (m_sA (m_sA (m_sI T 0 0) 26 (10 * no + 0) a) 26 (10 * no + 1) b) 26 (10 * no + 2) m) 26 (10 * no + 3) k) 26 (10 * no + 4) s) 26 (10 * no + 5) m') 26 (10 * no + 6) k') 26 (10 * no + 7) s') 15 (nI t) (fun v269 => tX8_offer_J270 Q s' (nI (10 * no)) (nI (10 * no) + 8) v269 (m_sA (m_sA (m_sA (m_sA (m_sA (m_sA (m_sA (m_sA (m_sI T 0 0) 26 (10 * no + 0) a) 26 (10 * no + 1) b) 26 (10 * no + 2) m) 26 (10 * no + 3) k) 26 (10 * no + 4) s) 26 (10 * no + 5) m') 26 (10 * no + 6) k') 26 (10 * no + 7) s')) := m_ld (show t < 40 by omega) (m_of8 hno h25.2 h28.1 z.2.2.2.2.2 hq)
          rw [← et] at l
          exact l
      · exact m_in_no e0l eMl r2 (ifp' rfl (bad2 (Or.inr (Or.inr r2))))
    · exact m_in_no e0l eMl r1 (ifp rfl (bad2 (Or.inr (Or.inl r1))))
  have five : ok a np → ok b np → ok k 4 → ok k' 4 → sgl s ns → tX8_offer_J52 Q a b m k s m' k' s' (m_sI T 0 0) := fun za zb zk zk' zs => by
    refine ⟨fun e => good ⟨za, zk, zs, zb, zk', Or.inl e⟩, fun e => e_noSingle h25.1 (by omega) (fun y => ifp rfl (good ⟨za, zk, zs, zb, zk', Or.inr y⟩)) (fun y => ifn one0 (bad fun q => q.2.2.2.2.2.elim e y))⟩
  refine e_noPlayer h5.1 (by omega) (fun za => ifp' rfl (e_noPlayer h5.1 (by omega) (fun zb => ifp' rfl (e_noKind (fun zk => ifp' rfl (e_noKind (fun zk' => ifp' rfl ?_) (fun y => ifn' one0 (bad fun q => y q.2.2.2.2.1)))) (fun y => ifn' one0 (bad fun q => y q.2.1)))) (fun y => ifn' one0 (bad fun q => y q.2.2.2.1)))) (fun y => ifn' one0 (bad fun q => y q.1))
  exact ⟨fun e => five za zb zk zk' (Or.inl e), fun e => e_noSingle h25.1 (by omega) (fun y => ifp' rfl (five za zb zk zk' (Or.inr y))) (fun y => ifn' one0 (bad fun q => q.2.2.1.elim e y))⟩
theorem sgl_rv {x : Int32} (h : sgl x ns) (hns : ns ≤ 40) : rv x ns := by
  rcases h with e | e
  · exact Or.inl e
  · exact Or.inr (ok_nI e (by omega))
theorem IV.offer (hI : IV n T np nr ns no) (hA : ofA np ns a b k s k' s') (hab : a ≠ b) (r1 : ¬ m < 0 ∧ m ≤ 1000000) (r2 : ¬ m' < 0 ∧ m' ≤ 1000000) (hn : no < 60) {w w' : Int32} : IV (n + 1) (m_sI (m_sI (ofT T no a b m k s m' k' s' w w') 0 0) 28 (nI (no + 1))) np nr ns (no + 1) := by
  obtain ⟨w1, w2, w3, w4, w5, w6⟩ := hI.up
  have hns := hI.1.2.2.1.2
  have hnp := hI.1.1.2
  obtain ⟨v0, v1, v2, v3, v4, v5, v6, v7, v8, v9⟩ := ofR_v (T.2.1 26) no a b m k s m' k' s' w w'
  refine ⟨⟨w1.1, w1.2.1, w1.2.2.1, rfl, by omega⟩, w2, w3, w4, w5, fun i hi => ?_⟩
  show (∃ a' b', a' < np ∧ b' < np ∧ a' ≠ b' ∧ ofR (T.2.1 26) no a b m k s m' k' s' w w' (10 * i) = nI a' ∧ ofR (T.2.1 26) no a b m k s m' k' s' w w' (10 * i + 1) = nI b') ∧ bt (ofR (T.2.1 26) no a b m k s m' k' s' w w' (10 * i + 2)) 0 1000000 ∧ bt (ofR (T.2.1 26) no a b m k s m' k' s' w w' (10 * i + 5)) 0 1000000 ∧ (∃ j, j < 4 ∧ ofR (T.2.1 26) no a b m k s m' k' s' w w' (10 * i + 3) = nI j) ∧ (∃ j, j < 4 ∧ ofR (T.2.1 26) no a b m k s m' k' s' w w' (10 * i + 6) = nI j) ∧ rv (ofR (T.2.1 26) no a b m k s m' k' s' w w' (10 * i + 4)) ns ∧ rv (ofR (T.2.1 26) no a b m k s m' k' s' w w' (10 * i + 7)) ns ∧ (upd (T.2.1 27) no 1 i = 0 ∨ upd (T.2.1 27) no 1 i = 1)
  by_cases e : i = no
  · subst e
    rw [v0, v1, v2, v3, v4, v5, v6, v7, upd_eq]
    obtain ⟨za, zk, zs, zb, zk', zs'⟩ := hA
    obtain ⟨ia, ha, rfl⟩ := ok_nI za (by omega)
    obtain ⟨ib, hb, rfl⟩ := ok_nI zb (by omega)
    exact ⟨⟨ia, ib, ha, hb, fun q => hab (by rw [q]), rfl, rfl⟩, bt_of r1.1 r1.2 (by decide) (by decide), bt_of r2.1 r2.2 (by decide) (by decide), ok_nI zk (by decide), ok_nI zk' (by decide), sgl_rv zs hns, sgl_rv zs' hns, Or.inr rfl⟩
  · rw [ofR_o (by omega), ofR_o (by omega), ofR_o (by omega), ofR_o (by omega), ofR_o (by omega), ofR_o (by omega), ofR_o (by omega), ofR_o (by omega), upd_ne e]
    exact w6 i (by omega)
end NO
section GO2
variable {g : Nat × Nat} {n x1 x2 x3 L : Nat} {xs : Nat → Int32} {S : qS}
theorem of_case {A : Nat → Nat → Nat} {C ad : Nat → Nat} {T : mT} {np nr ns no : Nat} {a b m k s m' k' s' : Int32} {post : Int32 → qS → Prop} (hI : IV n T np nr ns no) (hU : RU g S A C (cN np nr ns no) T) (hM : RM S x2 ad T) (ho : outP S x3) (h : ∀ (c : Int32) (S1 SC : qS) (A' : Nat → Nat → Nat) (C' : Nat → Nat) (T1 : mT) (no' : Nat) (v : Int64), RU g S1 A' C' (cN np nr ns no') T1 → A' 8 0 = A 8 0 → ag S1 SC → outP S1 x3 → RM SC x2 ad T → (c = 0 → qAJ SC 29 x3 0 = v) → tX8_offer a b m k s m' k' s' T (fun w T2 => OK n np nr ns no' c v (if c = 0 then w.toInt64 else 0) T1 T2) → post c SC) : pL_offer (some (A 8 0)) a b m k s m' k' s' (some x3) S g post := by
  refine hU.at8 (c_offer hI hU (fun z S' hU' hF => Or.inl ⟨rfl, ?_⟩) (fun z y S' hU' hF => Or.inr (Or.inl ⟨rfl, ?_⟩)) (fun z e r1 r2 hn S' hU' hF => Or.inr (Or.inr ⟨rfl, ?_⟩)) (fun z e r1 r2 hn A' C' S' hU' hA hF => outw (ho.cfr hF) ?_))
  · exact h 1 S' S' A C T no 0 hU' rfl ag.rf (ho.cfr hF) (hM.cfr hF) (fun z => absurd z (by decide)) (m_offer hI (fun _ => OK.bad hI (by decide)) (fun q => absurd q z) (fun q => absurd q z) (fun q => absurd q z))
  · refine h 2 S' S' A C T no 0 hU' rfl ag.rf (ho.cfr hF) (hM.cfr hF) (fun z => absurd z (by decide)) (m_offer hI (fun q => absurd z q) (fun _ _ => OK.bad hI (by decide)) (fun _ q1 q2 q3 _ => ?_) (fun _ q1 q2 q3 _ => ?_))
    · rcases y with y | y | y
      · exact absurd y q1
      · exact absurd q2 y
      · exact absurd q3 y
    · rcases y with y | y | y
      · exact absurd y q1
      · exact absurd q2 y
      · exact absurd q3 y
  · refine h 3 S' S' A C T no 0 hU' rfl ag.rf (ho.cfr hF) (hM.cfr hF) (fun z => absurd z (by decide)) (m_offer hI (fun q => absurd z q) (fun _ y => ?_) (fun _ _ _ _ _ => OK.bad hI (by decide)) (fun _ _ _ _ q => absurd q hn))
    rcases y with y | y | y
    · exact absurd y e
    · exact absurd r1 y
    · exact absurd r2 y
  · refine h 0 S' _ A' C' _ (no + 1) (nI no).toInt64 hU' hA (ag.out _ _ _ _) (ho.cfr hF) (hM.cfr hF).out (fun _ => outv _ _ _) (m_offer hI (fun q => absurd z q) (fun _ y => ?_) (fun _ _ _ _ q => by omega) (fun _ _ _ _ q => ⟨rfl, fun _ => rfl, ⟨rfl, rfl, fun _ _ => rfl, rfl, rfl⟩, hI.offer z e r1 r2 q⟩))
    rcases y with y | y | y
    · exact absurd y e
    · exact absurd r1 y
    · exact absurd r2 y
theorem gl_offer (hn : n < 512) (hL1 : 9 * n + 9 ≤ L) (hL : L ≤ 4608) (h : VV g n x1 x2 x3 S) : pL_c15 xs L g x1 x2 x3 (fun x S => x = nI (9 * n) ∧ VV g (n + 1) x1 x2 x3 S) (nI (9 * n)) S := by
  obtain ⟨A, C, ad, T, np, nr, ns, no, hI, hU, rfl, hM, ho⟩ := h
  have v1 : vp_in (nI (9 * n) + 1) L := vin (j := 1) (by decide) hL1 hL
  have v2 : vp_in (nI (9 * n) + 2) L := vin (j := 2) (by decide) hL1 hL
  have v3 : vp_in (nI (9 * n) + 3) L := vin (j := 3) (by decide) hL1 hL
  have v4 : vp_in (nI (9 * n) + 4) L := vin (j := 4) (by decide) hL1 hL
  have v5 : vp_in (nI (9 * n) + 5) L := vin (j := 5) (by decide) hL1 hL
  have v6 : vp_in (nI (9 * n) + 6) L := vin (j := 6) (by decide) hL1 hL
  have v7 : vp_in (nI (9 * n) + 7) L := vin (j := 7) (by decide) hL1 hL
  have v8 : vp_in (nI (9 * n) + 8) L := vin (j := 8) (by decide) hL1 hL
  refine ⟨v1, v2, v3, v4, v5, v6, v7, v8, of_case hI hU hM ho fun c S1 SC A' C' T1 no' v hU' hA ha ho' hM' hv hm => ⟨v1, v2, v3, v4, v5, v6, v7, v8, ?_⟩⟩
  exact mg_at hM' (rX8_offer hM' hm (fun b T2 S2 hO hM2 hf => tl_i hU' ha ho' hM2 hf hO hv (fun q => ⟨rfl, by rw [← hA]; exact q⟩) (fun z => (if_pos z).symm)))
end GO2
