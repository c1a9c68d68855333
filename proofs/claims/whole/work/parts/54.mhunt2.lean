/-! The Model's hunt over T: all rays of some rules. -/
theorem nI_sub {a b : Nat} (h : b ≤ a) (ha : a < 2 ^ 30) : nI a - nI b = nI (a - b) := by
  apply Int32.toInt_inj.mp
  rw [Int32.toInt_sub, nI_toInt (by omega), nI_toInt (by omega), nI_toInt (by omega), Int.bmod_eq_of_le (by omega) (by omega)]
  omega
theorem ix4z (i : Nat) : (4 : Int32) * nI i = nI (4 * i) := by
  rw [show (4 : Int32) = nI 4 from rfl, pk_mul]
def gw (T T' : mT) : Prop := T'.1 = T.1 ∧ (∀ k, k ≠ 31 → T'.2.1 k = T.2.1 k) ∧ ∀ k, k ≠ 32 → T'.2.2 k = T.2.2 k
def rj (T T' : mT) : Prop := T'.1 = T.1 ∧ T'.2.1 = T.2.1 ∧ ∀ k, k ≠ 32 → T'.2.2 k = T.2.2 k
theorem rj.rfl (T : mT) : rj T T := ⟨Eq.refl _, Eq.refl _, fun _ _ => Eq.refl _⟩
theorem rj.sJ {T T' : mT} {i : Nat} {x : Int64} (h : rj T T') : rj T (m_sJ T' 32 i x) := ⟨h.1, h.2.1, fun k hk => (sJ_n hk).trans (h.2.2 k hk)⟩
theorem gw.rj {T T1 T2 : mT} (h : gw T T1) (h2 : rj T1 T2) : gw T T2 := ⟨h2.1.trans h.1, fun k hk => by rw [h2.2.1]; exact h.2.1 k hk, fun k hk => (h2.2.2 k hk).trans (h.2.2 k hk)⟩
section MB
variable {R : Nat → Nat → Int32} {k : Nat} {s : Nat → Nat} {T : mT}
theorem m_bnd {Q : mT → Prop} (hk : k ≤ 4) (hL : ∀ j, bt (R 7 j) 0 9 ∧ bt (R 8 j) 0 9) (hs : ∀ i, i < k → s i < 10) (hS : SW R k s T) (hq : ∀ T', gw T T' → (∀ c i, c < k + 4 → i < k → (T'.2.1 31 (4 * c + i)).toInt = bd (fun i => Lv R (s i)) k c i) → Q T') : tX8_bounds T Q := by
  obtain ⟨h30, h29, h7, h8⟩ := hS
  have outer : ∀ d c T', c + d = k + 4 → gw T T' → (∀ c' i, c' < c → i < k → (T'.2.1 31 (4 * c' + i)).toInt = bd (fun i => Lv R (s i)) k c' i) → tX8_bounds_L2 Q (d + 1) (nI c) T' := fun d => by
    induction d with
    | zero =>
      intro c T' hc hg he
      show (T'.1 30 + 4 ≤ nI c → _) ∧ (¬ T'.1 30 + 4 ≤ nI c → _)
      rw [hg.1, h30, show nI k + 4 = nI (k + 4) from nI_add k 4]
      exact ifp (nI_le (by omega) (by omega)) (hq T' hg fun c' i h1 h2 => he c' i (by omega) h2)
    | succ d ih =>
      intro c T' hc hg he
      show (T'.1 30 + 4 ≤ nI c → _) ∧ (¬ T'.1 30 + 4 ≤ nI c → _)
      rw [hg.1, h30, show nI k + 4 = nI (k + 4) from nI_add k 4]
      refine ifn (nI_ge (by omega) (by omega)) ?_
      have inner : ∀ e j T2, j + e = k → gw T T2 → (∀ c' i, c' < c → i < k → (T2.2.1 31 (4 * c' + i)).toInt = bd (fun i => Lv R (s i)) k c' i) → (∀ i, i < j → (T2.2.1 31 (4 * c + i)).toInt = bd (fun i => Lv R (s i)) k c i) → tX8_bounds_L14 (tX8_bounds_J75 (tX8_bounds_L2 Q (d + 1)) Q) Q (e + 1) (nI c) (nI j) T2 := fun e => by
        induction e with
        | zero =>
          intro j T2 hj hg2 h1 h2
          unfold tX8_bounds_L14 t_getI
          rw [hg2.1, h30]
          refine ifp (nI_le (by omega) (by omega)) ?_
          show tX8_bounds_L2 Q (d + 1) (nI c + 1) T2
          rw [nI_1]
          refine ih (c + 1) T2 (by omega) hg2 (fun c' i hc' hi => ?_)
          by_cases z : c' = c
          · rw [z]; exact h2 i (by omega)
          · exact h1 c' i (by omega) hi
        | succ e ihe =>
          intro j T2 hj hg2 h1 h2
          unfold tX8_bounds_L14 t_getI
          rw [hg2.1, h30]
          refine ifn (nI_ge (show j < k by omega) (by omega)) ?_
          have st : ∀ x : Int32, x.toInt = bd (fun i => Lv R (s i)) k c j → tX8_bounds_J68 (tX8_bounds_L14 (tX8_bounds_J75 (tX8_bounds_L2 Q (d + 1)) Q) Q (e + 1)) Q (nI c) (nI j) ((4 : Int32) * nI c + nI j) x T2 := fun x hx => by
            unfold tX8_bounds_J68
            rw [ix4, nI_1]
            refine m_st (show 4 * c + j < 32 by omega) ?_
            refine ihe (j + 1) _ (by omega) ⟨hg2.1, fun k' hk' => (sA_n hk').trans (hg2.2.1 k' hk'), hg2.2.2⟩ (fun c' i hc' hi => ?_) (fun i hi => ?_)
            · rw [sA_at, if_neg (by omega)]
              exact h1 c' i hc' hi
            · rw [sA_at]
              by_cases z : i = j
              · rw [if_pos (by omega), z]; exact hx
              · rw [if_neg (by omega)]; exact h2 i (by omega)
          refine ⟨fun z => ?_, fun z => ?_⟩
          · have z : k ≤ c := (nI_leI (by omega) (by omega)).mp z
            refine m_ld (show j < 4 by omega) ?_
            rw [hg2.2.1 29 (by decide), h29 j (by omega)]
            show tX8_leaves (nI (s j)) (nI c - nI k) T2 _
            rw [nI_sub z (by omega)]
            refine m_lv (hs j (by omega)) (show c - k < 4 by omega) (st _ ?_)
            rw [hg2.2.1 7 (by decide), hg2.2.1 8 (by decide), h7, h8, (sub9 (hL _).2 (hL _).1).1]
            unfold bd
            rw [if_neg (by omega)]
            rfl
          · have z : ¬ k ≤ c := fun q => z ((nI_leI (by omega) (by omega)).mpr q)
            rw [nI_eq (by omega) (by omega)]
            refine ⟨fun z2 => st _ ?_, fun z2 => st _ ?_⟩
            · unfold bd
              rw [if_pos (by omega), if_neg z2]
              rfl
            · unfold bd
              rw [if_pos (by omega), if_pos z2]
              rfl
      exact ⟨k + 1, inner k 0 T' (by omega) hg he (fun i hi => by omega)⟩
  exact ⟨k + 5, outer (k + 4) 0 T (by omega) ⟨rfl, fun _ _ => rfl, fun _ _ => rfl⟩ (fun c' i h => by omega)⟩
theorem bd_bd {w : Nat → V4} (hw : ∀ i q, (w i q).natAbs ≤ 9) (k c i : Nat) : (bd w k c i).natAbs ≤ 9 := by
  unfold bd
  split
  · split <;> decide
  · exact hw _ _
theorem tw_bd {w : Nat → V4} (hw : ∀ i q, (w i q).natAbs ≤ 9) (k c d i j : Nat) : (tw w k c d i j).natAbs ≤ 162 := by
  have a := mb (bd_bd hw k c i) (bd_bd hw k d j)
  have b := mb (bd_bd hw k c j) (bd_bd hw k d i)
  unfold tw
  omega
theorem th_bd {w : Nat → V4} (hw : ∀ i q, (w i q).natAbs ≤ 9) (k c d e i j l : Nat) : (th w k c d e i j l).natAbs ≤ 4374 := by
  have a := mb (bd_bd hw k c i) (tw_bd hw k d e j l)
  have b := mb (bd_bd hw k c j) (tw_bd hw k d e i l)
  have c := mb (bd_bd hw k c l) (tw_bd hw k d e i j)
  unfold th
  omega
theorem ry_bd {w : Nat → V4} (hw : ∀ i q, (w i q).natAbs ≤ 9) (k c d e i : Nat) : (ry w k c d e i).natAbs ≤ 10000 := by
  unfold ry
  split
  · decide
  · have a := bd_bd hw 2 c 0
    have b := bd_bd hw 2 c 1
    split <;> omega
  · have a := tw_bd hw 3 c d 1 2
    have b := tw_bd hw 3 c d 0 2
    have e := tw_bd hw 3 c d 0 1
    split
    · omega
    · split <;> omega
  · have a := th_bd hw 4 c d e 1 2 3
    have b := th_bd hw 4 c d e 0 2 3
    have e1 := th_bd hw 4 c d e 0 1 3
    have f := th_bd hw 4 c d e 0 1 2
    split
    · omega
    · split
      · omega
      · split <;> omega
def BD (w : Nat → V4) (k : Nat) (T : mT) : Prop := ∀ c i, c < k + 4 → i < k → (T.2.1 31 (4 * c + i)).toInt = bd w k c i
theorem m_two {w : Nat → V4} {Q : Int64 → mT → Prop} {c d i j : Nat} (hk : k ≤ 4) (hB : BD w k T) (hc : c < k + 4) (hd : d < k + 4) (hi : i < k) (hj : j < k) (h : Q (lI (tw w k c d i j)) T) : tX8_two (nI c) (nI d) (nI i) (nI j) T Q := by
  unfold tX8_two
  rw [ix4, ix4, ix4, ix4]
  refine m_ld (show 4 * c + i < 32 by omega) (m_ld (show 4 * d + j < 32 by omega) (m_ld (show 4 * c + j < 32 by omega) (m_ld (show 4 * d + i < 32 by omega) ?_)))
  rw [i2lI, i2lI, i2lI, i2lI, hB c i hc hi, hB d j hd hj, hB c j hc hj, hB d i hd hi, lI_mul, lI_mul, lI_sub]
  exact h
theorem m_three {w : Nat → V4} {Q : Int64 → mT → Prop} {c d e i j l : Nat} (hk : k ≤ 4) (hB : BD w k T) (hc : c < k + 4) (hd : d < k + 4) (he : e < k + 4) (hi : i < k) (hj : j < k) (hl : l < k) (h : Q (lI (th w k c d e i j l)) T) : tX8_three (nI c) (nI d) (nI e) (nI i) (nI j) (nI l) T Q := by
  unfold tX8_three
  rw [ix4, ix4, ix4]
  refine m_ld (show 4 * c + i < 32 by omega) (m_two hk hB hd he hj hl (m_ld (show 4 * c + j < 32 by omega) (m_two hk hB hd he hi hl (m_ld (show 4 * c + l < 32 by omega) (m_two hk hB hd he hi hj ?_)))))
  rw [i2lI, i2lI, i2lI, hB c i hc hi, hB c j hc hj, hB c l hc hl, lI_mul, lI_mul, lI_mul, lI_sub, lI_add]
  exact h
end MB
section MW
variable {R : Nat → Nat → Int32} {k : Nat} {s : Nat → Nat} {T : mT}
def CG (R : Nat → Nat → Int32) (k : Nat) (s : Nat → Nat) : Prop := ∃ c d e, okc3 k c d e ∧ mg (fun i => Lv R (s i)) k (ry (fun i => Lv R (s i)) k c d e)
theorem SW.rj {T' : mT} (h : SW R k s T) (hr : rj T T') : SW R k s T' := by
  unfold SW
  rw [hr.1, hr.2.1]
  exact h
theorem BD.rj {w : Nat → V4} {T' : mT} (h : BD w k T) (hr : rj T T') : BD w k T' := by
  unfold BD
  rw [hr.2.1]
  exact h
theorem ry1 (w : Nat → V4) (c d e : Nat) : ry w 1 c d e = ry w 1 0 0 0 := by
  funext i
  rfl
theorem ry2 (w : Nat → V4) (c d e : Nat) : ry w 2 c d e = ry w 2 c 0 0 := by
  funext i
  rfl
theorem ry3 (w : Nat → V4) (c d e : Nat) : ry w 3 c d e = ry w 3 c d 0 := by
  funext i
  rfl
theorem neg9 {x : Int32} (h : x.toInt.natAbs ≤ 9) : (- x).toInt64 = lI (- x.toInt) := by
  rw [i2lI, Int32.toInt_neg, Int.bmod_eq_of_le (by omega) (by omega)]
theorem g_one {Q : Int32 → mT → Prop} (hL : ∀ j, bt (R 7 j) 0 9 ∧ bt (R 8 j) 0 9) (hs : ∀ i, i < 1 → s i < 10) (hS : SW R 1 s T) (hq : ∀ b T', bp (CG R 1 s) b → rj T T' → Q b T') : t_stJ T 32 (0 : Int32) (1 : Int64) (fun T => tX8_isGain T (fun v27 T => ((v27 = 0 ∨ v27 = 1) ∧ Q v27 T))) := by
  refine m_stJ (i := 0) (show 0 < 4 by decide) ?_
  have r := (rj.rfl T).sJ (i := 0) (x := 1)
  refine m_gain (k := 1) (s := s) (y := ry (fun i => Lv R (s i)) 1 0 0 0) (by decide) hL hs (hS.rj r) (fun i hi => ?_) (fun i _ => ry_bd (fun i q => (sub9 (hL _).2 (hL _).1).2) _ _ _ _ _) (fun b hb => ⟨bp_01 hb, hq b _ (bp_iff hb ⟨fun z => ⟨0, 0, 0, ⟨fun h => by omega, fun h => by omega, fun h => by omega⟩, z⟩, fun ⟨c, d, e, _, z⟩ => by rw [ry1] at z; exact z⟩) r⟩)
  have : i = 0 := by omega
  subst this
  rw [sJ_at, if_pos rfl]
  rfl
theorem g_two {Q : Int32 → mT → Prop} (hL : ∀ j, bt (R 7 j) 0 9 ∧ bt (R 8 j) 0 9) (hs : ∀ i, i < 2 → s i < 10) (hS : SW R 2 s T) (hB : BD (fun i => Lv R (s i)) 2 T) (hq : ∀ b T', bp (CG R 2 s) b → rj T T' → Q b T') : ∃ n33, tX8_gainsWithSome_L33 Q n33 (nI 6) (0 : Int32) T := by
  have hw : ∀ i q, ((fun i => Lv R (s i)) i q).natAbs ≤ 9 := fun i q => (sub9 (hL _).2 (hL _).1).2
  have main : ∀ d c T', c + d = 6 → rj T T' → (∀ c', c' < c → ¬ mg (fun i => Lv R (s i)) 2 (ry (fun i => Lv R (s i)) 2 c' 0 0)) → tX8_gainsWithSome_L33 Q (d + 1) (nI 6) (nI c) T' := fun d => by
    induction d with
    | zero =>
      intro c T' hc hr hn
      exact ifp (nI_le (by omega) (by omega)) ⟨Or.inl rfl, hq 0 T' (bp_n fun ⟨c', d', e', ho, z⟩ => hn c' (by have := ho.1 (by decide); omega) (by rw [ry2] at z; exact z)) hr⟩
    | succ d ih =>
      intro c T' hc hr hn
      refine ifn (nI_ge (by omega) (by omega)) ?_
      show (¬ T'.1 30 = 2 → _) ∧ (T'.1 30 = 2 → _)
      refine ifp' (show T'.1 30 = 2 by rw [hr.1]; exact hS.1) ?_
      rw [show (4 : Int32) * nI c + 1 = nI (4 * c + 1) from ix4 c 1, ix4z]
      have b1 := (hB.rj hr) c 1 (by omega) (by decide)
      have b0 := (hB.rj hr) c 0 (by omega) (by decide)
      refine m_ld (show 4 * c + 1 < 32 by omega) (m_stJ (i := 0) (show 0 < 4 by decide) (m_ld (show 4 * c < 32 by omega) (m_stJ (i := 1) (show 1 < 4 by decide) ?_)))
      have r := (hr.sJ (i := 0) (x := (T'.2.1 31 (4 * c + 1)).toInt64)).sJ (i := 1) (x := (- T'.2.1 31 (4 * c)).toInt64)
      refine m_gain (k := 2) (s := s) (y := ry (fun i => Lv R (s i)) 2 c 0 0) (by decide) hL hs (hS.rj r) (fun i hi => ?_) (fun i _ => ry_bd hw _ _ _ _ _) (fun b hb => ?_)
      · have bb := bd_bd hw 2 c 0
        have : i = 0 ∨ i = 1 := by omega
        rcases this with rfl | rfl
        · rw [sJ_at, if_neg (by decide), sJ_at, if_pos rfl, i2lI, b1]
          rfl
        · have b0' : (T'.2.1 31 (4 * c)).toInt = bd (fun i => Lv R (s i)) 2 c 0 := b0
          rw [sJ_at, if_pos rfl]
          show (- T'.2.1 31 (4 * c)).toInt64 = _
          rw [neg9 (by rw [b0']; exact bb), b0']
          rfl
      · refine ⟨fun z => ?_, fun z => ⟨Or.inr rfl, hq 1 _ (bp_y ⟨c, 0, 0, ⟨fun _ => by omega, fun h => by omega, fun h => by omega⟩, bp1 hb z⟩) r⟩⟩
        show tX8_gainsWithSome_L33 Q (d + 1) (nI 6) (nI c + 1) _
        rw [nI_1]
        refine ih (c + 1) _ (by omega) r (fun c' hc' => ?_)
        by_cases e : c' = c
        · rw [e]; exact bp0 hb z
        · exact hn c' (by omega)
  exact ⟨7, main 6 0 T (by omega) (rj.rfl T) (fun c' h => by omega)⟩
theorem g_three {Q : Int32 → mT → Prop} (hL : ∀ j, bt (R 7 j) 0 9 ∧ bt (R 8 j) 0 9) (hs : ∀ i, i < 3 → s i < 10) (hS : SW R 3 s T) (hB : BD (fun i => Lv R (s i)) 3 T) (hq : ∀ b T', bp (CG R 3 s) b → rj T T' → Q b T') : ∃ n33, tX8_gainsWithSome_L33 Q n33 (nI 7) (0 : Int32) T := by
  have hw : ∀ i q, ((fun i => Lv R (s i)) i q).natAbs ≤ 9 := fun i q => (sub9 (hL _).2 (hL _).1).2
  have main : ∀ d c T', c + d = 7 → rj T T' → (∀ c' d', c' < c → c' < d' → d' < 7 → ¬ mg (fun i => Lv R (s i)) 3 (ry (fun i => Lv R (s i)) 3 c' d' 0)) → tX8_gainsWithSome_L33 Q (d + 1) (nI 7) (nI c) T' := fun d => by
    induction d with
    | zero =>
      intro c T' hc hr hn
      exact ifp (nI_le (by omega) (by omega)) ⟨Or.inl rfl, hq 0 T' (bp_n fun ⟨c', d', e', ho, z⟩ => hn c' d' (by have := ho.1 (by decide); omega) (ho.2.1 (by decide)).1 (ho.2.1 (by decide)).2 (by rw [ry3] at z; exact z)) hr⟩
    | succ d ih =>
      intro c T' hc hr hn
      refine ifn (nI_ge (by omega) (by omega)) ?_
      show (¬ T'.1 30 = 2 → _) ∧ (T'.1 30 = 2 → _)
      refine ifn' (fun z => ?_) ?_
      · rw [hr.1, hS.1] at z
        exact absurd z (by decide)
      have inner : ∀ e d' T2, d' + e = 7 → c < d' → rj T T2 → (∀ d2, c < d2 → d2 < d' → ¬ mg (fun i => Lv R (s i)) 3 (ry (fun i => Lv R (s i)) 3 c d2 0)) → tX8_gainsWithSome_L92 (tX8_gainsWithSome_J259 (tX8_gainsWithSome_L33 Q (d + 1)) Q) Q (e + 1) (nI 7) (nI c) (nI d') T2 := fun e => by
        induction e with
        | zero =>
          intro d' T2 hd' hcd hr2 hn2
          refine ifp (nI_le (by omega) (by omega)) ?_
          show tX8_gainsWithSome_L33 Q (d + 1) (nI 7) (nI c + 1) T2
          rw [nI_1]
          refine ih (c + 1) T2 (by omega) hr2 (fun c' d2 h1 h2 h3 => ?_)
          by_cases z : c' = c
          · rw [z]; rw [z] at h2; exact hn2 d2 h2 (by omega)
          · exact hn c' d2 (by omega) h2 h3
        | succ e ihe =>
          intro d' T2 hd' hcd hr2 hn2
          refine ifn (nI_ge (by omega) (by omega)) ?_
          show (¬ T2.1 30 = 3 → _) ∧ (T2.1 30 = 3 → _)
          refine ifp' (show T2.1 30 = 3 by rw [hr2.1]; exact hS.1) ?_
          have B2 := hB.rj hr2
          refine m_two (i := 1) (j := 2) (by decide) B2 (by omega) (by omega) (by decide) (by decide) (m_stJ (i := 0) (show 0 < 4 by decide) ?_)
          have r1 := hr2.sJ (i := 0) (x := lI (tw (fun i => Lv R (s i)) 3 c d' 1 2))
          refine m_two (i := 0) (j := 2) (by decide) (hB.rj r1) (by omega) (by omega) (by decide) (by decide) (m_stJ (i := 1) (show 1 < 4 by decide) ?_)
          have r2 := r1.sJ (i := 1) (x := - lI (tw (fun i => Lv R (s i)) 3 c d' 0 2))
          refine m_two (i := 0) (j := 1) (by decide) (hB.rj r2) (by omega) (by omega) (by decide) (by decide) (m_stJ (i := 2) (show 2 < 4 by decide) ?_)
          have r3 := r2.sJ (i := 2) (x := lI (tw (fun i => Lv R (s i)) 3 c d' 0 1))
          refine m_gain (k := 3) (s := s) (y := ry (fun i => Lv R (s i)) 3 c d' 0) (by decide) hL hs (hS.rj r3) (fun i hi => ?_) (fun i _ => ry_bd hw _ _ _ _ _) (fun b hb => ?_)
          · have : i = 0 ∨ i = 1 ∨ i = 2 := by omega
            rcases this with rfl | rfl | rfl
            · rw [sJ_at, if_neg (by decide), sJ_at, if_neg (by decide), sJ_at, if_pos rfl]
              rfl
            · rw [sJ_at, if_neg (by decide), sJ_at, if_pos rfl, lI_neg]
              rfl
            · rw [sJ_at, if_pos rfl]
              rfl
          · refine ⟨fun z => ?_, fun z => ⟨Or.inr rfl, hq 1 _ (bp_y ⟨c, d', 0, ⟨fun _ => by omega, fun h => ⟨by omega, by omega⟩, fun h => by omega⟩, bp1 hb z⟩) r3⟩⟩
            show tX8_gainsWithSome_L92 _ Q (e + 1) (nI 7) (nI c) (nI d' + 1) _
            rw [nI_1]
            refine ihe (d' + 1) _ (by omega) (by omega) r3 (fun d2 h1 h2 => ?_)
            by_cases q : d2 = d'
            · rw [q]; exact bp0 hb z
            · exact hn2 d2 h1 (by omega)
      refine ⟨6 - c + 1, ?_⟩
      rw [show nI c + 1 = nI (c + 1) from nI_1 c]
      exact inner (6 - c) (c + 1) T' (by omega) (by omega) hr (fun d2 h1 h2 => by omega)
  exact ⟨8, main 7 0 T (by omega) (rj.rfl T) (fun c' d' h => by omega)⟩
theorem g_four {Q : Int32 → mT → Prop} (hL : ∀ j, bt (R 7 j) 0 9 ∧ bt (R 8 j) 0 9) (hs : ∀ i, i < 4 → s i < 10) (hS : SW R 4 s T) (hB : BD (fun i => Lv R (s i)) 4 T) (hq : ∀ b T', bp (CG R 4 s) b → rj T T' → Q b T') : ∃ n33, tX8_gainsWithSome_L33 Q n33 (nI 8) (0 : Int32) T := by
  have hw : ∀ i q, ((fun i => Lv R (s i)) i q).natAbs ≤ 9 := fun i q => (sub9 (hL _).2 (hL _).1).2
  have main : ∀ d c T', c + d = 8 → rj T T' → (∀ c' d' e', c' < c → c' < d' → d' < e' → e' < 8 → ¬ mg (fun i => Lv R (s i)) 4 (ry (fun i => Lv R (s i)) 4 c' d' e')) → tX8_gainsWithSome_L33 Q (d + 1) (nI 8) (nI c) T' := fun d => by
    induction d with
    | zero =>
      intro c T' hc hr hn
      exact ifp (nI_le (by omega) (by omega)) ⟨Or.inl rfl, hq 0 T' (bp_n fun ⟨c', d', e', ho, z⟩ => hn c' d' e' (by have := ho.1 (by decide); omega) (ho.2.1 (by decide)).1 (ho.2.2 (by decide)).1 (ho.2.2 (by decide)).2 z) hr⟩
    | succ d ih =>
      intro c T' hc hr hn
      refine ifn (nI_ge (by omega) (by omega)) ?_
      show (¬ T'.1 30 = 2 → _) ∧ (T'.1 30 = 2 → _)
      refine ifn' (fun z => ?_) ?_
      · rw [hr.1, hS.1] at z
        exact absurd z (by decide)
      have inner : ∀ e d' T2, d' + e = 8 → c < d' → rj T T2 → (∀ d2 e2, c < d2 → d2 < d' → d2 < e2 → e2 < 8 → ¬ mg (fun i => Lv R (s i)) 4 (ry (fun i => Lv R (s i)) 4 c d2 e2)) → tX8_gainsWithSome_L92 (tX8_gainsWithSome_J259 (tX8_gainsWithSome_L33 Q (d + 1)) Q) Q (e + 1) (nI 8) (nI c) (nI d') T2 := fun e => by
        induction e with
        | zero =>
          intro d' T2 hd' hcd hr2 hn2
          refine ifp (nI_le (by omega) (by omega)) ?_
          show tX8_gainsWithSome_L33 Q (d + 1) (nI 8) (nI c + 1) T2
          rw [nI_1]
          refine ih (c + 1) T2 (by omega) hr2 (fun c' d2 e2 h1 h2 h3 h4 => ?_)
          by_cases z : c' = c
          · rw [z]; rw [z] at h2; exact hn2 d2 e2 h2 (by omega) h3 h4
          · exact hn c' d2 e2 (by omega) h2 h3 h4
        | succ e ihe =>
          intro d' T2 hd' hcd hr2 hn2
          refine ifn (nI_ge (by omega) (by omega)) ?_
          show (¬ T2.1 30 = 3 → _) ∧ (T2.1 30 = 3 → _)
          refine ifn' (fun z => ?_) ?_
          · rw [hr2.1, hS.1] at z
            exact absurd z (by decide)
          have core : ∀ f e' T3, e' + f = 8 → d' < e' → rj T T3 → (∀ e2, d' < e2 → e2 < e' → ¬ mg (fun i => Lv R (s i)) 4 (ry (fun i => Lv R (s i)) 4 c d' e2)) → tX8_gainsWithSome_L162 (tX8_gainsWithSome_J253 (tX8_gainsWithSome_L92 (tX8_gainsWithSome_J259 (tX8_gainsWithSome_L33 Q (d + 1)) Q) Q (e + 1)) Q) Q (f + 1) (nI 8) (nI c) (nI d') (nI e') T3 := fun f => by
            induction f with
            | zero =>
              intro e' T3 he' hde hr3 hn3
              refine ifp (nI_le (by omega) (by omega)) ?_
              show tX8_gainsWithSome_L92 _ Q (e + 1) (nI 8) (nI c) (nI d' + 1) T3
              rw [nI_1]
              refine ihe (d' + 1) T3 (by omega) (by omega) hr3 (fun d2 e2 h1 h2 h3 h4 => ?_)
              by_cases z : d2 = d'
              · rw [z]; rw [z] at h3; exact hn3 e2 h3 (by omega)
              · exact hn2 d2 e2 h1 (by omega) h3 h4
            | succ f ihf =>
              intro e' T3 he' hde hr3 hn3
              refine ifn (nI_ge (by omega) (by omega)) ?_
              refine m_three (i := 1) (j := 2) (l := 3) (by decide) (hB.rj hr3) (by omega) (by omega) (by omega) (by decide) (by decide) (by decide) (m_stJ (i := 0) (show 0 < 4 by decide) ?_)
              have r1 := hr3.sJ (i := 0) (x := lI (th (fun i => Lv R (s i)) 4 c d' e' 1 2 3))
              refine m_three (i := 0) (j := 2) (l := 3) (by decide) (hB.rj r1) (by omega) (by omega) (by omega) (by decide) (by decide) (by decide) (m_stJ (i := 1) (show 1 < 4 by decide) ?_)
              have r2 := r1.sJ (i := 1) (x := - lI (th (fun i => Lv R (s i)) 4 c d' e' 0 2 3))
              refine m_three (i := 0) (j := 1) (l := 3) (by decide) (hB.rj r2) (by omega) (by omega) (by omega) (by decide) (by decide) (by decide) (m_stJ (i := 2) (show 2 < 4 by decide) ?_)
              have r3 := r2.sJ (i := 2) (x := lI (th (fun i => Lv R (s i)) 4 c d' e' 0 1 3))
              refine m_three (i := 0) (j := 1) (l := 2) (by decide) (hB.rj r3) (by omega) (by omega) (by omega) (by decide) (by decide) (by decide) (m_stJ (i := 3) (show 3 < 4 by decide) ?_)
              have r4 := r3.sJ (i := 3) (x := - lI (th (fun i => Lv R (s i)) 4 c d' e' 0 1 2))
              refine m_gain (k := 4) (s := s) (y := ry (fun i => Lv R (s i)) 4 c d' e') (by decide) hL hs (hS.rj r4) (fun i hi => ?_) (fun i _ => ry_bd hw _ _ _ _ _) (fun b hb => ?_)
              · rcases lt4 hi with rfl | rfl | rfl | rfl
                · rw [sJ_at, if_neg (by decide), sJ_at, if_neg (by decide), sJ_at, if_neg (by decide), sJ_at, if_pos rfl]
                  rfl
                · rw [sJ_at, if_neg (by decide), sJ_at, if_neg (by decide), sJ_at, if_pos rfl, lI_neg]
                  rfl
                · rw [sJ_at, if_neg (by decide), sJ_at, if_pos rfl]
                  rfl
                · rw [sJ_at, if_pos rfl, lI_neg]
                  rfl
              · refine ⟨fun z => ?_, fun z => ⟨Or.inr rfl, hq 1 _ (bp_y ⟨c, d', e', ⟨fun _ => by omega, fun h => ⟨by omega, by omega⟩, fun h => ⟨by omega, by omega⟩⟩, bp1 hb z⟩) r4⟩⟩
                rw [nI_1]
                refine ihf (e' + 1) _ (by omega) (by omega) r4 (fun e2 h1 h2 => ?_)
                by_cases q : e2 = e'
                · rw [q]; exact bp0 hb z
                · exact hn3 e2 h1 (by omega)
          refine ⟨7 - d' + 1, ?_⟩
          rw [show nI d' + 1 = nI (d' + 1) from nI_1 d']
          exact core (7 - d') (d' + 1) T2 (by omega) (by omega) hr2 (fun e2 h1 h2 => by omega)
      refine ⟨7 - c + 1, ?_⟩
      rw [show nI c + 1 = nI (c + 1) from nI_1 c]
      exact inner (7 - c) (c + 1) T' (by omega) (by omega) hr (fun d2 e2 h1 h2 => by omega)
  exact ⟨9, main 8 0 T (by omega) (rj.rfl T) (fun c' d' e' h => by omega)⟩
theorem m_gws {Q : Int32 → mT → Prop} (hk1 : 1 ≤ k) (hk : k ≤ 4) (hL : ∀ j, bt (R 7 j) 0 9 ∧ bt (R 8 j) 0 9) (hs : ∀ i, i < k → s i < 10) (hS : SW R k s T) (hq : ∀ b T', bp (CG R k s) b → gw T T' → Q b T') : tX8_gainsWithSome T Q := by
  refine m_bnd hk hL hs hS fun T1 hg hB => ?_
  have hS1 : SW R k s T1 := ⟨by rw [hg.1]; exact hS.1, fun i hi => by rw [hg.2.1 29 (by decide)]; exact hS.2.1 i hi, by rw [hg.2.1 7 (by decide)]; exact hS.2.2.1, by rw [hg.2.1 8 (by decide)]; exact hS.2.2.2⟩
  have hq' : ∀ b T', bp (CG R k s) b → rj T1 T' → Q b T' := fun b T' h1 h2 => hq b T' h1 (hg.rj h2)
  unfold t_getI
  rw [hS1.1]
  have cs : k = 1 ∨ k = 2 ∨ k = 3 ∨ k = 4 := by omega
  rcases cs with rfl | rfl | rfl | rfl
  · exact ifp' rfl (g_one hL hs hS1 hq')
  · exact ifn' (by decide) (g_two hL hs hS1 hB hq')
  · exact ifn' (by decide) (g_three hL hs hS1 hB hq')
  · exact ifn' (by decide) (g_four hL hs hS1 hB hq')
end MW
