/-! wear. -/
section WE
variable {n np nr ns no : Nat} {T : mT}
theorem IV.S {n' : Nat} {T2 : mT} (hI : IV n T np nr ns no) (h2 : ∀ k, 2 ≤ k → k < 29 → k ≠ 6 → T2.1 k = T.1 k) (h1 : bt (T2.1 1) 0 (1000 * n')) (hR : ∀ k, k < 29 → ¬ (15 ≤ k ∧ k < 25) → T2.2.1 k = T.2.1 k) (hS : ivS T2.2.1 (T2.1 1) n' np ns) : IV n' T2 np nr ns no := by
  obtain ⟨w1, w2, w3, w4, w5, w6⟩ := hI
  refine ⟨?_, h1, ?_, ?_, hS, ?_⟩
  · rw [h2 5 (by decide) (by decide) (by decide), h2 12 (by decide) (by decide) (by decide), h2 25 (by decide) (by decide) (by decide), h2 28 (by decide) (by decide) (by decide)]
    exact w1
  · unfold ivG
    rw [hR 2 (by decide) (by decide), hR 3 (by decide) (by decide), hR 4 (by decide) (by decide)]
    exact w3
  · unfold ivL
    rw [hR 7 (by decide) (by decide), hR 8 (by decide) (by decide), hR 9 (by decide) (by decide), hR 10 (by decide) (by decide), hR 11 (by decide) (by decide)]
    exact w4
  · unfold ivO
    rw [hR 26 (by decide) (by decide), hR 27 (by decide) (by decide)]
    exact w6
def unh (h : Nat → Int32) (i k j : Nat) : Int32 := if j < k ∧ h j = nI i then -1 else h j
theorem unh_or (h : Nat → Int32) (i k j : Nat) : unh h i k j = h j ∨ unh h i k j = -1 := by
  unfold unh
  split
  · exact Or.inr rfl
  · exact Or.inl rfl
theorem c_unh {Q : mT → Prop} {X : String → mT → Prop} {i : Nat} (hns : ns ≤ 40) (hi : i < ns) (hS : SH (T.2.1 18) ns) (h : ∀ T', T'.1 = T.1 → T'.2.2 = T.2.2 → (∀ r, r ≠ 18 → T'.2.1 r = T.2.1 r) → (∀ j, T'.2.1 18 j = unh (T.2.1 18) i ns j) → Q T') : ∃ n16, uX6_breakUp_L16 (cN np nr ns no) Q X n16 (some 0) (some i) (0 : Int32) T := by
  have main : ∀ d k T', k + d = ns → T'.1 = T.1 → T'.2.2 = T.2.2 → (∀ r, r ≠ 18 → T'.2.1 r = T.2.1 r) → (∀ j, T'.2.1 18 j = unh (T.2.1 18) i k j) → uX6_breakUp_L16 (cN np nr ns no) Q X (d + 1) (some 0) (some i) (nI k) T' := fun d => by
    induction d with
    | zero =>
      intro k T' hk e1 e2 e3 e4
      have : k = ns := by omega
      subst this
      exact ug7 ⟨3, rfl, by decide, ifp (nI_le (b := k) (Nat.le_refl _) (by omega)) (h T' e1 e2 e3 e4)⟩
    | succ d ih =>
      intro k T' hk e1 e2 e3 e4
      have k1 : k < ns := by omega
      have ek : T'.2.1 18 k = T.2.1 18 k := by
        rw [e4 k]
        unfold unh
        rw [if_neg (by omega)]
      refine ug7 ⟨3, rfl, by decide, ifn (nI_ge (b := ns) k1 (by omega)) (ug7 ⟨3, k, rfl, by decide, rfl, rfl, k1, ugi (c := cN np nr ns no) (k := 6) k1 ?_⟩)⟩
      rw [ek]
      refine ⟨rv_vo (hS k k1).1 (by omega) rfl, fun q e => by injection e with e; subst e; exact hi, fun z => ?_, fun z => ⟨fun q e => absurd e (by simp), ugi (c := cN np nr ns no) (k := 6) k1 ?_⟩⟩
      · show uX6_breakUp_L16 _ _ _ (d + 1) (some 0) _ (nI k + 1) T'
        rw [nI_1]
        refine ih (k + 1) T' (by omega) e1 e2 e3 (fun j => ?_)
        rw [e4 j]
        unfold unh
        by_cases q : j < k ∧ T.2.1 18 j = nI i
        · rw [if_pos q, if_pos ⟨by omega, q.2⟩]
        · rw [if_neg q, if_neg]
          rintro ⟨q1, q2⟩
          by_cases e : j = k
          · rw [e] at q2
            exact z (by rw [q2, rf_n (by omega)])
          · exact q ⟨by omega, q2⟩
      · show uX6_breakUp_L16 _ _ _ (d + 1) (some 0) _ (nI k + 1) _
        have ei : T.2.1 18 k = nI i := by
          rcases (hS k k1).1 with q | ⟨j, hj, q⟩
          · rw [q, rf_m] at z
            exact absurd z (by simp)
          · rw [q, rf_n (by omega)] at z
            injection z with z
            rw [q, z]
        rw [nI_1]
        refine ih (k + 1) _ (by omega) e1 e2 (fun r hr => (sA_n hr).trans (e3 r hr)) (fun j => ?_)
        rw [sA_at]
        by_cases e : j = k
        · rw [if_pos e]
          unfold unh
          rw [if_pos ⟨by omega, by rw [e]; exact ei⟩]
          rfl
        · rw [if_neg e, e4 j]
          unfold unh
          by_cases q : j < k ∧ T.2.1 18 j = nI i
          · rw [if_pos q, if_pos ⟨by omega, q.2⟩]
          · rw [if_neg q, if_neg (fun q2 => q ⟨by omega, q2.2⟩)]
  exact ⟨ns + 1, main ns 0 T (by omega) rfl rfl (fun _ _ => rfl) (fun j => by unfold unh; rw [if_neg (by omega)])⟩
theorem m_unh {K : Int32 → mT → Prop} {Q : Int32 → mT → Prop} {i : Nat} (hns : ns ≤ 40) (h25 : T.1 25 = nI ns) (h : ∀ T', T'.1 = T.1 → T'.2.2 = T.2.2 → (∀ r, r ≠ 18 → T'.2.1 r = T.2.1 r) → (∀ j, T'.2.1 18 j = unh (T.2.1 18) i ns j) → K (nI i) T') : ∃ n94, tX8_wear_L94 K Q n94 (nI i) (0 : Int32) T := by
  have main : ∀ d k T', k + d = ns → T'.1 = T.1 → T'.2.2 = T.2.2 → (∀ r, r ≠ 18 → T'.2.1 r = T.2.1 r) → (∀ j, T'.2.1 18 j = unh (T.2.1 18) i k j) → tX8_wear_L94 K Q (d + 1) (nI i) (nI k) T' := fun d => by
    induction d with
    | zero =>
      intro k T' hk e1 e2 e3 e4
      have : k = ns := by omega
      subst this
      show (T'.1 25 ≤ nI k → _) ∧ (¬ T'.1 25 ≤ nI k → _)
      rw [e1, h25]
      exact ifp (nI_le (Nat.le_refl _) (by omega)) (h T' e1 e2 e3 e4)
    | succ d ih =>
      intro k T' hk e1 e2 e3 e4
      have k1 : k < ns := by omega
      have ek : T'.2.1 18 k = T.2.1 18 k := by
        rw [e4 k]
        unfold unh
        rw [if_neg (by omega)]
      show (T'.1 25 ≤ nI k → _) ∧ (¬ T'.1 25 ≤ nI k → _)
      rw [e1, h25]
      refine ifn (nI_ge k1 (by omega)) (m_ld (show k < 40 by omega) ?_)
      rw [ek]
      refine ⟨fun z => ?_, fun z => m_st (show k < 40 by omega) ?_⟩
      · show tX8_wear_L94 _ _ (d + 1) _ (nI k + 1) T'
        rw [nI_1]
        refine ih (k + 1) T' (by omega) e1 e2 e3 (fun j => ?_)
        rw [e4 j]
        unfold unh
        by_cases q : j < k ∧ T.2.1 18 j = nI i
        · rw [if_pos q, if_pos ⟨by omega, q.2⟩]
        · rw [if_neg q, if_neg]
          rintro ⟨q1, q2⟩
          by_cases e : j = k
          · rw [e] at q2
            exact z q2
          · exact q ⟨by omega, q2⟩
      · show tX8_wear_L94 _ _ (d + 1) _ (nI k + 1) _
        rw [nI_1]
        refine ih (k + 1) _ (by omega) e1 e2 (fun r hr => (sA_n hr).trans (e3 r hr)) (fun j => ?_)
        rw [sA_at]
        by_cases e : j = k
        · rw [if_pos e]
          unfold unh
          rw [if_pos ⟨by omega, by rw [e]; exact z⟩]
        · rw [if_neg e, e4 j]
          unfold unh
          by_cases q : j < k ∧ T.2.1 18 j = nI i
          · rw [if_pos q, if_pos ⟨by omega, q.2⟩]
          · rw [if_neg q, if_neg (fun q2 => q ⟨by omega, q2.2⟩)]
  exact ⟨ns + 1, main ns 0 T (by omega) rfl rfl (fun _ _ => rfl) (fun j => by unfold unh; rw [if_neg (by omega)])⟩
theorem unh_comm (h : Nat → Int32) {i k : Nat} (hi : i < 2000) (j : Nat) : unh (upd h i (-1)) i k j = upd (unh h i k) i (-1) j := by
  unfold unh
  by_cases e : j = i
  · subst e
    rw [upd_eq, upd_eq, if_neg]
    rintro ⟨_, q⟩
    exact nI_neg hi q.symm
  · rw [upd_ne e, upd_ne e]
theorem min100 {v : Int32} : (if (100 : Int32) < v then (100 : Int32) else v) = if v < (100 : Int32) then v else (100 : Int32) := by
  by_cases h1 : (100 : Int32) < v
  · rw [if_pos h1, if_neg (Int32.not_lt.mpr (Int32.le_of_lt h1))]
  · rw [if_neg h1]
    by_cases h2 : v < 100
    · rw [if_pos h2]
    · rw [if_neg h2]
      exact Int32.le_antisymm (Int32.not_lt.mp h1) (Int32.not_lt.mp h2)
theorem sim_wear (hI : IV n T np nr ns no) (s w : Int32) : uX7_wear (cN np nr ns no) 0 s w T (fun v T1 => tX8_wear s w T (fun b T2 => OK n np nr ns no 0 v.toInt64 b.toInt64 T1 T2)) (fun E T1 => (E = IOB ∧ tX8_wear s w T (fun _ T2 => OK n np nr ns no 1 0 0 T1 T2)) ∨ (E = IAE ∧ tX8_wear s w T (fun _ T2 => OK n np nr ns no 2 0 0 T1 T2))) := by
  have hp := hI.1.2.2.1
  rcases okc s (show ns ≤ 200 by omega) with ⟨i, hi, rfl⟩ | hno
  · have hi' : i < 40 := by omega
    rcases rngc w 1 100 with ⟨h1, h2⟩ | hno
    · have hb : bt w 1 100 := bt_of h1 h2 (by decide) (by decide)
      obtain ⟨w1, w2, w3, w4, w5, w6⟩ := hI.up
      have a1 := (w5.1 i hi).1
      -- the new wear
      have ev : (T.2.1 15 i + w).toInt = (T.2.1 15 i).toInt + w.toInt := by
        have := a1.1
        have := a1.2
        have := hb.1
        have := hb.2
        rw [Int32.toInt_add, Int.bmod_eq_of_le (by omega) (by omega)]
      have e100 : (100 : Int32).toInt = 100 := by decide
      generalize hM : (if (T.2.1 15 i + w) < (100 : Int32) then (T.2.1 15 i + w) else (100 : Int32)) = M
      have bM : bt M 0 100 := by
        rw [← hM]
        split
        · rename_i q
          have q := Int32.lt_iff_toInt_lt.mp q
          have := a1.1
          have := hb.1
          unfold bt
          omega
        · unfold bt
          omega
      have M100 : (100 : Int32) ≤ M ↔ M = 100 := by
        constructor
        · intro q
          refine Int32.le_antisymm ?_ q
          rw [Int32.le_iff_toInt_le, e100]
          exact bM.2
        · intro q
          rw [q]
          exact Int32.le_refl _
      have pre : ∀ Q : Int32 → mT → Prop, ((T.2.1 19 i < 0 → Q (-1) (m_sI T 0 0)) ∧ (¬ T.2.1 19 i < 0 → (M ≠ 100 → Q M (m_sI (m_sA T 15 i M) 0 0)) ∧ (M = 100 → tX8_wear_J125 Q (nI i) = tX8_wear_J125 Q (nI i) → ∃ n94, tX8_wear_L94 (tX8_wear_J125 Q) Q n94 (nI i) 0 (m_sI (m_sA T 15 i M) 0 0)))) → tX8_wear (nI i) w T Q := fun Q hq => by
        refine m_si (n := ns) hp.1 (by omega) hi (m_ti0 (ifp' rfl (m_in e1l e100l h1 h2 (ifn' one0 (m_ti0 (ifp rfl (m_brk (T := m_sI T 0 0) hi' fun b hbb => ⟨fun z => m_ld hi' ?_, fun z => hq.1 (bp1 hbb z)⟩)))))))
        show t_stI (m_sI T 0 0) 15 (nI i) (if (T.2.1 15 i + w) < (100 : Int32) then (T.2.1 15 i + w) else (100 : Int32)) _
        rw [hM]
        refine m_st hi' (m_ld hi' ?_)
        rw [sA_at, if_pos rfl]
        refine ⟨fun z2 => (hq.2 (bp0 hbb z)).2 (M100.mp z2) rfl, fun z2 => m_ld hi' ?_⟩
        rw [sA_at, if_pos rfl]
        exact (hq.2 (bp0 hbb z)).1 (fun q => z2 (M100.mpr q))
      refine ug8 (u7 (u_th hi (by omega) (u_cr h1 h2 ⟨i, rfl, hi, c_brk hi fun b hbb => ⟨fun z => ugi (c := cN np nr ns no) (k := 6) hi ?_, fun z => pre _ ⟨fun _ => OK.same hI rfl, fun q => absurd (bp1 hbb z) q⟩⟩⟩)))
      rw [min100, hM]
      refine ugi (c := cN np nr ns no) (k := 6) hi (ugi (c := cN np nr ns no) (k := 6) hi ?_)
      rw [sA_at, if_pos rfl]
      refine ⟨fun z2 => ugi (c := cN np nr ns no) (k := 6) hi ?_, fun z2 => ug8 (u7 ⟨fun q e => absurd e (by simp), ugi (c := cN np nr ns no) (k := 6) hi ⟨fun q e => absurd e (by simp), ugi (c := cN np nr ns no) (k := 6) hi ⟨i, rfl, hi, fun q e => absurd e (by simp), ugi (c := cN np nr ns no) (k := 6) hi (ugi (c := cN np nr ns no) (k := 6) hi ?_)⟩⟩⟩)⟩
      · rw [sA_at, if_pos rfl]
        refine pre _ ⟨fun q => absurd q (bp0 hbb z), fun _ => ⟨fun _ => ?_, fun q => absurd q z2⟩⟩
        refine OK.of (T1 := m_sA T 15 i M) ⟨w1, w2, w3, w4, ⟨fun k hk => ?_, fun k hk => ⟨?_, (w5.2.1 k hk).2⟩, w5.2.2⟩, w6⟩
        · obtain ⟨b1, b2⟩ := w5.1 k hk
          exact ⟨upd_c (P := fun x => bt x 0 100) bM b1, b2⟩
        · exact (upd_ne (by omega)).trans (w5.2.1 k hk).1
      · refine c_unh hp.2 hi (T := m_sA (m_sA (m_sA (m_sA (m_sA T 15 i M) 18 i (-1)) 19 i (-1)) 21 i (-1)) 20 i (-1)) ?_ fun T1 e1 e2 e3 e4 => ugi (c := cN np nr ns no) (k := 6) hi ?_
        · refine hI.sh.m (h' := upd (T.2.1 18) i (-1)) fun k => ?_
          unfold upd
          split
          · exact Or.inr rfl
          · exact Or.inl rfl
        · have e15 : T1.2.1 15 i = 100 := by
            rw [e3 15 (by decide)]
            show upd (T.2.1 15) i M i = 100
            rw [upd_eq, z2]
          rw [e15]
          refine pre _ ⟨fun q => absurd q (bp0 hbb z), fun _ => ⟨fun q => absurd z2 q, fun _ _ => m_unh (T := m_sI (m_sA T 15 i M) 0 0) hp.2 hp.1 fun T2 f1 f2 f3 f4 => ?_⟩⟩
          refine m_st hi' (m_st hi' (m_st hi' (m_st hi' ?_)))
          have r18 : (m_sA (m_sA (m_sA (m_sA T2 18 i (-1)) 19 i (-1)) 20 i (-1)) 21 i (-1)).2.1 18 = upd (unh (T.2.1 18) i ns) i (-1) := by
            show upd (T2.2.1 18) i (-1) = _
            congr 1
            funext j
            exact f4 j
          have rr : ∀ k, k ≠ 18 → (m_sA (m_sA (m_sA (m_sA T2 18 i (-1)) 19 i (-1)) 20 i (-1)) 21 i (-1)).2.1 k = if k = 15 then upd (T.2.1 15) i M else if k = 19 then upd (T.2.1 19) i (-1) else if k = 20 then upd (T.2.1 20) i (-1) else if k = 21 then upd (T.2.1 21) i (-1) else T.2.1 k := fun k hk => by
            by_cases k15 : k = 15
            · subst k15
              rw [if_pos rfl, sA_n (by decide), sA_n (by decide), sA_n (by decide), sA_n (by decide), f3 15 (by decide)]
              rfl
            · rw [if_neg k15]
              by_cases k19 : k = 19
              · subst k19
                rw [if_pos rfl]
                show upd (T2.2.1 19) i (-1) = _
                rw [f3 19 (by decide)]
                rfl
              · rw [if_neg k19]
                by_cases k20 : k = 20
                · subst k20
                  rw [if_pos rfl]
                  show upd (T2.2.1 20) i (-1) = _
                  rw [f3 20 (by decide)]
                  rfl
                · rw [if_neg k20]
                  by_cases k21 : k = 21
                  · subst k21
                    rw [if_pos rfl]
                    show upd (T2.2.1 21) i (-1) = _
                    rw [f3 21 (by decide)]
                    rfl
                  · rw [if_neg k21, sA_n k21, sA_n k20, sA_n k19, sA_n hk, f3 k hk]
                    exact sA_n k15
          refine OK.any ?_ ⟨?_, ?_, fun k hk => ?_, ?_, ?_⟩ ?_
          · show T2.1 0 = 0
            rw [f1]
            rfl
          · show T2.1 1 = T1.1 1
            rw [f1, e1]
            rfl
          · show T2.1 6 = T1.1 6
            rw [f1, e1]
            rfl
          · by_cases k18 : k = 18
            · subst k18
              rw [r18]
              funext j
              rw [e4 j]
              exact (unh_comm (T.2.1 18) (by omega) j).symm
            · rw [rr k k18, e3 k k18]
              by_cases k15 : k = 15
              · subst k15; rfl
              · by_cases k19 : k = 19
                · subst k19; rfl
                · by_cases k20 : k = 20
                  · subst k20; rfl
                  · by_cases k21 : k = 21
                    · subst k21; rfl
                    · rw [if_neg k15, if_neg k19, if_neg k20, if_neg k21, sA_n k20, sA_n k21, sA_n k19, sA_n k18, sA_n k15]
          · show T2.2.2 13 = T1.2.2 13
            rw [f2, e2]
            rfl
          · show T2.2.2 14 = T1.2.2 14
            rw [f2, e2]
            rfl
          · have t1 : (m_sA (m_sA (m_sA (m_sA T2 18 i (-1)) 19 i (-1)) 20 i (-1)) 21 i (-1)).1 1 = T.1 1 := by
              show T2.1 1 = _
              rw [f1]
              rfl
            refine IV.S hI.up (fun k q1 q2 _ => ?_) (by rw [t1]; exact w2) (fun k q1 q2 => ?_) ?_
            · show T2.1 k = _
              rw [f1]
              exact if_neg (by omega)
            · rw [rr k (by omega), if_neg (by omega), if_neg (by omega), if_neg (by omega), if_neg (by omega)]
            · rw [t1]
              have hsh : SH (upd (unh (T.2.1 18) i ns) i (-1)) ns := hI.sh.m fun k => by
                unfold upd
                split
                · exact Or.inr rfl
                · exact unh_or _ _ _ _
              unfold ivS
              rw [r18, rr 15 (by decide), rr 16 (by decide), rr 17 (by decide), rr 19 (by decide), rr 20 (by decide), rr 21 (by decide), rr 22 (by decide), rr 23 (by decide), rr 24 (by decide)]
              refine ⟨fun k hk => ?_, fun k hk => ⟨?_, (w5.2.1 k hk).2⟩, w5.2.2⟩
              · obtain ⟨b1, b2, b3, b4, b5, b6, b7, b8, b9⟩ := w5.1 k hk
                refine ⟨upd_c (P := fun x => bt x 0 100) bM b1, b2, b3, (hsh k hk).1, upd_c (P := fun x => rv x np) (Or.inl rfl) b5, upd_c (P := fun x => rv x np) (Or.inl rfl) b6, ?_, b8, (hsh k hk).2⟩
                by_cases e : k = i
                · subst e
                  exact Or.inl ⟨upd_eq, upd_eq⟩
                · show (upd (T.2.1 20) i (-1) k = -1 ∧ upd (T.2.1 21) i (-1) k = -1) ∨ _
                  rw [show (if (20 : Nat) = 15 then upd (T.2.1 15) i M else if (20 : Nat) = 19 then upd (T.2.1 19) i (-1) else if (20 : Nat) = 20 then upd (T.2.1 20) i (-1) else if (20 : Nat) = 21 then upd (T.2.1 21) i (-1) else T.2.1 20) = upd (T.2.1 20) i (-1) from rfl, show (if (21 : Nat) = 15 then upd (T.2.1 15) i M else if (21 : Nat) = 19 then upd (T.2.1 19) i (-1) else if (21 : Nat) = 20 then upd (T.2.1 20) i (-1) else if (21 : Nat) = 21 then upd (T.2.1 21) i (-1) else T.2.1 21) = upd (T.2.1 21) i (-1) from rfl, upd_ne e, upd_ne e]
                  exact b7
              · exact (upd_ne (by omega)).trans (w5.2.1 k hk).1
    · exact ug8 (u7 (u_th hi (by omega) (u_cr_no hno (Or.inr ⟨rfl, m_si (n := ns) hp.1 (by omega) hi (m_ti0 (ifp' rfl (m_in_no e1l e100l hno (ifp' rfl (m_ti1 (ifn one0 (OK.bad hI (by decide))))))))⟩))))
  · exact ug8 (u7 (u_th_no hno (by omega) (Or.inl ⟨rfl, m_si_no (n := ns) hp.1 (by omega) hno (m_ti1 (ifn' one0 (OK.bad hI one0)))⟩)))
end WE
