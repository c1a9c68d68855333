/-! The Model's hunt over T: all choices of rules. -/
theorem bd_cong {w w' : Nat → V4} {k c i : Nat} (h : ∀ i, i < k → w i = w' i) (hi : i < k) : bd w k c i = bd w' k c i := by
  unfold bd
  rw [h i hi]
theorem tw_cong {w w' : Nat → V4} {k c d i j : Nat} (h : ∀ i, i < k → w i = w' i) (hi : i < k) (hj : j < k) : tw w k c d i j = tw w' k c d i j := by
  unfold tw
  rw [bd_cong h hi, bd_cong h hi, bd_cong h hj, bd_cong h hj]
theorem th_cong {w w' : Nat → V4} {k c d e i j l : Nat} (h : ∀ i, i < k → w i = w' i) (hi : i < k) (hj : j < k) (hl : l < k) : th w k c d e i j l = th w' k c d e i j l := by
  unfold th
  rw [bd_cong h hi, bd_cong h hj, bd_cong h hl, tw_cong h hi hj, tw_cong h hi hl, tw_cong h hj hl]
theorem ry_cong {w w' : Nat → V4} {k c d e : Nat} (h1 : 1 ≤ k) (h4 : k ≤ 4) (h : ∀ i, i < k → w i = w' i) : ry w k c d e = ry w' k c d e := by
  funext i
  have cs : k = 1 ∨ k = 2 ∨ k = 3 ∨ k = 4 := by omega
  rcases cs with rfl | rfl | rfl | rfl
  · rfl
  · unfold ry
    rw [bd_cong h (show 0 < 2 by decide), bd_cong h (show 1 < 2 by decide)]
    rfl
  · unfold ry
    rw [tw_cong h (show 1 < 3 by decide) (show 2 < 3 by decide), tw_cong h (show 0 < 3 by decide) (show 2 < 3 by decide), tw_cong h (show 0 < 3 by decide) (show 1 < 3 by decide)]
    rfl
  · unfold ry
    rw [th_cong h (show 1 < 4 by decide) (show 2 < 4 by decide) (show 3 < 4 by decide), th_cong h (show 0 < 4 by decide) (show 2 < 4 by decide) (show 3 < 4 by decide), th_cong h (show 0 < 4 by decide) (show 1 < 4 by decide) (show 3 < 4 by decide), th_cong h (show 0 < 4 by decide) (show 1 < 4 by decide) (show 2 < 4 by decide)]
    rfl
theorem isg_cong {w w' : Nat → V4} {k : Nat} {y : Nat → Int} (h : ∀ i, i < k → w i = w' i) (hg : isg w k y) : isg w' k y := by
  have e : ∀ q, wn w' k y q = wn w k y q := fun q => sm_cong fun i hi => by rw [h i hi]
  obtain ⟨a, b, q, c, d⟩ := hg
  exact ⟨a, fun q hq => by rw [e]; exact b q hq, q, c, by rw [e]; exact d⟩
theorem CG_cong {R : Nat → Nat → Int32} {k : Nat} {s s' : Nat → Nat} (h1 : 1 ≤ k) (h4 : k ≤ 4) (h : ∀ i, i < k → s i = s' i) (hc : CG R k s) : CG R k s' := by
  obtain ⟨c, d, e, ho, hg⟩ := hc
  have hw : ∀ i, i < k → (fun i => Lv R (s i)) i = (fun i => Lv R (s' i)) i := fun i hi => by
    show Lv R (s i) = Lv R (s' i)
    rw [h i hi]
  refine ⟨c, d, e, ho, ?_⟩
  rw [ry_cong h1 h4 hw] at hg
  rcases hg with a | a
  · exact Or.inl (isg_cong hw a)
  · exact Or.inr (isg_cong hw a)
def ext (R : Nat → Nat → Int32) (nr many fro : Nat) (s : Nat → Nat) : Prop := ∃ (k : Nat) (s' : Nat → Nat), many ≤ k ∧ 1 ≤ k ∧ k ≤ 4 ∧ (∀ i, i < many → s' i = s i) ∧ (∀ i, many ≤ i → i < k → fro ≤ s' i ∧ s' i < nr ∧ nsr R (s' i) = true) ∧ (∀ i, many ≤ i → i + 1 < k → s' i < s' (i + 1)) ∧ CG R k s'
def gt (many : Nat) (T T' : mT) : Prop := (∀ k, k ≠ 30 → T'.1 k = T.1 k) ∧ (∀ k, k ≠ 29 → k ≠ 31 → T'.2.1 k = T.2.1 k) ∧ (∀ k, k ≠ 32 → T'.2.2 k = T.2.2 k) ∧ ∀ i, i < many → T'.2.1 29 i = T.2.1 29 i
theorem gt.rfl (m : Nat) (T : mT) : gt m T T := ⟨fun _ _ => Eq.refl _, fun _ _ _ => Eq.refl _, fun _ _ => Eq.refl _, fun _ _ => Eq.refl _⟩
theorem gt.tr {m m' : Nat} {T T1 T2 : mT} (h : gt m T T1) (h2 : gt m' T1 T2) (hm : m ≤ m') : gt m T T2 := ⟨fun k hk => (h2.1 k hk).trans (h.1 k hk), fun k a b => (h2.2.1 k a b).trans (h.2.1 k a b), fun k a => (h2.2.2.1 k a).trans (h.2.2.1 k a), fun i hi => (h2.2.2.2 i (by omega)).trans (h.2.2.2 i hi)⟩
theorem chain {s : Nat → Nat} {a k : Nat} (h : ∀ i, a ≤ i → i + 1 < k → s i < s (i + 1)) : ∀ d, a + 1 + d < k → s a < s (a + 1 + d)
  | 0, hd => h a (Nat.le_refl _) hd
  | d + 1, hd => Nat.lt_trans (chain h d (by omega)) (h (a + 1 + d) (by omega) (by omega))
section MTR
variable {R : Nat → Nat → Int32} {nr : Nat}
theorem m_tries (hnr : nr ≤ 10) (hL : ∀ j, bt (R 7 j) 0 9 ∧ bt (R 8 j) 0 9) : ∀ (f many fro : Nat) (s : Nat → Nat) (T : mT) (Q : Int32 → mT → Prop), many + f = 5 → many ≤ 4 → fro ≤ nr → T.1 12 = nI nr → T.2.1 7 = R 7 → T.2.1 8 = R 8 → T.2.1 9 = R 9 → (∀ i, i < many → T.2.1 29 i = nI (s i) ∧ s i < 10) → (∀ b T', bp (ext R nr many fro s) b → gt many T T' → Q b T') → tX8_tries f (nI fro) (nI many) T Q
  | 0, many, _, _, _, _, hf, hm, _, _, _, _, _, _, _ => by omega
  | f + 1, many, fro, s, T, Q, hf, hm, hfro, h12, h7, h8, h9, hs, hq => by
    -- the choice of one more rule
    have more : ∀ T1, gt many T T1 → (many = 0 ∨ ¬ CG R many s) → tX8_tries_J18 (tX8_tries f) Q (nI fro) (nI many) T1 := fun T1 hg hn => by
      by_cases z4 : many = 4
      · refine ifp' (by rw [z4]; rfl) ⟨Or.inl rfl, hq 0 T1 (bp_n ?_) hg⟩
        rintro ⟨k, s', a1, a2, a3, a4, a5, a6, a7⟩
        have : k = many := by omega
        subst this
        rcases hn with hn | hn
        · omega
        · exact hn (CG_cong (by omega) (by omega) (fun i hi => a4 i hi) a7)
      · refine ifn' (fun e => z4 ((nI_eq (b := 4) (by omega) (by omega)).mp e)) ?_
        have loop : ∀ d r T', r + d = nr → fro ≤ r → gt many T T' → (∀ r', fro ≤ r' → r' < r → nsr R r' = true → ¬ ext R nr (many + 1) (r' + 1) (rp s many r')) → tX8_tries_L27 (tX8_tries f) Q (d + 1) (nI many) (nI r) T' := fun d => by
          induction d with
          | zero =>
            intro r T' hr hfr hg' hno
            show (T'.1 12 ≤ nI r → _) ∧ (¬ T'.1 12 ≤ nI r → _)
            rw [hg'.1 12 (by decide), h12]
            refine ifp (nI_le (by omega) (by omega)) ⟨Or.inl rfl, hq 0 T' (bp_n ?_) hg'⟩
            rintro ⟨k, s', a1, a2, a3, a4, a5, a6, a7⟩
            by_cases zk : k = many
            · subst zk
              rcases hn with hn | hn
              · omega
              · exact hn (CG_cong (by omega) (by omega) (fun i hi => a4 i hi) a7)
            · obtain ⟨b1, b2, b3⟩ := a5 many (Nat.le_refl _) (by omega)
              refine hno (s' many) b1 (by omega) b3 ⟨k, s', by omega, a2, a3, fun i hi => ?_, fun i h1 h2 => ?_, fun i h1 h2 => a6 i (by omega) h2, a7⟩
              · by_cases zi : i = many
                · rw [zi, rp_eq]
                · rw [rp_ne _ _ zi]
                  exact a4 i (by omega)
              · have c := chain a6 (i - (many + 1)) (by omega)
                rw [show many + 1 + (i - (many + 1)) = i by omega] at c
                have := a5 i (by omega) h2
                exact ⟨by omega, this.2⟩
          | succ d ih =>
            intro r T' hr hfr hg' hno
            show (T'.1 12 ≤ nI r → _) ∧ (¬ T'.1 12 ≤ nI r → _)
            rw [hg'.1 12 (by decide), h12]
            refine ifn (nI_ge (show r < nr by omega) (by omega)) (m_ld (show r < 10 by omega) ?_)
            rw [hg'.2.1 9 (by decide) (by decide), h9]
            refine ⟨fun e9 => ?_, fun e9 => ?_⟩
            · have hP : nsr R r = true := by simp [nsr, e9]
              refine m_st (show many < 4 by omega) ?_
              rw [nI_1, nI_1]
              have g2 : gt many T (m_sA T' 29 many (nI r)) := ⟨hg'.1, fun k a b => (sA_n a).trans (hg'.2.1 k a b), hg'.2.2.1, fun i hi => by rw [sA_at, if_neg (by omega)]; exact hg'.2.2.2 i hi⟩
              refine m_tries hnr hL f (many + 1) (r + 1) (rp s many r) _ _ (by omega) (by omega) (by omega) (by rw [g2.1 12 (by decide)]; exact h12) (by rw [g2.2.1 7 (by decide) (by decide)]; exact h7) (by rw [g2.2.1 8 (by decide) (by decide)]; exact h8) (by rw [g2.2.1 9 (by decide) (by decide)]; exact h9) (fun i hi => ?_) (fun b T3 hb h3 => ?_)
              · rw [sA_at]
                by_cases zi : i = many
                · rw [if_pos zi, zi, rp_eq]
                  exact ⟨rfl, by omega⟩
                · rw [if_neg zi, rp_ne _ _ zi, hg'.2.2.2 i (by omega)]
                  exact hs i (by omega)
              · have g3 := g2.tr h3 (by omega)
                refine ⟨fun e => ?_, fun e => ⟨Or.inr rfl, hq 1 T3 (bp_y ?_) g3⟩⟩
                · show tX8_tries_L27 _ Q (d + 1) (nI many) (nI r + 1) T3
                  rw [nI_1]
                  refine ih (r + 1) T3 (by omega) (by omega) g3 (fun r' h1 h2 h4 => ?_)
                  by_cases zr : r' = r
                  · rw [zr]; exact bp0 hb e
                  · exact hno r' h1 (by omega) h4
                · obtain ⟨k, s', a1, a2, a3, a4, a5, a6, a7⟩ := bp1 hb e
                  have em : s' many = r := by rw [a4 many (by omega), rp_eq]
                  refine ⟨k, s', by omega, a2, a3, fun i hi => by rw [a4 i (by omega), rp_ne _ _ (by omega)], fun i h1 h2 => ?_, fun i h1 h2 => ?_, a7⟩
                  · by_cases zi : i = many
                    · rw [zi, em]
                      exact ⟨hfr, by omega, hP⟩
                    · have := a5 i (by omega) h2
                      exact ⟨by omega, this.2⟩
                  · by_cases zi : i = many
                    · rw [zi, em]
                      have := a5 (many + 1) (by omega) (by omega)
                      omega
                    · exact a6 i (by omega) h2
            · show tX8_tries_L27 _ Q (d + 1) (nI many) (nI r + 1) T'
              rw [nI_1]
              refine ih (r + 1) T' (by omega) (by omega) hg' (fun r' h1 h2 h4 => ?_)
              by_cases zr : r' = r
              · rw [zr] at h4
                exact absurd (by simpa [nsr] using h4) e9
              · exact hno r' h1 (by omega) h4
        exact ⟨nr - fro + 1, loop (nr - fro) fro T1 (by omega) (Nat.le_refl _) hg (fun r' h1 h2 => by omega)⟩
    by_cases z0 : many = 0
    · exact ifp (by rw [z0]; decide) (more T (gt.rfl _ T) (Or.inl z0))
    · refine ifn (fun e => ?_) ?_
      · have := (nI_leI (b := 0) (by omega) (by omega)).mp e
        omega
      · refine m_gws (T := m_sI T 30 (nI many)) (s := s) (k := many) (by omega) hm hL (fun i hi => (hs i hi).2) ⟨rfl, fun i hi => (hs i hi).1, h7, h8⟩ (fun b T1 hb hg => ?_)
        have g1 : gt many T T1 := ⟨fun k hk => by rw [hg.1]; exact if_neg hk, fun k _ b => hg.2.1 k b, fun k a => hg.2.2 k a, fun i hi => by rw [hg.2.1 29 (by decide)]; rfl⟩
        refine ⟨fun e => more T1 g1 (Or.inr (bp0 hb e)), fun e => ⟨Or.inr rfl, hq 1 T1 (bp_y ⟨many, s, Nat.le_refl _, by omega, hm, fun i _ => rfl, fun i h1 h2 => by omega, fun i h1 h2 => by omega, bp1 hb e⟩) g1⟩⟩
theorem m_gains {T : mT} {Q : Int32 → mT → Prop} (hnr : nr ≤ 10) (h12 : T.1 12 = nI nr) (hL : ∀ j, bt (T.2.1 7 j) 0 9 ∧ bt (T.2.1 8 j) 0 9) (hq : ∀ b T', bp (ext T.2.1 nr 0 0 (fun _ => 0)) b → gt 0 (m_sI T 0 0) T' → Q b T') : tX8_gains T Q :=
  m_tries (R := T.2.1) hnr hL 5 0 0 (fun _ => 0) (m_sI T 0 0) _ (by omega) (by omega) (by omega) h12 rfl rfl rfl (fun i hi => by omega) (fun b T' hb hg => ⟨bp_01 hb, hq b T' hb hg⟩)
theorem getD_at {l : List Nat} {j : Nat} (hj : j < l.length) : l.getD j 0 = l[j] := by
  rw [List.getD_eq_getElem?_getD, List.getElem?_eq_getElem hj]
  rfl
theorem rho_ok {j : Nat} (hj : j < (fl (nsr R) nr).length) : rho R nr j < nr ∧ nsr R (rho R nr j) = true := by
  unfold rho
  rw [getD_at hj]
  exact fl_lt (List.getElem_mem hj)
theorem rho_lt {i j : Nat} (hij : i < j) (hj : j < (fl (nsr R) nr).length) : rho R nr i < rho R nr j := by
  unfold rho
  rw [getD_at hj, getD_at (show i < (fl (nsr R) nr).length by omega)]
  exact (List.pairwise_iff_getElem.mp (fl_srt nr)) i j (by omega) hj hij
theorem fl_rank {P : Nat → Bool} {a b : Nat} (ha : P a = true) (h : a < b) : (fl P a).length < (fl P b).length := by
  obtain ⟨l, e⟩ := fl_cut ha (b - (a + 1))
  rw [show a + 1 + (b - (a + 1)) = b by omega] at e
  rw [e, List.length_append, List.length_cons]
  omega
theorem mdl_ext (h : mdl (vR R nr) (fl (nsr R) nr).length) : ext R nr 0 0 (fun _ => 0) := by
  obtain ⟨k, j, c, d, e, h1, h4, hj, hinc, ho, hg⟩ := h
  exact ⟨k, fun i => rho R nr (j i), Nat.zero_le _, h1, h4, fun i hi => by omega, fun i _ hi => ⟨Nat.zero_le _, rho_ok (hj i hi)⟩, fun i _ hi => rho_lt (hinc i hi) (hj _ hi), c, d, e, ho, hg⟩
theorem ext_mdl (h : ext R nr 0 0 (fun _ => 0)) : mdl (vR R nr) (fl (nsr R) nr).length := by
  obtain ⟨k, s, _, h1, h4, _, hs, hinc, hc⟩ := h
  have e : ∀ i, i < k → rho R nr (fl (nsr R) (s i)).length = s i := fun i hi => by
    have := hs i (Nat.zero_le _) hi
    exact fl_at this.2.2 this.2.1
  obtain ⟨c, d, e', ho, hg⟩ := CG_cong (s' := fun i => rho R nr (fl (nsr R) (s i)).length) h1 h4 (fun i hi => (e i hi).symm) hc
  exact ⟨k, fun i => (fl (nsr R) (s i)).length, c, d, e', h1, h4, fun i hi => by
    have := hs i (Nat.zero_le _) hi
    exact fl_rank this.2.2 this.2.1, fun i hi => by
    have := hs i (Nat.zero_le _) (by omega)
    exact fl_rank this.2.2 (hinc i (Nat.zero_le _) hi), ho, hg⟩
end MTR
theorem eqv_gains {T T1 T2 : mT} (h1 : hfr T T1) (h2 : gt 0 (m_sI T 0 0) T2) : eqv T1 T2 := by
  refine ⟨?_, ?_, fun k hk => ?_, ?_, ?_⟩
  · rw [h2.1 1 (by decide), (h1 1 (by decide)).1]; rfl
  · rw [h2.1 6 (by decide), (h1 6 (by decide)).1]; rfl
  · rw [h2.2.1 k (by omega) (by omega), (h1 k (by omega)).2.1]; rfl
  · rw [h2.2.2.1 13 (by decide), (h1 13 (by decide)).2.2]; rfl
  · rw [h2.2.2.1 14 (by decide), (h1 14 (by decide)).2.2]; rfl
theorem IV_gt {n np nr ns no : Nat} {T T2 : mT} (hI : IV n T np nr ns no) (h2 : gt 0 (m_sI T 0 0) T2) : IV n T2 np nr ns no := by
  have e : ∀ k, 1 ≤ k → k < 29 → T2.1 k = T.1 k := fun k h1 hk => (h2.1 k (by omega)).trans (if_neg (by omega))
  have e2 : ∀ k, k < 29 → T2.2.1 k = T.2.1 k := fun k hk => h2.2.1 k (by omega) (by omega)
  unfold IV ivG ivL ivS ivO at hI ⊢
  rw [e 5 (by decide) (by decide), e 12 (by decide) (by decide), e 25 (by decide) (by decide), e 28 (by decide) (by decide), e 1 (by decide) (by decide), e2 2 (by decide), e2 3 (by decide), e2 4 (by decide), e2 7 (by decide), e2 8 (by decide), e2 9 (by decide), e2 10 (by decide), e2 11 (by decide), e2 15 (by decide), e2 16 (by decide), e2 17 (by decide), e2 18 (by decide), e2 19 (by decide), e2 20 (by decide), e2 21 (by decide), e2 22 (by decide), e2 23 (by decide), e2 24 (by decide), e2 26 (by decide), e2 27 (by decide)]
  exact hI
theorem sim_gains {n np nr ns no : Nat} {T : mT} (hI : IV n T np nr ns no) {X : String → mT → Prop} : uX7_gains (cN np nr ns no) 0 T (fun v T1 => tX8_gains T (fun b T2 => v = b ∧ OK n np nr ns no 0 0 0 T1 T2)) X := by
  have hnr := hI.1.2.1
  have hL := hI.2.2.2.1.1
  refine c_gains hnr.2 hL (fun T1 hF hg => ?_) (fun T1 hF hg => ?_)
  · refine m_gains hnr.2 hnr.1 hL fun b T2 hb h2 => ⟨?_, h2.1 0 (by decide), fun _ => rfl, eqv_gains hF h2, (IV_gt hI h2).up⟩
    rcases hb with ⟨_, z⟩ | ⟨z, _⟩
    · exact absurd (mdl_gain (ext_mdl z)) hg
    · exact z.symm
  · refine m_gains hnr.2 hnr.1 hL fun b T2 hb h2 => ⟨?_, h2.1 0 (by decide), fun _ => rfl, eqv_gains hF h2, (IV_gt hI h2).up⟩
    rcases hb with ⟨z, _⟩ | ⟨_, z⟩
    · exact z.symm
    · exact absurd (mdl_ext hg) z
