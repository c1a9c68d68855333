/-! agree: the trade. -/
def tr (G : Nat → Int32) (A A' B B' : Nat) (m m' : Int32) : Nat → Int32 :=
  upd (upd (upd (upd G A (G A - m)) B' (upd G A (G A - m) B' - m')) A' (upd (upd G A (G A - m)) B' (upd G A (G A - m) B' - m') A' + m')) B (upd (upd (upd G A (G A - m)) B' (upd G A (G A - m) B' - m')) A' (upd (upd G A (G A - m)) B' (upd G A (G A - m) B' - m') A' + m') B + m)
theorem upd_comm (f : Nat → Int32) {i j : Nat} (h : i ≠ j) (x y : Int32) : upd (upd f i x) j y = upd (upd f j y) i x := by
  funext k
  unfold upd
  by_cases e1 : k = i <;> by_cases e2 : k = j <;> simp [e1, e2] <;> omega
theorem tr_comm (G : Nat → Int32) {A A' B B' : Nat} (h : A' ≠ B) (m m' : Int32) : tr G A A' B B' m m' = upd (upd (upd (upd G A (G A - m)) B' (upd G A (G A - m) B' - m')) B (upd (upd G A (G A - m)) B' (upd G A (G A - m) B' - m') B + m)) A' (upd (upd (upd G A (G A - m)) B' (upd G A (G A - m) B' - m')) B (upd (upd G A (G A - m)) B' (upd G A (G A - m) B' - m') B + m) A' + m') := by
  unfold tr
  generalize upd (upd G A (G A - m)) B' (upd G A (G A - m) B' - m') = F
  rw [upd_ne (f := F) (Ne.symm h), upd_ne (f := F) h, upd_comm F h]
def st2 (T : mT) (g : Nat → Int32) : mT := (T.1, va_up T.2.1 2 g, T.2.2)
theorem st2_sA (T : mT) (g : Nat → Int32) (i : Nat) (v : Int32) : m_sA (st2 T g) 2 i v = st2 T (upd g i v) := by
  unfold m_sA st2
  refine Prod.ext rfl (Prod.ext ?_ rfl)
  show va_up (va_up T.2.1 2 g) 2 (upd (va_up T.2.1 2 g 2) i v) = va_up T.2.1 2 (upd g i v)
  rw [va_up_self]
  funext j
  by_cases e : j = 2
  · rw [e, va_up_self, va_up_self]
  · rw [va_up_ne _ _ e, va_up_ne _ _ e, va_up_ne _ _ e]
theorem st2_0 (T : mT) (i : Nat) (v : Int32) : m_sA T 2 i v = st2 T (upd (T.2.1 2) i v) := rfl
noncomputable def goO (h : Nat → Int32) (v p day : Int32) (ns : Nat) (T : mT) : mT := if v < 0 then T else goT h v.toNatClampNeg p day T ns
theorem goO_sI (h : Nat → Int32) (v p day : Int32) (ns : Nat) (T : mT) (q : Nat) (x : Int32) : goO h v p day ns (m_sI T q x) = m_sI (goO h v p day ns T) q x := by
  unfold goO
  split
  · rfl
  · exact goT_sI h _ p day T q x ns
theorem goO_f {h : Nat → Int32} {v p day : Int32} {T : mT} {today : Int32} {b : Int} {np ns : Nat} (hv : ivB T.2.1 today b np ns) (hb : b ≤ 1000000000) (hp : rv p np) : (goO h v p day ns T).1 = T.1 ∧ (goO h v p day ns T).2.2 = T.2.2 ∧ (∀ r, r ≠ 19 → r ≠ 22 → r ≠ 23 → r ≠ 24 → (goO h v p day ns T).2.1 r = T.2.1 r) ∧ ivB (goO h v p day ns T).2.1 today (b + 1) np ns := by
  unfold goO
  split
  · exact ⟨rfl, rfl, fun _ _ _ _ _ => rfl, hv.mono (by omega)⟩
  · obtain ⟨a1, a2, a3, _⟩ := goT_f (h := h) (s := v.toNatClampNeg) (p := p) (day := day) hb (fun i hi => (hv.1 i hi).2.2.2.2.2.2.2.1) ns (Nat.le_refl _)
    exact ⟨a1, a2, a3, ivB_go hv hb hp⟩
section TR
variable {np nr ns no : Nat} {T : mT} {X : String → mT → Prop}
theorem c_gupd {σ τ a k : Nat} {op : Int32 → Int32 → Int32} {K : mT → Prop} (hσ : σ < 2 * no) (hτ : τ < 2 * no) (ha : a < np) (hk : k < 4) (hnp : np ≤ 10) (e0 : T.2.1 26 (ixs σ 0 1) = nI a) (e3 : T.2.1 26 (ixs τ 3 6) = nI k) (h : K (m_sA T 2 (4 * a + k) (op (T.2.1 2 (4 * a + k)) (T.2.1 26 (ixs τ 2 5))))) : u_g (cN np nr ns no) (some σ) 5 (fun i => rf (T.2.1 26 (10 * (i / 2) + (if i % 2 = 0 then 0 else 1)))) (fun v1 => u_g (cN np nr ns no) v1 3 (fun i => some (i)) (fun v4 => u_g (cN np nr ns no) (some τ) 5 (fun i => T.2.1 26 (10 * (i / 2) + (if i % 2 = 0 then 3 else 6))) (fun v8 => u_a (cN np nr ns no) v4 10 4 v8 (fun i j => T.2.1 2 (4 * i + j)) (fun v12 => u_g (cN np nr ns no) (some τ) 5 (fun i => T.2.1 26 (10 * (i / 2) + (if i % 2 = 0 then 2 else 5))) (fun v14 => u_a (cN np nr ns no) v4 10 4 v8 (fun i j => m_sA T 2 (4 * i + j) (op v12 v14)) K))))) := by
  refine ugi (c := cN np nr ns no) (k := 5) hσ ?_
  show u_g _ (rf (T.2.1 26 (ixs σ 0 1))) 3 _ _
  rw [e0, rf_n (by omega)]
  refine ugi (c := cN np nr ns no) (k := 3) ha (ugi (c := cN np nr ns no) (k := 5) hτ ?_)
  show u_a _ _ 10 4 (T.2.1 26 (ixs τ 3 6)) _ _
  rw [e3]
  refine uai (c := cN np nr ns no) (k := 10) ha hk (by decide) (ugi (c := cN np nr ns no) (k := 5) hτ ?_)
  show u_a _ _ 10 4 (T.2.1 26 (ixs τ 3 6)) _ _
  rw [e3]
  exact uai (c := cN np nr ns no) (k := 10) ha hk (by decide) h
/-- passing on what a side gives, if it gives something -/
theorem c_goO {σ τ p : Nat} {K : mT → Prop} {b : Int} {today : Int32} (hσ : σ < 2 * no) (hτ : τ < 2 * no) (hp : p < np) (hnp : np ≤ 10) (hns : ns ≤ 40) (hv : ivB T.2.1 today b np ns) (hb : b ≤ 1000000000) (e4 : rv (T.2.1 26 (ixs σ 4 7)) ns) (e0 : T.2.1 26 (ixs τ 0 1) = nI p) (h : K (goO (T.2.1 18) (T.2.1 26 (ixs σ 4 7)) (nI p) (T.1 1) ns T)) : u_g (cN np nr ns no) (some σ) 5 (fun i => rf (T.2.1 26 (10 * (i / 2) + (if i % 2 = 0 then 4 else 7)))) (fun v77 => ((v77 = none → K T) ∧ (¬ v77 = none → u_g (cN np nr ns no) (some 0) 8 (fun _ => some (0)) (fun v84 => u_g (cN np nr ns no) (some σ) 5 (fun i => rf (T.2.1 26 (10 * (i / 2) + (if i % 2 = 0 then 4 else 7)))) (fun v88 => u_g (cN np nr ns no) (some τ) 5 (fun i => rf (T.2.1 26 (10 * (i / 2) + (if i % 2 = 0 then 0 else 1)))) (fun v92 => u_g (cN np nr ns no) (some 0) 8 (fun _ => T.1 1) (fun v96 => u_at (cN np nr ns no) v84 7 (fun b99 => uX6_passOn (cN np nr ns no) b99 v88 v92 v96 T K X)))))))) := by
  refine ugi (c := cN np nr ns no) (k := 5) hσ ?_
  show (rf (T.2.1 26 (ixs σ 4 7)) = none → _) ∧ (¬ rf (T.2.1 26 (ixs σ 4 7)) = none → _)
  rcases e4 with e | ⟨s, hs, e⟩
  · have eg : goO (T.2.1 18) (T.2.1 26 (ixs σ 4 7)) (nI p) (T.1 1) ns T = T := if_pos (by rw [e]; exact m1lt)
    rw [eg] at h
    rw [e, rf_m]
    exact ifp rfl h
  · have eg : goO (T.2.1 18) (T.2.1 26 (ixs σ 4 7)) (nI p) (T.1 1) ns T = goT (T.2.1 18) s (nI p) (T.1 1) T ns := by
      unfold goO
      rw [e, if_neg (nInn (by omega)), nI_clamp (by omega)]
    rw [eg] at h
    rw [e, rf_n (by omega)]
    refine ifn (by simp) (ug8 (ugi (c := cN np nr ns no) (k := 5) hσ ?_))
    show u_g _ (some τ) 5 _ (fun v92 => u_g _ (some 0) 8 _ (fun v96 => u_at _ (some 0) 7 (fun b99 => uX6_passOn _ b99 (rf (T.2.1 26 (ixs σ 4 7))) v92 v96 T K X)))
    rw [e, rf_n (by omega)]
    refine ugi (c := cN np nr ns no) (k := 5) hτ ?_
    show u_g _ (some 0) 8 _ (fun v96 => u_at _ (some 0) 7 (fun b99 => uX6_passOn _ b99 (some s) (rf (T.2.1 26 (ixs τ 0 1))) v96 T K X))
    rw [e0, rf_n (by omega)]
    exact ug8 (u7 (c_goes hns hs hp hv hb h))
theorem m_goO {v p : Int32} {K : mT → Prop} {b : Int} {today : Int32} (hns : ns ≤ 40) (h25 : T.1 25 = nI ns) (hv : ivB T.2.1 today b np ns) (hb : b ≤ 1000000000) (e4 : rv v ns) (h : K (goO (T.2.1 18) v p (T.1 1) ns T)) : (v < 0 → K T) ∧ (¬ v < 0 → tX8_goes v p T K) := by
  rcases e4 with e | ⟨s, hs, e⟩
  · have eg : goO (T.2.1 18) v p (T.1 1) ns T = T := if_pos (by rw [e]; exact m1lt)
    rw [eg] at h
    exact ifp (by rw [e]; exact m1lt) h
  · have eg : goO (T.2.1 18) v p (T.1 1) ns T = goT (T.2.1 18) s p (T.1 1) T ns := by
      unfold goO
      rw [e, if_neg (nInn (by omega)), nI_clamp (by omega)]
    rw [eg] at h
    refine ifn (by rw [e]; exact nInn (by omega)) ?_
    rw [e]
    exact m_goes hns h25 hs hv hb h
end TR
section TR2
variable {n np nr ns no : Nat} {T : mT}
/-- all that agree changes -/
noncomputable def agT (T : mT) (ns o a b k k' : Nat) : mT :=
  m_sA (goO (T.2.1 18) (T.2.1 26 (10 * o + 7)) (nI a) (T.1 1) ns (goO (T.2.1 18) (T.2.1 26 (10 * o + 4)) (nI b) (T.1 1) ns (st2 T (tr (T.2.1 2) (4 * a + k) (4 * a + k') (4 * b + k) (4 * b + k') (T.2.1 26 (10 * o + 2)) (T.2.1 26 (10 * o + 5)))))) 27 o 0
theorem ivB_st2 {g : Nat → Int32} {today : Int32} {b : Int} (hv : ivB T.2.1 today b np ns) : ivB (st2 T g).2.1 today b np ns := hv
theorem c_trade {Q : mT → Prop} {X : String → mT → Prop} {o a b k k' : Nat} (hI : IV n T np nr ns no) (hn : n ≤ 600) (ho : o < no) (ha : a < np) (hb : b < np) (hk : k < 4) (hk' : k' < 4) (r0 : T.2.1 26 (10 * o) = nI a) (r1 : T.2.1 26 (10 * o + 1) = nI b) (r3 : T.2.1 26 (10 * o + 3) = nI k) (r6 : T.2.1 26 (10 * o + 6) = nI k') (h : Q (goO (T.2.1 18) (T.2.1 26 (10 * o + 7)) (nI a) (T.1 1) ns (goO (T.2.1 18) (T.2.1 26 (10 * o + 4)) (nI b) (T.1 1) ns (st2 T (tr (T.2.1 2) (4 * a + k) (4 * a + k') (4 * b + k) (4 * b + k') (T.2.1 26 (10 * o + 2)) (T.2.1 26 (10 * o + 5))))))) : uX7_trade (cN np nr ns no) 0 (some (2 * o)) (some (2 * o + 1)) T Q X := by
  have hnp := hI.1.1.2
  have hns := hI.1.2.2.1.2
  have hB := ivS_B.mp hI.2.2.2.2.1
  have hbb : (100 * n : Int) ≤ 1000000000 := by omega
  obtain ⟨_, _, _, _, _, v4, v7, _⟩ := hI.2.2.2.2.2 o ho
  have s0 : 2 * o < 2 * no := by omega
  have s1 : 2 * o + 1 < 2 * no := by omega
  have a0 : T.2.1 26 (ixs (2 * o) 0 1) = nI a := by rw [ixs0]; exact r0
  have a3 : T.2.1 26 (ixs (2 * o) 3 6) = nI k := by rw [ixs0]; exact r3
  have b0 : T.2.1 26 (ixs (2 * o + 1) 0 1) = nI b := by rw [ixs1]; exact r1
  have b3 : T.2.1 26 (ixs (2 * o + 1) 3 6) = nI k' := by rw [ixs1]; exact r6
  have e2 : T.2.1 26 (ixs (2 * o) 2 5) = T.2.1 26 (10 * o + 2) := by rw [ixs0]
  have e5 : T.2.1 26 (ixs (2 * o + 1) 2 5) = T.2.1 26 (10 * o + 5) := by rw [ixs1]
  have e4 : T.2.1 26 (ixs (2 * o) 4 7) = T.2.1 26 (10 * o + 4) := by rw [ixs0]
  have e7 : T.2.1 26 (ixs (2 * o + 1) 4 7) = T.2.1 26 (10 * o + 7) := by rw [ixs1]
  refine c_gupd (op := fun x y => x - y) s0 s0 ha hk hnp a0 a3 ?_
  rw [e2, st2_0]
  refine c_gupd (T := st2 T _) (op := fun x y => x - y) s1 s1 hb hk' hnp b0 b3 ?_
  rw [st2_sA]
  refine c_gupd (T := st2 T _) (op := fun x y => x + y) s0 s1 ha hk' hnp a0 b3 ?_
  rw [st2_sA]
  refine c_gupd (T := st2 T _) (op := fun x y => x + y) s1 s0 hb hk hnp b0 a3 ?_
  rw [st2_sA]
  have eT : st2 T (upd (upd (upd (upd (T.2.1 2) (4 * a + k) (T.2.1 2 (4 * a + k) - T.2.1 26 (10 * o + 2))) (4 * b + k') ((upd (T.2.1 2) (4 * a + k) (T.2.1 2 (4 * a + k) - T.2.1 26 (10 * o + 2))) (4 * b + k') - T.2.1 26 (ixs (2 * o + 1) 2 5))) (4 * a + k') ((upd (upd (T.2.1 2) (4 * a + k) (T.2.1 2 (4 * a + k) - T.2.1 26 (10 * o + 2))) (4 * b + k') ((upd (T.2.1 2) (4 * a + k) (T.2.1 2 (4 * a + k) - T.2.1 26 (10 * o + 2))) (4 * b + k') - T.2.1 26 (ixs (2 * o + 1) 2 5))) (4 * a + k') + T.2.1 26 (ixs (2 * o + 1) 2 5))) (4 * b + k) ((upd (upd (upd (T.2.1 2) (4 * a + k) (T.2.1 2 (4 * a + k) - T.2.1 26 (10 * o + 2))) (4 * b + k') ((upd (T.2.1 2) (4 * a + k) (T.2.1 2 (4 * a + k) - T.2.1 26 (10 * o + 2))) (4 * b + k') - T.2.1 26 (ixs (2 * o + 1) 2 5))) (4 * a + k') ((upd (upd (T.2.1 2) (4 * a + k) (T.2.1 2 (4 * a + k) - T.2.1 26 (10 * o + 2))) (4 * b + k') ((upd (T.2.1 2) (4 * a + k) (T.2.1 2 (4 * a + k) - T.2.1 26 (10 * o + 2))) (4 * b + k') - T.2.1 26 (ixs (2 * o + 1) 2 5))) (4 * a + k') + T.2.1 26 (ixs (2 * o + 1) 2 5))) (4 * b + k) + T.2.1 26 (ixs (2 * o) 2 5))) = st2 T (tr (T.2.1 2) (4 * a + k) (4 * a + k') (4 * b + k) (4 * b + k') (T.2.1 26 (10 * o + 2)) (T.2.1 26 (10 * o + 5))) := by
    rw [e2, e5]
    rfl
  generalize hT1 : st2 T (tr (T.2.1 2) (4 * a + k) (4 * a + k') (4 * b + k) (4 * b + k') (T.2.1 26 (10 * o + 2)) (T.2.1 26 (10 * o + 5))) = T1 at h eT
  have eT' := eT
  suffices hs : u_g (cN np nr ns no) (some (2 * o)) 5 (fun i => rf (T1.2.1 26 (10 * (i / 2) + (if i % 2 = 0 then 4 else 7)))) (fun v77 => ((v77 = none → uX7_trade_J102 (cN np nr ns no) Q X (some 0) (some (2 * o)) (some (2 * o + 1)) T1) ∧ (¬ v77 = none → u_g (cN np nr ns no) (some 0) 8 (fun _ => some (0)) (fun v84 => u_g (cN np nr ns no) (some (2 * o)) 5 (fun i => rf (T1.2.1 26 (10 * (i / 2) + (if i % 2 = 0 then 4 else 7)))) (fun v88 => u_g (cN np nr ns no) (some (2 * o + 1)) 5 (fun i => rf (T1.2.1 26 (10 * (i / 2) + (if i % 2 = 0 then 0 else 1)))) (fun v92 => u_g (cN np nr ns no) (some 0) 8 (fun _ => T1.1 1) (fun v96 => u_at (cN np nr ns no) v84 7 (fun b99 => uX6_passOn (cN np nr ns no) b99 v88 v92 v96 T1 (fun T => uX7_trade_J102 (cN np nr ns no) Q X (some 0) (some (2 * o)) (some (2 * o + 1)) T) X)))))))) by
    rw [← eT] at hs
    exact hs
  have hB1 : ivB T1.2.1 (T.1 1) (100 * n) np ns := by rw [← hT1]; exact ivB_st2 hB
  have q1 : T1.1 = T.1 := by rw [← hT1]; rfl
  have q18 : T1.2.1 18 = T.2.1 18 := by rw [← hT1]; rfl
  have q26 : T1.2.1 26 = T.2.1 26 := by rw [← hT1]; rfl
  obtain ⟨f1, f2, f3, f4⟩ := goO_f (h := T.2.1 18) (v := T.2.1 26 (10 * o + 4)) (p := nI b) (day := T.1 1) hB1 hbb (rv_p hb)
  refine c_goO (T := T1) (K := fun T => uX7_trade_J102 (cN np nr ns no) Q X (some 0) (some (2 * o)) (some (2 * o + 1)) T) s0 s1 hb hnp hns hB1 hbb (by rw [q26, e4]; exact v4) (by rw [q26]; exact b0) ?_
  rw [q18, q26, e4, q1]
  generalize hT2 : goO (T.2.1 18) (T.2.1 26 (10 * o + 4)) (nI b) (T.1 1) ns T1 = T2 at h f1 f2 f3 f4 ⊢
  have p18 : T2.2.1 18 = T.2.1 18 := (f3 18 (by decide) (by decide) (by decide) (by decide)).trans q18
  have p26 : T2.2.1 26 = T.2.1 26 := (f3 26 (by decide) (by decide) (by decide) (by decide)).trans q26
  refine c_goO (T := T2) (K := Q) s1 s0 ha hnp hns f4 (by omega) (by rw [p26, e7]; exact v7) (by rw [p26]; exact a0) ?_
  rw [p18, p26, e7, f1, q1]
  exact h
theorem m_trade {Q : Int32 → mT → Prop} {o a b k k' : Nat} (hI : IV n T np nr ns no) (hn : n ≤ 600) (ho : o < no) (ha : a < np) (hb : b < np) (hab : a ≠ b) (hk : k < 4) (hk' : k' < 4) (r0 : T.2.1 26 (10 * o) = nI a) (r1 : T.2.1 26 (10 * o + 1) = nI b) (r3 : T.2.1 26 (10 * o + 3) = nI k) (r6 : T.2.1 26 (10 * o + 6) = nI k') (h : Q 0 (agT T ns o a b k k')) : t_ldI T 26 (nI (10 * o)) (fun v70 => t_ldI T 26 (nI (10 * o + 1)) (fun v82 => t_ldI T 26 (nI (10 * o + 3)) (fun v99 => t_ldI T 2 (((4 : Int32) * v70) + v99) (fun v102 => t_ldI T 26 (nI (10 * o + 2)) (fun v110 => t_stI T 2 (((4 : Int32) * v70) + v99) (v102 - v110) (fun T => t_ldI T 26 (nI (10 * o + 6)) (fun v127 => t_ldI T 2 (((4 : Int32) * v82) + v127) (fun v130 => t_ldI T 26 (nI (10 * o + 5)) (fun v138 => t_stI T 2 (((4 : Int32) * v82) + v127) (v130 - v138) (fun T => t_ldI T 26 (nI (10 * o + 3)) (fun v154 => t_ldI T 2 (((4 : Int32) * v82) + v154) (fun v157 => t_ldI T 26 (nI (10 * o + 2)) (fun v165 => t_stI T 2 (((4 : Int32) * v82) + v154) (v157 + v165) (fun T => t_ldI T 26 (nI (10 * o + 6)) (fun v182 => t_ldI T 2 (((4 : Int32) * v70) + v182) (fun v185 => t_ldI T 26 (nI (10 * o + 5)) (fun v193 => t_stI T 2 (((4 : Int32) * v70) + v182) (v185 + v193) (fun T => t_ldI T 26 (nI (10 * o + 4)) (fun v203 => ((v203 < 0 → tX8_agree_J227 Q (nI o) (nI (10 * o)) T) ∧ (¬ v203 < 0 → t_ldI T 26 (nI (10 * o + 4)) (fun v215 => t_ldI T 26 (nI (10 * o + 1)) (fun v223 => tX8_goes v215 v223 T (fun T => tX8_agree_J227 Q (nI o) (nI (10 * o)) T)))))))))))))))))))))))) := by
  have hnp := hI.1.1.2
  have hns := hI.1.2.2.1
  have hno := hI.1.2.2.2.2
  have hB := ivS_B.mp hI.2.2.2.2.1
  have hbb : (100 * n : Int) ≤ 1000000000 := by omega
  obtain ⟨_, _, _, _, _, v4, v7, _⟩ := hI.2.2.2.2.2 o ho
  have L : ∀ x, x < 10 → 10 * o + x < 600 := fun x hx => by omega
  refine m_ld (L 0 (by decide)) (m_ld (L 1 (by decide)) (m_ld (L 3 (by decide)) ?_))
  rw [r0, r1, r3, ix4]
  refine m_ld (show 4 * a + k < 40 by omega) (m_ld (L 2 (by decide)) (m_st (show 4 * a + k < 40 by omega) (m_ld (L 6 (by decide)) ?_)))
  rw [st2_0]
  show t_ldI (st2 T _) 2 ((4 : Int32) * nI b + T.2.1 26 (10 * o + 6)) (fun v130 => t_ldI (st2 T _) 26 (nI (10 * o + 5)) (fun v138 => t_stI (st2 T _) 2 ((4 : Int32) * nI b + T.2.1 26 (10 * o + 6)) (v130 - v138) _))
  rw [r6, ix4]
  refine m_ld (show 4 * b + k' < 40 by omega) (m_ld (L 5 (by decide)) (m_st (show 4 * b + k' < 40 by omega) (m_ld (L 3 (by decide)) ?_)))
  rw [st2_sA]
  show t_ldI (st2 T _) 2 ((4 : Int32) * nI b + T.2.1 26 (10 * o + 3)) (fun v157 => t_ldI (st2 T _) 26 (nI (10 * o + 2)) (fun v165 => t_stI (st2 T _) 2 ((4 : Int32) * nI b + T.2.1 26 (10 * o + 3)) (v157 + v165) _))
  rw [r3, ix4]
  refine m_ld (show 4 * b + k < 40 by omega) (m_ld (L 2 (by decide)) (m_st (show 4 * b + k < 40 by omega) (m_ld (L 6 (by decide)) ?_)))
  rw [st2_sA]
  show t_ldI (st2 T _) 2 ((4 : Int32) * nI a + T.2.1 26 (10 * o + 6)) (fun v185 => t_ldI (st2 T _) 26 (nI (10 * o + 5)) (fun v193 => t_stI (st2 T _) 2 ((4 : Int32) * nI a + T.2.1 26 (10 * o + 6)) (v185 + v193) _))
  rw [r6, ix4]
  refine m_ld (show 4 * a + k' < 40 by omega) (m_ld (L 5 (by decide)) (m_st (show 4 * a + k' < 40 by omega) ?_))
  rw [st2_sA]
  have eT := tr_comm (T.2.1 2) (A := 4 * a + k) (A' := 4 * a + k') (B := 4 * b + k) (B' := 4 * b + k') (by omega) (T.2.1 26 (10 * o + 2)) (T.2.1 26 (10 * o + 5))
  have eS : st2 T (tr (T.2.1 2) (4 * a + k) (4 * a + k') (4 * b + k) (4 * b + k') (T.2.1 26 (10 * o + 2)) (T.2.1 26 (10 * o + 5))) = st2 T (upd (upd (upd (upd (T.2.1 2) (4 * a + k) (T.2.1 2 (4 * a + k) - T.2.1 26 (10 * o + 2))) (4 * b + k') (upd (T.2.1 2) (4 * a + k) (T.2.1 2 (4 * a + k) - T.2.1 26 (10 * o + 2)) (4 * b + k') - T.2.1 26 (10 * o + 5))) (4 * b + k) (upd (upd (T.2.1 2) (4 * a + k) (T.2.1 2 (4 * a + k) - T.2.1 26 (10 * o + 2))) (4 * b + k') (upd (T.2.1 2) (4 * a + k) (T.2.1 2 (4 * a + k) - T.2.1 26 (10 * o + 2)) (4 * b + k') - T.2.1 26 (10 * o + 5)) (4 * b + k) + T.2.1 26 (10 * o + 2))) (4 * a + k') (upd (upd (upd (T.2.1 2) (4 * a + k) (T.2.1 2 (4 * a + k) - T.2.1 26 (10 * o + 2))) (4 * b + k') (upd (T.2.1 2) (4 * a + k) (T.2.1 2 (4 * a + k) - T.2.1 26 (10 * o + 2)) (4 * b + k') - T.2.1 26 (10 * o + 5))) (4 * b + k) (upd (upd (T.2.1 2) (4 * a + k) (T.2.1 2 (4 * a + k) - T.2.1 26 (10 * o + 2))) (4 * b + k') (upd (T.2.1 2) (4 * a + k) (T.2.1 2 (4 * a + k) - T.2.1 26 (10 * o + 2)) (4 * b + k') - T.2.1 26 (10 * o + 5)) (4 * b + k) + T.2.1 26 (10 * o + 2)) (4 * a + k') + T.2.1 26 (10 * o + 5))) := by rw [eT]
  suffices hs : ∀ T1, T1 = st2 T (tr (T.2.1 2) (4 * a + k) (4 * a + k') (4 * b + k) (4 * b + k') (T.2.1 26 (10 * o + 2)) (T.2.1 26 (10 * o + 5))) → t_ldI T1 26 (nI (10 * o + 4)) (fun v203 => ((v203 < 0 → tX8_agree_J227 Q (nI o) (nI (10 * o)) T1) ∧ (¬ v203 < 0 → t_ldI T1 26 (nI (10 * o + 4)) (fun v215 => t_ldI T1 26 (nI (10 * o + 1)) (fun v223 => tX8_goes v215 v223 T1 (fun T => tX8_agree_J227 Q (nI o) (nI (10 * o)) T)))))) from hs _ eS.symm
  intro T1 hT1
  have hB1 : ivB T1.2.1 (T.1 1) (100 * n) np ns := by rw [hT1]; exact ivB_st2 hB
  have q1 : T1.1 = T.1 := by rw [hT1]; rfl
  have q18 : T1.2.1 18 = T.2.1 18 := by rw [hT1]; rfl
  have q26 : T1.2.1 26 = T.2.1 26 := by rw [hT1]; rfl
  obtain ⟨f1, f2, f3, f4⟩ := goO_f (h := T.2.1 18) (v := T.2.1 26 (10 * o + 4)) (p := nI b) (day := T.1 1) hB1 hbb (rv_p hb)
  refine m_ld (L 4 (by decide)) ?_
  rw [q26]
  have two : ∀ T2, T2 = goO (T.2.1 18) (T.2.1 26 (10 * o + 4)) (nI b) (T.1 1) ns T1 → tX8_agree_J227 Q (nI o) (nI (10 * o)) T2 := fun T2 hT2 => by
    rw [← hT2] at f1 f2 f3 f4
    have p18 : T2.2.1 18 = T.2.1 18 := (f3 18 (by decide) (by decide) (by decide) (by decide)).trans q18
    have p26 : T2.2.1 26 = T.2.1 26 := (f3 26 (by decide) (by decide) (by decide) (by decide)).trans q26
    unfold tX8_agree_J227
    rw [show nI (10 * o) + 7 = nI (10 * o + 7) from nI_add _ 7]
    refine m_ld (L 7 (by decide)) ?_
    rw [p26]
    have g := m_goO (T := T2) (v := T.2.1 26 (10 * o + 7)) (p := nI a) (K := fun T => tX8_agree_J258 Q (nI o) T) hns.2 (by rw [f1, q1]; exact hns.1) f4 (by omega) v7 (by
      refine m_stZ (Or.inl rfl) (show o < 60 by omega) ?_
      rw [p18, f1, q1, hT2, hT1]
      exact h)
    refine ⟨g.1, fun z => m_ld (L 7 (by decide)) (m_ld (L 0 (by decide)) ?_)⟩
    rw [p26]
    show tX8_goes (T.2.1 26 (10 * o + 7)) (T.2.1 26 (10 * o)) T2 _
    rw [r0]
    exact g.2 z
  have g := m_goO (T := T1) (v := T.2.1 26 (10 * o + 4)) (p := nI b) (K := fun T => tX8_agree_J227 Q (nI o) (nI (10 * o)) T) hns.2 (by rw [q1]; exact hns.1) hB1 hbb v4 (by
    rw [q18, q1]
    exact two _ rfl)
  refine ⟨g.1, fun z => m_ld (L 4 (by decide)) (m_ld (L 1 (by decide)) ?_)⟩
  rw [q26, r1]
  exact g.2 z
end TR2
