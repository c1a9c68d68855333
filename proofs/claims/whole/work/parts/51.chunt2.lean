/-! The class's hunt: exchange, the search, entering the rules. -/
theorem lu_eq {f : Nat → Int64} {i : Nat} {x : Int64} : vp_updL f i x i = x := if_pos rfl
theorem lu_ne {f : Nat → Int64} {i j : Nat} {x : Int64} (h : j ≠ i) : vp_updL f i x j = f j := if_neg h
theorem sJ_at (T : mT) (k i j : Nat) (x : Int64) : (m_sJ T k i x).2.2 k j = if j = i then x else T.2.2 k j := by
  show va_up T.2.2 k (vp_updL (T.2.2 k) i x) k j = _
  rw [va_up_self]
  rfl
theorem sJ_n {T : mT} {k k' i : Nat} {x : Int64} (h : k' ≠ k) : (m_sJ T k i x).2.2 k' = T.2.2 k' := va_up_ne _ _ h
theorem sA_at (T : mT) (k i j : Nat) (x : Int32) : (m_sA T k i x).2.1 k j = if j = i then x else T.2.1 k j := by
  show va_up T.2.1 k (upd (T.2.1 k) i x) k j = _
  rw [va_up_self]
  rfl
theorem sA_n {T : mT} {k k' i : Nat} {x : Int32} (h : k' ≠ k) : (m_sA T k i x).2.1 k' = T.2.1 k' := va_up_ne _ _ h
theorem uv_bd {v : Nat → V4} (hv : ∀ r k, (v r k).natAbs ≤ 9) (x k : Nat) : (uv v x k).natAbs ≤ 9 := by
  unfold uv
  split
  · exact hv x k
  · show (if k = x - 10 then (-1 : Int) else 0).natAbs ≤ 9
    split <;> decide
theorem Dn_bd {v : Nat → V4} (hv : ∀ r k, (v r k).natAbs ≤ 9) (n : Nat → Nat) : (Dn v n).natAbs ≤ 157464 := det_bd fun i k => uv_bd hv (n i) k
theorem En_bd {v : Nat → V4} (hv : ∀ r k, (v r k).natAbs ≤ 9) (n : Nat → Nat) (i x : Nat) : (En v n i x).natAbs ≤ 157464 := det_bd fun i' k => by
  unfold rp
  split
  · exact uv_bd hv x k
  · exact uv_bd hv (n i') k
theorem Cn_bd {v : Nat → V4} (hv : ∀ r k, (v r k).natAbs ≤ 9) (n : Nat → Nat) (x : Nat) : (Cn v n x).natAbs ≤ 787320 := by
  have s1 : ∀ x, (sg x).natAbs ≤ 1 := fun x => by unfold sg; split <;> decide
  have a := mb (Dn_bd hv n) (s1 x)
  have e0 := mb (s1 (n 0)) (En_bd hv n 0 x)
  have e1 := mb (s1 (n 1)) (En_bd hv n 1 x)
  have e2 := mb (s1 (n 2)) (En_bd hv n 2 x)
  have e3 := mb (s1 (n 3)) (En_bd hv n 3 x)
  unfold Cn
  omega
theorem tb_bd {v : Nat → V4} (hv : ∀ r k, (v r k).natAbs ≤ 9) (n : Nat → Nat) (i x : Nat) : (tb v n i x).natAbs ≤ 787320 := by
  unfold tb
  split
  · have := En_bd hv n i x; omega
  · exact Cn_bd hv n x
section CH2
variable {v : Nat → V4} {m np nr ns no : Nat} {n c : Nat → Nat} {T : mT} {X : String → mT → Prop}
theorem rep {Q : mT → Prop} {i r p : Nat} {a b w : Nat → Int} {D P : Int} (hm : m ≤ 10) (hi : i < 5) (hr : r < 5) (hir : i ≠ r) (hp : p < m) (h43 : T.1 43 = nI m) (h44 : T.2.2 44 0 = lI D) (hD : 0 < D) (hDb : D ≤ 157464) (ha : ∀ j, j < m → T.2.2 (50 + i) j = lI (a j)) (hb : ∀ j, j < m → T.2.2 (50 + r) j = lI (b j)) (hw : ∀ j, j < m → j ≠ p → a p * b j + P * a j = D * w j) (hwb : ∀ j, j < m → (w j).natAbs ≤ 787320) (hq : ∀ T', T'.1 = T.1 → T'.2.1 = T.2.1 → (∀ k, k ≠ 50 + i → T'.2.2 k = T.2.2 k) → (∀ j, j < m → T'.2.2 (50 + i) j = lI (if j = p then - a p else w j)) → Q T') : uX0_replaceIn (cN np nr ns no) 0 (nI i) (nI r) (nI p) (lI P) T Q X := by
  have main : ∀ d j T', j + d = m → T'.1 = T.1 → T'.2.1 = T.2.1 → (∀ k, k ≠ 50 + i → T'.2.2 k = T.2.2 k) → (∀ j', j' < m → T'.2.2 (50 + i) j' = lI (if j' < j ∧ j' ≠ p then w j' else a j')) → uX0_replaceIn_L23 (uX0_replaceIn_J83 (cN np nr ns no) Q X) (cN np nr ns no) Q X (d + 1) (some 0) (nI i) (nI r) (nI p) (lI P) (lI (a p)) (nI j) T' := fun d => by
    induction d with
    | zero =>
      intro j T' hj e1 e2 e3 e4
      refine ug1 ?_
      rw [e1, h43]
      refine ifp (nI_le (by omega) (by omega)) ?_
      refine ug1 (u21 hi (u20 hi (show p < 10 by omega) (hq _ e1 e2 (fun k hk => (sJ_n hk).trans (e3 k hk)) (fun j' hj' => ?_))))
      rw [sJ_at]
      by_cases z : j' = p
      · rw [if_pos z, if_pos z, lI_neg]
      · rw [if_neg z, if_neg z, e4 j' hj', if_pos ⟨by omega, z⟩]
    | succ d ih =>
      intro j T' hj e1 e2 e3 e4
      refine ug1 ?_
      rw [e1, h43]
      refine ifn (nI_ge (by omega) (by omega)) ?_
      by_cases z : j = p
      · refine ifp (by rw [z]) ?_
        show uX0_replaceIn_L23 _ _ _ _ (d + 1) (some 0) _ _ _ _ _ (nI j + 1) T'
        rw [nI_1]
        refine ih (j + 1) T' (by omega) e1 e2 e3 (fun j' hj' => ?_)
        rw [e4 j' hj']
        congr 1
        by_cases z2 : j' < j ∧ j' ≠ p
        · rw [if_pos z2, if_pos ⟨by omega, z2.2⟩]
        · rw [if_neg z2, if_neg (by omega)]
      · refine ifn (fun q => z ((nI_eq (by omega) (by omega)).mp q)) ?_
        refine ug1 (u21 hi (ug1 (u21 hr (u20 hr (show j < 10 by omega) (ug1 (u21 hi (u20 hi (show j < 10 by omega) (ug1 ?_))))))))
        have e44 : T'.2.2 44 0 = lI D := by rw [e3 44 (by omega)]; exact h44
        have er : T'.2.2 (50 + r) j = lI (b j) := by rw [e3 (50 + r) (by omega)]; exact hb j (by omega)
        have ei : T'.2.2 (50 + i) j = lI (a j) := by rw [e4 j (by omega), if_neg (by omega)]
        rw [e44, er, ei]
        refine ⟨lI_ne (by omega) (by omega), u20 hi (show j < 10 by omega) ?_⟩
        have wb : (D * w j).natAbs ≤ 157464 * 787320 := mb (by omega) (hwb j (by omega))
        rw [lI_mul, lI_mul, lI_add, hw j (by omega) z, lI_div hD (by omega) (by omega)]
        show uX0_replaceIn_L23 _ _ _ _ (d + 1) (some 0) _ _ _ _ _ (nI j + 1) _
        rw [nI_1]
        refine ih (j + 1) _ (by omega) e1 e2 (fun k hk => (sJ_n hk).trans (e3 k hk)) (fun j' hj' => ?_)
        rw [sJ_at]
        by_cases z3 : j' = j
        · rw [if_pos z3, if_pos ⟨by omega, by omega⟩, z3]
        · rw [if_neg z3, e4 j' hj']
          congr 1
          by_cases z2 : j' < j ∧ j' ≠ p
          · rw [if_pos z2, if_pos ⟨by omega, z2.2⟩]
          · rw [if_neg z2, if_neg (by omega)]
  refine ug1 ?_
  rw [h44]
  refine ⟨fun _ => ?_, fun q => absurd ((cmp_eq _ _).mp q) (lI_ne (by omega) (by omega))⟩
  refine ug1 (u21 hi (u20 hi (show p < 10 by omega) ?_))
  rw [ha p hp]
  refine ⟨m + 1, main m 0 T (by omega) rfl rfl (fun _ _ => rfl) (fun j' hj' => ?_)⟩
  rw [ha j' hj', if_neg (by omega)]
theorem tb_ex (hD : Dn v n ≠ 0) {i r p : Nat} (hi : i < 5) (hr : r < 4) (h : i ≠ r) (y : Nat) : tb v n i p * tb v n r y + En v n r p * tb v n i y = Dn v n * tb v (rp n r p) i y := by
  have er : tb v n r y = - En v n r y := if_pos hr
  rw [er]
  by_cases z : i < 4
  · have := En_ex v n hr z h p y
    unfold tb
    rw [if_pos z, if_pos z, if_pos z]
    grind
  · have := Cn_ex v n hr p y
    unfold tb
    rw [if_neg z, if_neg z, if_neg z]
    grind
theorem tb_exb (hD : Dn v n ≠ 0) {i r : Nat} (hr : r < 4) (h : i ≠ r) (p : Nat) : tb v (rp n r p) i (n r) = - tb v n i p := by
  unfold tb
  split
  · rename_i z
    rw [En_exb v n hr z h p hD]
  · exact Cn_exb v n hr p hD
theorem exch {Q : mT → Prop} {r p : Nat} (hm : m ≤ 10) (hv : ∀ r k, (v r k).natAbs ≤ 9) (h : Ht v m n c T) (hD : 0 < Dn v n) (hr : r < 4) (hp : p < m) (hq : ∀ T', Ht v m (rp n r (c p)) (rp c p (n r)) T' → hfr T T' → Q T') : uX0_exchange (cN np nr ns no) 0 (nI r) (nI p) T Q X := by
  have hDb := Dn_bd hv n
  refine ug1 (u21 (show r < 5 by omega) (u20 (show r < 5 by omega) (show p < 10 by omega) ?_))
  have e7 : - T.2.2 (50 + r) p = lI (En v n r (c p)) := by
    rw [h.2.2.2.2 r p (by omega) hp, show tb v n r (c p) = - En v n r (c p) from if_pos hr, lI_neg, Int.neg_neg]
  rw [e7]
  have main : ∀ d i T', i + d = 5 → T'.1 = T.1 → T'.2.1 = T.2.1 → (∀ k, k < 50 → T'.2.2 k = T.2.2 k) → (∀ i' j, i' < 5 → j < m → T'.2.2 (50 + i') j = lI (if i' < i ∧ i' ≠ r then tb v (rp n r (c p)) i' (rp c p (n r) j) else tb v n i' (c j))) → uX0_exchange_L13 (uX0_exchange_J40 (cN np nr ns no) Q X) (cN np nr ns no) Q X (d + 1) (some 0) (nI r) (nI p) (lI (En v n r (c p))) (nI i) T' := fun d => by
    induction d with
    | zero =>
      intro i T' hi e1 e2 e3 e4
      have ei : i = 5 := by omega
      subst ei
      refine ifp (nI_lt (a := 4) (b := 5) (by omega) (by omega)) ?_
      refine ug1 (u21 (show r < 5 by omega) (ug1 (u20 (show r < 5 by omega) (show p < 10 by omega) (ug1 (ug1 (u16 hr (ug1 (ug1 (u17 (show p < 10 by omega) (u16 hr (ug1 (u17 (show p < 10 by omega) ?_))))))))))))
      have n44 : 44 ≠ 50 + r := by omega
      have e44 : T'.2.2 44 0 = lI (Dn v n) := by rw [e3 44 (by omega)]; exact h.2.1
      refine hq _ ⟨?_, ?_, fun i hi => ?_, fun j hj => ?_, fun i j hi hj => ?_⟩ ?_
      · show T'.1 43 = nI m
        rw [e1]; exact h.1
      · show (m_sJ (m_sJ T' (50 + r) p (- T'.2.2 44 0)) 44 0 (lI (En v n r (c p)))).2.2 44 0 = _
        rw [sJ_at, if_pos rfl, Dn_ex]
      · show va_up (va_up T'.2.1 46 (upd (T'.2.1 46) r (T'.2.1 47 p))) 47 (upd (va_up T'.2.1 46 (upd (T'.2.1 46) r (T'.2.1 47 p)) 47) p (T'.2.1 46 r)) 46 i = _
        rw [va_up_ne _ _ (by decide), va_up_self]
        unfold upd rp
        split
        · rw [e2, h.2.2.2.1 p hp]
        · rw [e2, h.2.2.1 i hi]
      · show va_up (va_up T'.2.1 46 (upd (T'.2.1 46) r (T'.2.1 47 p))) 47 (upd (va_up T'.2.1 46 (upd (T'.2.1 46) r (T'.2.1 47 p)) 47) p (T'.2.1 46 r)) 47 j = _
        rw [va_up_self, va_up_ne _ _ (by decide)]
        unfold upd rp
        split
        · rw [e2, h.2.2.1 r hr]
        · rw [e2, h.2.2.2.1 j hj]
      · show (m_sJ (m_sJ T' (50 + r) p (- T'.2.2 44 0)) 44 0 (lI (En v n r (c p)))).2.2 (50 + i) j = _
        rw [sJ_n (by omega)]
        by_cases z : i = r
        · subst z
          rw [sJ_at]
          have t1 : ∀ y, tb v (rp n i (c p)) i y = tb v n i y := fun y => by
            unfold tb
            rw [if_pos hr, if_pos hr, En_row]
          rw [t1]
          by_cases z2 : j = p
          · rw [if_pos z2, e44, z2, rp_eq, lI_neg]
            unfold tb
            rw [if_pos hr, En_self v n hr]
          · rw [if_neg z2, rp_ne _ _ z2, e4 i j hi hj, if_neg (by omega)]
        · rw [sJ_n (by omega), e4 i j hi hj, if_pos ⟨by omega, z⟩]
      · intro k hk
        refine ⟨by show T'.1 k = _; rw [e1], ?_, ?_⟩
        · show va_up (va_up T'.2.1 46 (upd (T'.2.1 46) r (T'.2.1 47 p))) 47 (upd (va_up T'.2.1 46 (upd (T'.2.1 46) r (T'.2.1 47 p)) 47) p (T'.2.1 46 r)) k = _
          rw [va_up_ne _ _ (by omega), va_up_ne _ _ (by omega), e2]
        · show (m_sJ (m_sJ T' (50 + r) p (- T'.2.2 44 0)) 44 0 (lI (En v n r (c p)))).2.2 k = _
          rw [sJ_n (by omega), sJ_n (by omega), e3 k (by omega)]
    | succ d ih =>
      intro i T' hi e1 e2 e3 e4
      refine ifn (nI_nlt (a := 4) (b := i) (by omega) (by omega)) ?_
      by_cases z : i = r
      · refine ifp (by rw [z]) ?_
        show uX0_exchange_L13 _ _ _ _ (d + 1) (some 0) _ _ _ (nI i + 1) T'
        rw [nI_1]
        refine ih (i + 1) T' (by omega) e1 e2 e3 (fun i' j hi' hj => ?_)
        rw [e4 i' j hi' hj]
        congr 1
        by_cases z2 : i' < i ∧ i' ≠ r
        · rw [if_pos z2, if_pos ⟨by omega, z2.2⟩]
        · rw [if_neg z2, if_neg (by omega)]
      · refine ifn (fun q => z ((nI_eq (by omega) (by omega)).mp q)) (u1 ?_)
        refine rep (a := fun j => tb v n i (c j)) (b := fun j => tb v n r (c j)) (w := fun j => tb v (rp n r (c p)) i (c j)) (D := Dn v n) hm (by omega) (by omega) z hp (by rw [e1]; exact h.1) (by rw [e3 44 (by omega)]; exact h.2.1) hD (by omega) (fun j hj => by rw [e4 i j (by omega) hj, if_neg (by omega)]) (fun j hj => by rw [e4 r j (by omega) hj, if_neg (by omega)]) (fun j hj hne => tb_ex (by omega) (by omega) hr z (c j)) (fun j hj => tb_bd hv _ _ _) (fun T2 f1 f2 f3 f4 => ?_)
        show uX0_exchange_L13 _ _ _ _ (d + 1) (some 0) _ _ _ (nI i + 1) T2
        rw [nI_1]
        refine ih (i + 1) T2 (by omega) (f1.trans e1) (f2.trans e2) (fun k hk => (f3 k (by omega)).trans (e3 k hk)) (fun i' j hi' hj => ?_)
        by_cases z2 : i' = i
        · subst z2
          rw [f4 j hj]
          congr 1
          rw [if_pos (show i' < i' + 1 ∧ i' ≠ r from ⟨by omega, z⟩)]
          by_cases z3 : j = p
          · rw [if_pos z3, z3, rp_eq, tb_exb (by omega) hr z]
          · rw [if_neg z3, rp_ne _ _ z3]
        · rw [f3 (50 + i') (by omega), e4 i' j hi' hj]
          congr 1
          by_cases z3 : i' < i ∧ i' ≠ r
          · rw [if_pos z3, if_pos ⟨by omega, z3.2⟩]
          · rw [if_neg z3, if_neg (by omega)]
  exact ⟨6, main 5 0 T (by omega) rfl rfl (fun _ _ => rfl) (fun i j hi hj => by rw [h.2.2.2.2 i j hi hj, if_neg (by omega)])⟩
theorem finds {Q : Int32 → mT → Prop} (hm : m ≤ 10) (hv : ∀ r k, (v r k).natAbs ≤ 9) (h : Ht v m (fun i => 10 + i) (fun j => j) T) (hq0 : ∀ T', hfr T T' → (¬ ∃ x, Gain v m x) → Q 0 T') (hq1 : ∀ T', hfr T T' → mdl v m → Q 1 T') : uX0_findsGain (cN np nr ns no) 0 T Q X := by
  have main : ∀ d t n c T', t + d = 1001 → Ht v m n c T' → rch v m t n c → hfr T T' → uX0_findsGain_L2 (cN np nr ns no) Q X (d + 1) (some 0) (nI t) T' := fun d => by
    induction d with
    | zero =>
      intro t n c T' ht hT hR hF
      have : t = 1001 := by omega
      subst this
      exact absurd hR (rch_end hm)
    | succ d ih =>
      intro t n c T' ht hT hR hF
      obtain ⟨hP, hD⟩ := rch_ok hR
      have nb : ∀ i, i < 4 → n i < 14 := fun i hi => by
        have := hP.nb hi
        unfold nmx at this
        omega
      have nc : ∀ j, j < m → c j < 14 := fun j hj => by
        have := hP.nc hj
        unfold nmx at this
        omega
      refine ifn (nI_ge (a := t) (b := 1001) (by omega) (by omega)) (u1 ?_)
      refine ris hm hT (fun j _ => by have := Cn_bd hv n (c j); omega) nc (fun hle => ?_) (fun p hp hpos hmin => ?_)
      · refine ifp' rfl ⟨Or.inl rfl, hq0 T' hF fun ⟨x, hx⟩ => no_gain hm hP hD hle x hx⟩
      · have np1 : ∀ p, p < 14 → ¬ nI p = -1 := fun p hp z => by
          have := congrArg Int32.toInt z
          rw [nI_toInt (by omega)] at this
          have e1 : (-1 : Int32).toInt = -1 := by decide
          omega
        refine ifn' (np1 p (by omega)) (u1 ?_)
        refine hin hp hm hT (fun i _ => by have := En_bd hv n i (c p); omega) nb (fun hle => ?_) (fun r hr hpos2 hmin2 => ?_)
        · exact ifp' rfl ⟨Or.inr rfl, hq1 T' hF (fin_mdl hm hP hp hD hpos hle)⟩
        · refine ifn' (np1 r (by omega)) (u1 (exch hm hv hT hD hr hp fun T2 hT2 hF2 => ?_))
          rw [nI_1]
          exact ih (t + 1) _ _ T2 (by omega) hT2 ⟨n, c, hR, r, p, hr, hp, hpos, hmin, hpos2, hmin2, rfl, rfl⟩ (hF.tr hF2)
  exact ⟨1002, main 1001 0 _ _ T (by omega) h ⟨rfl, rfl⟩ (hfr.rfl T)⟩
end CH2
