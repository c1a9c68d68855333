/-! The Model's constructor, and the beginning of the law. -/
def MD (S0 S : qS) (x : Nat) (ad : Nat → Nat) (D : List Nat) : Prop := old S0 S ∧ (∃ fR : Nat → Option Nat, XO S x 9 fR ∧ ∀ k, k ∈ D → fR (360 + k) = some (ad k)) ∧ ∀ k, k ∈ D → AF S (ad k) (30 + k) (m_len k)
theorem st_md {S0 S : qS} {x n : Nat} {ad : Nat → Nat} {D : List Nat} {K : qS → Prop} (k : Nat) (m : MD S0 S x ad D) (hx : x ∉ qL S0) (hk : k ∉ D) (hn : n = m_len k) (h : ∀ S' ad', MD S0 S' x ad' (k :: D) → K S') : w_new S (30 + k) n (fun q S => w_putR S (some x) 9 k (some q) K) := by
  obtain ⟨o, ⟨fR, x1, hf⟩, hd⟩ := m
  refine st_arr x1 fun S' q kk fq aq x2 => ?_
  refine h S' (fun j => if j = k then q else ad j) ⟨fun a ha => (o a ha).tr (kk a (o a ha).1 (fun e => hx (e ▸ ha))), ⟨_, x2, fun j hj => ?_⟩, fun j hj => ?_⟩
  · by_cases e : j = k
    · subst e
      show (if 360 + j = 40 * 9 + j then some q else fR (360 + j)) = some (if j = j then q else ad j)
      rw [if_pos (by omega), if_pos rfl]
    · have hj' : j ∈ D := (List.mem_cons.mp hj).resolve_left e
      show (if 360 + j = 40 * 9 + k then some q else fR (360 + j)) = some (if j = k then q else ad j)
      rw [if_neg e, ← hf j hj', if_neg (by omega)]
  · by_cases e : j = k
    · subst e
      show AF S' (if j = j then q else ad j) (30 + j) (m_len j)
      rw [if_pos rfl, ← hn]
      exact aq
    · have hj' : j ∈ D := (List.mem_cons.mp hj).resolve_left e
      show AF S' (if j = k then q else ad j) (30 + j) (m_len j)
      rw [if_neg e]
      have a1 := hd j hj'
      refine a1.s (kk _ a1.1.1 (fun z => ?_))
      have w1 := a1.1.2
      rw [z, x1.1.2] at w1
      omega
theorem m_init {S0 S : qS} {x : Nat} {K : qS → Prop} (hx : x ∉ qL S0) (o : old S0 S) (x0 : XO S x 9 (fun _ => none)) (h : ∀ S' ad, old S0 S' → RM S' x ad T00 → K S') : pX8_init x S K := by
  unfold pX8_init
  have m0 : MD S0 S x (fun _ => 0) [] := ⟨o, ⟨_, x0, fun k hk => nomatch hk⟩, fun k hk => nomatch hk⟩
  refine st_md 2 m0 hx (by decide) (by decide) fun S1 ad1 m1 => ?_
  refine st_md 3 m1 hx (by decide) (by decide) fun S2 ad2 m2 => ?_
  refine st_md 4 m2 hx (by decide) (by decide) fun S3 ad3 m3 => ?_
  refine st_md 7 m3 hx (by decide) (by decide) fun S4 ad4 m4 => ?_
  refine st_md 8 m4 hx (by decide) (by decide) fun S5 ad5 m5 => ?_
  refine st_md 9 m5 hx (by decide) (by decide) fun S6 ad6 m6 => ?_
  refine st_md 10 m6 hx (by decide) (by decide) fun S7 ad7 m7 => ?_
  refine st_md 11 m7 hx (by decide) (by decide) fun S8 ad8 m8 => ?_
  refine st_md 13 m8 hx (by decide) (by decide) fun S9 ad9 m9 => ?_
  refine st_md 14 m9 hx (by decide) (by decide) fun S10 ad10 m10 => ?_
  refine st_md 15 m10 hx (by decide) (by decide) fun S11 ad11 m11 => ?_
  refine st_md 16 m11 hx (by decide) (by decide) fun S12 ad12 m12 => ?_
  refine st_md 17 m12 hx (by decide) (by decide) fun S13 ad13 m13 => ?_
  refine st_md 18 m13 hx (by decide) (by decide) fun S14 ad14 m14 => ?_
  refine st_md 19 m14 hx (by decide) (by decide) fun S15 ad15 m15 => ?_
  refine st_md 20 m15 hx (by decide) (by decide) fun S16 ad16 m16 => ?_
  refine st_md 21 m16 hx (by decide) (by decide) fun S17 ad17 m17 => ?_
  refine st_md 22 m17 hx (by decide) (by decide) fun S18 ad18 m18 => ?_
  refine st_md 23 m18 hx (by decide) (by decide) fun S19 ad19 m19 => ?_
  refine st_md 24 m19 hx (by decide) (by decide) fun S20 ad20 m20 => ?_
  refine st_md 26 m20 hx (by decide) (by decide) fun S21 ad21 m21 => ?_
  refine st_md 27 m21 hx (by decide) (by decide) fun S22 ad22 m22 => ?_
  refine st_md 29 m22 hx (by decide) (by decide) fun S23 ad23 m23 => ?_
  refine st_md 31 m23 hx (by decide) (by decide) fun S24 ad24 m24 => ?_
  refine st_md 32 m24 hx (by decide) (by decide) fun S25 ad25 m25 => ?_
  obtain ⟨o', ⟨fR, x1, hf⟩, hd⟩ := m25
  have dm : ∀ k, k < 33 → m_ty k ≠ 0 → k ∈ [32, 31, 29, 27, 26, 24, 23, 22, 21, 20, 19, 18, 17, 16, 15, 14, 13, 11, 10, 9, 8, 7, 4, 3, 2] := by decide
  refine h _ ad25 o' ⟨x1.1.1, x1.1.2, fun k hk ht => x1.2.1 _, fun k hk ht => ?_, fun k hk ht => ?_, fun k hk ht => ?_⟩
  · have d := dm k hk ht
    exact ⟨(x1.2.2.2 _).trans (hf k d), (hd k d).1.1, (hd k d).1.2, (hd k d).2.1⟩
  · exact funext (hd k (dm k hk (by omega))).2.2.1
  · exact funext (hd k (dm k hk (by omega))).2.2.2
theorem VV_init (g : Nat × Nat) (S : qS) : w_new S 8 0 (fun q S => pX7_init q S g (fun S => w_new S 9 0 (fun q2 S => pX8_init q2 S (fun S => w_new S 29 1 (fun q3 S => VV g 0 q q2 q3 S))))) := by
  intro q hq
  refine c_init XO.nw fun S1 A C ru e8 => ?_
  intro q2 hq2
  refine m_init hq2 (old.nw hq2) XO.nw fun S2 ad o2 rm => ?_
  intro q3 hq3
  have o3 : old S2 (q_nw S2 29 q3 1) := old.nw hq3
  exact ⟨A, C, ad, T00, 0, 0, 0, 0, IV00, ru.old (o2.tr o3), e8, rm.cfr o3.cfr, ⟨mem_nw, va_up_self _ _ _⟩, va_up_self _ _ _⟩
