/-! new long[5][10]; constructors of nest mates. -/
def q_nm (S : qS) (q : Nat) (rs : Nat → Nat) : qS := (q :: (qL S ++ (List.range 5).map rs), (fun a => if a = q then 21 else if a ∈ (List.range 5).map rs then 20 else qK S a), qI S, qJ S, qR S, (fun a => if a = q then 5 else if a ∈ (List.range 5).map rs then 10 else qN S a), qAI S, (fun k a => if a ∈ (List.range 5).map rs then (fun _ => 0) else qAJ S k a), (fun k a => if a = q then (fun i => if i < 5 then some (rs i) else none) else qAO S k a))
def w_newM (S : qS) (K : Nat → qS → Prop) : Prop := ∀ (q : Nat) (rs : Nat → Nat), q ∉ qL S → (∀ i, i < 5 → rs i ∉ qL S ∧ rs i ≠ q) → (∀ i j, i < 5 → j < 5 → rs i = rs j → i = j) → K q (q_nm S q rs)
section QV
variable {p : Program} {l : Launch} {e : Env} {R : Room} {s : State} {m : MethodId} {args : Array Value} {below : List Frame} {meth : Method} {c : Code} {H : Heap} {locs : List Loc} {cells slots : Nat} {Q : State → Prop}
variable {cc : ByteArray} {pc nL : Nat} {ls : Array Slot} {rest : List Value} {own : String} {G : qG} {A : Nat → Prop} {S : qS} {r : Option Nat}
variable {index maxL d mc ms n c1 s1 : Nat} {y : MethodName} {bytes : ByteArray} {As st0 : List Value}
theorem q_newM {K : Nat → qS → Prop} (X : q_X p l s m args meth c cc own nL G A) (I : q_H G A s H locs S) (hcl : Cond.classLink own index "[[J" ∈ bg) (harr : Cond.arrayClass .long ∈ bg) (hf : cells + 6 ≤ R.cells ∧ slots + 55 ≤ R.slots) (h1 : cells + 6 = c1) (h2 : slots + 55 = s1) (hdg : decode cc pc = .ok (.multianewarray index 2, 4)) (h : w_newM S K) (kk : ∀ q S1 H1, q_H G A s H1 locs S1 → K q S1 → W p l e R s m args below meth c H1 locs c1 s1 Q (F0 m (pc + 4) ls (va_rf (some q) :: rest))) : W p l e R s m args below meth c H locs cells slots Q (F0 m pc ls (.int 10 :: .int 5 :: rest)) := by
  subst h1
  subst h2
  have hV := X.2.2.2.2.2.2.2.2.2.1
  have es : "[" ++ (FieldType.array .long).toString = "[[J" := by decide +kernel
  have es2 : (FieldType.array .long).toString = "[J" := by decide +kernel
  refine va_mna (X := []) (L := qL S) (f := q_F G.2.1 S) (D := G.1) (cy := G.2.1 2) (N' := 5) (K' := 10) (z := (10, .inr (.inl (fun _ => 0)))) X.1 X.2.1 X.2.2.1 (by rw [es]; exact X.2.2.2.1 _ hcl) hV.2.1.2.1 (X.2.2.2.1 _ harr) (by rw [es2]; exact hV.1.2.2.1) X.2.2.2.2.2.2.2.2.1 I.1 I.2.1 I.2.2 X.2.2.2.2.2.2.2.1 (by decide) (by decide) (by decide) (by decide) (by decide) (by decide) (by decide) rfl rfl (by omega) (by omega) (fun c => rfl) hdg (fun q rs cA H1 hinj hnl aK a1 a2 a3 => ?_)
  have hcA : cA = G.2.1 4 := Option.some.inj ((show s.vm.findClass "[[J" = some cA from es ▸ (aK.2 5 (cA, .array .long) rfl).2).symm.trans hV.1.2.2.2.2)
  subst hcA
  have hq : q ∉ qL S ++ (List.range 5).map rs := by
    intro hq
    obtain ⟨k, hk⟩ := va_pl_get (X := ([] : va_W) ++ [(q, .inl (G.2.1 4, 5, .inr (.inr (.inr (.inr (fun i => if i < 5 then some (rs i) else none))))))]) (f := vr_up (q_F G.2.1 S) ((List.range 5).map rs) (.inl (G.2.1 2, 10, .inr (.inl (fun _ => 0))))) hq
    obtain ⟨j, hj⟩ := List.getElem?_of_mem (show (q, vr_up (q_F G.2.1 S) ((List.range 5).map rs) (.inl (G.2.1 2, 10, .inr (.inl (fun _ => 0)))) q) ∈ va_pl (qL S ++ (List.range 5).map rs) (vr_up (q_F G.2.1 S) ((List.range 5).map rs) (.inl (G.2.1 2, 10, .inr (.inl (fun _ => 0))))) from List.mem_map.mpr ⟨q, hq, rfl⟩)
    have hjj : (([] : va_W) ++ [(q, .inl (G.2.1 4, 5, .inr (.inr (.inr (.inr (fun i => if i < 5 then some (rs i) else none))))))] ++ va_pl (qL S ++ (List.range 5).map rs) (vr_up (q_F G.2.1 S) ((List.range 5).map rs) (.inl (G.2.1 2, 10, .inr (.inl (fun _ => 0))))))[j + 1]? = some (q, vr_up (q_F G.2.1 S) ((List.range 5).map rs) (.inl (G.2.1 2, 10, .inr (.inl (fun _ => 0)))) q) := by
      show (_ :: va_pl _ _)[j + 1]? = _
      rw [List.getElem?_cons_succ]
      exact hj
    have := a2.1 0 (j + 1) _ _ rfl hjj rfl
    omega
  have hw : (([] : va_W) ++ [(q, .inl (G.2.1 4, 5, .inr (.inr (.inr (.inr (fun i => if i < 5 then some (rs i) else none))))))]) ++ va_pl (qL S ++ (List.range 5).map rs) (vr_up (q_F G.2.1 S) ((List.range 5).map rs) (.inl (G.2.1 2, 10, .inr (.inl (fun _ => 0))))) = q_w G.2.1 (q_nm S q rs) := by
    show (q, _) :: va_pl _ _ = (q, q_F G.2.1 (q_nm S q rs) q) :: va_pl (qL S ++ (List.range 5).map rs) (q_F G.2.1 (q_nm S q rs))
    congr 1
    · rw [q_F_a (k := 21) (by simp [q_nm, qK]) (by decide), q_arr_O (by decide)]
      simp [q_nm, qN, qAO, show q_aty 21 = 4 from rfl]
    · unfold va_pl
      apply List.map_congr_left
      intro b hb
      have hbq : b ≠ q := fun z => hq (z ▸ hb)
      congr 1
      by_cases hr : b ∈ (List.range 5).map rs
      · rw [vr_up_in hr, q_F_a (k := 20) (by simp only [q_nm, qK]; rw [if_neg hbq, if_pos hr]) (by decide), q_arr_J rfl]
        simp only [q_nm, qN, qAJ]
        rw [if_neg hbq, if_pos hr, if_pos hr]
      · rw [vr_up_ne hr]
        have hKb : qK (q_nm S q rs) b = qK S b := by simp only [q_nm, qK]; rw [if_neg hbq, if_neg hr]
        by_cases hb10 : qK S b < 10
        · rw [q_F_o rfl hb10, q_F_o hKb hb10]
          rfl
        · rw [q_F_a rfl (by omega), q_F_a hKb (by omega)]
          unfold q_arr
          simp only [q_nm, qN, qAI, qAJ, qAO]
          rw [if_neg hbq, if_neg hr, if_neg hr, if_neg hbq]
  rw [hw] at a1 a2
  refine W.widen (by omega) (by omega) (kk q _ H1 ⟨a1, a2, a3⟩ (h q rs (fun z => hq (List.mem_append_left _ z)) (fun i hi => ⟨hnl i hi, fun z => hq (z ▸ List.mem_append_right _ (List.mem_map.mpr ⟨i, List.mem_range.mpr hi, rfl⟩))⟩) hinj))
theorem q_cIN {b : Nat} {K : qS → Prop} (X : q_X p l s m args meth c cc own nL G A) (I : q_H G A s H locs S) (hls : ls.size = nL) (mt : q_mt y bytes maxL none n) (hi : Cond.instanceMethod y ∈ bg) (hy : y.name = "<init>") (hl : (own, index, y) ∈ q_nests) (hdg : decode cc pc = .ok (.invokespecial index, 3)) (hst : st0 = As.reverse ++ va_rf (some b) :: rest) (hM : q_N l y bytes maxL d mc ms G S H.size (va_rf (some b) :: As) K) (hn : As.length = n) (hW : (rest.map fun v => v.category).sum ≤ 8) (hR : d + 1 ≤ R.frames ∧ 8 + (maxL + 11) + 48 * d ≤ R.locals) (hf : cells + mc ≤ R.cells ∧ slots + ms ≤ R.slots) (h1 : cells + mc = c1) (h2 : slots + ms = s1) (kk : ∀ (S1 : qS) (H1 : Heap) (locs1 : List Loc), q_H G A s H1 locs1 S1 → K S1 → W p l e R s m args below meth c H1 locs1 c1 s1 Q (F0 m (pc + 3) ls rest)) : W p l e R s m args below meth c H locs cells slots Q (F0 m pc ls st0) := by
  subst h1
  subst h2
  have hts := X.2.2.2.1
  have hsub := q_sub X I
  refine va_callv (va_runIN (Ts := bg) (host := "GoodsKeeper") ⟨X.1, X.2.1, X.2.2.2.2.1, X.2.2.1, hts⟩ hM ⟨va_cnB n hts (bg_good (fun w hw => by rcases List.mem_cons.mp hw with rfl | h; exact mt.1; exact h)) rfl rfl rfl (X.2.2.2.2.2.2.2.2.2.1.2.2.2.2.2.1 _ hl) (hts _ mt.2.1) ⟨mt.2.2.1.1, mt.2.2.1.2, mt.2.2.2⟩ hR, hy, hts _ hi⟩ ⟨q_blind, q_pre X I⟩ rfl hn hls hst (lv_room hW) hdg hf) I.2.2 (fun q _ h => hsub q h) hsub (fun u t H1 locs1 ht hvm hp hB hz hk hS => ?_)
  exact kk _ H1 locs1 (q_after X I ht hB hS) hp
end QV
