/-! Looking up, over the heap: nothing changes. -/
section AC
variable {g : Nat × Nat} {S : qS} {A : Nat → Nat → Nat} {C : Nat → Nat} {np nr ns no : Nat} {T : mT} {xp : String → qS → Prop}
theorem p_pl {i : Nat} {post : Option Nat → qS → Prop} (hU : RU g S A C (cN np nr ns no) T) (hi : i < np) (hnp : np ≤ 10) (h : post (some (A 3 i)) S) : pX7_playerAt (A 8 0) (nI i) S post xp := by
  have x8 := hU.1 8 0 Nat.one_pos
  have hr : qR S (40 * 8 + 0) (A 8 0) = some (A 0 0) := hU.2.2.2.1 320 0 (by decide) Nat.one_pos
  refine ifn (nInn (by omega)) (wgR x8 hr (wsz hU (by decide) (ifp (nIlt (n := np) hi (by omega)) (wgR x8 hr ?_))))
  exact uq_el (r := some 0) (k := 3) (Kt := fun v => v = some i) (Kp := fun v S => post v S) hU ⟨0, i, rfl, by decide, rfl, rfl, hi, rfl⟩ (fun v hv => by rw [hv]; exact h)
theorem p_pl_no {x : Int32} {post : Option Nat → qS → Prop} (hU : RU g S A C (cN np nr ns no) T) (hx : ¬ ok x np) (hnp : np ≤ 10) (h : xp IOB S) : pX7_playerAt (A 8 0) x S post xp := by
  have x8 := hU.1 8 0 Nat.one_pos
  have hr : qR S (40 * 8 + 0) (A 8 0) = some (A 0 0) := hU.2.2.2.1 320 0 (by decide) Nat.one_pos
  exact ⟨fun _ => h, fun q => wgR x8 hr (wsz hU (by decide) ⟨fun q2 => absurd (of_ok (n := np) (by omega) q q2) hx, fun _ => h⟩)⟩
theorem p_th {i : Nat} {post : Option Nat → qS → Prop} (hU : RU g S A C (cN np nr ns no) T) (hi : i < ns) (hns : ns ≤ 40) (h : post (some (A 6 i)) S) : pX6_at (A 7 0) (nI i) S post xp := by
  have x7 := hU.1 7 0 Nat.one_pos
  have hr : qR S (40 * 7 + 0) (A 7 0) = some (A 0 3) := hU.2.2.2.1 280 0 (by decide) Nat.one_pos
  refine ifn (nInn (by omega)) (wgR x7 hr (wsz hU (by decide) (ifp (nIlt (n := ns) hi (by omega)) (wgR x7 hr ?_))))
  exact uq_el (r := some 3) (k := 6) (Kt := fun v => v = some i) (Kp := fun v S => post v S) hU ⟨3, i, rfl, by decide, rfl, rfl, hi, rfl⟩ (fun v hv => by rw [hv]; exact h)
theorem p_th_no {x : Int32} {post : Option Nat → qS → Prop} (hU : RU g S A C (cN np nr ns no) T) (hx : ¬ ok x ns) (hns : ns ≤ 40) (h : xp IOB S) : pX6_at (A 7 0) x S post xp := by
  have x7 := hU.1 7 0 Nat.one_pos
  have hr : qR S (40 * 7 + 0) (A 7 0) = some (A 0 3) := hU.2.2.2.1 280 0 (by decide) Nat.one_pos
  exact ⟨fun _ => h, fun q => wgR x7 hr (wsz hU (by decide) ⟨fun q2 => absurd (of_ok (n := ns) (by omega) q q2) hx, fun _ => h⟩)⟩
theorem p_ck {j : Nat} {post : qS → Prop} (hj : j < 4) (h : post S) : pX7_checkKind (nI j) S post xp := ifn (nInn (by omega)) (ifp (nIlt (n := 4) hj (by omega)) h)
theorem p_ck_no {x : Int32} {post : qS → Prop} (hx : ¬ ok x 4) (h : xp IOB S) : pX7_checkKind x S post xp := ⟨fun _ => h, fun q => ⟨fun q2 => absurd (of_ok (n := 4) (by decide) q q2) hx, fun _ => h⟩⟩
theorem p_cr {x a b : Int32} {post : qS → Prop} (h1 : ¬ x < a) (h2 : x ≤ b) (h : post S) : pX7_checkRange x a b S post xp := ifn h1 (ifp h2 h)
theorem p_cr_no {x a b : Int32} {post : qS → Prop} (h1 : ¬ (¬ x < a ∧ x ≤ b)) (h : xp IAE S) : pX7_checkRange x a b S post xp := ⟨fun _ => h, fun q => ⟨fun q2 => absurd ⟨q, q2⟩ h1, fun _ => h⟩⟩
end AC
