/-! The hunt as pure mathematics: four basic names, their minors. -/
abbrev V4 := Nat → Int
def om (u v w x y z : Int) (a b : V4) : Int := (a 0 * b 1 - a 1 * b 0) * u - (a 0 * b 2 - a 2 * b 0) * v + (a 0 * b 3 - a 3 * b 0) * w + (a 1 * b 2 - a 2 * b 1) * x - (a 1 * b 3 - a 3 * b 1) * y + (a 2 * b 3 - a 3 * b 2) * z
def det4 (a b c d : V4) : Int := om (c 2 * d 3 - c 3 * d 2) (c 1 * d 3 - c 3 * d 1) (c 1 * d 2 - c 2 * d 1) (c 0 * d 3 - c 3 * d 0) (c 0 * d 2 - c 2 * d 0) (c 0 * d 1 - c 1 * d 0) a b
set_option maxRecDepth 20000 in
set_option maxHeartbeats 4000000 in
theorem om_pl (u v w x y z : Int) (a b p q : V4) (h : u * z - v * y + w * x = 0) : om u v w x y z a b * om u v w x y z p q = om u v w x y z p b * om u v w x y z a q - om u v w x y z q b * om u v w x y z a p := by
  have : om u v w x y z a b * om u v w x y z p q - (om u v w x y z p b * om u v w x y z a q - om u v w x y z q b * om u v w x y z a p) = (u * z - v * y + w * x) * ((a 0 * b 1 - a 1 * b 0) * (p 2 * q 3 - p 3 * q 2) - (a 0 * b 2 - a 2 * b 0) * (p 1 * q 3 - p 3 * q 1) + (a 0 * b 3 - a 3 * b 0) * (p 1 * q 2 - p 2 * q 1) + (a 1 * b 2 - a 2 * b 1) * (p 0 * q 3 - p 3 * q 0) - (a 1 * b 3 - a 3 * b 1) * (p 0 * q 2 - p 2 * q 0) + (a 2 * b 3 - a 3 * b 2) * (p 0 * q 1 - p 1 * q 0)) := by
    unfold om; grind
  rw [h, Int.zero_mul] at this
  omega
theorem d_sw1 (a b c d : V4) : det4 b a c d = - det4 a b c d := by unfold det4 om; grind
theorem d_sw2 (a b c d : V4) : det4 a c b d = - det4 a b c d := by unfold det4 om; grind
theorem d_sw3 (a b c d : V4) : det4 a b d c = - det4 a b c d := by unfold det4 om; grind
theorem d_pl (a b c d p q : V4) : det4 a b c d * det4 p q c d = det4 p b c d * det4 a q c d - det4 q b c d * det4 a p c d := om_pl _ _ _ _ _ _ a b p q (by grind)
def DB (B : Nat → V4) : Int := det4 (B 0) (B 1) (B 2) (B 3)
def rp {α : Type} (B : Nat → α) (r : Nat) (y : α) : Nat → α := fun i => if i = r then y else B i
theorem rp_eq {α : Type} (B : Nat → α) (r : Nat) (y : α) : rp B r y r = y := if_pos rfl
theorem rp_ne {α : Type} (B : Nat → α) {r i : Nat} (y : α) (h : i ≠ r) : rp B r y i = B i := if_neg h
theorem lt4 {i : Nat} (h : i < 4) : i = 0 ∨ i = 1 ∨ i = 2 ∨ i = 3 := by omega
theorem D_pl1 (B : Nat → V4) {r i : Nat} (hi : i < 4) (h : r < i) (p q : V4) : DB B * DB (rp (rp B r p) i q) = DB (rp B r p) * DB (rp B i q) - DB (rp B i p) * DB (rp B r q) := by
  have hr : r < 4 := by omega
  have e01 := d_pl (B 0) (B 1) (B 2) (B 3) p q
  have e02 := d_pl (B 0) (B 2) (B 1) (B 3) p q
  have e03 := d_pl (B 0) (B 3) (B 1) (B 2) p q
  have e12 := d_pl (B 1) (B 2) (B 0) (B 3) p q
  have e13 := d_pl (B 1) (B 3) (B 0) (B 2) p q
  have e23 := d_pl (B 2) (B 3) (B 0) (B 1) p q
  have s02 : ∀ x y, det4 x (B 1) y (B 3) = - det4 x y (B 1) (B 3) := fun x y => d_sw2 _ _ _ _
  have s03 : ∀ x y, det4 x (B 1) (B 2) y = det4 x y (B 1) (B 2) := fun x y => by rw [d_sw3, d_sw2, Int.neg_neg]
  have s12 : ∀ x y, det4 (B 0) x y (B 3) = det4 x y (B 0) (B 3) := fun x y => by rw [d_sw1, d_sw2, Int.neg_neg]
  have s13 : ∀ x y, det4 (B 0) x (B 2) y = - det4 x y (B 0) (B 2) := fun x y => by rw [d_sw3, d_sw1, d_sw2, Int.neg_neg]
  have s23 : ∀ x y, det4 (B 0) (B 1) x y = det4 x y (B 0) (B 1) := fun x y => by rw [d_sw2, d_sw1, d_sw3, d_sw2]; omega
  have cs : (r = 0 ∧ i = 1) ∨ (r = 0 ∧ i = 2) ∨ (r = 0 ∧ i = 3) ∨ (r = 1 ∧ i = 2) ∨ (r = 1 ∧ i = 3) ∨ (r = 2 ∧ i = 3) := by omega
  rcases cs with ⟨rfl, rfl⟩ | ⟨rfl, rfl⟩ | ⟨rfl, rfl⟩ | ⟨rfl, rfl⟩ | ⟨rfl, rfl⟩ | ⟨rfl, rfl⟩ <;> simp [DB, rp]
  · rw [e01, Int.mul_comm (det4 q _ _ _)]
  · rw [s02, s02, s02, s02, s02, s02]; grind
  · rw [s03, s03, s03, s03, s03, s03]; grind
  · rw [s12, s12, s12, s12, s12, s12]; grind
  · rw [s13, s13, s13, s13, s13, s13]; grind
  · rw [s23, s23, s23, s23, s23, s23]; grind
theorem rp_comm {α : Type} (B : Nat → α) {r i : Nat} (h : r ≠ i) (p q : α) : rp (rp B r p) i q = rp (rp B i q) r p := by
  funext j
  unfold rp
  by_cases h1 : j = i <;> by_cases h2 : j = r <;> simp [h1, h2] <;> omega
theorem D_pl (B : Nat → V4) {r i : Nat} (hr : r < 4) (hi : i < 4) (h : r ≠ i) (p q : V4) : DB B * DB (rp (rp B r p) i q) = DB (rp B r p) * DB (rp B i q) - DB (rp B i p) * DB (rp B r q) := by
  rcases Nat.lt_or_gt_of_ne h with h1 | h1
  · exact D_pl1 B hi h1 p q
  · rw [rp_comm B h, D_pl1 B hr h1 q p]
    grind
/-- the minor with row i replaced -/
def EB (B : Nat → V4) (i : Nat) (y : V4) : Int := DB (rp B i y)
theorem EB_self (B : Nat → V4) {i : Nat} (hi : i < 4) : EB B i (B i) = DB B := by
  rcases lt4 hi with rfl | rfl | rfl | rfl <;> simp [EB, DB, rp]
theorem EB_other (B : Nat → V4) {i k : Nat} (hi : i < 4) (hk : k < 4) (h : i ≠ k) : EB B i (B k) = 0 := by
  rcases lt4 hi with rfl | rfl | rfl | rfl <;> rcases lt4 hk with rfl | rfl | rfl | rfl <;> first | exact absurd rfl h | (simp [EB, DB, rp, det4, om]; grind)
theorem EB_lin (B : Nat → V4) {i : Nat} (hi : i < 4) (x z : Int) (y w : V4) : EB B i (fun k => x * y k + z * w k) = x * EB B i y + z * EB B i w := by
  rcases lt4 hi with rfl | rfl | rfl | rfl <;> (simp [EB, DB, rp, det4, om]; grind)
theorem EB_cong (B : Nat → V4) {i : Nat} {y w : V4} (h : ∀ k, k < 4 → y k = w k) : EB B i y = EB B i w := by
  have h0 := h 0 (by decide)
  have h1 := h 1 (by decide)
  have h2 := h 2 (by decide)
  have h3 := h 3 (by decide)
  have e : ∀ j k, k < 4 → rp B i y j k = rp B i w j k := fun j k hk => by
    unfold rp
    split
    · exact h k hk
    · rfl
  unfold EB DB det4 om
  simp only [e _ 0 (by decide), e _ 1 (by decide), e _ 2 (by decide), e _ 3 (by decide)]
set_option maxRecDepth 20000 in
theorem cramer (B : Nat → V4) (y : V4) {k : Nat} (hk : k < 4) : EB B 0 y * B 0 k + EB B 1 y * B 1 k + EB B 2 y * B 2 k + EB B 3 y * B 3 k = DB B * y k := by
  rcases lt4 hk with rfl | rfl | rfl | rfl <;> (simp [EB, DB, rp, det4, om]; grind)
/-- exchange -/
theorem EB_row (B : Nat → V4) (r : Nat) (p y : V4) : EB (rp B r p) r y = EB B r y := by
  unfold EB
  congr 1
  funext j
  unfold rp
  split <;> rfl
theorem EB_ex (B : Nat → V4) {r i : Nat} (hr : r < 4) (hi : i < 4) (h : i ≠ r) (p y : V4) : DB B * EB (rp B r p) i y = EB B r p * EB B i y - EB B i p * EB B r y := D_pl B hr hi (Ne.symm h) p y
theorem EB_exb (B : Nat → V4) {r i : Nat} (hr : r < 4) (hi : i < 4) (h : i ≠ r) (p : V4) (h0 : DB B ≠ 0) : EB (rp B r p) i (B r) = - EB B i p := by
  have := EB_ex B hr hi h p (B r)
  rw [EB_other B hi hr h, EB_self B hr, Int.mul_zero, Int.zero_sub, ← Int.neg_mul, Int.mul_comm] at this
  exact Int.eq_of_mul_eq_mul_right h0 this
theorem mb {a b : Int} {x y : Nat} (ha : a.natAbs ≤ x) (hb : b.natAbs ≤ y) : (a * b).natAbs ≤ x * y := by
  rw [Int.natAbs_mul]
  exact Nat.mul_le_mul ha hb
theorem det_bd {B : Nat → V4} (h : ∀ i k, (B i k).natAbs ≤ 9) : (DB B).natAbs ≤ 157464 := by
  have m2 : ∀ i j k l, ((B i k * B j l) - (B i l * B j k)).natAbs ≤ 162 := fun i j k l => by
    have := mb (h i k) (h j l)
    have := mb (h i l) (h j k)
    omega
  have m4 : ∀ i j k l i' j' k' l', (((B i k * B j l) - (B i l * B j k)) * ((B i' k' * B j' l') - (B i' l' * B j' k'))).natAbs ≤ 26244 := fun i j k l i' j' k' l' => mb (m2 i j k l) (m2 i' j' k' l')
  unfold DB det4 om
  have a1 := m4 0 1 0 1 2 3 2 3
  have a2 := m4 0 1 0 2 2 3 1 3
  have a3 := m4 0 1 0 3 2 3 1 2
  have a4 := m4 0 1 1 2 2 3 0 3
  have a5 := m4 0 1 1 3 2 3 0 2
  have a6 := m4 0 1 2 3 2 3 0 1
  omega
/-! Names, tableaus, exchange. -/
def sm (f : Nat → Int) : Nat → Int
  | 0 => 0
  | m + 1 => sm f m + f m
theorem sm_cong {f g : Nat → Int} : ∀ {m : Nat}, (∀ j, j < m → f j = g j) → sm f m = sm g m
  | 0, _ => rfl
  | m + 1, h => by
    show sm f m + f m = sm g m + g m
    rw [sm_cong (fun j hj => h j (by omega)), h m (by omega)]
theorem sm_rp (f : Nat → Int) (r : Nat) (y : Int) : ∀ m, sm (rp f r y) m = sm f m + (if r < m then y - f r else 0)
  | 0 => by simp [sm]
  | m + 1 => by
    show sm (rp f r y) m + rp f r y m = sm f m + f m + _
    rw [sm_rp f r y m]
    unfold rp
    by_cases h1 : m = r
    · subst h1; simp; omega
    · by_cases h2 : r < m
      · rw [if_neg h1, if_pos h2, if_pos (by omega)]; omega
      · rw [if_neg h1, if_neg h2, if_neg (by omega)]; omega
theorem sm_nn {f : Nat → Int} : ∀ {m : Nat}, (∀ j, j < m → 0 ≤ f j) → 0 ≤ sm f m
  | 0, _ => by simp [sm]
  | m + 1, h => by
    have := sm_nn (f := f) (m := m) (fun j hj => h j (by omega))
    have := h m (by omega)
    show 0 ≤ sm f m + f m
    omega
theorem sm_np {f : Nat → Int} : ∀ {m : Nat}, (∀ j, j < m → f j ≤ 0) → sm f m ≤ 0
  | 0, _ => by simp [sm]
  | m + 1, h => by
    have := sm_np (f := f) (m := m) (fun j hj => h j (by omega))
    have := h m (by omega)
    show sm f m + f m ≤ 0
    omega
theorem sm_ge {f : Nat → Int} : ∀ {m r : Nat}, (∀ j, j < m → 0 ≤ f j) → r < m → f r ≤ sm f m
  | 0, _, _, h => by omega
  | m + 1, r, h, hr => by
    have a := sm_nn (f := f) (m := m) (fun j hj => h j (by omega))
    have b := h m (by omega)
    show f r ≤ sm f m + f m
    by_cases e : r = m
    · subst e; omega
    · have := sm_ge (f := f) (m := m) (r := r) (fun j hj => h j (by omega)) (by omega)
      omega
theorem sm_zero {f : Nat → Int} : ∀ {m : Nat}, (∀ j, j < m → f j = 0) → sm f m = 0
  | 0, _ => rfl
  | m + 1, h => by
    show sm f m + f m = 0
    rw [sm_zero (fun j hj => h j (by omega)), h m (by omega)]; rfl
theorem sm_one {f : Nat → Int} : ∀ {m r : Nat}, (∀ j, j < m → j ≠ r → f j = 0) → r < m → sm f m = f r
  | 0, _, _, h => by omega
  | m + 1, r, h, hr => by
    show sm f m + f m = f r
    by_cases e : r = m
    · subst e
      rw [sm_zero (fun j hj => h j (by omega) (by omega))]; omega
    · rw [sm_one (fun j hj => h j (by omega)) (show r < m by omega), h m (by omega) (by omega)]; omega
theorem sm_add (f g : Nat → Int) : ∀ m, sm (fun j => f j + g j) m = sm f m + sm g m
  | 0 => rfl
  | m + 1 => by
    show sm (fun j => f j + g j) m + (f m + g m) = sm f m + f m + (sm g m + g m)
    rw [sm_add]; omega
theorem sm_mul (f : Nat → Int) (x : Int) : ∀ m, sm (fun j => x * f j) m = x * sm f m
  | 0 => by simp [sm]
  | m + 1 => by
    show sm (fun j => x * f j) m + x * f m = x * (sm f m + f m)
    rw [sm_mul, Int.mul_add]
def uv (v : Nat → V4) (x : Nat) : V4 := if x < 10 then v x else fun k => if k = x - 10 then -1 else 0
def sg (x : Nat) : Int := if x < 10 then 0 else 1
def Bn (v : Nat → V4) (n : Nat → Nat) : Nat → V4 := fun i => uv v (n i)
def Dn (v : Nat → V4) (n : Nat → Nat) : Int := DB (Bn v n)
def En (v : Nat → V4) (n : Nat → Nat) (i x : Nat) : Int := EB (Bn v n) i (uv v x)
def Cn (v : Nat → V4) (n : Nat → Nat) (x : Nat) : Int := Dn v n * sg x - (sg (n 0) * En v n 0 x + sg (n 1) * En v n 1 x + sg (n 2) * En v n 2 x + sg (n 3) * En v n 3 x)
theorem Bn_rp (v : Nat → V4) (n : Nat → Nat) (r x : Nat) : Bn v (rp n r x) = rp (Bn v n) r (uv v x) := by
  funext i
  unfold Bn rp
  split <;> rfl
theorem Dn_ex (v : Nat → V4) (n : Nat → Nat) (r x : Nat) : Dn v (rp n r x) = En v n r x := by
  unfold Dn En EB
  rw [Bn_rp]
theorem En_row (v : Nat → V4) (n : Nat → Nat) (r x y : Nat) : En v (rp n r x) r y = En v n r y := by
  unfold En
  rw [Bn_rp, EB_row]
theorem En_ex (v : Nat → V4) (n : Nat → Nat) {r i : Nat} (hr : r < 4) (hi : i < 4) (h : i ≠ r) (x y : Nat) : Dn v n * En v (rp n r x) i y = En v n r x * En v n i y - En v n i x * En v n r y := by
  unfold En Dn
  rw [Bn_rp, EB_ex (Bn v n) hr hi h]
theorem En_exb (v : Nat → V4) (n : Nat → Nat) {r i : Nat} (hr : r < 4) (hi : i < 4) (h : i ≠ r) (x : Nat) (h0 : Dn v n ≠ 0) : En v (rp n r x) i (n r) = - En v n i x := by
  unfold En
  rw [Bn_rp]
  exact EB_exb (Bn v n) hr hi h _ h0
theorem En_self (v : Nat → V4) (n : Nat → Nat) {i : Nat} (hi : i < 4) : En v n i (n i) = Dn v n := EB_self _ hi
theorem En_other (v : Nat → V4) (n : Nat → Nat) {i k : Nat} (hi : i < 4) (hk : k < 4) (h : i ≠ k) : En v n i (n k) = 0 := EB_other _ hi hk h
theorem Cn_ex (v : Nat → V4) (n : Nat → Nat) {r : Nat} (hr : r < 4) (x y : Nat) : Dn v n * Cn v (rp n r x) y = - Cn v n x * En v n r y + En v n r x * Cn v n y := by
  have d := Dn_ex v n r x
  have w := En_row v n r x y
  have e := fun i hi h => En_ex v n hr (i := i) hi h x y
  unfold Cn
  rcases lt4 hr with rfl | rfl | rfl | rfl
  · have e1 := e 1 (by decide) (by decide); have e2 := e 2 (by decide) (by decide); have e3 := e 3 (by decide) (by decide)
    rw [d, w, rp_eq, rp_ne n x (show 1 ≠ 0 by decide), rp_ne n x (show 2 ≠ 0 by decide), rp_ne n x (show 3 ≠ 0 by decide)]; grind
  · have e1 := e 0 (by decide) (by decide); have e2 := e 2 (by decide) (by decide); have e3 := e 3 (by decide) (by decide)
    rw [d, w, rp_eq, rp_ne n x (show 0 ≠ 1 by decide), rp_ne n x (show 2 ≠ 1 by decide), rp_ne n x (show 3 ≠ 1 by decide)]; grind
  · have e1 := e 0 (by decide) (by decide); have e2 := e 1 (by decide) (by decide); have e3 := e 3 (by decide) (by decide)
    rw [d, w, rp_eq, rp_ne n x (show 0 ≠ 2 by decide), rp_ne n x (show 1 ≠ 2 by decide), rp_ne n x (show 3 ≠ 2 by decide)]; grind
  · have e1 := e 0 (by decide) (by decide); have e2 := e 1 (by decide) (by decide); have e3 := e 2 (by decide) (by decide)
    rw [d, w, rp_eq, rp_ne n x (show 0 ≠ 3 by decide), rp_ne n x (show 1 ≠ 3 by decide), rp_ne n x (show 2 ≠ 3 by decide)]; grind
theorem Cn_basic (v : Nat → V4) (n : Nat → Nat) {i : Nat} (hi : i < 4) : Cn v n (n i) = 0 := by
  have s := En_self v n hi
  have o := fun k hk h => En_other v n (i := k) hk hi h
  unfold Cn
  rcases lt4 hi with rfl | rfl | rfl | rfl
  · rw [s, o 1 (by decide) (by decide), o 2 (by decide) (by decide), o 3 (by decide) (by decide)]; grind
  · rw [s, o 0 (by decide) (by decide), o 2 (by decide) (by decide), o 3 (by decide) (by decide)]; grind
  · rw [s, o 1 (by decide) (by decide), o 0 (by decide) (by decide), o 3 (by decide) (by decide)]; grind
  · rw [s, o 1 (by decide) (by decide), o 2 (by decide) (by decide), o 0 (by decide) (by decide)]; grind
theorem Cn_exb (v : Nat → V4) (n : Nat → Nat) {r : Nat} (hr : r < 4) (x : Nat) (h0 : Dn v n ≠ 0) : Cn v (rp n r x) (n r) = - Cn v n x := by
  have := Cn_ex v n hr x (n r)
  rw [Cn_basic v n hr, En_self v n hr, Int.mul_zero, Int.add_zero, Int.mul_comm] at this
  exact Int.eq_of_mul_eq_mul_right h0 this
/-- the direction in which name x enters, seen from another tableau -/
theorem C_dir (v : Nat → V4) (n n' : Nat → Nat) (x : Nat) : Dn v n' * Cn v n x = Dn v n * Cn v n' x - (En v n 0 x * Cn v n' (n 0) + En v n 1 x * Cn v n' (n 1) + En v n 2 x * Cn v n' (n 2) + En v n 3 x * Cn v n' (n 3)) := by
  have cr : ∀ i, i < 4 → En v n 0 x * En v n' i (n 0) + En v n 1 x * En v n' i (n 1) + En v n 2 x * En v n' i (n 2) + En v n 3 x * En v n' i (n 3) = Dn v n * En v n' i x := fun i hi => by
    unfold En
    have l := fun a b y z => EB_lin (Bn v n') hi a b y z
    have h1 := l (EB (Bn v n) 0 (uv v x)) (EB (Bn v n) 1 (uv v x)) (uv v (n 0)) (uv v (n 1))
    have h2 := l (EB (Bn v n) 2 (uv v x)) (EB (Bn v n) 3 (uv v x)) (uv v (n 2)) (uv v (n 3))
    have h3 := l 1 1 (fun k => EB (Bn v n) 0 (uv v x) * uv v (n 0) k + EB (Bn v n) 1 (uv v x) * uv v (n 1) k) (fun k => EB (Bn v n) 2 (uv v x) * uv v (n 2) k + EB (Bn v n) 3 (uv v x) * uv v (n 3) k)
    have h4 := l (Dn v n) 0 (uv v x) (uv v x)
    have h5 := EB_cong (Bn v n') (i := i) (y := fun k => 1 * (EB (Bn v n) 0 (uv v x) * uv v (n 0) k + EB (Bn v n) 1 (uv v x) * uv v (n 1) k) + 1 * (EB (Bn v n) 2 (uv v x) * uv v (n 2) k + EB (Bn v n) 3 (uv v x) * uv v (n 3) k)) (w := fun k => Dn v n * uv v x k + 0 * uv v x k) (fun k hk => by
      have := cramer (Bn v n) (uv v x) hk
      show 1 * (_ + _) + 1 * (_ + _) = DB (Bn v n) * uv v x k + 0 * _
      rw [← this]
      unfold Bn
      omega)
    rw [h3, h1, h2, h4] at h5
    omega
  have c0 := cr 0 (by decide)
  have c1 := cr 1 (by decide)
  have c2 := cr 2 (by decide)
  have c3 := cr 3 (by decide)
  unfold Cn
  grind
/-! Permutations of names; no gain; Bland. -/
def PM (m : Nat) (n c : Nat → Nat) : Prop := ∀ f : Nat → Int, sm (fun i => f (n i)) 4 + sm (fun j => f (c j)) m = sm f m + sm (fun k => f (10 + k)) 4
def nmx (m x : Nat) : Prop := x < m ∨ (10 ≤ x ∧ x < 14)
theorem PM_init (m : Nat) : PM m (fun i => 10 + i) (fun j => j) := fun _ => Int.add_comm _ _
theorem f_rp {α : Type} (f : Nat → α) (n : Nat → Nat) (r x : Nat) : (fun i => f (rp n r x i)) = rp (fun i => f (n i)) r (f x) := by
  funext i
  unfold rp
  split <;> rfl
theorem PM.ex {m : Nat} {n c : Nat → Nat} (h : PM m n c) {r p : Nat} (hr : r < 4) (hp : p < m) : PM m (rp n r (c p)) (rp c p (n r)) := fun f => by
  rw [f_rp, f_rp, sm_rp, sm_rp, if_pos hr, if_pos hp, ← h f]
  omega
def ind (x : Nat) : Nat → Int := fun y => if y = x then 1 else 0
theorem ind_nn (x y : Nat) : 0 ≤ ind x y := by unfold ind; split <;> omega
theorem ind_self (x : Nat) : ind x x = 1 := if_pos rfl
theorem ind_ne {x y : Nat} (h : y ≠ x) : ind x y = 0 := if_neg h
theorem sm_ind (x m : Nat) : sm (ind x) m = if x < m then 1 else 0 := by
  split
  · rename_i h
    rw [sm_one (r := x) (fun j _ hj => ind_ne hj) h, ind_self]
  · rename_i h
    exact sm_zero (fun j hj => ind_ne (by omega))
theorem sm4 (f : Nat → Int) : sm f 4 = f 0 + f 1 + f 2 + f 3 := by
  show 0 + f 0 + f 1 + f 2 + f 3 = _
  omega
theorem ind10 (x : Nat) : sm (fun k => ind x (10 + k)) 4 = if 10 ≤ x ∧ x < 14 then 1 else 0 := by
  rw [sm4]
  unfold ind
  grind
section PMS
variable {m : Nat} {n c : Nat → Nat}
theorem PM.cover (h : PM m n c) {x : Nat} (hx : nmx m x) : (∃ i, i < 4 ∧ n i = x) ∨ ∃ j, j < m ∧ c j = x := by
  have := h (ind x)
  rw [sm_ind, ind10] at this
  refine Classical.byContradiction fun hc => ?_
  rw [sm_zero (fun i hi => ind_ne (fun e => hc (Or.inl ⟨i, hi, e⟩))), sm_zero (fun i hi => ind_ne (fun e => hc (Or.inr ⟨i, hi, e⟩)))] at this
  rcases hx with hx | hx
  · rw [if_pos hx] at this
    split at this <;> omega
  · rw [if_pos hx] at this
    split at this <;> omega
theorem PM.nb (h : PM m n c) {i : Nat} (hi : i < 4) : nmx m (n i) := by
  have := h (ind (n i))
  rw [sm_ind, ind10] at this
  have a := sm_ge (f := fun k => ind (n i) (n k)) (m := 4) (r := i) (fun j _ => ind_nn _ _) hi
  have b := sm_nn (f := fun k => ind (n i) (c k)) (m := m) (fun j _ => ind_nn _ _)
  have e : ind (n i) (n i) = 1 := ind_self _
  rw [e] at a
  unfold nmx
  split at this <;> split at this <;> omega
theorem PM.nc (h : PM m n c) {j : Nat} (hj : j < m) : nmx m (c j) := by
  have := h (ind (c j))
  rw [sm_ind, ind10] at this
  have a := sm_ge (f := fun k => ind (c j) (c k)) (m := m) (r := j) (fun j _ => ind_nn _ _) hj
  have b := sm_nn (f := fun k => ind (c j) (n k)) (m := 4) (fun j _ => ind_nn _ _)
  have e : ind (c j) (c j) = 1 := ind_self _
  rw [e] at a
  unfold nmx
  split at this <;> split at this <;> omega
theorem PM.disj (h : PM m n c) (hm : m ≤ 10) {i j : Nat} (hi : i < 4) (hj : j < m) : n i ≠ c j := fun e => by
  have := h (ind (c j))
  rw [sm_ind, ind10] at this
  have a := sm_ge (f := fun k => ind (c j) (c k)) (m := m) (r := j) (fun j _ => ind_nn _ _) hj
  have b := sm_ge (f := fun k => ind (c j) (n k)) (m := 4) (r := i) (fun j _ => ind_nn _ _) hi
  have e1 : ind (c j) (c j) = 1 := ind_self _
  have e2 : ind (c j) (n i) = 1 := by rw [e, ind_self]
  rw [e1] at a
  rw [e2] at b
  split at this <;> split at this <;> omega
theorem PM.inj (h : PM m n c) (hm : m ≤ 10) {i j : Nat} (hi : i < 4) (hj : j < 4) (hij : i ≠ j) : n i ≠ n j := fun e => by
  have := h (ind (n j))
  rw [sm_ind, ind10, sm4] at this
  have b := sm_nn (f := fun k => ind (n j) (c k)) (m := m) (fun j _ => ind_nn _ _)
  have g0 := ind_nn (n j) (n 0)
  have g1 := ind_nn (n j) (n 1)
  have g2 := ind_nn (n j) (n 2)
  have g3 := ind_nn (n j) (n 3)
  have gi : ind (n j) (n i) = 1 := by rw [e, ind_self]
  have gj : ind (n j) (n j) = 1 := ind_self _
  have : ind (n j) (n 0) + ind (n j) (n 1) + ind (n j) (n 2) + ind (n j) (n 3) ≤ 1 := by
    split at this <;> split at this <;> omega
  rcases lt4 hi with rfl | rfl | rfl | rfl <;> rcases lt4 hj with rfl | rfl | rfl | rfl <;> first | exact hij rfl | omega
theorem PM.injc (h : PM m n c) (hm : m ≤ 10) {i j : Nat} (hi : i < m) (hj : j < m) (hij : i < j) : c i ≠ c j := fun e => by
  have := h (ind (c j))
  rw [sm_ind, ind10] at this
  have b := sm_nn (f := fun k => ind (c j) (n k)) (m := 4) (fun j _ => ind_nn _ _)
  have a : 2 ≤ sm (fun k => ind (c j) (c k)) m := by
    have q := sm_rp (fun k => ind (c j) (c k)) j 0 m
    rw [if_pos hj] at q
    have q2 := sm_ge (f := rp (fun k => ind (c j) (c k)) j 0) (m := m) (r := i) (fun k _ => by
      unfold rp
      split
      · omega
      · exact ind_nn _ _) hi
    rw [rp_ne _ _ (by omega)] at q2
    have e1 : ind (c j) (c i) = 1 := by rw [e, ind_self]
    have e2 : ind (c j) (c j) = 1 := ind_self _
    simp only [e1, e2] at q q2
    omega
  split at this <;> split at this <;> omega
end PMS
def gn (v : Nat → V4) (m : Nat) (x : Nat → Int) (k : Nat) : Int := sm (fun r => x r * v r k) m
def Gain (v : Nat → V4) (m : Nat) (x : Nat → Int) : Prop := (∀ r, r < m → 0 ≤ x r) ∧ (∀ k, k < 4 → 0 ≤ gn v m x k) ∧ 0 < gn v m x 0 + gn v m x 1 + gn v m x 2 + gn v m x 3
theorem EB_sm (B : Nat → V4) {i : Nat} (hi : i < 4) (v : Nat → V4) (x : Nat → Int) : ∀ m, EB B i (fun k => sm (fun r => x r * v r k) m) = sm (fun r => x r * EB B i (v r)) m
  | 0 => by
    have := EB_lin B hi 0 0 (v 0) (v 0)
    rw [EB_cong B (i := i) (w := fun k => 0 * v 0 k + 0 * v 0 k) (fun k _ => by simp [sm]), this]
    simp [sm]
  | m + 1 => by
    have l := EB_lin B hi 1 (x m) (fun k => sm (fun r => x r * v r k) m) (v m)
    rw [EB_cong B (i := i) (w := fun k => 1 * sm (fun r => x r * v r k) m + x m * v m k) (fun k _ => by simp [sm]), l, EB_sm B hi v x m, Int.one_mul]
    rfl
/-- all solutions, seen from a tableau -/
theorem C_all (v : Nat → V4) (n : Nat → Nat) {m : Nat} (hm : m ≤ 10) (x : Nat → Int) : Dn v n * (gn v m x 0 + gn v m x 1 + gn v m x 2 + gn v m x 3) = sm (fun r => x r * Cn v n r) m + (gn v m x 0 * Cn v n 10 + gn v m x 1 * Cn v n 11 + gn v m x 2 * Cn v n 12 + gn v m x 3 * Cn v n 13) := by
  have key : ∀ i, i < 4 → gn v m x 0 * En v n i 10 + gn v m x 1 * En v n i 11 + gn v m x 2 * En v n i 12 + gn v m x 3 * En v n i 13 = - sm (fun r => x r * En v n i r) m := fun i hi => by
    have h1 := EB_sm (Bn v n) hi v x m
    have h2 : sm (fun r => x r * En v n i r) m = sm (fun r => x r * EB (Bn v n) i (v r)) m := sm_cong fun r hr => by
      show x r * EB _ _ (uv v r) = _
      unfold uv
      rw [if_pos (by omega)]
    rw [h2, ← h1]
    have l1 := EB_lin (Bn v n) hi (gn v m x 0) (gn v m x 1) (uv v 10) (uv v 11)
    have l2 := EB_lin (Bn v n) hi (gn v m x 2) (gn v m x 3) (uv v 12) (uv v 13)
    have l3 := EB_lin (Bn v n) hi 1 1 (fun k => gn v m x 0 * uv v 10 k + gn v m x 1 * uv v 11 k) (fun k => gn v m x 2 * uv v 12 k + gn v m x 3 * uv v 13 k)
    have l4 := EB_lin (Bn v n) hi (-1) 0 (fun k => gn v m x k) (fun k => gn v m x k)
    have l5 := EB_cong (Bn v n) (i := i) (y := fun k => 1 * (gn v m x 0 * uv v 10 k + gn v m x 1 * uv v 11 k) + 1 * (gn v m x 2 * uv v 12 k + gn v m x 3 * uv v 13 k)) (w := fun k => (-1) * gn v m x k + 0 * gn v m x k) (fun k hk => by
      rcases lt4 hk with rfl | rfl | rfl | rfl <;> simp [uv])
    rw [l3, l1, l2, l4] at l5
    unfold En
    have l6 : EB (Bn v n) i (fun k => gn v m x k) = EB (Bn v n) i (fun k => sm (fun r => x r * v r k) m) := rfl
    omega
  have hs : sm (fun r => x r * Cn v n r) m = - (sg (n 0) * sm (fun r => x r * En v n 0 r) m + sg (n 1) * sm (fun r => x r * En v n 1 r) m + sg (n 2) * sm (fun r => x r * En v n 2 r) m + sg (n 3) * sm (fun r => x r * En v n 3 r) m) := by
    rw [← sm_mul, ← sm_mul, ← sm_mul, ← sm_mul, ← sm_add, ← sm_add, ← sm_add, ← Int.neg_one_mul, ← sm_mul]
    refine sm_cong fun r hr => ?_
    have e0 : sg r = 0 := if_pos (by omega)
    unfold Cn
    rw [e0]
    grind
  have k0 := key 0 (by decide)
  have k1 := key 1 (by decide)
  have k2 := key 2 (by decide)
  have k3 := key 3 (by decide)
  have g10 : sg 10 = 1 := rfl
  have g11 : sg 11 = 1 := rfl
  have g12 : sg 12 = 1 := rfl
  have g13 : sg 13 = 1 := rfl
  rw [hs]
  unfold Cn
  rw [g10, g11, g12, g13]
  grind
theorem C_np {v : Nat → V4} {m : Nat} {n c : Nat → Nat} (h : PM m n c) (hC : ∀ j, j < m → Cn v n (c j) ≤ 0) {x : Nat} (hx : nmx m x) : Cn v n x ≤ 0 := by
  rcases h.cover hx with ⟨i, hi, rfl⟩ | ⟨j, hj, rfl⟩
  · rw [Cn_basic v n hi]; omega
  · exact hC j hj
theorem no_gain {v : Nat → V4} {m : Nat} (hm : m ≤ 10) {n c : Nat → Nat} (h : PM m n c) (hD : 0 < Dn v n) (hC : ∀ j, j < m → Cn v n (c j) ≤ 0) (x : Nat → Int) : ¬ Gain v m x := fun ⟨g1, g2, g3⟩ => by
  have e := C_all v n hm x
  have p := Int.mul_pos hD g3
  have q1 : sm (fun r => x r * Cn v n r) m ≤ 0 := sm_np fun r hr => Int.mul_nonpos_of_nonneg_of_nonpos (g1 r hr) (C_np h hC (Or.inl hr))
  have q : ∀ k, k < 4 → gn v m x k * Cn v n (10 + k) ≤ 0 := fun k hk => Int.mul_nonpos_of_nonneg_of_nonpos (g2 k hk) (C_np h hC (Or.inr ⟨by omega, by omega⟩))
  have a0 := q 0 (by decide)
  have a1 := q 1 (by decide)
  have a2 := q 2 (by decide)
  have a3 := q 3 (by decide)
  rw [e] at p
  simp only [Nat.add_zero, Nat.reduceAdd] at a0 a1 a2 a3
  omega
/-! Bland's rule: no basis comes twice, and there are 1001. -/
def bB (n : Nat → Nat) (x : Nat) : Bool := n 0 == x || n 1 == x || n 2 == x || n 3 == x
theorem bB_iff {n : Nat → Nat} {x : Nat} : bB n x = true ↔ ∃ i, i < 4 ∧ n i = x := by
  unfold bB
  simp only [Bool.or_eq_true, beq_iff_eq]
  constructor
  · rintro (((h | h) | h) | h)
    · exact ⟨0, by decide, h⟩
    · exact ⟨1, by decide, h⟩
    · exact ⟨2, by decide, h⟩
    · exact ⟨3, by decide, h⟩
  · rintro ⟨i, hi, h⟩
    rcases lt4 hi with rfl | rfl | rfl | rfl <;> simp [h]
def bl (P : Nat → Bool) : Nat → List Bool
  | 0 => []
  | m + 1 => P m :: bl P m
def gen : Nat → Nat → List (List Bool)
  | 0, 0 => [[]]
  | 0, _ + 1 => []
  | m + 1, 0 => (gen m 0).map (false :: ·)
  | m + 1, k + 1 => (gen m (k + 1)).map (false :: ·) ++ (gen m k).map (true :: ·)
def b01 (b : Bool) : Int := if b then 1 else 0
theorem bl_gen (P : Nat → Bool) : ∀ (m k : Nat), sm (fun x => b01 (P x)) m = (k : Int) → bl P m ∈ gen m k
  | 0, 0, _ => by simp [bl, gen]
  | 0, k + 1, h => by
    simp only [sm] at h
    omega
  | m + 1, k, h => by
    have nn : 0 ≤ sm (fun x => b01 (P x)) m := sm_nn fun j _ => by unfold b01; split <;> omega
    have h' : sm (fun x => b01 (P x)) m + b01 (P m) = (k : Int) := h
    show P m :: bl P m ∈ _
    cases e : P m with
    | false =>
      rw [e] at h'
      have := bl_gen P m k (by simpa [b01] using h')
      cases k with
      | zero => exact List.mem_map_of_mem this
      | succ k => exact List.mem_append_left _ (List.mem_map_of_mem this)
    | true =>
      rw [e] at h'
      have q : b01 true = 1 := rfl
      rw [q] at h'
      cases k with
      | zero => omega
      | succ k => exact List.mem_append_right _ (List.mem_map_of_mem (bl_gen P m k (by omega)))
theorem gen_len : (gen 14 4).length = 1001 := by decide +kernel
theorem bl_inj (P Q : Nat → Bool) : ∀ m, bl P m = bl Q m → ∀ x, x < m → P x = Q x
  | 0, _, x, hx => by omega
  | m + 1, h, x, hx => by
    have h' : P m :: bl P m = Q m :: bl Q m := h
    injection h' with h1 h2
    by_cases e : x = m
    · rw [e]; exact h1
    · exact bl_inj P Q m h2 x (by omega)
theorem pigeon {α : Type} : ∀ (l : List α) (N : Nat) (f : Nat → α), (∀ t, t < N → f t ∈ l) → l.length < N → ∃ s t, s < t ∧ t < N ∧ f s = f t
  | [], N, f, h, hN => absurd (h 0 hN) (by simp)
  | a :: l, N, f, h, hN => Classical.byContradiction fun hc => by
    have hN' : l.length + 1 < N := hN
    have inj : ∀ s t, s < N → t < N → s ≠ t → f s ≠ f t := fun s t hs ht hst e => by
      rcases Nat.lt_or_gt_of_ne hst with q | q
      · exact hc ⟨s, t, q, ht, e⟩
      · exact hc ⟨t, s, q, hs, e.symm⟩
    by_cases ha : ∃ t0, t0 < N ∧ f t0 = a
    · obtain ⟨t0, h0, e0⟩ := ha
      obtain ⟨s, t, q1, q2, q3⟩ := pigeon l (N - 1) (fun t => if t < t0 then f t else f (t + 1)) (fun t ht => by
        show (if t < t0 then f t else f (t + 1)) ∈ l
        split
        · rename_i q
          have := h t (by omega)
          rcases List.mem_cons.mp this with z | z
          · exact absurd (z.trans e0.symm) (inj t t0 (by omega) h0 (by omega))
          · exact z
        · rename_i q
          have := h (t + 1) (by omega)
          rcases List.mem_cons.mp this with z | z
          · exact absurd (z.trans e0.symm) (inj (t + 1) t0 (by omega) h0 (by omega))
          · exact z) (by omega)
      have q3' : (if s < t0 then f s else f (s + 1)) = (if t < t0 then f t else f (t + 1)) := q3
      split at q3' <;> split at q3'
      · exact inj s t (by omega) (by omega) (by omega) q3'
      · exact inj s (t + 1) (by omega) (by omega) (by omega) q3'
      · omega
      · exact inj (s + 1) (t + 1) (by omega) (by omega) (by omega) q3'
    · obtain ⟨s, t, q1, q2, q3⟩ := pigeon l N f (fun t ht => by
        rcases List.mem_cons.mp (h t ht) with z | z
        · exact absurd ⟨t, ht, z⟩ ha
        · exact z) (by omega)
      exact hc ⟨s, t, q1, q2, q3⟩
theorem bB_sum {m : Nat} (hm : m ≤ 10) {n c : Nat → Nat} (h : PM m n c) : sm (fun x => b01 (bB n x)) 14 = 4 := by
  have e : ∀ x, b01 (bB n x) = ind (n 0) x + ind (n 1) x + ind (n 2) x + ind (n 3) x := fun x => by
    have h01 := h.inj hm (i := 0) (j := 1) (by decide) (by decide) (by decide)
    have h02 := h.inj hm (i := 0) (j := 2) (by decide) (by decide) (by decide)
    have h03 := h.inj hm (i := 0) (j := 3) (by decide) (by decide) (by decide)
    have h12 := h.inj hm (i := 1) (j := 2) (by decide) (by decide) (by decide)
    have h13 := h.inj hm (i := 1) (j := 3) (by decide) (by decide) (by decide)
    have h23 := h.inj hm (i := 2) (j := 3) (by decide) (by decide) (by decide)
    unfold b01 bB ind
    simp only [Bool.or_eq_true, beq_iff_eq]
    grind
  have l : ∀ i, i < 4 → n i < 14 := fun i hi => by
    have := h.nb hi
    unfold nmx at this
    omega
  have l0 := l 0 (by decide)
  have l1 := l 1 (by decide)
  have l2 := l 2 (by decide)
  have l3 := l 3 (by decide)
  rw [sm_cong (fun x _ => e x), sm_add, sm_add, sm_add, sm_ind, sm_ind, sm_ind, sm_ind, if_pos l0, if_pos l1, if_pos l2, if_pos l3]
  rfl
theorem flips {P : Nat → Prop} {a : Nat} : ∀ {b : Nat}, a ≤ b → P a → ¬ P b → ∃ k, a ≤ k ∧ k < b ∧ P k ∧ ¬ P (k + 1)
  | 0, h, p, q => absurd (by rwa [show a = 0 by omega] at p) q
  | b + 1, h, p, q => by
    by_cases e : a = b + 1
    · rw [e] at p
      exact absurd p q
    · by_cases z : P b
      · exact ⟨b, by omega, by omega, z, q⟩
      · obtain ⟨k, h1, h2, h3⟩ := flips (b := b) (by omega) p z
        exact ⟨k, h1, by omega, h3⟩
/-- one exchange by the lowest names -/
def stp (v : Nat → V4) (m : Nat) (n c n' c' : Nat → Nat) : Prop := ∃ r p, r < 4 ∧ p < m ∧ 0 < Cn v n (c p) ∧ (∀ j, j < m → 0 < Cn v n (c j) → c p ≤ c j) ∧ 0 < En v n r (c p) ∧ (∀ i, i < 4 → 0 < En v n i (c p) → n r ≤ n i) ∧ n' = rp n r (c p) ∧ c' = rp c p (n r)
theorem maxim {P : Nat → Prop} : ∀ (N : Nat), (∃ x, P x) → (∀ x, P x → x < N) → ∃ q, P q ∧ ∀ x, P x → x ≤ q
  | 0, ⟨x, hx⟩, h => absurd (h x hx) (by omega)
  | N + 1, hx, h => by
    by_cases e : P N
    · exact ⟨N, e, fun x hx => by have := h x hx; omega⟩
    · exact maxim N hx fun x hx => by
        have := h x hx
        have : x ≠ N := fun z => e (z ▸ hx)
        omega
theorem bland {v : Nat → V4} {m : Nat} (hm : m ≤ 10) {nn cc : Nat → Nat → Nat} {N : Nat} (hs : ∀ t, t < N → PM m (nn t) (cc t) ∧ 0 < Dn v (nn t) ∧ stp v m (nn t) (cc t) (nn (t + 1)) (cc (t + 1))) {s t : Nat} (h1 : s < t) (h2 : t ≤ N) (he : ∀ x, bB (nn s) x = bB (nn t) x) : False := by
  have F : ∃ q, (∃ a b, s ≤ a ∧ a ≤ t ∧ s ≤ b ∧ b ≤ t ∧ bB (nn a) q = true ∧ ¬ bB (nn b) q = true) ∧ ∀ x, (∃ a b, s ≤ a ∧ a ≤ t ∧ s ≤ b ∧ b ≤ t ∧ bB (nn a) x = true ∧ ¬ bB (nn b) x = true) → x ≤ q := by
    refine maxim 14 ?_ ?_
    · obtain ⟨hP, hD, r, p, hr, hp, _, _, _, _, e1, e2⟩ := hs s (by omega)
      refine ⟨cc s p, s + 1, s, by omega, by omega, by omega, by omega, ?_, ?_⟩
      · rw [bB_iff, e1]
        exact ⟨r, hr, rp_eq _ _ _⟩
      · rw [bB_iff]
        rintro ⟨i, hi, e⟩
        exact hP.disj hm hi hp e
    · rintro x ⟨a, b, _, ha, _, hb, z1, z2⟩
      have : ∃ a', a' < N ∧ bB (nn a') x = true := by
        by_cases e : a = N
        · refine ⟨s, by omega, ?_⟩
          have : t = N := by omega
          rw [he x, this, ← e]
          exact z1
        · exact ⟨a, by omega, z1⟩
      obtain ⟨a', ha', z⟩ := this
      obtain ⟨i, hi, e⟩ := bB_iff.mp z
      have := (hs a' ha').1.nb hi
      unfold nmx at this
      omega
  obtain ⟨q, ⟨a, b, a1, a2, b1, b2, qa, qb⟩, hmax⟩ := F
  have LE : (∃ k, s ≤ k ∧ k < t ∧ bB (nn k) q = true ∧ ¬ bB (nn (k + 1)) q = true) ∧ (∃ k, s ≤ k ∧ k < t ∧ ¬ bB (nn k) q = true ∧ bB (nn (k + 1)) q = true) := by
    by_cases z : bB (nn s) q = true
    · have z' : bB (nn t) q = true := by rw [← he]; exact z
      obtain ⟨k, k1, k2, k3, k4⟩ := flips (P := fun k => bB (nn k) q = true) b1 z qb
      obtain ⟨l, l1, l2, l3, l4⟩ := flips (P := fun k => ¬ bB (nn k) q = true) b2 qb (fun z2 => z2 z')
      exact ⟨⟨k, k1, by omega, k3, k4⟩, ⟨l, by omega, l2, l3, Classical.not_not.mp l4⟩⟩
    · have z' : ¬ bB (nn t) q = true := by rw [← he]; exact z
      obtain ⟨k, k1, k2, k3, k4⟩ := flips (P := fun k => bB (nn k) q = true) a2 qa z'
      obtain ⟨l, l1, l2, l3, l4⟩ := flips (P := fun k => ¬ bB (nn k) q = true) a1 z (fun z2 => z2 qa)
      exact ⟨⟨k, by omega, k2, k3, k4⟩, ⟨l, l1, by omega, l3, Classical.not_not.mp l4⟩⟩
  obtain ⟨⟨k, k1, k2, k3, k4⟩, l, l1, l2, l3, l4⟩ := LE
  obtain ⟨hP', hD', r', p', hr', hp', hc', hcm', hE', hEm', en', ec'⟩ := hs k (by omega)
  obtain ⟨hP, hD, r, p, hr, hp, hc, hcm, hE, hEm, en, ec⟩ := hs l (by omega)
  -- q leaves at k: it is the name of row r'
  have hq' : nn k r' = q := by
    obtain ⟨i, hi, e⟩ := bB_iff.mp k3
    refine Classical.byContradiction fun z => k4 (bB_iff.mpr ⟨i, hi, ?_⟩)
    rw [en', rp_ne _ _ (fun z2 => z (by rw [← z2]; exact e)), e]
  -- q enters at l
  have hq : cc l p = q := by
    obtain ⟨i, hi, e⟩ := bB_iff.mp l4
    rw [en] at e
    by_cases z : i = r
    · rw [z, rp_eq] at e
      exact e
    · rw [rp_ne _ _ z] at e
      exact absurd (bB_iff.mpr ⟨i, hi, e⟩) l3
  have dir := C_dir v (nn k) (nn l) (cc k p')
  have hpos := Int.mul_pos hD hc'
  rw [dir] at hpos
  -- names that are nonbasic at l with positive cost are q or above
  have low : ∀ x, nmx m x → 0 < Cn v (nn l) x → q ≤ x := fun x hx hx0 => by
    rcases hP.cover hx with ⟨i, hi, e⟩ | ⟨j, hj, e⟩
    · rw [← e, Cn_basic v _ hi] at hx0
      omega
    · rw [← e, ← hq]
      rw [← e] at hx0
      exact hcm j hj hx0
  have nob : ∀ x, nmx m x → Cn v (nn l) x ≠ 0 → ¬ bB (nn l) x = true := fun x hx hx0 hb => by
    obtain ⟨i, hi, e⟩ := bB_iff.mp hb
    rw [← e, Cn_basic v _ hi] at hx0
    exact hx0 rfl
  have hp1 : Cn v (nn l) (cc k p') ≤ 0 := by
    refine Classical.byContradiction fun z => ?_
    have g := low _ (hP'.nc hp') (by omega)
    have : cc k p' ≤ q := hmax _ ⟨k + 1, k, by omega, by omega, by omega, by omega, by rw [bB_iff, en']; exact ⟨r', hr', rp_eq _ _ _⟩, fun hb => by
      obtain ⟨i, hi, e⟩ := bB_iff.mp hb
      exact hP'.disj hm hi hp' e⟩
    exact hP'.disj hm hr' hp' (by omega)
  have hi1 : ∀ i, i < 4 → 0 ≤ En v (nn k) i (cc k p') * Cn v (nn l) (nn k i) := fun i hi => by
    refine Classical.byContradiction fun z => ?_
    have z : En v (nn k) i (cc k p') * Cn v (nn l) (nn k i) < 0 := by omega
    have c0 : Cn v (nn l) (nn k i) ≠ 0 := fun e => by rw [e, Int.mul_zero] at z; omega
    have nb := nob _ (hP'.nb hi) c0
    have le : nn k i ≤ q := hmax _ ⟨k, l, k1, by omega, l1, by omega, bB_iff.mpr ⟨i, hi, rfl⟩, nb⟩
    by_cases cp : 0 < Cn v (nn l) (nn k i)
    · have ge := low _ (hP'.nb hi) cp
      have eq : i = r' := Classical.byContradiction fun zz => hP'.inj hm hi hr' zz (by omega)
      subst eq
      have := Int.mul_pos hE' cp
      omega
    · have cn : Cn v (nn l) (nn k i) < 0 := by omega
      have ep : 0 < En v (nn k) i (cc k p') := Classical.byContradiction fun zz => by
        have : 0 ≤ En v (nn k) i (cc k p') * Cn v (nn l) (nn k i) := Int.mul_nonneg_of_nonpos_of_nonpos (by omega) (by omega)
        omega
      have ge := hEm' i hi ep
      rw [hq'] at ge
      have : nn k i = q := by omega
      rw [this, ← hq] at cn
      omega
  have a0 := hi1 0 (by decide)
  have a1 := hi1 1 (by decide)
  have a2 := hi1 2 (by decide)
  have a3 := hi1 3 (by decide)
  have a4 : Dn v (nn k) * Cn v (nn l) (cc k p') ≤ 0 := Int.mul_nonpos_of_nonneg_of_nonpos (by omega) hp1
  omega
/-- states that t exchanges reach -/
def rch (v : Nat → V4) (m : Nat) : Nat → (Nat → Nat) → (Nat → Nat) → Prop
  | 0, n, c => n = (fun i => 10 + i) ∧ c = fun j => j
  | t + 1, n, c => ∃ n0 c0, rch v m t n0 c0 ∧ stp v m n0 c0 n c
theorem Dn_init (v : Nat → V4) : Dn v (fun i => 10 + i) = 1 := by
  simp [Dn, DB, Bn, uv, det4, om]
theorem rch_ok {v : Nat → V4} {m : Nat} : ∀ {t : Nat} {n c : Nat → Nat}, rch v m t n c → PM m n c ∧ 0 < Dn v n
  | 0, n, c, ⟨e1, e2⟩ => by
    subst e1 e2
    exact ⟨PM_init m, by rw [Dn_init]; decide⟩
  | t + 1, n, c, ⟨n0, c0, h, r, p, hr, hp, _, _, hE, _, e1, e2⟩ => by
    have := rch_ok h
    subst e1 e2
    exact ⟨this.1.ex hr hp, by rw [Dn_ex]; exact hE⟩
theorem rch_seq {v : Nat → V4} {m : Nat} : ∀ {t : Nat} {n c : Nat → Nat}, rch v m t n c → ∃ nn cc : Nat → Nat → Nat, nn t = n ∧ cc t = c ∧ (∀ s, s ≤ t → PM m (nn s) (cc s) ∧ 0 < Dn v (nn s)) ∧ ∀ s, s < t → stp v m (nn s) (cc s) (nn (s + 1)) (cc (s + 1))
  | 0, n, c, h => ⟨fun _ => n, fun _ => c, rfl, rfl, fun s _ => rch_ok h, fun s hs => by omega⟩
  | t + 1, n, c, h => by
    obtain ⟨n0, c0, h0, hst⟩ := h
    obtain ⟨nn, cc, e1, e2, h1, h2⟩ := rch_seq h0
    refine ⟨rp nn (t + 1) n, rp cc (t + 1) c, rp_eq _ _ _, rp_eq _ _ _, fun s hs => ?_, fun s hs => ?_⟩
    · by_cases e : s = t + 1
      · subst e
        rw [rp_eq, rp_eq]
        exact rch_ok (t := t + 1) ⟨n0, c0, h0, hst⟩
      · rw [rp_ne _ _ e, rp_ne _ _ e]
        exact h1 s (by omega)
    · by_cases e : s = t
      · subst e
        rw [rp_eq, rp_eq, rp_ne _ _ (by omega), rp_ne _ _ (by omega), e1, e2]
        exact hst
      · rw [rp_ne _ _ (by omega), rp_ne _ _ (by omega), rp_ne _ _ (by omega), rp_ne _ _ (by omega)]
        exact h2 s (by omega)
theorem rch_end {v : Nat → V4} {m : Nat} (hm : m ≤ 10) {n c : Nat → Nat} : ¬ rch v m 1001 n c := fun h => by
  obtain ⟨nn, cc, _, _, h1, h2⟩ := rch_seq h
  obtain ⟨s, t, q1, q2, q3⟩ := pigeon (gen 14 4) 1002 (fun t => bl (bB (nn t)) 14) (fun t ht => bl_gen _ _ _ (bB_sum hm (h1 t (by omega)).1)) (by rw [gen_len]; omega)
  have q4 := bl_inj _ _ _ q3
  refine bland hm (nn := nn) (cc := cc) (N := 1001) (fun t ht => ⟨(h1 t (by omega)).1, (h1 t (by omega)).2, h2 t ht⟩) q1 (by omega) (fun x => ?_)
  by_cases hx : x < 14
  · exact q4 x hx
  · have z : ∀ t, t ≤ 1001 → bB (nn t) x = false := fun t ht => by
      refine Bool.eq_false_iff.mpr fun hb => ?_
      obtain ⟨i, hi, e⟩ := bB_iff.mp hb
      have := (h1 t ht).1.nb hi
      unfold nmx at this
      omega
    rw [z s (by omega), z t (by omega)]
/-! The last direction is one of the Model's rays. -/
theorem E_all (v : Nat → V4) (n : Nat → Nat) {m : Nat} (hm : m ≤ 10) (x : Nat → Int) {i : Nat} (hi : i < 4) : sm (fun r => x r * En v n i r) m + (gn v m x 0 * En v n i 10 + gn v m x 1 * En v n i 11 + gn v m x 2 * En v n i 12 + gn v m x 3 * En v n i 13) = 0 := by
  have h1 := EB_sm (Bn v n) hi v x m
  have h2 : sm (fun r => x r * En v n i r) m = sm (fun r => x r * EB (Bn v n) i (v r)) m := sm_cong fun r hr => by
    show x r * EB _ _ (uv v r) = _
    unfold uv
    rw [if_pos (by omega)]
  rw [h2, ← h1]
  have l1 := EB_lin (Bn v n) hi (gn v m x 0) (gn v m x 1) (uv v 10) (uv v 11)
  have l2 := EB_lin (Bn v n) hi (gn v m x 2) (gn v m x 3) (uv v 12) (uv v 13)
  have l3 := EB_lin (Bn v n) hi 1 1 (fun k => gn v m x 0 * uv v 10 k + gn v m x 1 * uv v 11 k) (fun k => gn v m x 2 * uv v 12 k + gn v m x 3 * uv v 13 k)
  have l4 := EB_lin (Bn v n) hi (-1) 0 (fun k => gn v m x k) (fun k => gn v m x k)
  have l5 := EB_cong (Bn v n) (i := i) (y := fun k => 1 * (gn v m x 0 * uv v 10 k + gn v m x 1 * uv v 11 k) + 1 * (gn v m x 2 * uv v 12 k + gn v m x 3 * uv v 13 k)) (w := fun k => (-1) * gn v m x k + 0 * gn v m x k) (fun k hk => by
    rcases lt4 hk with rfl | rfl | rfl | rfl <;> simp [uv])
  rw [l3, l1, l2, l4] at l5
  unfold En
  have l6 : EB (Bn v n) i (fun k => gn v m x k) = EB (Bn v n) i (fun k => sm (fun r => x r * v r k) m) := rfl
  omega
/-- the direction in which name x enters -/
def dirX (v : Nat → V4) (n : Nat → Nat) (p : Nat) (x : Nat) : Int := if x = p then Dn v n else if x = n 0 then - En v n 0 p else if x = n 1 then - En v n 1 p else if x = n 2 then - En v n 2 p else if x = n 3 then - En v n 3 p else 0
def fv (n : Nat → Nat) (p x : Nat) : Bool := x == p || bB n x
section FIN
variable {v : Nat → V4} {m : Nat} {n c : Nat → Nat} {p : Nat}
theorem dir_out {x : Nat} {q : Nat} (h : ¬ fv n q x = true) : dirX v n q x = 0 := by
  unfold fv at h
  simp only [Bool.or_eq_true, beq_iff_eq, not_or] at h
  have hb : ¬ ∃ i, i < 4 ∧ n i = x := fun z => h.2 (bB_iff.mpr z)
  unfold dirX
  rw [if_neg h.1, if_neg (fun z => hb ⟨0, by decide, z.symm⟩), if_neg (fun z => hb ⟨1, by decide, z.symm⟩), if_neg (fun z => hb ⟨2, by decide, z.symm⟩), if_neg (fun z => hb ⟨3, by decide, z.symm⟩)]
theorem dir_p (q : Nat) : dirX v n q q = Dn v n := if_pos rfl
theorem fv_p (q : Nat) : fv n q q = true := by simp [fv]
theorem fv_n {i : Nat} (hi : i < 4) (q : Nat) : fv n q (n i) = true := by
  unfold fv
  rw [bB_iff.mpr ⟨i, hi, rfl⟩, Bool.or_true]
theorem dir_nn (hD : 0 < Dn v n) (hE : ∀ i, i < 4 → En v n i (c p) ≤ 0) (x : Nat) : 0 ≤ dirX v n (c p) x := by
  have e0 := hE 0 (by decide)
  have e1 := hE 1 (by decide)
  have e2 := hE 2 (by decide)
  have e3 := hE 3 (by decide)
  unfold dirX
  (repeat' split) <;> omega
theorem dir_n (hm : m ≤ 10) (hP : PM m n c) (hp : p < m) {i : Nat} (hi : i < 4) : dirX v n (c p) (n i) = - En v n i (c p) := by
  unfold dirX
  rw [if_neg (hP.disj hm hi hp)]
  have j := fun a b ha hb hab => hP.inj hm (i := a) (j := b) ha hb hab
  rcases lt4 hi with rfl | rfl | rfl | rfl
  · rw [if_pos rfl]
  · rw [if_neg (j 1 0 (by decide) (by decide) (by decide)), if_pos rfl]
  · rw [if_neg (j 2 0 (by decide) (by decide) (by decide)), if_neg (j 2 1 (by decide) (by decide) (by decide)), if_pos rfl]
  · rw [if_neg (j 3 0 (by decide) (by decide) (by decide)), if_neg (j 3 1 (by decide) (by decide) (by decide)), if_neg (j 3 2 (by decide) (by decide) (by decide)), if_pos rfl]
theorem fv_c (hm : m ≤ 10) (hP : PM m n c) (hp : p < m) {j : Nat} (hj : j < m) (h : j ≠ p) : ¬ fv n (c p) (c j) = true := fun z => by
  unfold fv at z
  simp only [Bool.or_eq_true, beq_iff_eq] at z
  rcases z with z | z
  · rcases Nat.lt_or_gt_of_ne h with q | q
    · exact hP.injc hm hj hp q z
    · exact hP.injc hm hp hj q z.symm
  · obtain ⟨i, hi, e⟩ := bB_iff.mp z
    exact hP.disj hm hi hj e
/-- a sum over all names of what is nought outside the five -/
theorem five_sum (hm : m ≤ 10) (hP : PM m n c) (hp : p < m) (f : Nat → Int) (hf : ∀ x, ¬ fv n (c p) x = true → f x = 0) : sm f m + (f 10 + f 11 + f 12 + f 13) = f (n 0) + f (n 1) + f (n 2) + f (n 3) + f (c p) := by
  have := hP f
  rw [sm4, sm4, sm_one (r := p) (fun j hj hne => hf _ (fv_c hm hP hp hj hne)) hp] at this
  simp only [Nat.add_zero, Nat.reduceAdd] at this
  omega
theorem dir_gn (hm : m ≤ 10) (hP : PM m n c) (hp : p < m) {k : Nat} (hk : k < 4) : gn v m (dirX v n (c p)) k = dirX v n (c p) (10 + k) := by
  have h := five_sum hm hP hp (fun x => dirX v n (c p) x * uv v x k) (fun x hx => by rw [dir_out hx, Int.zero_mul])
  simp only [dir_n hm hP hp (show 0 < 4 by decide), dir_n hm hP hp (show 1 < 4 by decide), dir_n hm hP hp (show 2 < 4 by decide), dir_n hm hP hp (show 3 < 4 by decide), dir_p] at h
  have cr := cramer (Bn v n) (uv v (c p)) hk
  have e : sm (fun x => dirX v n (c p) x * uv v x k) m = gn v m (dirX v n (c p)) k := sm_cong fun r hr => by
    unfold uv
    rw [if_pos (by omega)]
  rw [e] at h
  have r0 : - En v n 0 (c p) * uv v (n 0) k + - En v n 1 (c p) * uv v (n 1) k + - En v n 2 (c p) * uv v (n 2) k + - En v n 3 (c p) * uv v (n 3) k + Dn v n * uv v (c p) k = 0 := by
    unfold En Dn
    rw [← cr]
    unfold Bn
    grind
  rw [r0] at h
  rcases lt4 hk with rfl | rfl | rfl | rfl <;> simp [uv] at h ⊢ <;> omega
theorem dir_sum (hm : m ≤ 10) (hP : PM m n c) (hp : p < m) (hD : 0 < Dn v n) : dirX v n (c p) 10 + dirX v n (c p) 11 + dirX v n (c p) 12 + dirX v n (c p) 13 = Cn v n (c p) := by
  have a := C_all v n hm (dirX v n (c p))
  have h := five_sum hm hP hp (fun x => dirX v n (c p) x * Cn v n x) (fun x hx => by rw [dir_out hx, Int.zero_mul])
  have g := fun k hk => dir_gn (v := v) hm hP hp (k := k) hk
  have g0 := g 0 (by decide)
  have g1 := g 1 (by decide)
  have g2 := g 2 (by decide)
  have g3 := g 3 (by decide)
  simp only [Nat.add_zero, Nat.reduceAdd] at g0 g1 g2 g3
  rw [g0, g1, g2, g3] at a
  simp only [Cn_basic v n (show 0 < 4 by decide), Cn_basic v n (show 1 < 4 by decide), Cn_basic v n (show 2 < 4 by decide), Cn_basic v n (show 3 < 4 by decide), dir_p, Int.mul_zero, Int.zero_add] at h
  have h3 : dirX v n (c p) 10 * Cn v n 10 + dirX v n (c p) 11 * Cn v n 11 + dirX v n (c p) 12 * Cn v n 12 + dirX v n (c p) 13 * Cn v n 13 = dirX v n (c p) 10 * Cn v n 10 + dirX v n (c p) 11 * Cn v n 11 + dirX v n (c p) 12 * Cn v n 12 + dirX v n (c p) 13 * Cn v n 13 := rfl
  rw [h] at a
  exact Int.eq_of_mul_eq_mul_left (by omega) a
/-- all solutions on the five names are multiples of the direction -/
theorem uniq (hm : m ≤ 10) (hP : PM m n c) (hp : p < m) {z : Nat → Int} (hz : ∀ r, r < m → ¬ fv n (c p) r = true → z r = 0) (hk : ∀ k, k < 4 → ¬ fv n (c p) (10 + k) = true → gn v m z k = 0) : ∃ μ, (∀ r, r < m → Dn v n * z r = μ * dirX v n (c p) r) ∧ ∀ k, k < 4 → Dn v n * gn v m z k = μ * dirX v n (c p) (10 + k) := by
  let X : Nat → Int := fun x => if x < m then z x else if 10 ≤ x ∧ x < 14 then gn v m z (x - 10) else 0
  have Xr : ∀ r, r < m → X r = z r := fun r hr => if_pos hr
  have Xk : ∀ k, k < 4 → X (10 + k) = gn v m z k := fun k hk => by
    show (if 10 + k < m then _ else if 10 ≤ 10 + k ∧ 10 + k < 14 then gn v m z (10 + k - 10) else 0) = _
    rw [if_neg (by omega), if_pos ⟨by omega, by omega⟩, show 10 + k - 10 = k by omega]
  have Xo : ∀ x, ¬ fv n (c p) x = true → X x = 0 := fun x hx => by
    show (if x < m then z x else if 10 ≤ x ∧ x < 14 then gn v m z (x - 10) else 0) = 0
    split
    · exact hz x (by assumption) hx
    · split
      · rename_i q
        exact hk (x - 10) (by omega) (by rw [show 10 + (x - 10) = x by omega]; exact hx)
      · rfl
  have main : ∀ i, i < 4 → Dn v n * X (n i) = X (c p) * dirX v n (c p) (n i) := fun i hi => by
    have a := E_all v n hm z hi
    have h := five_sum hm hP hp (fun x => X x * En v n i x) (fun x hx => by rw [Xo x hx, Int.zero_mul])
    have e : sm (fun x => X x * En v n i x) m = sm (fun r => z r * En v n i r) m := sm_cong fun r hr => by rw [Xr r hr]
    have k0 := Xk 0 (by decide)
    have k1 := Xk 1 (by decide)
    have k2 := Xk 2 (by decide)
    have k3 := Xk 3 (by decide)
    simp only [Nat.add_zero, Nat.reduceAdd] at k0 k1 k2 k3
    simp only [k0, k1, k2, k3, e] at h
    rw [a] at h
    rw [dir_n hm hP hp hi]
    have s := En_self v n hi
    have o := fun k hk h => En_other v n (i := i) (k := k) hi hk h
    rcases lt4 hi with rfl | rfl | rfl | rfl
    · rw [s, o 1 (by decide) (by decide), o 2 (by decide) (by decide), o 3 (by decide) (by decide)] at h; grind
    · rw [s, o 0 (by decide) (by decide), o 2 (by decide) (by decide), o 3 (by decide) (by decide)] at h; grind
    · rw [s, o 0 (by decide) (by decide), o 1 (by decide) (by decide), o 3 (by decide) (by decide)] at h; grind
    · rw [s, o 0 (by decide) (by decide), o 1 (by decide) (by decide), o 2 (by decide) (by decide)] at h; grind
  have all : ∀ x, Dn v n * X x = X (c p) * dirX v n (c p) x := fun x => by
    by_cases hx : fv n (c p) x = true
    · unfold fv at hx
      simp only [Bool.or_eq_true, beq_iff_eq] at hx
      rcases hx with hx | hx
      · rw [hx, dir_p, Int.mul_comm]
      · obtain ⟨i, hi, e⟩ := bB_iff.mp hx
        rw [← e]
        exact main i hi
    · rw [Xo x hx, dir_out hx, Int.mul_zero, Int.mul_zero]
  exact ⟨X (c p), fun r hr => by rw [← Xr r hr]; exact all r, fun k hk => by rw [← Xk k hk]; exact all (10 + k)⟩
theorem five_cnt (hm : m ≤ 10) (hP : PM m n c) (hp : p < m) : sm (fun x => b01 (fv n (c p) x)) m + (b01 (fv n (c p) 10) + b01 (fv n (c p) 11) + b01 (fv n (c p) 12) + b01 (fv n (c p) 13)) = 5 := by
  rw [five_sum hm hP hp (fun x => b01 (fv n (c p) x)) (fun x hx => by show b01 (fv n (c p) x) = 0; rw [Bool.eq_false_iff.mpr hx]; rfl)]
  simp only [fv_p, fv_n (show 0 < 4 by decide), fv_n (show 1 < 4 by decide), fv_n (show 2 < 4 by decide), fv_n (show 3 < 4 by decide)]
  rfl
end FIN
/-! The Model's rays. -/
def bd (w : Nat → V4) (k c i : Nat) : Int := if c < k then (if c = i then 1 else 0) else w i (c - k)
def tw (w : Nat → V4) (k c d i j : Nat) : Int := bd w k c i * bd w k d j - bd w k c j * bd w k d i
def th (w : Nat → V4) (k c d e i j l : Nat) : Int := bd w k c i * tw w k d e j l - bd w k c j * tw w k d e i l + bd w k c l * tw w k d e i j
def ry (w : Nat → V4) (k c d e i : Nat) : Int := match k with
  | 1 => 1
  | 2 => if i = 0 then bd w 2 c 1 else - bd w 2 c 0
  | 3 => if i = 0 then tw w 3 c d 1 2 else if i = 1 then - tw w 3 c d 0 2 else tw w 3 c d 0 1
  | _ => if i = 0 then th w 4 c d e 1 2 3 else if i = 1 then - th w 4 c d e 0 2 3 else if i = 2 then th w 4 c d e 0 1 3 else - th w 4 c d e 0 1 2
def okc3 (k c d e : Nat) : Prop := (2 ≤ k → c < k + 4) ∧ (3 ≤ k → c < d ∧ d < k + 4) ∧ (4 ≤ k → d < e ∧ e < k + 4)
def wn (w : Nat → V4) (k : Nat) (y : Nat → Int) (q : Nat) : Int := sm (fun i => y i * w i q) k
def isg (w : Nat → V4) (k : Nat) (y : Nat → Int) : Prop := (∀ i, i < k → 0 ≤ y i) ∧ (∀ q, q < 4 → 0 ≤ wn w k y q) ∧ ∃ q, q < 4 ∧ 0 < wn w k y q
def mg (w : Nat → V4) (k : Nat) (y : Nat → Int) : Prop := isg w k y ∨ isg w k (fun i => - y i)
def mdl (v : Nat → V4) (m : Nat) : Prop := ∃ (k : Nat) (j : Nat → Nat) (c d e : Nat), 1 ≤ k ∧ k ≤ 4 ∧ (∀ i, i < k → j i < m) ∧ (∀ i, i + 1 < k → j i < j (i + 1)) ∧ okc3 k c d e ∧ mg (fun i => v (j i)) k (ry (fun i => v (j i)) k c d e)
/-- soundness -/
theorem gn_sm {v : Nat → V4} {m : Nat} {j : Nat → Nat} (y : Nat → Int) (q : Nat) : ∀ k, (∀ i, i < k → j i < m) → gn v m (fun r => sm (fun i => y i * ind (j i) r) k) q = wn (fun i => v (j i)) k y q
  | 0, _ => sm_zero fun r _ => by simp [sm]
  | k + 1, hk => by
    have e1 : gn v m (fun r => sm (fun i => y i * ind (j i) r) (k + 1)) q = sm (fun r => sm (fun i => y i * ind (j i) r) k * v r q + y k * (ind (j k) r * v r q)) m := sm_cong fun r _ => by
      show (sm (fun i => y i * ind (j i) r) k + y k * ind (j k) r) * v r q = _
      rw [Int.add_mul, Int.mul_assoc]
    have ih : sm (fun r => sm (fun i => y i * ind (j i) r) k * v r q) m = wn (fun i => v (j i)) k y q := gn_sm y q k (fun i hi => hk i (by omega))
    rw [e1, sm_add, ih, sm_mul, sm_one (r := j k) (fun r _ hr => by rw [ind_ne hr, Int.zero_mul]) (hk k (by omega)), ind_self, Int.one_mul]
    rfl
theorem isg_gain {v : Nat → V4} {m k : Nat} {j : Nat → Nat} (hj : ∀ i, i < k → j i < m) {y : Nat → Int} (h : isg (fun i => v (j i)) k y) : ∃ x, Gain v m x := by
  obtain ⟨h1, h2, q0, hq0, h3⟩ := h
  have e := fun q => gn_sm (v := v) y q k hj
  refine ⟨fun r => sm (fun i => y i * ind (j i) r) k, fun r _ => sm_nn fun i hi => Int.mul_nonneg (h1 i hi) (ind_nn _ _), fun q hq => by rw [e]; exact h2 q hq, ?_⟩
  rw [e, e, e, e]
  have a0 := h2 0 (by decide)
  have a1 := h2 1 (by decide)
  have a2 := h2 2 (by decide)
  have a3 := h2 3 (by decide)
  rcases lt4 hq0 with rfl | rfl | rfl | rfl <;> omega
theorem mdl_gain {v : Nat → V4} {m : Nat} (h : mdl v m) : ∃ x, Gain v m x := by
  obtain ⟨k, j, c, d, e, _, _, hj, _, _, h | h⟩ := h
  · exact isg_gain hj h
  · exact isg_gain hj h
/-- kernels -/
theorem ker2 {a b c d : Int} (h : a * d - b * c = 0) : ∃ x y : Int, (x ≠ 0 ∨ y ≠ 0) ∧ x * a + y * b = 0 ∧ x * c + y * d = 0 := by
  by_cases h1 : a ≠ 0 ∨ b ≠ 0
  · exact ⟨b, -a, by omega, by grind, by grind⟩
  · by_cases h2 : c ≠ 0 ∨ d ≠ 0
    · exact ⟨d, -c, by omega, by grind, by grind⟩
    · exact ⟨1, 0, by omega, by grind, by grind⟩
theorem par {a b c d e f x y z : Int} (h0 : a ≠ 0 ∨ b ≠ 0 ∨ c ≠ 0) (h1 : a * e - b * d = 0) (h2 : a * f - c * d = 0) (h3 : b * f - c * e = 0) (h : x * a + y * b + z * c = 0) : x * d + y * e + z * f = 0 := by
  rcases h0 with q | q | q
  · refine (Int.mul_eq_zero.mp (show a * (x * d + y * e + z * f) = 0 by grind)).resolve_left q
  · refine (Int.mul_eq_zero.mp (show b * (x * d + y * e + z * f) = 0 by grind)).resolve_left q
  · refine (Int.mul_eq_zero.mp (show c * (x * d + y * e + z * f) = 0 by grind)).resolve_left q
theorem orth (a b c : Int) : ∃ x y z : Int, (x ≠ 0 ∨ y ≠ 0 ∨ z ≠ 0) ∧ x * a + y * b + z * c = 0 := by
  by_cases h : a ≠ 0 ∨ b ≠ 0
  · exact ⟨b, -a, 0, by omega, by grind⟩
  · exact ⟨1, 0, 0, by omega, by grind⟩
theorem ker3 {a b c d e f g k l : Int} (h : a * (e * l - f * k) - b * (d * l - f * g) + c * (d * k - e * g) = 0) : ∃ x y z : Int, (x ≠ 0 ∨ y ≠ 0 ∨ z ≠ 0) ∧ x * a + y * b + z * c = 0 ∧ x * d + y * e + z * f = 0 ∧ x * g + y * k + z * l = 0 := by
  by_cases h1 : (b * f - c * e ≠ 0 ∨ c * d - a * f ≠ 0 ∨ a * e - b * d ≠ 0)
  · exact ⟨b * f - c * e, c * d - a * f, a * e - b * d, h1, by grind, by grind, by grind⟩
  by_cases h2 : (e * l - f * k ≠ 0 ∨ f * g - d * l ≠ 0 ∨ d * k - e * g ≠ 0)
  · exact ⟨e * l - f * k, f * g - d * l, d * k - e * g, h2, by grind, by grind, by grind⟩
  by_cases h3 : (b * l - c * k ≠ 0 ∨ c * g - a * l ≠ 0 ∨ a * k - b * g ≠ 0)
  · exact ⟨b * l - c * k, c * g - a * l, a * k - b * g, h3, by grind, by grind, by grind⟩
  by_cases ha : a ≠ 0 ∨ b ≠ 0 ∨ c ≠ 0
  · obtain ⟨x, y, z, h0, hh⟩ := orth a b c
    exact ⟨x, y, z, h0, hh, par ha (by omega) (by omega) (by omega) hh, par ha (by omega) (by omega) (by omega) hh⟩
  by_cases hd : d ≠ 0 ∨ e ≠ 0 ∨ f ≠ 0
  · obtain ⟨x, y, z, h0, hh⟩ := orth d e f
    exact ⟨x, y, z, h0, by grind, hh, par hd (by omega) (by omega) (by omega) hh⟩
  · obtain ⟨x, y, z, h0, hh⟩ := orth g k l
    exact ⟨x, y, z, h0, by grind, by grind, hh⟩
/-- lists of the names that are among the five -/
def fl (P : Nat → Bool) : Nat → List Nat
  | 0 => []
  | m + 1 => if P m then fl P m ++ [m] else fl P m
theorem fl_lt {P : Nat → Bool} : ∀ {m x : Nat}, x ∈ fl P m → x < m ∧ P x = true
  | m + 1, x, h => by
    unfold fl at h
    split at h
    · rename_i hp
      rcases List.mem_append.mp h with q | q
      · have := fl_lt q
        exact ⟨by omega, this.2⟩
      · rw [List.mem_singleton] at q
        subst q
        exact ⟨by omega, hp⟩
    · have := fl_lt h
      exact ⟨by omega, this.2⟩
theorem fl_len {P : Nat → Bool} : ∀ m, ((fl P m).length : Int) = sm (fun x => b01 (P x)) m
  | 0 => rfl
  | m + 1 => by
    unfold fl
    show _ = sm (fun x => b01 (P x)) m + b01 (P m)
    rw [← fl_len m]
    cases P m <;> simp [b01]
theorem fl_sum {P : Nat → Bool} {f : Nat → Int} : ∀ {m : Nat}, (∀ x, x < m → ¬ P x = true → f x = 0) → sm f m = ((fl P m).map f).sum
  | 0, _ => rfl
  | m + 1, h => by
    show sm f m + f m = _
    rw [fl_sum (m := m) (fun x hx => h x (by omega))]
    show _ = ((if P m then fl P m ++ [m] else fl P m).map f).sum
    by_cases hp : P m = true
    · rw [if_pos hp]; simp
    · rw [if_neg hp, h m (by omega) hp, Int.add_zero]
theorem fl_srt {P : Nat → Bool} : ∀ m, (fl P m).Pairwise (· < ·)
  | 0 => List.Pairwise.nil
  | m + 1 => by
    unfold fl
    split
    · rw [List.pairwise_append]
      refine ⟨fl_srt m, List.pairwise_singleton _ _, fun a ha b hb => ?_⟩
      rw [List.mem_singleton] at hb
      have := fl_lt ha
      omega
    · exact fl_srt m
theorem fl_all {P : Nat → Bool} : ∀ {m x : Nat}, x < m → P x = true → x ∈ fl P m
  | m + 1, x, h, hp => by
    unfold fl
    by_cases e : x = m
    · subst e
      rw [if_pos hp]
      exact List.mem_append_right _ (List.mem_singleton.mpr rfl)
    · have := fl_all (m := m) (by omega) hp
      split
      · exact List.mem_append_left _ this
      · exact this
/-! The last tableau of the hunt gives one of the Model's rays. -/
section LAST
variable {v : Nat → V4} {m : Nat} {n c : Nat → Nat} {p : Nat}
theorem fin_core (hm : m ≤ 10) (hP : PM m n c) (hp : p < m) (hD : 0 < Dn v n) (hC : 0 < Cn v n (c p)) (hE : ∀ i, i < 4 → En v n i (c p) ≤ 0) {k : Nat} {j : Nat → Nat} (hj : ∀ i, i < k → j i < m) (hinj : ∀ i l, i < k → l < k → i ≠ l → j i ≠ j l) (hf : ∀ i, i < k → fv n (c p) (j i) = true) (hall : ∀ r, r < m → fv n (c p) r = true → ∃ i, i < k ∧ j i = r) {ray : Nat → Int} (hA : ∀ q, q < 4 → ¬ fv n (c p) (10 + q) = true → wn (fun i => v (j i)) k ray q = 0) (hB : ∀ i0, i0 < k → ray i0 = 0 → ∃ y : Nat → Int, y i0 = 0 ∧ (∃ i, i < k ∧ y i ≠ 0) ∧ ∀ q, q < 4 → ¬ fv n (c p) (10 + q) = true → wn (fun i => v (j i)) k y q = 0) : mg (fun i => v (j i)) k ray := by
  have un : ∀ y : Nat → Int, (∀ q, q < 4 → ¬ fv n (c p) (10 + q) = true → wn (fun i => v (j i)) k y q = 0) → ∃ μ, (∀ i, i < k → Dn v n * y i = μ * dirX v n (c p) (j i)) ∧ ∀ q, q < 4 → Dn v n * wn (fun i => v (j i)) k y q = μ * dirX v n (c p) (10 + q) := fun y hy => by
    have e := fun q => gn_sm (v := v) y q k hj
    obtain ⟨μ, h1, h2⟩ := uniq (v := v) hm hP hp (z := fun r => sm (fun i => y i * ind (j i) r) k) (fun r hr hz => sm_zero fun i hi => by
      rw [ind_ne (fun q => hz (by rw [q]; exact hf i hi)), Int.mul_zero]) (fun q hq hz => by rw [e]; exact hy q hq hz)
    refine ⟨μ, fun i hi => ?_, fun q hq => by rw [← e]; exact h2 q hq⟩
    have := h1 (j i) (hj i hi)
    have e2 : sm (fun l => y l * ind (j l) (j i)) k = y i := by
      rw [sm_one (r := i) (fun l hl hne => by rw [ind_ne (fun q => hinj i l hi hl (Ne.symm hne) q), Int.mul_zero]) hi, ind_self, Int.mul_one]
    rw [e2] at this
    exact this
  have nn := dir_nn (v := v) (n := n) (c := c) (p := p) hD hE
  have sum := dir_sum (v := v) hm hP hp hD
  have g := fun q hq => dir_gn (v := v) hm hP hp (k := q) hq
  -- some rule has a share
  have sh : ∃ i0, i0 < k ∧ dirX v n (c p) (j i0) ≠ 0 := by
    refine Classical.byContradiction fun hc => ?_
    have z : ∀ r, r < m → dirX v n (c p) r = 0 := fun r hr => by
      by_cases hr' : fv n (c p) r = true
      · obtain ⟨i, hi, e⟩ := hall r hr hr'
        refine Classical.byContradiction fun hz => hc ⟨i, hi, by rw [e]; exact hz⟩
      · exact dir_out hr'
    have z2 : ∀ q, q < 4 → dirX v n (c p) (10 + q) = 0 := fun q hq => by
      rw [← g q hq]
      exact sm_zero fun r hr => by rw [z r hr, Int.zero_mul]
    have a0 := z2 0 (by decide)
    have a1 := z2 1 (by decide)
    have a2 := z2 2 (by decide)
    have a3 := z2 3 (by decide)
    simp only [Nat.add_zero, Nat.reduceAdd] at a0 a1 a2 a3
    omega
  obtain ⟨i0, hi0, hs⟩ := sh
  obtain ⟨μ, h1, h2⟩ := un ray hA
  have hμ : μ ≠ 0 := fun e => by
    have r0 := h1 i0 hi0
    rw [e, Int.zero_mul] at r0
    have r1 : ray i0 = 0 := (Int.mul_eq_zero.mp r0).resolve_left (by omega)
    obtain ⟨y, y0, ⟨i, hi, yi⟩, y2⟩ := hB i0 hi0 r1
    obtain ⟨μ', g1, g2⟩ := un y y2
    have q0 := g1 i0 hi0
    rw [y0, Int.mul_zero] at q0
    have q1 : μ' = 0 := (Int.mul_eq_zero.mp q0.symm).resolve_right hs
    have q2 := g1 i hi
    rw [q1, Int.zero_mul] at q2
    exact yi ((Int.mul_eq_zero.mp q2).resolve_left (by omega))
  have pos : ∀ q, q < 4 → 0 < dirX v n (c p) (10 + q) ∨ dirX v n (c p) (10 + q) = 0 := fun q _ => by
    have := nn (10 + q)
    omega
  have ex : ∃ q, q < 4 ∧ 0 < dirX v n (c p) (10 + q) := by
    refine Classical.byContradiction fun hc => ?_
    have z : ∀ q, q < 4 → dirX v n (c p) (10 + q) = 0 := fun q hq => (pos q hq).resolve_left fun z => hc ⟨q, hq, z⟩
    have a0 := z 0 (by decide)
    have a1 := z 1 (by decide)
    have a2 := z 2 (by decide)
    have a3 := z 3 (by decide)
    simp only [Nat.add_zero, Nat.reduceAdd] at a0 a1 a2 a3
    omega
  obtain ⟨q0, hq0, hpos⟩ := ex
  by_cases hμ0 : 0 < μ
  · left
    refine ⟨fun i hi => ?_, fun q hq => ?_, q0, hq0, ?_⟩
    · have := Int.mul_nonneg (show 0 ≤ μ by omega) (nn (j i))
      rw [← h1 i hi] at this
      exact Int.nonneg_of_mul_nonneg_right this hD
    · have := Int.mul_nonneg (show 0 ≤ μ by omega) (nn (10 + q))
      rw [← h2 q hq] at this
      exact Int.nonneg_of_mul_nonneg_right this hD
    · have := Int.mul_pos hμ0 hpos
      rw [← h2 q0 hq0] at this
      exact Int.pos_of_mul_pos_right this hD
  · right
    have hμ1 : 0 < - μ := by omega
    have e : ∀ q, wn (fun i => v (j i)) k (fun i => - ray i) q = - wn (fun i => v (j i)) k ray q := fun q => by
      unfold wn
      rw [← Int.neg_one_mul, ← sm_mul]
      exact sm_cong fun i _ => by grind
    refine ⟨fun i hi => ?_, fun q hq => ?_, q0, hq0, ?_⟩
    · have := Int.mul_nonneg (show 0 ≤ - μ by omega) (nn (j i))
      rw [Int.neg_mul, ← h1 i hi, ← Int.mul_neg] at this
      exact Int.nonneg_of_mul_nonneg_right this hD
    · have := Int.mul_nonneg (show 0 ≤ - μ by omega) (nn (10 + q))
      rw [Int.neg_mul, ← h2 q hq, ← Int.mul_neg] at this
      rw [e]
      exact Int.nonneg_of_mul_nonneg_right this hD
    · have := Int.mul_pos hμ1 hpos
      rw [Int.neg_mul, ← h2 q0 hq0, ← Int.mul_neg] at this
      rw [e]
      exact Int.pos_of_mul_pos_right this hD
end LAST
section LAST2
variable {v : Nat → V4} {m : Nat} {n c : Nat → Nat} {p : Nat}
theorem wn1 (w : Nat → V4) (y : Nat → Int) (q : Nat) : wn w 1 y q = y 0 * w 0 q := by
  show 0 + y 0 * w 0 q = _
  omega
theorem wn2 (w : Nat → V4) (y : Nat → Int) (q : Nat) : wn w 2 y q = y 0 * w 0 q + y 1 * w 1 q := by
  show 0 + y 0 * w 0 q + y 1 * w 1 q = _
  omega
theorem wn3 (w : Nat → V4) (y : Nat → Int) (q : Nat) : wn w 3 y q = y 0 * w 0 q + y 1 * w 1 q + y 2 * w 2 q := by
  show 0 + y 0 * w 0 q + y 1 * w 1 q + y 2 * w 2 q = _
  omega
theorem wn4 (w : Nat → V4) (y : Nat → Int) (q : Nat) : wn w 4 y q = y 0 * w 0 q + y 1 * w 1 q + y 2 * w 2 q + y 3 * w 3 q := by
  show 0 + y 0 * w 0 q + y 1 * w 1 q + y 2 * w 2 q + y 3 * w 3 q = _
  omega
theorem bd_k (w : Nat → V4) (k q i : Nat) : bd w k (k + q) i = w i q := by
  unfold bd
  rw [if_neg (by omega), show k + q - k = q by omega]
def f4 {α : Type} (a b c d : α) (i : Nat) : α := if i = 0 then a else if i = 1 then b else if i = 2 then c else d
theorem fin_mdl (hm : m ≤ 10) (hP : PM m n c) (hp : p < m) (hD : 0 < Dn v n) (hC : 0 < Cn v n (c p)) (hE : ∀ i, i < 4 → En v n i (c p) ≤ 0) : mdl v m := by
  have core := @fin_core v m n c p hm hP hp hD hC hE
  have cnt := five_cnt hm hP hp
  have sum := dir_sum (v := v) hm hP hp hD
  have nn := dir_nn (v := v) (n := n) (c := c) (p := p) hD hE
  have lenR := fl_len (P := fv n (c p)) m
  have lenK := fl_len (P := fun q => !fv n (c p) (10 + q)) 4
  rw [sm4] at lenK
  have bn : ∀ b, b01 (!b) = 1 - b01 b := fun b => by cases b <;> rfl
  simp only [bn, Nat.add_zero, Nat.reduceAdd] at lenK
  have k3 : (fl (fun q => !fv n (c p) (10 + q)) 4).length ≤ 3 := by
    refine Classical.byContradiction fun hc => ?_
    have z : ∀ x, b01 (fv n (c p) x) = 0 → dirX v n (c p) x = 0 := fun x hx => dir_out fun hz => by
      rw [hz] at hx
      exact absurd hx (by decide)
    have nb : ∀ b, 0 ≤ b01 b := fun b => by cases b <;> decide
    have n0 := nb (fv n (c p) 10)
    have n1 := nb (fv n (c p) 11)
    have n2 := nb (fv n (c p) 12)
    have n3 := nb (fv n (c p) 13)
    have z0 := z 10 (by omega)
    have z1 := z 11 (by omega)
    have z2 := z 12 (by omega)
    have z3 := z 13 (by omega)
    omega
  have kR : (fl (fv n (c p)) m).length = (fl (fun q => !fv n (c p) (10 + q)) 4).length + 1 := by omega
  have srtR := fl_srt (P := fv n (c p)) m
  have srtK := fl_srt (P := fun q => !fv n (c p) (10 + q)) 4
  have memR : ∀ x, x ∈ fl (fv n (c p)) m → x < m ∧ fv n (c p) x = true := fun x hx => fl_lt hx
  have memK : ∀ x, x ∈ fl (fun q => !fv n (c p) (10 + q)) 4 → x < 4 := fun x hx => (fl_lt hx).1
  have allR : ∀ x, x < m → fv n (c p) x = true → x ∈ fl (fv n (c p)) m := fun x hx h => fl_all hx h
  have allK : ∀ q, q < 4 → ¬ fv n (c p) (10 + q) = true → q ∈ fl (fun q => !fv n (c p) (10 + q)) 4 := fun q hq h => fl_all hq (by
    show (!fv n (c p) (10 + q)) = true
    rw [Bool.eq_false_iff.mpr h]
    rfl)
  generalize fl (fv n (c p)) m = R at *
  generalize fl (fun q => !fv n (c p) (10 + q)) 4 = K at *
  match K, R, k3, kR with
  | [], [a], _, _ =>
    have ha := memR a (by simp)
    refine ⟨1, fun _ => a, 0, 0, 0, by decide, by decide, fun i _ => ha.1, fun i hi => by omega, ⟨fun h => by omega, fun h => by omega, fun h => by omega⟩, ?_⟩
    refine core (k := 1) (fun i _ => ha.1) (fun i l hi hl hne => by omega) (fun i _ => ha.2) (fun r hr hf => ⟨0, by decide, ?_⟩) (fun q hq hf => absurd (allK q hq hf) (by simp)) (fun i0 _ h0 => absurd h0 (by simp [ry]))
    have := allR r hr hf
    simp at this
    exact this.symm
  | [q], [a, b], _, _ =>
    have ha := memR a (by simp)
    have hb := memR b (by simp)
    have hq := memK q (by simp)
    have ab : a < b := by simpa using srtR
    have isK : ∀ q', q' < 4 → ¬ fv n (c p) (10 + q') = true → q' = q := fun q' h1 h2 => by simpa using allK q' h1 h2
    have hjj : ∀ i, i < 2 → i = 0 ∨ i = 1 := fun i hi => by omega
    refine ⟨2, f4 a b 0 0, 2 + q, 0, 0, by decide, by decide, fun i hi => ?_, fun i hi => ?_, ⟨fun _ => by omega, fun h => by omega, fun h => by omega⟩, ?_⟩
    · rcases hjj i hi with rfl | rfl
      · exact ha.1
      · exact hb.1
    · rcases hjj i (by omega) with rfl | rfl
      · exact ab
      · omega
    · refine core (k := 2) (fun i hi => ?_) (fun i l hi hl hne => ?_) (fun i hi => ?_) (fun r hr hf => ?_) (fun q' h1 h2 => ?_) (fun i0 h1 h2 => ?_)
      · rcases hjj i hi with rfl | rfl
        · exact ha.1
        · exact hb.1
      · rcases hjj i hi with rfl | rfl <;> rcases hjj l hl with rfl | rfl <;> simp [f4] <;> omega
      · rcases hjj i hi with rfl | rfl
        · exact ha.2
        · exact hb.2
      · have := allR r hr hf
        simp at this
        rcases this with rfl | rfl
        · exact ⟨0, by decide, rfl⟩
        · exact ⟨1, by decide, rfl⟩
      · rw [isK q' h1 h2, wn2]
        simp only [ry, bd_k, f4]
        simp
        grind
      · rcases hjj i0 h1 with rfl | rfl
        · simp only [ry, bd_k, f4] at h2
          simp at h2
          refine ⟨f4 0 1 0 0, rfl, ⟨1, by decide, by decide⟩, fun q' h3 h4 => ?_⟩
          rw [isK q' h3 h4, wn2]
          simp [f4, h2]
        · simp only [ry, bd_k, f4] at h2
          simp at h2
          refine ⟨f4 1 0 0 0, rfl, ⟨0, by decide, by decide⟩, fun q' h3 h4 => ?_⟩
          rw [isK q' h3 h4, wn2]
          simp [f4, h2]
  | [q, s], [a, b, d], _, _ =>
    have ha := memR a (by simp)
    have hb := memR b (by simp)
    have hd := memR d (by simp)
    have hq := memK q (by simp)
    have hs := memK s (by simp)
    have srt : (a < b ∧ a < d) ∧ b < d := by simpa using srtR
    have qs : q < s := by simpa using srtK
    have isK : ∀ q', q' < 4 → ¬ fv n (c p) (10 + q') = true → q' = q ∨ q' = s := fun q' h1 h2 => by simpa using allK q' h1 h2
    have hjj : ∀ i, i < 3 → i = 0 ∨ i = 1 ∨ i = 2 := fun i hi => by omega
    refine ⟨3, f4 a b d 0, 3 + q, 3 + s, 0, by decide, by decide, fun i hi => ?_, fun i hi => ?_, ⟨fun _ => by omega, fun h => ⟨by omega, by omega⟩, fun h => by omega⟩, ?_⟩
    · rcases hjj i hi with rfl | rfl | rfl
      · exact ha.1
      · exact hb.1
      · exact hd.1
    · rcases hjj i (by omega) with rfl | rfl | rfl <;> simp [f4] <;> omega
    · refine core (k := 3) (fun i hi => ?_) (fun i l hi hl hne => ?_) (fun i hi => ?_) (fun r hr hf => ?_) (fun q' h1 h2 => ?_) (fun i0 h1 h2 => ?_)
      · rcases hjj i hi with rfl | rfl | rfl
        · exact ha.1
        · exact hb.1
        · exact hd.1
      · rcases hjj i hi with rfl | rfl | rfl <;> rcases hjj l hl with rfl | rfl | rfl <;> simp [f4] <;> omega
      · rcases hjj i hi with rfl | rfl | rfl
        · exact ha.2
        · exact hb.2
        · exact hd.2
      · have := allR r hr hf
        simp at this
        rcases this with rfl | rfl | rfl
        · exact ⟨0, by decide, rfl⟩
        · exact ⟨1, by decide, rfl⟩
        · exact ⟨2, by decide, rfl⟩
      · rw [wn3]
        simp only [ry, tw, bd_k, f4]
        simp
        rcases isK q' h1 h2 with rfl | rfl <;> grind
      · rcases hjj i0 h1 with rfl | rfl | rfl
        · simp only [ry, tw, bd_k, f4] at h2
          simp at h2
          obtain ⟨x, y, hxy, e1, e2⟩ := ker2 h2
          refine ⟨f4 0 x y 0, rfl, ?_, fun q' h3 h4 => ?_⟩
          · rcases hxy with z | z
            · exact ⟨1, by decide, z⟩
            · exact ⟨2, by decide, z⟩
          · rw [wn3]
            simp [f4]
            rcases isK q' h3 h4 with rfl | rfl
            · exact e1
            · exact e2
        · simp only [ry, tw, bd_k, f4] at h2
          simp at h2
          obtain ⟨x, y, hxy, e1, e2⟩ := ker2 (a := v a q) (b := v d q) (c := v a s) (d := v d s) (by omega)
          refine ⟨f4 x 0 y 0, rfl, ?_, fun q' h3 h4 => ?_⟩
          · rcases hxy with z | z
            · exact ⟨0, by decide, z⟩
            · exact ⟨2, by decide, z⟩
          · rw [wn3]
            simp [f4]
            rcases isK q' h3 h4 with rfl | rfl
            · exact e1
            · exact e2
        · simp only [ry, tw, bd_k, f4] at h2
          simp at h2
          obtain ⟨x, y, hxy, e1, e2⟩ := ker2 h2
          refine ⟨f4 x y 0 0, rfl, ?_, fun q' h3 h4 => ?_⟩
          · rcases hxy with z | z
            · exact ⟨0, by decide, z⟩
            · exact ⟨1, by decide, z⟩
          · rw [wn3]
            simp [f4]
            rcases isK q' h3 h4 with rfl | rfl
            · exact e1
            · exact e2
  | [q, s, t], [a, b, d, e], _, _ =>
    have ha := memR a (by simp)
    have hb := memR b (by simp)
    have hd := memR d (by simp)
    have he := memR e (by simp)
    have hq := memK q (by simp)
    have hs := memK s (by simp)
    have ht := memK t (by simp)
    have srt : (a < b ∧ a < d ∧ a < e) ∧ (b < d ∧ b < e) ∧ d < e := by simpa using srtR
    have qs : (q < s ∧ q < t) ∧ s < t := by simpa using srtK
    have isK : ∀ q', q' < 4 → ¬ fv n (c p) (10 + q') = true → q' = q ∨ q' = s ∨ q' = t := fun q' h1 h2 => by simpa using allK q' h1 h2
    refine ⟨4, f4 a b d e, 4 + q, 4 + s, 4 + t, by decide, by decide, fun i hi => ?_, fun i hi => ?_, ⟨fun _ => by omega, fun h => ⟨by omega, by omega⟩, fun h => ⟨by omega, by omega⟩⟩, ?_⟩
    · rcases lt4 hi with rfl | rfl | rfl | rfl
      · exact ha.1
      · exact hb.1
      · exact hd.1
      · exact he.1
    · rcases lt4 (show i < 4 by omega) with rfl | rfl | rfl | rfl <;> simp [f4] <;> omega
    · refine core (k := 4) (fun i hi => ?_) (fun i l hi hl hne => ?_) (fun i hi => ?_) (fun r hr hf => ?_) (fun q' h1 h2 => ?_) (fun i0 h1 h2 => ?_)
      · rcases lt4 hi with rfl | rfl | rfl | rfl
        · exact ha.1
        · exact hb.1
        · exact hd.1
        · exact he.1
      · rcases lt4 hi with rfl | rfl | rfl | rfl <;> rcases lt4 hl with rfl | rfl | rfl | rfl <;> simp [f4] <;> omega
      · rcases lt4 hi with rfl | rfl | rfl | rfl
        · exact ha.2
        · exact hb.2
        · exact hd.2
        · exact he.2
      · have := allR r hr hf
        simp at this
        rcases this with rfl | rfl | rfl | rfl
        · exact ⟨0, by decide, rfl⟩
        · exact ⟨1, by decide, rfl⟩
        · exact ⟨2, by decide, rfl⟩
        · exact ⟨3, by decide, rfl⟩
      · rw [wn4]
        simp only [ry, th, tw, bd_k, f4]
        simp
        rcases isK q' h1 h2 with rfl | rfl | rfl <;> grind
      · rcases lt4 h1 with rfl | rfl | rfl | rfl
        · simp only [ry, th, tw, bd_k, f4] at h2
          simp at h2
          obtain ⟨x, y, z, hxy, e1, e2, e3⟩ := ker3 (a := v b q) (b := v d q) (c := v e q) (d := v b s) (e := v d s) (f := v e s) (g := v b t) (k := v d t) (l := v e t) (by grind)
          refine ⟨f4 0 x y z, rfl, ?_, fun q' h3 h4 => ?_⟩
          · rcases hxy with z | z | z
            · exact ⟨1, by decide, z⟩
            · exact ⟨2, by decide, z⟩
            · exact ⟨3, by decide, z⟩
          · rw [wn4]
            simp [f4]
            rcases isK q' h3 h4 with rfl | rfl | rfl
            · exact e1
            · exact e2
            · exact e3
        · simp only [ry, th, tw, bd_k, f4] at h2
          simp at h2
          obtain ⟨x, y, z, hxy, e1, e2, e3⟩ := ker3 (a := v a q) (b := v d q) (c := v e q) (d := v a s) (e := v d s) (f := v e s) (g := v a t) (k := v d t) (l := v e t) (by grind)
          refine ⟨f4 x 0 y z, rfl, ?_, fun q' h3 h4 => ?_⟩
          · rcases hxy with z | z | z
            · exact ⟨0, by decide, z⟩
            · exact ⟨2, by decide, z⟩
            · exact ⟨3, by decide, z⟩
          · rw [wn4]
            simp [f4]
            rcases isK q' h3 h4 with rfl | rfl | rfl
            · exact e1
            · exact e2
            · exact e3
        · simp only [ry, th, tw, bd_k, f4] at h2
          simp at h2
          obtain ⟨x, y, z, hxy, e1, e2, e3⟩ := ker3 (a := v a q) (b := v b q) (c := v e q) (d := v a s) (e := v b s) (f := v e s) (g := v a t) (k := v b t) (l := v e t) (by grind)
          refine ⟨f4 x y 0 z, rfl, ?_, fun q' h3 h4 => ?_⟩
          · rcases hxy with z | z | z
            · exact ⟨0, by decide, z⟩
            · exact ⟨1, by decide, z⟩
            · exact ⟨3, by decide, z⟩
          · rw [wn4]
            simp [f4]
            rcases isK q' h3 h4 with rfl | rfl | rfl
            · exact e1
            · exact e2
            · exact e3
        · simp only [ry, th, tw, bd_k, f4] at h2
          simp at h2
          obtain ⟨x, y, z, hxy, e1, e2, e3⟩ := ker3 (a := v a q) (b := v b q) (c := v d q) (d := v a s) (e := v b s) (f := v d s) (g := v a t) (k := v b t) (l := v d t) (by grind)
          refine ⟨f4 x y z 0, rfl, ?_, fun q' h3 h4 => ?_⟩
          · rcases hxy with z | z | z
            · exact ⟨0, by decide, z⟩
            · exact ⟨1, by decide, z⟩
            · exact ⟨2, by decide, z⟩
          · rw [wn4]
            simp [f4]
            rcases isK q' h3 h4 with rfl | rfl | rfl
            · exact e1
            · exact e2
            · exact e3
end LAST2
