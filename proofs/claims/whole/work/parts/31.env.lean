theorem lw_mem {w : Cond} (n : Nat) (h : tables_1[n]? = some w) : w ∈ lw_tbl := List.mem_append_right _ (List.mem_of_getElem? h)
theorem lw_arr {s : State} {args : Array Value} {ty : FieldType} {nm : String} (h : (Cond.arrayClass ty).before args s = true) (e : "[" ++ ty.toString = nm) : ∃ c : ClassId, s.vm.findClass nm = some c ∧ ArrOfT s c ty := by
  obtain ⟨c, k, comp, f1, f2, f3⟩ := Cond.arrayClass_spec h
  exact ⟨c, e ▸ f1, fun N z => ⟨(fun k h => by cases h), k, f2, comp, f3⟩⟩
set_option maxHeartbeats 4000000 in
set_option maxRecDepth 100000 in
theorem lw_strs {s : State} {b : Nat} (hts : ∀ w ∈ lw_tbl, w.before #[Value.ref b] s = true) (hgv : (Jvm.Cond.and given_1 narrow_1).before #[Value.ref b] s = true) : ∀ q ∈ q_strs, ∃ a, vk_R q.1 q.2.1 q.2.2 a s := by
  have hf := flat_of_before _ hgv
  intro q hq
  simp only [q_strs, List.mem_cons, List.not_mem_nil, or_false] at hq
  rcases hq with rfl | rfl | rfl | rfl | rfl | rfl | rfl | rfl | rfl | rfl | rfl | rfl
  · obtain ⟨a, -, -, -, ha, -⟩ := Cond.exactly_spec (hf (.exactly (.string "GoodsKeeper" 53) "java/lang/String") (by decide +kernel))
    exact ⟨a, vk_R.of (hts _ (lw_mem 283 (by decide +kernel))) ha⟩
  · obtain ⟨a, -, -, -, ha, -⟩ := Cond.exactly_spec (hf (.exactly (.string "GoodsKeeper" 67) "java/lang/String") (by decide +kernel))
    exact ⟨a, vk_R.of (hts _ (lw_mem 401 (by decide +kernel))) ha⟩
  · obtain ⟨a, -, -, -, ha, -⟩ := Cond.exactly_spec (hf (.exactly (.string "GoodsKeeper" 327) "java/lang/String") (by decide +kernel))
    exact ⟨a, vk_R.of (hts _ (lw_mem 446 (by decide +kernel))) ha⟩
  · obtain ⟨a, -, -, -, ha, -⟩ := Cond.exactly_spec (hf (.exactly (.string "GoodsKeeper" 331) "java/lang/String") (by decide +kernel))
    exact ⟨a, vk_R.of (hts _ (lw_mem 456 (by decide +kernel))) ha⟩
  · obtain ⟨a, -, -, -, ha, -⟩ := Cond.exactly_spec (hf (.exactly (.string "GoodsKeeper" 333) "java/lang/String") (by decide +kernel))
    exact ⟨a, vk_R.of (hts _ (lw_mem 469 (by decide +kernel))) ha⟩
  · obtain ⟨a, -, -, -, ha, -⟩ := Cond.exactly_spec (hf (.exactly (.string "GoodsKeeper" 324) "java/lang/String") (by decide +kernel))
    exact ⟨a, vk_R.of (hts _ (lw_mem 487 (by decide +kernel))) ha⟩
  · obtain ⟨a, -, -, -, ha, -⟩ := Cond.exactly_spec (hf (.exactly (.string "GoodsKeeper" 117) "java/lang/String") (by decide +kernel))
    exact ⟨a, vk_R.of (hts _ (lw_mem 519 (by decide +kernel))) ha⟩
  · obtain ⟨a, -, -, -, ha, -⟩ := Cond.exactly_spec (hf (.exactly (.string "GoodsKeeper$Things" 26) "java/lang/String") (by decide +kernel))
    exact ⟨a, vk_R.of (hts _ (lw_mem 596 (by decide +kernel))) ha⟩
  · obtain ⟨a, -, -, -, ha, -⟩ := Cond.exactly_spec (hf (.exactly (.string "GoodsKeeper" 205) "java/lang/String") (by decide +kernel))
    exact ⟨a, vk_R.of (hts _ (lw_mem 702 (by decide +kernel))) ha⟩
  · obtain ⟨a, -, -, -, ha, -⟩ := Cond.exactly_spec (hf (.exactly (.string "GoodsKeeper" 220) "java/lang/String") (by decide +kernel))
    exact ⟨a, vk_R.of (hts _ (lw_mem 753 (by decide +kernel))) ha⟩
  · obtain ⟨a, -, -, -, ha, -⟩ := Cond.exactly_spec (hf (.exactly (.string "GoodsKeeper" 224) "java/lang/String") (by decide +kernel))
    exact ⟨a, vk_R.of (hts _ (lw_mem 755 (by decide +kernel))) ha⟩
  · obtain ⟨a, -, -, -, ha, -⟩ := Cond.exactly_spec (hf (.exactly (.string "GoodsKeeper" 329) "java/lang/String") (by decide +kernel))
    exact ⟨a, vk_R.of (hts _ (lw_mem 785 (by decide +kernel))) ha⟩
set_option maxHeartbeats 4000000 in
set_option maxRecDepth 100000 in
theorem lw_ncs {s : State} {b : Nat} (hgv : (Jvm.Cond.and given_1 narrow_1).before #[Value.ref b] s = true) : ∀ q ∈ q_ncs, va_Nc q.1 q.2 s := by
  have hf := flat_of_before _ hgv
  intro q hq
  have hm : ∀ q ∈ q_ncs, Cond.not (.castable q.1 q.2) ∈ flatC (Jvm.Cond.and given_1 narrow_1) := by decide +kernel
  exact va_Nc.of (hf _ (hm q hq))
theorem lw_casts {s : State} {b : Nat} (hts : ∀ w ∈ lw_tbl, w.before #[Value.ref b] s = true) : ∀ q ∈ q_casts, va_Nw (.castable q.1 q.2) s := by
  intro q hq
  simp only [q_casts, List.mem_cons, List.not_mem_nil, or_false] at hq
  rcases hq with rfl | rfl | rfl | rfl | rfl | rfl | rfl | rfl
  · exact va_Nw.of rfl (hts _ (lw_mem 243 (by decide +kernel)))
  · exact va_Nw.of rfl (hts _ (lw_mem 439 (by decide +kernel)))
  · exact va_Nw.of rfl (hts _ (lw_mem 462 (by decide +kernel)))
  · exact va_Nw.of rfl (hts _ (lw_mem 695 (by decide +kernel)))
  · exact va_Nw.of rfl (hts _ (lw_mem 1150 (by decide +kernel)))
  · exact va_Nw.of rfl (hts _ (lw_mem 1151 (by decide +kernel)))
  · exact va_Nw.of rfl (hts _ (lw_mem 1157 (by decide +kernel)))
  · exact va_Nw.of rfl (hts _ (lw_mem 1154 (by decide +kernel)))
theorem lw_nests {s : State} {b : Nat} (hts : ∀ w ∈ lw_tbl, w.before #[Value.ref b] s = true) : ∀ q ∈ q_nests, va_Nw (.methodLinkNest q.1 q.2.1 q.2.2 "GoodsKeeper") s := by
  intro q hq
  simp only [q_nests, List.mem_cons, List.not_mem_nil, or_false] at hq
  rcases hq with rfl | rfl
  · exact va_Nw.of rfl (hts _ (lw_mem 62 (by decide +kernel)))
  · exact va_Nw.of rfl (hts _ (lw_mem 74 (by decide +kernel)))
theorem lw_decls {s : State} {b : Nat} (hts : ∀ w ∈ lw_tbl, w.before #[Value.ref b] s = true) : ∀ q ∈ q_decls, va_Nw (.declares q) s := by
  intro q hq
  simp only [q_decls, List.mem_cons, List.not_mem_nil, or_false] at hq
  rcases hq with rfl | rfl | rfl | rfl | rfl | rfl
  · exact va_Nw.of rfl (hts _ (lw_mem 244 (by decide +kernel)))
  · exact va_Nw.of rfl (hts _ (lw_mem 245 (by decide +kernel)))
  · exact va_Nw.of rfl (hts _ (lw_mem 246 (by decide +kernel)))
  · exact va_Nw.of rfl (hts _ (lw_mem 247 (by decide +kernel)))
  · exact va_Nw.of rfl (hts _ (lw_mem 248 (by decide +kernel)))
  · exact va_Nw.of rfl (hts _ (lw_mem 249 (by decide +kernel)))
set_option maxHeartbeats 4000000 in
set_option maxRecDepth 100000 in
theorem lw_env {s : State} {b : Nat} (hts : ∀ w ∈ lw_tbl, w.before #[Value.ref b] s = true) (hgv : (Jvm.Cond.and given_1 narrow_1).before #[Value.ref b] s = true) : ∃ G : qG, q_E G (fun q => s.heap.size ≤ q) s s.heap := by
  have hf := flat_of_before _ hgv
  have htb : ∀ w ∈ bg, w.before #[Value.ref b] s = true := fun w hw => hts w (List.mem_filter.mp hw).1
  have hA : ∀ a : Nat, a < s.heap.size → ¬ (fun q : Nat => s.heap.size ≤ q) a := fun a h => Nat.not_le.mpr h
  obtain ⟨c0, i0, k0⟩ := u_known (C := RJx4a65c) (T := TJx4a65c) (N := 3) (n := 3) htb inb_TJx4a65c (htb _ wd_35)
  obtain ⟨c1, i1, k1⟩ := u_known (C := RX0) (T := TX0) (N := 5) (n := 5) htb inb_TX0 (htb _ wd_73)
  obtain ⟨c2, i2, k2⟩ := u_known (C := RX1) (T := TX1) (N := 3) (n := 3) htb inb_TX1 (htb _ wd_756)
  obtain ⟨c3, i3, k3⟩ := u_known (C := RX2) (T := TX2) (N := 4) (n := 4) htb inb_TX2 (htb _ wd_311)
  obtain ⟨c4, i4, k4⟩ := u_known (C := RX3) (T := TX3) (N := 4) (n := 4) htb inb_TX3 (htb _ wd_402)
  obtain ⟨c5, i5, k5⟩ := u_known (C := RX4) (T := TX4) (N := 5) (n := 5) htb inb_TX4 (htb _ wd_728)
  obtain ⟨c6, i6, k6⟩ := u_known (C := RX5) (T := TX5) (N := 11) (n := 11) htb inb_TX5 (htb _ wd_521)
  obtain ⟨c7, i7, k7⟩ := u_known (C := RX6) (T := TX6) (N := 1) (n := 1) htb inb_TX6 (htb _ wd_61)
  obtain ⟨c8, i8, k8⟩ := u_known (C := RX7) (T := TX7) (N := 10) (n := 10) htb inb_TX7 (htb _ wd_27)
  obtain ⟨c9, i9, k9⟩ := u_known (C := RX8) (T := TX8) (N := 33) (n := 33) htb inb_TX8 (htb _ wd_833)
  obtain ⟨dC, dI, hKc⟩ : ∃ (dC : Nat → ClassId) (dI : Nat → Nat → Nat), ∀ (k : Nat) (q : vw_C), vwCl[k]? = some q → u_Kn s q.1 q.2.1 q.2.2 (dC k) (dI k) := by
    refine ⟨fun k => if k = 0 then c0 else if k = 1 then c1 else if k = 2 then c2 else if k = 3 then c3 else if k = 4 then c4 else if k = 5 then c5 else if k = 6 then c6 else if k = 7 then c7 else if k = 8 then c8 else c9, fun k => if k = 0 then i0 else if k = 1 then i1 else if k = 2 then i2 else if k = 3 then i3 else if k = 4 then i4 else if k = 5 then i5 else if k = 6 then i6 else if k = 7 then i7 else if k = 8 then i8 else i9, ?_⟩
    intro k q hq
    match k, hq with
    | 0, hq => cases hq; exact k0
    | 1, hq => cases hq; exact k1
    | 2, hq => cases hq; exact k2
    | 3, hq => cases hq; exact k3
    | 4, hq => cases hq; exact k4
    | 5, hq => cases hq; exact k5
    | 6, hq => cases hq; exact k6
    | 7, hq => cases hq; exact k7
    | 8, hq => cases hq; exact k8
    | 9, hq => cases hq; exact k9
    | k + 10, hq => simp [vwCl] at hq
  obtain ⟨cI, fI, aI⟩ := lw_arr (nm := "[I") (htb _ wd_97) (by decide +kernel)
  obtain ⟨cZ, fZ, aZ⟩ := lw_arr (nm := "[Z") (htb _ wd_938) (by decide +kernel)
  obtain ⟨cJ, fJ, aJ⟩ := lw_arr (nm := "[J") (htb _ wd_96) (by decide +kernel)
  have hAO : va_AO "java/lang/Object" s := va_AO.of (hts _ (lw_mem 384 (by decide +kernel)))
  obtain ⟨comp, cO, kO, o1, o2, o3, o4, o5⟩ := Cond.arrayOver_spec hAO
  have hAJ : va_AOA .long s := va_AOA.of (hts _ (lw_mem 79 (by decide +kernel)))
  obtain ⟨compJ, cJJ, kJJ, j1, j2, j3, j4, j5⟩ := arrayOverA_spec hAJ
  obtain ⟨mi, hmi⟩ := va_Mi.of (hf (.isRef (.mirror "[Ljava/lang/Object;")) (by decide +kernel))
  have hDc : va_Dc s := va_Dc.of (hts _ (lw_mem 1162 (by decide +kernel)))
  have eI : "[" ++ FieldType.int.toString = "[I" := by decide +kernel
  have eZ : "[" ++ FieldType.boolean.toString = "[Z" := by decide +kernel
  have eJ : "[" ++ FieldType.long.toString = "[J" := by decide +kernel
  have eO : "[" ++ (FieldType.object "java/lang/Object").toString = "[Ljava/lang/Object;" := by decide +kernel
  have eJJ : "[" ++ (FieldType.array .long).toString = "[[J" := by decide +kernel
  obtain ⟨z, hz1, hz2⟩ := Cond.eq_one (hf (.eq (.length (.static "java/util/ArrayList" "DEFAULTCAPACITY_EMPTY_ELEMENTDATA" "[Ljava/lang/Object;")) (.int 0)) (by decide +kernel))
  have hz : z = .int 0 := (Option.some.inj hz2).symm
  subst hz
  obtain ⟨e0, he0, hT⟩ := va_Tof (args := #[Value.ref b]) (N := 0) (f := fun _ => .null) (A := fun q : Nat => s.heap.size ≤ q) (by decide) (hf (.arrayOf (.static "java/util/ArrayList" "DEFAULTCAPACITY_EMPTY_ELEMENTDATA" "[Ljava/lang/Object;") (.object "java/lang/Object")) (by decide +kernel)) hz1 (fun j hj => absurd hj (Nat.not_lt_zero j)) hA
  refine ⟨((dC, dI), (fun k => if k = 0 then cI else if k = 1 then cZ else if k = 2 then cJ else if k = 3 then cO else cJJ), e0, mi), ⟨hKc, ?_⟩, ⟨⟨fI, fZ, fJ, ?_, ?_⟩, ⟨hAO, hAJ, hDc, hmi⟩, lw_strs hts hgv, lw_casts hts, lw_ncs hgv, lw_nests hts, lw_decls hts⟩, vx_Zqof (hts _ (lw_mem 268 (by decide +kernel))) (htb _ wd_8) (hf _ (by decide +kernel)) hA, vx_Zqof (hts _ (lw_mem 270 (by decide +kernel))) (htb _ wd_8) (hf _ (by decide +kernel)) hA, va_Zref (hts _ (lw_mem 47 (by decide +kernel))) (htb _ wd_4) he0 hA, hT⟩
  · intro k q hq
    match k, hq with
    | 0, hq => cases hq; exact ⟨aI, by show s.vm.findClass ("[" ++ FieldType.int.toString) = some cI; rw [eI]; exact fI⟩
    | 1, hq => cases hq; exact ⟨aZ, by show s.vm.findClass ("[" ++ FieldType.boolean.toString) = some cZ; rw [eZ]; exact fZ⟩
    | 2, hq => cases hq; exact ⟨aJ, by show s.vm.findClass ("[" ++ FieldType.long.toString) = some cJ; rw [eJ]; exact fJ⟩
    | 3, hq => cases hq; exact ⟨fun N z => ⟨(fun k h => by cases h), kO, o3, comp, o4⟩, kO, comp, o3, o4, o1, o5⟩
    | 4, hq => cases hq; exact ⟨fun N z => ⟨(fun k h => by cases h), kJJ, j3, compJ, j4⟩, j5⟩
    | k + 5, hq => simp [q_tys] at hq
  · show s.vm.findClass "[Ljava/lang/Object;" = some cO
    rw [← eO]; exact o5
  · show s.vm.findClass "[[J" = some cJJ
    rw [← eJJ]; exact j5
