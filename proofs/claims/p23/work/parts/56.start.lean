/-! ===== what stands at the law's entry ===== -/
theorem z_arr1 {s : State} {args : Array Value} {ty : FieldType} (h : (Cond.arrayClass ty).before args s = true) : ∃ cA, ArrOfT s cA ty ∧ s.vm.findClass ("[" ++ ty.toString) = some cA := by
  obtain ⟨c, k, comp, h1, h2, h3⟩ := Cond.arrayClass_spec h
  refine ⟨c, fun n z => ⟨fun q hq => ?_, k, h2, comp, h3⟩, h1⟩
  cases hq
theorem z_arr2 {s : State} {C : String} (h : va_AO C s) : ∃ cA, ArrOfT s cA (.object C) ∧ va_RA s cA (.object C) := by
  obtain ⟨comp, c, k, h1, h2, h3, h4, h5⟩ := Cond.arrayOver_spec (va_AO.use (A := #[]) h)
  exact ⟨c, fun n z => ⟨(fun q hq => by cases hq), k, h3, comp, h4⟩, k, comp, h3, h4, h1, h5⟩
theorem z_arr3 {s : State} (h : va_AOA .int s) : ∃ cA, ArrOfT s cA (.array .int) ∧ s.vm.findClass ("[" ++ (FieldType.array .int).toString) = some cA := by
  obtain ⟨comp, c, k, h1, h3, h4, h5⟩ := Cond.arrayOver_specA (va_AOA.use (A := #[]) h)
  exact ⟨c, fun n z => ⟨(fun q hq => by cases hq), k, h3, comp, h4⟩, h5⟩
theorem z_K {s : State} {args : Array Value} (hts : ∀ w ∈ z_G, w.before args s = true) (hA : va_AOA .int s) (hH : va_AO "RightsCounter$History" s) (hO : va_AO "java/lang/Object" s) : ∃ (D : va_G) (cA : Nat → ClassId), va_K D vwCl (z_tys cA) s := by
  obtain ⟨c0, i0, k0⟩ := u_known (C := RJx4a65c) (T := TJx4a65c) (N := 3) hts inG_Jx4a65c (hts _ gw48)
  obtain ⟨c1, i1, k1⟩ := u_known (C := RX0) (T := TX0) (N := 9) hts inG_X0 (hts _ gw109)
  obtain ⟨c2, i2, k2⟩ := u_known (C := RX1) (T := TX1) (N := 4) hts inG_X1 (hts _ gw428)
  obtain ⟨c3, i3, k3⟩ := u_known (C := RX2) (T := TX2) (N := 5) hts inG_X2 (hts _ gw421)
  obtain ⟨c4, i4, k4⟩ := u_known (C := RX3) (T := TX3) (N := 7) hts inG_X3 (hts _ gw74)
  obtain ⟨c5, i5, k5⟩ := u_known (C := RX4) (T := TX4) (N := 5) hts inG_X4 (hts _ gw274)
  obtain ⟨c6, i6, k6⟩ := u_known (C := RX5) (T := TX5) (N := 5) hts inG_X5 (hts _ gw40)
  obtain ⟨a0, b0, d0⟩ := z_arr1 (hts _ gw107)
  obtain ⟨a1, b1, d1⟩ := z_arr1 (hts _ gw252)
  obtain ⟨a3, b3, d3⟩ := z_arr3 hA
  obtain ⟨a4, b4, d4⟩ := z_arr2 hH
  obtain ⟨a5, b5, d5⟩ := z_arr2 hO
  refine ⟨(fun c => [c0, c1, c2, c3, c4, c5, c6].getD c 0, fun c => [i0, i1, i2, i3, i4, i5, i6].getD c (fun _ => 0)), fun k => [a0, a1, a1, a3, a4, a5].getD k 0, fun c q hq => ?_, fun k q hk => ?_⟩
  · rcases c with _ | _ | _ | _ | _ | _ | _ | c
    · cases hq; exact k0
    · cases hq; exact k1
    · cases hq; exact k2
    · cases hq; exact k3
    · cases hq; exact k4
    · cases hq; exact k5
    · cases hq; exact k6
    · cases hq
  · rcases k with _ | _ | _ | _ | _ | _ | k
    · cases hk; exact ⟨b0, d0⟩
    · cases hk; exact ⟨b1, d1⟩
    · cases hk; exact ⟨b1, d1⟩
    · cases hk; exact ⟨b3, d3⟩
    · cases hk; exact ⟨b4, d4⟩
    · cases hk; exact ⟨b5, d5⟩
    · cases hk
theorem z_Vof {s : State} {args : Array Value} (hts : ∀ w ∈ lw_tbl, w.before args s = true) (hgv : (Jvm.Cond.and given_1 narrow_1).before args s = true) (hstr : ∀ q ∈ z_strs, ∃ a, (Term.string q.1 q.2.1).eval args s none [] s = some (.ref a)) : z_V s := by
  have hf := flat_of_before _ hgv
  have c1 : ∀ q ∈ z_casts, Cond.castable q.1 q.2 ∈ lw_tbl := by decide +kernel
  have c2 : ∀ q ∈ z_ncasts, (Cond.not (Cond.castable q.1 q.2)) ∈ flatC (Jvm.Cond.and given_1 narrow_1) := by decide +kernel
  have c3 : ∀ q ∈ z_strs, Cond.stringRef q.1 q.2.1 q.2.2 ∈ lw_tbl := by decide +kernel
  have c4 : ∀ q ∈ z_nests, Cond.methodLinkNest q.1 q.2.1 q.2.2.1 q.2.2.2 ∈ lw_tbl := by decide +kernel
  have c5 : ∀ y ∈ z_decls, Cond.declares y ∈ lw_tbl := by decide +kernel
  refine ⟨fun q hq => va_Nw.of rfl (hts _ (c1 q hq)), fun q hq => va_Nc.of (hf _ (c2 q hq)), fun q hq => ?_, fun q hq => va_Nw.of rfl (hts _ (c4 q hq)), va_AO.of (hts _ (by decide +kernel)), va_AO.of (hts _ (by decide +kernel)), va_AOA.of (hts _ (by decide +kernel)), fun y hy => va_Nw.of rfl (hts _ (c5 y hy))⟩
  obtain ⟨a, ha⟩ := hstr q hq
  exact ⟨a, vk_R.of (hts _ (c3 q hq)) ha⟩
theorem z_strof {s : State} {args : Array Value} (hgv : (Jvm.Cond.and given_1 narrow_1).before args s = true) : ∀ q ∈ z_strs, ∃ a, (Term.string q.1 q.2.1).eval args s none [] s = some (.ref a) := fun q hq => by
  have hf := flat_of_before _ hgv
  have c : ∀ q ∈ z_strs, Cond.exactly (Term.string q.1 q.2.1) "java/lang/String" ∈ flatC (Jvm.Cond.and given_1 narrow_1) := by decide +kernel
  obtain ⟨a, -, -, -, h, -⟩ := Cond.exactly_spec (hf _ (c q hq))
  exact ⟨a, h⟩
theorem z_Sof {s : State} {args : Array Value} {b L : Nat} {xs : Nat → Int32} (hts : ∀ w ∈ lw_tbl, w.before args s = true) (hgv : (Jvm.Cond.and given_1 narrow_1).before args s = true) (hX : va_X b L xs s s.heap) (hb : b < s.heap.size) : ∃ t0, z_S (b, L, xs, t0) (fun q => s.heap.size ≤ q) s s.heap := by
  have hf := flat_of_before _ hgv
  have hA : ∀ a : Nat, a < s.heap.size → ¬ (fun q => s.heap.size ≤ q) a := fun a ha => by
    show ¬ s.heap.size ≤ a
    omega
  have heq : (Cond.eq (Term.length (Term.static "java/util/ArrayList" "DEFAULTCAPACITY_EMPTY_ELEMENTDATA" "[Ljava/lang/Object;")) (Term.int 0)).before args s = true := hf _ (by decide +kernel)
  obtain ⟨y, hy1, hy2⟩ := Cond.eq_one heq
  have hy3 : (Term.int 0).eval args s none [] s = some (.int 0) := rfl
  cases hy2.symm.trans hy3
  obtain ⟨t0, ht, hT⟩ := va_Tof (args := args) (s := s) (tm := Term.static "java/util/ArrayList" "DEFAULTCAPACITY_EMPTY_ELEMENTDATA" "[Ljava/lang/Object;") (ty := .object "java/lang/Object") (N := 0) (f := fun _ => .null) (by decide) (hf _ (by decide +kernel)) hy1 (fun j hj => absurd hj (Nat.not_lt_zero j)) hA
  refine ⟨t0, hX, ⟨hb, hA b hb⟩, ?_, ?_, ?_, hT, z_Vof hts hgv (z_strof hgv)⟩
  · exact vx_Zqof (hts _ (by decide +kernel)) (hts _ (by decide +kernel)) (hf _ (by decide +kernel)) hA
  · exact vx_Zqof (hts _ (by decide +kernel)) (hts _ (by decide +kernel)) (hf _ (by decide +kernel)) hA
  · exact va_Zof (hts _ (by decide +kernel)) (hts _ (by decide +kernel)) ht hA
