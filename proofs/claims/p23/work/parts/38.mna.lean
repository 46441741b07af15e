/-! ===== multianewarray: rows of ints ===== -/
theorem gw_mna9 : Cond.classLink "RightsCounter$Giving" 9 "[[I" ∈ z_G := z_g 114 (by decide +kernel) (by decide +kernel)
def z_rows (h : zH) (b : Nat) (r : Nat → Nat) (e : zE) : Nat → zH
  | 0 => h
  | N + 1 => z_u (z_rows h b r e N) (b + N) (r N, e)
theorem z_rows_in {h : zH} {b : Nat} {r : Nat → Nat} {e : zE} : ∀ {N i : Nat}, i < N → z_rows h b r e N (b + i) = some (r i, e)
  | 0, i, hi => by omega
  | N + 1, i, hi => by
    show z_u (z_rows h b r e N) (b + N) (r N, e) (b + i) = _
    by_cases h : i = N
    · subst h; exact z_u_s
    · rw [z_u_n (by omega)]
      exact z_rows_in (by omega)
theorem z_rows_out {h : zH} {b : Nat} {r : Nat → Nat} {e : zE} : ∀ {N x : Nat}, (x < b ∨ b + N ≤ x) → z_rows h b r e N x = h x
  | 0, x, hx => rfl
  | N + 1, x, hx => by
    show z_u (z_rows h b r e N) (b + N) (r N, e) x = _
    rw [z_u_n (by omega)]
    exact z_rows_out (by omega)
theorem va_D_left {A : Nat → Prop} {w1 w2 : va_W} (h : va_D A (w1 ++ w2)) : va_D A w1 := by
  have key : ∀ (k : Nat) (q : Nat × va_E), w1[k]? = some q → (w1 ++ w2)[k]? = some q := fun k q hk => by
    rw [List.getElem?_append_left (List.getElem?_eq_some_iff.mp hk).1]; exact hk
  exact ⟨fun i j p q h1 h2 e => h.1 i j p q (key _ _ h1) (key _ _ h2) e, fun k q hk => h.2 k q (key _ _ hk)⟩
theorem z_C_rows {cA : Nat → ClassId} {A : Nat → Prop} {ws : va_W} {b : Nat} {r : Nat → Nat} (e : zE) {h : zH} (hC : z_C cA h ws) : ∀ N, va_D A (ws ++ (List.range N).map (fun i => (r i, z_cv cA e))) → z_C cA (z_rows h b r e N) (ws ++ (List.range N).map (fun i => (r i, z_cv cA e)))
  | 0, _ => by
    show z_C cA h (ws ++ [])
    rw [List.append_nil]
    exact hC
  | N + 1, hD => by
    rw [List.range_succ, List.map_append, ← List.append_assoc] at hD ⊢
    exact z_C_push e (z_C_rows e hC N (va_D_left hD)) hD
theorem z_inner (c : ClassId) (K : Nat) : Jvm.Free.Multi.innerC c K (defaultValue .int) = vp_cell c (K, .inl (fun _ => 0)) := by
  show ({ cls := c, slots := Array.replicate K (.int 0), vm := .none } : Cell) = { cls := c, slots := Array.ofFn (n := K) fun _ => .int 0, vm := .none }
  congr 1
  apply Array.ext
  · simp
  · intro i h1 h2
    simp
theorem z_mna (r0 b : Nat) {M : zM} {Z : zZ} {R : Room} {k n : Nat} {Q : zO → zH → Prop} {pc nx : Nat} {ls st : List Value} {h : zH} {N K idx : Nat} (hd : decode M.2.1 pc = .ok (.multianewarray idx 2, 4)) (hn : pc + 4 = nx) (hcl : Cond.classLink M.1.cls idx "[[I" ∈ z_G) (hN : N < 1000) (hKl : K < 1000) (hR : k + (1 + N) ≤ R.cells ∧ n + (N + N * K) ≤ R.slots)
    (g : ∀ (q : Nat) (r : Nat → Nat), z_J Z M R (k + 1 + N) (n + N + N * K) Q nx ls (.ref q :: st) (z_rows (z_u h r0 (q, .inl (3, N, .inr (.inr (.inr (.inr (fun i => if i < N then some (r i) else none))))))) b r (.inl (0, K, .inl (fun _ => 0))) N)) : z_J Z M R k n Q pc ls (.int (nI K) :: .int (nI N) :: st) h := by
  intro D cA p l e s m args below meth c A H locs ws lsA X O L
  obtain ⟨hx, hb, hr, hml, hown, hts, hlocks, htab, hnm, htr, hK, hA, hZ⟩ := id X
  obtain ⟨hC, hP, hD, hS⟩ := id O
  subst hn
  have hover : va_AOA .int s := hZ.2.2.2.2.2.2.2.2.2.2.2.2.1
  have hcy : s.vm.findClass (FieldType.array .int).toString = some (cA 0) := (hK.2 0 (cA 0, .int) rfl).2
  have e0 : ws = ws ++ va_pl [] (fun _ => .inl (cA 0, K, .inl (fun _ => 0))) := (List.append_nil ws).symm
  refine va_mna (D := D) (cl := vwCl) (X := ws) (L := []) (f := fun _ => .inl (cA 0, K, .inl (fun _ => 0))) (ty := .int) (cy := cA 0) (z := (K, .inl (fun _ => 0))) hx hb hown (hts _ hcl) hover (hts _ gw107) hcy hK (e0 ▸ hP) (e0 ▸ hD) hS hA (nI_pos (by omega)) (nI_pos (by omega)) (nI_clamp (by omega)) (nI_clamp (by omega)) (by omega) (by show K * 4 ≤ _; omega) (by omega) rfl rfl hR.1 hR.2 (fun c => z_inner c K) hd (fun q r c9 H1 hinj _ hK1 hP1 hD1 hS1 => ?_)
  have e1 := (hK1.2 6 (c9, .array .int) rfl).2
  have e2 := (hK.2 3 _ (show (z_tys cA)[3]? = some (cA 3, .array .int) from rfl)).2
  have e3 : c9 = cA 3 := Option.some.inj (e1.symm.trans e2)
  subst e3
  have el : va_pl ([] ++ (List.range N).map r) (vr_up (fun _ => .inl (cA 0, K, .inl (fun _ => 0))) ((List.range N).map r) (.inl (cA 0, K, .inl (fun _ => 0)))) = (List.range N).map (fun i => (r i, z_cv cA (.inl (0, K, .inl (fun _ => 0))))) := by
    unfold va_pl
    rw [List.nil_append, List.map_map]
    apply List.map_congr_left
    intro i hi
    show (r i, vr_up _ _ _ (r i)) = (r i, _)
    rw [vr_up_in (List.mem_map_of_mem hi)]
    rfl
  rw [el] at hP1 hD1
  exact g q r D cA p l e s m args below meth c A H1 locs _ lsA X ⟨z_C_rows (.inl (0, K, .inl (fun _ => 0))) (z_C_push (.inl (3, N, .inr (.inr (.inr (.inr (fun i => if i < N then some (r i) else none)))))) hC (va_D_left hD1)) N hD1, hP1, hD1, hS1⟩ L
