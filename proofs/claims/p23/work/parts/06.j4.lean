/-! ===== rows of the heap ===== -/
def z_u (h : zH) (r : Nat) (x : Nat × zE) : zH := fun q => if q = r then some x else h q
theorem z_u_s {h : zH} {r : Nat} {x : Nat × zE} : z_u h r x r = some x := if_pos rfl
theorem z_u_n {h : zH} {r q : Nat} {x : Nat × zE} (hq : q ≠ r) : z_u h r x q = h q := if_neg hq
theorem z_C_set {cA : Nat → ClassId} {h : zH} {ws : va_W} {r a j : Nat} {e : zE} {x : va_E} (e' : zE) (hC : z_C cA h ws) (hr : h r = some (a, e)) (hj : ws[j]? = some (a, x)) : z_C cA (z_u h r (a, e')) (ws.set j (a, z_cv cA e')) := by
  have hl := (List.getElem?_eq_some_iff.mp hj).1
  constructor
  · intro r1 a1 e1 h1
    unfold z_u at h1
    split at h1
    · cases h1
      exact List.mem_of_getElem? (List.getElem?_set_self hl)
    · rename_i hne
      obtain ⟨i, hi⟩ := List.getElem?_of_mem (hC.1 r1 a1 e1 h1)
      by_cases hij : i = j
      · subst hij
        rw [hj] at hi
        cases hi
        exact absurd (hC.2 r1 r a e1 e h1 hr) hne
      · exact List.mem_of_getElem? (i := i) (by rw [List.getElem?_set_ne (Ne.symm hij)]; exact hi)
  · have key : ∀ r1 a1 e1, z_u h r (a, e') r1 = some (a1, e1) → ∃ e2, h r1 = some (a1, e2) := by
      intro r1 a1 e1 h1
      unfold z_u at h1
      split at h1
      · rename_i he
        cases h1
        exact ⟨e, by rw [he]; exact hr⟩
      · exact ⟨e1, h1⟩
    intro r1 r2 a1 e1 e2 h1 h2
    obtain ⟨x1, y1⟩ := key _ _ _ h1
    obtain ⟨x2, y2⟩ := key _ _ _ h2
    exact hC.2 r1 r2 a1 x1 x2 y1 y2
theorem z_C_push {cA : Nat → ClassId} {h : zH} {A : Nat → Prop} {ws : va_W} {r q : Nat} (e : zE) (hC : z_C cA h ws) (hD : va_D A (ws ++ [(q, z_cv cA e)])) : z_C cA (z_u h r (q, e)) (ws ++ [(q, z_cv cA e)]) := by
  have hlast : (ws ++ [(q, z_cv cA e)])[ws.length]? = some (q, z_cv cA e) := by simp
  have hap : ∀ a1 x, (a1, x) ∈ ws → a1 ≠ q := by
    intro a1 x hm he
    obtain ⟨i, hi⟩ := List.getElem?_of_mem hm
    have hl := (List.getElem?_eq_some_iff.mp hi).1
    have := hD.1 i ws.length (a1, x) (q, z_cv cA e) (by rw [List.getElem?_append_left hl]; exact hi) hlast he
    omega
  constructor
  · intro r1 a1 e1 h1
    unfold z_u at h1
    split at h1
    · cases h1
      exact List.mem_append_right _ (List.mem_singleton.mpr rfl)
    · exact List.mem_append_left _ (hC.1 r1 a1 e1 h1)
  · intro r1 r2 a1 e1 e2 h1 h2
    unfold z_u at h1 h2
    split at h1 <;> split at h2
    · rename_i g1 g2; rw [g1, g2]
    · cases h1
      exact absurd rfl (hap _ _ (hC.1 _ _ _ h2))
    · cases h2
      exact absurd rfl (hap _ _ (hC.1 _ _ _ h1))
    · exact hC.2 _ _ _ _ _ h1 h2
/-- a field that a getfield reads: the linking method's class, the entry, the class in vwCl, the field -/
def z_fl (own ref : String) (idx ci j : Nat) (C : String) (T : u_T) (N : Nat) : Prop :=
  vwCl[ci]? = some (C, T, N) ∧ j < N ∧ Cond.fieldLink own idx ref (T j).2.1 (T j).2.2.1 ∈ z_G ∧ (∀ w ∈ u_ws C T N, w ∈ z_G) ∧ ((T j).1 = ref ∨ Cond.sameField ref (T j).1 (T j).2.1 (T j).2.2.1 ∈ z_G)
def z_fw (j : Nat) (T : u_T) (N : Nat) (ty : FieldType) (ty0 : Nat → FieldType) : Prop :=
  parseFieldDescriptor (T j).2.2.1 = some ty ∧ (∀ k, k < N → parseFieldDescriptor (T k).2.2.1 = some (ty0 k)) ∧ (∀ a, a < N → ∀ b, b < N → a ≠ b → (T a).2.1 ≠ (T b).2.1)
def z_mchk (R : Room) (st : List Value) (k n : Nat) : Bool := Nat.ble 1 R.frames && Nat.ble ((st.map fun v => v.category).sum + 13) R.locals && Nat.ble k R.cells && Nat.ble n R.slots
section ZH
variable {Z : zZ} {M : zM} {R : Room} {k n : Nat} {Q : zO → zH → Prop} {pc nx : Nat} {ls st : List Value} {h : zH}
theorem z_get {a r idx ci j N : Nat} {C ref : String} {T : u_T} {fs : List Value} {v : Value} (hd : decode M.2.1 pc = .ok (.getfield idx, 3)) (hn : pc + 3 = nx) (hf : z_fl M.1.cls ref idx ci j C T N) (hh : h r = some (a, .inr (ci, fs))) (hv : fs[j]? = some v) (g : z_J Z M R k n Q nx ls (v :: st) h) : z_J Z M R k n Q pc ls (.ref a :: st) h := by
  intro D cA p l e s m args below meth c A H locs ws lsA X O L
  obtain ⟨hx, hb, hr, hml, hown, hts, hlocks, htab, hnm, htr, hK, hA, hZ⟩ := id X
  obtain ⟨hC, hP, hD, hS⟩ := id O
  obtain ⟨hc, hj, hl, hin, hre⟩ := hf
  obtain ⟨q0, hq⟩ := List.getElem?_of_mem (hC.1 r a _ hh)
  subst hn
  have hsame : ∀ x, s.fieldFound? (T j).1 (T j).2.1 (T j).2.2.1 = some x → s.fieldFound? ref (T j).2.1 (T j).2.2.1 = some x := by
    rcases hre with hre | hre
    · rw [hre]; exact fun _ h9 => h9
    · exact fun x h9 => u_same (hts _ hre) x h9
  exact va_get (D := D) (cl := vwCl) hx hb hts hin hown hK hP q0 hq hc j hj (hts _ hl) hsame hv hd (g D cA p l e s m args below meth c A H locs ws lsA X O L)
theorem z_put {a r idx ci j N : Nat} {C ref : String} {T : u_T} {ty : FieldType} {ty0 : Nat → FieldType} {fs : List Value} {v : Value} (hd : decode M.2.1 pc = .ok (.putfield idx, 3)) (hn : pc + 3 = nx) (hf : z_fl M.1.cls ref idx ci j C T N) (hw : z_fw j T N ty ty0) (hfin : (T j).2.2.2 = false) (hh : h r = some (a, .inr (ci, fs))) (hnar : narrow ty v = v) (hfit : fits ty v = true) (hlen : j < fs.length) (g : z_J Z M R k n Q nx ls st (z_u h r (a, .inr (ci, fs.set j v)))) : z_J Z M R k n Q pc ls (v :: .ref a :: st) h := by
  intro D cA p l e s m args below meth c A H locs ws lsA X O L
  obtain ⟨hx, hb, hr, hml, hown, hts, hlocks, htab, hnm, htr, hK, hA, hZ⟩ := id X
  obtain ⟨hC, hP, hD, hS⟩ := id O
  obtain ⟨hc, hj, hl, hin, hre⟩ := hf
  obtain ⟨q0, hq⟩ := List.getElem?_of_mem (hC.1 r a _ hh)
  subst hn
  have hsame : ∀ x, s.fieldFound? (T j).1 (T j).2.1 (T j).2.2.1 = some x → s.fieldFound? ref (T j).2.1 (T j).2.2.1 = some x := by
    rcases hre with hre | hre
    · rw [hre]; exact fun _ h9 => h9
    · exact fun x h9 => u_same (hts _ hre) x h9
  exact va_put (D := D) (cl := vwCl) hx hb hts hin ty0 hw.2.1 hw.2.2 hown hK hP hD hS q0 hq hc j hj (hts _ hl) hsame hfin hw.1 hnar hfit hlen hd (fun H1 locs1 hP1 hD1 hS1 => g D cA p l e s m args below meth c A H1 locs1 _ lsA X ⟨z_C_set (.inr (ci, fs.set j v)) hC hh hq, hP1, hD1, hS1⟩ L)
theorem z_putF {a r idx ci j N : Nat} {C ref : String} {T : u_T} {ty : FieldType} {ty0 : Nat → FieldType} {fs : List Value} {v : Value} (hd : decode M.2.1 pc = .ok (.putfield idx, 3)) (hn : pc + 3 = nx) (hf : z_fl M.1.cls ref idx ci j C T N) (hw : z_fw j T N ty ty0) (hfin : (T j).2.2.2 = true) (hin2 : M.1.name = "<init>") (hdec : (T j).1 = M.1.cls) (hh : h r = some (a, .inr (ci, fs))) (hnar : narrow ty v = v) (hfit : fits ty v = true) (hlen : j < fs.length) (g : z_J Z M R k n Q nx ls st (z_u h r (a, .inr (ci, fs.set j v)))) : z_J Z M R k n Q pc ls (v :: .ref a :: st) h := by
  intro D cA p l e s m args below meth c A H locs ws lsA X O L
  obtain ⟨hx, hb, hr, hml, hown, hts, hlocks, htab, hnm, htr, hK, hA, hZ⟩ := id X
  obtain ⟨hC, hP, hD, hS⟩ := id O
  obtain ⟨hc, hj, hl, hin, hre⟩ := hf
  obtain ⟨q0, hq⟩ := List.getElem?_of_mem (hC.1 r a _ hh)
  subst hn
  have hsame : ∀ x, s.fieldFound? (T j).1 (T j).2.1 (T j).2.2.1 = some x → s.fieldFound? ref (T j).2.1 (T j).2.2.1 = some x := by
    rcases hre with hre | hre
    · rw [hre]; exact fun _ h9 => h9
    · exact fun x h9 => u_same (hts _ hre) x h9
  exact va_putF (D := D) (cl := vwCl) hx hb hts hin ty0 hw.2.1 hw.2.2 hown hK hP hD hS q0 hq hc j hj (hts _ hl) hsame hfin (hnm.trans hin2) hdec hw.1 hnar hfit hlen hd (fun H1 locs1 hP1 hD1 hS1 => g D cA p l e s m args below meth c A H1 locs1 _ lsA X ⟨z_C_set (.inr (ci, fs.set j v)) hC hh hq, hP1, hD1, hS1⟩ L)

theorem z_iald {a r j N : Nat} {i : Int32} {f : Nat → Int32} (hd : decode M.2.1 pc = .ok (.iaload, 1)) (hn : pc + 1 = nx) (hh : h r = some (a, .inl (0, N, .inl f))) (hi : i = nI j) (hj : j < N) (hN : N < 2 ^ 31) (g : z_J Z M R k n Q nx ls (.int (f j) :: st) h) : z_J Z M R k n Q pc ls (.int i :: .ref a :: st) h := by
  intro D cA p l e s m args below meth c A H locs ws lsA X O L
  obtain ⟨hx, hb, hr, hml, hown, hts, hlocks, htab, hnm, htr, hK, hA, hZ⟩ := id X
  obtain ⟨hC, hP, hD, hS⟩ := id O
  obtain ⟨q0, hq⟩ := List.getElem?_of_mem (hC.1 r a _ hh)
  subst hn
  subst hi
  have hcl : (nI j).toNatClampNeg = j := nI_clamp (by omega)
  refine va_iald (D := D) (cl := vwCl) hx hb hK hP q0 0 hq rfl (vp_in_nI hj hN) hd ?_
  rw [hcl]
  exact (g D cA p l e s m args below meth c A H locs ws lsA X O L)
theorem z_aald3 {a r j N : Nat} {i : Int32} {f : Nat → Option Nat} (hd : decode M.2.1 pc = .ok (.aaload, 1)) (hn : pc + 1 = nx) (hh : h r = some (a, .inl (3, N, .inr (.inr (.inr (.inr f)))))) (hi : i = nI j) (hj : j < N) (hN : N < 2 ^ 31) (g : z_J Z M R k n Q nx ls (va_rf (f j) :: st) h) : z_J Z M R k n Q pc ls (.int i :: .ref a :: st) h := by
  intro D cA p l e s m args below meth c A H locs ws lsA X O L
  obtain ⟨hx, hb, hr, hml, hown, hts, hlocks, htab, hnm, htr, hK, hA, hZ⟩ := id X
  obtain ⟨hC, hP, hD, hS⟩ := id O
  obtain ⟨q0, hq⟩ := List.getElem?_of_mem (hC.1 r a _ hh)
  subst hn
  subst hi
  have hcl : (nI j).toNatClampNeg = j := nI_clamp (by omega)
  have hin := vp_in_nI hj hN
  have hlt : (nI j).toNatClampNeg < N := by rw [hcl]; exact hj
  refine W.aald (v := va_rf (f (nI j).toNatClampNeg)) (ty := .array .int) hx hb (hP q0 _ hq) ((hK.2 3 _ rfl).1 N (fun j => va_rf (f j))) rfl (fun q => by cases q) (by show ¬ (nI j < 0 ∨ (arrV _ _ _).slots.size ≤ _); rw [arrV_size]; exact hin) (by show (arrV _ _ _).slots[_]? = _; rw [arrV_read _ _ hlt]) rfl rfl hd ?_
  rw [hcl]
  exact (g D cA p l e s m args below meth c A H locs ws lsA X O L)
theorem z_aald4 {a r j N : Nat} {i : Int32} {f : Nat → Option Nat} (hd : decode M.2.1 pc = .ok (.aaload, 1)) (hn : pc + 1 = nx) (hh : h r = some (a, .inl (4, N, .inr (.inr (.inr (.inr f)))))) (hi : i = nI j) (hj : j < N) (hN : N < 2 ^ 31) (g : z_J Z M R k n Q nx ls (va_rf (f j) :: st) h) : z_J Z M R k n Q pc ls (.int i :: .ref a :: st) h := by
  intro D cA p l e s m args below meth c A H locs ws lsA X O L
  obtain ⟨hx, hb, hr, hml, hown, hts, hlocks, htab, hnm, htr, hK, hA, hZ⟩ := id X
  obtain ⟨hC, hP, hD, hS⟩ := id O
  obtain ⟨q0, hq⟩ := List.getElem?_of_mem (hC.1 r a _ hh)
  subst hn
  subst hi
  have hcl : (nI j).toNatClampNeg = j := nI_clamp (by omega)
  have hin := vp_in_nI hj hN
  have hlt : (nI j).toNatClampNeg < N := by rw [hcl]; exact hj
  refine W.aald (v := va_rf (f (nI j).toNatClampNeg)) (ty := .object "RightsCounter$History") hx hb (hP q0 _ hq) ((hK.2 4 _ rfl).1 N (fun j => va_rf (f j))) rfl (fun q => by cases q) (by show ¬ (nI j < 0 ∨ (arrV _ _ _).slots.size ≤ _); rw [arrV_size]; exact hin) (by show (arrV _ _ _).slots[_]? = _; rw [arrV_read _ _ hlt]) rfl rfl hd ?_
  rw [hcl]
  exact (g D cA p l e s m args below meth c A H locs ws lsA X O L)
theorem z_aald5 {a r j N : Nat} {i : Int32} {f : Nat → Option Nat} (hd : decode M.2.1 pc = .ok (.aaload, 1)) (hn : pc + 1 = nx) (hh : h r = some (a, .inl (5, N, .inr (.inr (.inr (.inr f)))))) (hi : i = nI j) (hj : j < N) (hN : N < 2 ^ 31) (g : z_J Z M R k n Q nx ls (va_rf (f j) :: st) h) : z_J Z M R k n Q pc ls (.int i :: .ref a :: st) h := by
  intro D cA p l e s m args below meth c A H locs ws lsA X O L
  obtain ⟨hx, hb, hr, hml, hown, hts, hlocks, htab, hnm, htr, hK, hA, hZ⟩ := id X
  obtain ⟨hC, hP, hD, hS⟩ := id O
  obtain ⟨q0, hq⟩ := List.getElem?_of_mem (hC.1 r a _ hh)
  subst hn
  subst hi
  have hcl : (nI j).toNatClampNeg = j := nI_clamp (by omega)
  have hin := vp_in_nI hj hN
  have hlt : (nI j).toNatClampNeg < N := by rw [hcl]; exact hj
  refine W.aald (v := va_rf (f (nI j).toNatClampNeg)) (ty := .object "java/lang/Object") hx hb (hP q0 _ hq) ((hK.2 5 _ rfl).1 N (fun j => va_rf (f j))) rfl (fun q => by cases q) (by show ¬ (nI j < 0 ∨ (arrV _ _ _).slots.size ≤ _); rw [arrV_size]; exact hin) (by show (arrV _ _ _).slots[_]? = _; rw [arrV_read _ _ hlt]) rfl rfl hd ?_
  rw [hcl]
  exact (g D cA p l e s m args below meth c A H locs ws lsA X O L)
theorem z_iast {a r j N : Nat} {i : Int32} {x : Int32} {f : Nat → Int32} (hd : decode M.2.1 pc = .ok (.iastore, 1)) (hn : pc + 1 = nx) (hh : h r = some (a, .inl (0, N, .inl f))) (hi : i = nI j) (hj : j < N) (hN : N < 2 ^ 31) (g : z_J Z M R k n Q nx ls st (z_u h r (a, .inl (0, N, .inl (upd f j x))))) : z_J Z M R k n Q pc ls (.int x :: .int i :: .ref a :: st) h := by
  intro D cA p l e s m args below meth c A H locs ws lsA X O L
  obtain ⟨hx, hb, hr, hml, hown, hts, hlocks, htab, hnm, htr, hK, hA, hZ⟩ := id X
  obtain ⟨hC, hP, hD, hS⟩ := id O
  obtain ⟨q0, hq⟩ := List.getElem?_of_mem (hC.1 r a _ hh)
  subst hn
  subst hi
  have hcl : (nI j).toNatClampNeg = j := nI_clamp (by omega)
  refine va_iast (D := D) (cl := vwCl) hx hb hK hP hD hS q0 0 hq rfl (vp_in_nI hj hN) hd (fun H1 locs1 hP1 hD1 hS1 => ?_)
  rw [hcl] at hP1 hD1
  exact g D cA p l e s m args below meth c A H1 locs1 _ lsA X ⟨z_C_set (.inl (0, N, .inl (upd f j x))) hC hh hq, hP1, hD1, hS1⟩ L
theorem z_aast4 {a r j N v rv : Nat} {i : Int32} {vs : List Value} {f : Nat → Option Nat} (hd : decode M.2.1 pc = .ok (.aastore, 1)) (hn : pc + 1 = nx) (hh : h r = some (a, .inl (4, N, .inr (.inr (.inr (.inr f)))))) (hi : i = nI j) (hj : j < N) (hN : N < 2 ^ 31) (hv : h rv = some (v, .inr (2, vs))) (g : z_J Z M R k n Q nx ls st (z_u h r (a, .inl (4, N, .inr (.inr (.inr (.inr (va_up f j (some v)))))))) ) : z_J Z M R k n Q pc ls (.ref v :: .int i :: .ref a :: st) h := by
  intro D cA p l e s m args below meth c A H locs ws lsA X O L
  obtain ⟨hx, hb, hr, hml, hown, hts, hlocks, htab, hnm, htr, hK, hA, hZ⟩ := id X
  obtain ⟨hC, hP, hD, hS⟩ := id O
  obtain ⟨q0, hq⟩ := List.getElem?_of_mem (hC.1 r a _ hh)
  subst hn
  subst hi
  have hcl : (nI j).toNatClampNeg = j := nI_clamp (by omega)
  obtain ⟨qk, hqk⟩ := List.getElem?_of_mem (hC.1 rv v _ hv)
  refine va_astq (D := D) (cl := vwCl) (r := (RX1, TX1, 4)) hx hb hK hP hD hS q0 4 qk 2 hq rfl hqk rfl (vp_in_nI hj hN) hd (fun H1 locs1 hP1 hD1 hS1 => ?_)
  rw [hcl] at hP1 hD1
  exact g D cA p l e s m args below meth c A H1 locs1 _ lsA X ⟨z_C_set (.inl (4, N, .inr (.inr (.inr (.inr (va_up f j (some v))))))) hC hh hq, hP1, hD1, hS1⟩ L
theorem z_aast5 {a r j N v rv ci : Nat} {i : Int32} {vs : List Value} {q : vw_C} {f : Nat → Option Nat} (hd : decode M.2.1 pc = .ok (.aastore, 1)) (hn : pc + 1 = nx) (hh : h r = some (a, .inl (5, N, .inr (.inr (.inr (.inr f)))))) (hi : i = nI j) (hj : j < N) (hN : N < 2 ^ 31) (hv : h rv = some (v, .inr (ci, vs))) (hc : vwCl[ci]? = some q) (hca : (q.1, "java/lang/Object") ∈ z_casts) (g : z_J Z M R k n Q nx ls st (z_u h r (a, .inl (5, N, .inr (.inr (.inr (.inr (va_up f j (some v)))))))) ) : z_J Z M R k n Q pc ls (.ref v :: .int i :: .ref a :: st) h := by
  intro D cA p l e s m args below meth c A H locs ws lsA X O L
  obtain ⟨hx, hb, hr, hml, hown, hts, hlocks, htab, hnm, htr, hK, hA, hZ⟩ := id X
  obtain ⟨hC, hP, hD, hS⟩ := id O
  obtain ⟨q0, hq⟩ := List.getElem?_of_mem (hC.1 r a _ hh)
  subst hn
  subst hi
  have hcl : (nI j).toNatClampNeg = j := nI_clamp (by omega)
  obtain ⟨qk, hqk⟩ := List.getElem?_of_mem (hC.1 rv v _ hv)
  refine va_astqO (D := D) (cl := vwCl) (r := q) hx hb hK hP hD hS q0 5 qk ci hq rfl (hZ.2.2.2.2.2.2.1 _ hca) hqk hc (vp_in_nI hj hN) hd (fun H1 locs1 hP1 hD1 hS1 => ?_)
  rw [hcl] at hP1 hD1
  exact g D cA p l e s m args below meth c A H1 locs1 _ lsA X ⟨z_C_set (.inl (5, N, .inr (.inr (.inr (.inr (va_up f j (some v))))))) hC hh hq, hP1, hD1, hS1⟩ L
theorem z_alen {a r t : Nat} {x : vp_A} {ty : Nat} (hd : decode M.2.1 pc = .ok (.arraylength, 1)) (hn : pc + 1 = nx) (hh : h r = some (a, .inl (t, x))) (ht : t < 6) (g : z_J Z M R k n Q nx ls (.int (nI x.1) :: st) h) : z_J Z M R k n Q pc ls (.ref a :: st) h := by
  intro D cA p l e s m args below meth c A H locs ws lsA X O L
  obtain ⟨hx, hb, hr, hml, hown, hts, hlocks, htab, hnm, htr, hK, hA, hZ⟩ := id X
  obtain ⟨hC, hP, hD, hS⟩ := id O
  obtain ⟨q0, hq⟩ := List.getElem?_of_mem (hC.1 r a _ hh)
  subst hn
  obtain ⟨ty, hty⟩ : ∃ ty, (z_tys cA)[t]? = some (cA t, ty) := by
    rcases (show t = 0 ∨ t = 1 ∨ t = 2 ∨ t = 3 ∨ t = 4 ∨ t = 5 by omega) with rfl | rfl | rfl | rfl | rfl | rfl <;> exact ⟨_, rfl⟩
  exact va_alen (D := D) (cl := vwCl) hx hb hK hP q0 t hq hty rfl hd (g D cA p l e s m args below meth c A H locs ws lsA X O L)
/-- the script -/
theorem z_slen (hd : decode M.2.1 pc = .ok (.arraylength, 1)) (hn : pc + 1 = nx) (g : z_J Z M R k n Q nx ls (.int (nI Z.2.1) :: st) h) : z_J Z M R k n Q pc ls (.ref Z.1 :: st) h := by
  intro D cA p l e s m args below meth c A H locs ws lsA X O L
  obtain ⟨hx, hb, hr, hml, hown, hts, hlocks, htab, hnm, htr, hK, hA, hZ⟩ := id X
  subst hn
  exact va_slen hx hb hZ.1 hZ.2.1.1 hZ.2.1.2 O.2.2.2 hd (g D cA p l e s m args below meth c A H locs ws lsA X O L)
theorem z_sld {j : Nat} {i : Int32} (hd : decode M.2.1 pc = .ok (.iaload, 1)) (hn : pc + 1 = nx) (hi : i = nI j) (hj : j < Z.2.1) (hN : Z.2.1 < 2 ^ 31) (g : z_J Z M R k n Q nx ls (.int (Z.2.2.1 j) :: st) h) : z_J Z M R k n Q pc ls (.int i :: .ref Z.1 :: st) h := by
  intro D cA p l e s m args below meth c A H locs ws lsA X O L
  obtain ⟨hx, hb, hr, hml, hown, hts, hlocks, htab, hnm, htr, hK, hA, hZ⟩ := id X
  subst hn
  subst hi
  have hcl : (nI j).toNatClampNeg = j := nI_clamp (by omega)
  refine va_sld hx hb hZ.1 hZ.2.1.1 hZ.2.1.2 O.2.2.2 (vp_in_nI hj hN) hd ?_
  rw [hcl]
  exact (g D cA p l e s m args below meth c A H locs ws lsA X O L)
/-- ArrayList's empty array -/
theorem z_tlen (hd : decode M.2.1 pc = .ok (.arraylength, 1)) (hn : pc + 1 = nx) (g : z_J Z M R k n Q nx ls (.int (nI 0) :: st) h) : z_J Z M R k n Q pc ls (.ref Z.2.2.2 :: st) h := by
  intro D cA p l e s m args below meth c A H locs ws lsA X O L
  obtain ⟨hx, hb, hr, hml, hown, hts, hlocks, htab, hnm, htr, hK, hA, hZ⟩ := id X
  subst hn
  exact va_tlen hx hb hZ.2.2.2.2.2.1 O.2.2.2 rfl hd (g D cA p l e s m args below meth c A H locs ws lsA X O L)
theorem z_gets {idx : Nat} (hd : decode M.2.1 pc = .ok (.getstatic idx, 3)) (hn : pc + 3 = nx) (hl : Cond.fieldLink M.1.cls idx "java/util/ArrayList" "DEFAULTCAPACITY_EMPTY_ELEMENTDATA" z_ALd ∈ z_G) (g : z_J Z M R k n Q nx ls (.ref Z.2.2.2 :: st) h) : z_J Z M R k n Q pc ls st h := by
  intro D cA p l e s m args below meth c A H locs ws lsA X O L
  obtain ⟨hx, hb, hr, hml, hown, hts, hlocks, htab, hnm, htr, hK, hA, hZ⟩ := id X
  subst hn
  exact va_gets hx hb hZ.2.2.2.2.1 O.2.2.2 hown (hts _ hl) (fun _ h9 => h9) hd (g D cA p l e s m args below meth c A H locs ws lsA X O L)
theorem z_idiv {x y : Int32} (hd : decode M.2.1 pc = .ok (.idiv, 1)) (hn : pc + 1 = nx) (hy : ¬ y = 0) (g : z_J Z M R k n Q nx ls (.int (x / y) :: st) h) : z_J Z M R k n Q pc ls (.int y :: .int x :: st) h := by
  intro D cA p l e s m args below meth c A H locs ws lsA X O L
  obtain ⟨hx, hb, -⟩ := id X
  subst hn
  exact lv_idiv hx hb hd hy (g D cA p l e s m args below meth c A H locs ws lsA X O L)
theorem z_cast {a r idx ci : Nat} {q : vw_C} {fs : List Value} (hd : decode M.2.1 pc = .ok (.checkcast idx, 3)) (hn : pc + 3 = nx) (hh : h r = some (a, .inr (ci, fs))) (hc : vwCl[ci]? = some q) (hl : Cond.classLink M.1.cls idx q.1 ∈ z_G) (g : z_J Z M R k n Q nx ls (.ref a :: st) h) : z_J Z M R k n Q pc ls (.ref a :: st) h := by
  intro D cA p l e s m args below meth c A H locs ws lsA X O L
  obtain ⟨hx, hb, hr, hml, hown, hts, hlocks, htab, hnm, htr, hK, hA, hZ⟩ := id X
  obtain ⟨hC, hP, hD, hS⟩ := id O
  obtain ⟨q0, hq⟩ := List.getElem?_of_mem (hC.1 r a _ hh)
  subst hn
  exact va_castS hx hb hown (hts _ hl) (hK.1 ci _ hc).2 (va_recv hK hP hc hq) hd (g D cA p l e s m args below meth c A H locs ws lsA X O L)
/-- new -/
theorem z_new (r : Nat) {idx ci N : Nat} {C : String} {T : u_T} {ty : Nat → FieldType} {fs : List Value} (hd : decode M.2.1 pc = .ok (.new idx, 3)) (hn : pc + 3 = nx) (hc : vwCl[ci]? = some (C, T, N)) (hin : ∀ w ∈ u_ws C T N, w ∈ z_G) (hty : ∀ k, k < N → parseFieldDescriptor (T k).2.2.1 = some (ty k)) (hcl : Cond.classLink M.1.cls idx C ∈ z_G) (hinst : Cond.instantiable C N ∈ z_G) (hini : Cond.initialized C ∈ z_G) (hfs : ∀ j, j < N → defaultValue (ty j) = vp_V fs j)
    (hR : k + 1 ≤ R.cells ∧ n + N ≤ R.slots) (g : ∀ q, z_J Z M R (k + 1) (n + N) Q nx ls (.ref q :: st) (z_u h r (q, .inr (ci, fs)))) : z_J Z M R k n Q pc ls st h := by
  intro D cA p l e s m args below meth c A H locs ws lsA X O L
  obtain ⟨hx, hb, hr, hml, hown, hts, hlocks, htab, hnm, htr, hK, hA, hZ⟩ := id X
  obtain ⟨hC, hP, hD, hS⟩ := id O
  subst hn
  exact va_new (D := D) (cl := vwCl) hx hb hts hin ty hty hown (hts _ hcl) (hts _ hinst) (hts _ hini) hK hP hD hS hA hc hfs hR.1 hR.2 hd (fun q H1 hP1 hD1 hS1 => g q D cA p l e s m args below meth c A H1 locs _ lsA X ⟨z_C_push (.inr (ci, fs)) hC hD1, hP1, hD1, hS1⟩ L)
/-- newarray of ints, booleans, longs -/
theorem z_newa (r : Nat) {N t : Nat} {i : Int32} {at_ : ClassFile.ArrayType} {ty : FieldType} {a0 : vp_A} (hd : decode M.2.1 pc = .ok (.newarray at_, 2)) (hn : pc + 2 = nx) (hty : newarray.typeOf at_ = ty) (ht : ∀ cA : Nat → ClassId, (z_tys cA)[t]? = some (cA t, ty)) (hno : ∀ C, ty ≠ .object C) (hw : Cond.arrayClass ty ∈ z_G) (ha : ∀ cA : ClassId, vp_cell cA a0 = arrV cA N (fun _ => defaultValue ty)) (hi : i = nI N) (hN : N < 1000) (hR : k + 1 ≤ R.cells ∧ n + N ≤ R.slots) (hby : N * componentBytes ty ≤ 536870912)
    (g : ∀ q, z_J Z M R (k + 1) (n + N) Q nx ls (.ref q :: st) (z_u h r (q, .inl (t, a0)))) : z_J Z M R k n Q pc ls (.int i :: st) h := by
  intro D cA p l e s m args below meth c A H locs ws lsA X O L
  obtain ⟨hx, hb, hr, hml, hown, hts, hlocks, htab, hnm, htr, hK, hA, hZ⟩ := id X
  obtain ⟨hC, hP, hD, hS⟩ := id O
  subst hn
  subst hi
  have hcl : (nI N).toNatClampNeg = N := nI_clamp (by omega)
  refine va_newa (D := D) (cl := vwCl) (atype := at_) hx hb (by rw [hty]; exact hts _ hw) hty hK hP hD hS hA ha (nI_pos (by omega)) hcl hby hR.1 hR.2 hd (fun q c9 H1 hK1 hP1 hD1 hS1 => ?_)
  have e1 := (hK1.2 6 (c9, ty) rfl).2
  have e2 := (hK.2 t _ (ht cA)).2
  have e3 : c9 = cA t := by
    cases ty <;> first | exact absurd rfl (hno _) | exact Option.some.inj (e1.symm.trans e2)
  subst e3
  exact g q D cA p l e s m args below meth c A H1 locs _ lsA X ⟨z_C_push (.inl (t, a0)) hC hD1, hP1, hD1, hS1⟩ L
theorem z_newq (r : Nat) {N t idx : Nat} {i : Int32} {E : String} (hd : decode M.2.1 pc = .ok (.anewarray idx, 3)) (hn : pc + 3 = nx) (ht : ∀ cA : Nat → ClassId, (z_tys cA)[t]? = some (cA t, .object E)) (hE : E = "java/lang/Object" ∨ E = "RightsCounter$History") (hcl : Cond.classLink M.1.cls idx E ∈ z_G) (hi : i = nI N) (hN : N < 1000) (hR : k + 1 ≤ R.cells ∧ n + N ≤ R.slots)
    (g : ∀ q, z_J Z M R (k + 1) (n + N) Q nx ls (.ref q :: st) (z_u h r (q, .inl (t, N, .inr (.inr (.inr (.inr (fun _ => none)))))))) : z_J Z M R k n Q pc ls (.int i :: st) h := by
  intro D cA p l e s m args below meth c A H locs ws lsA X O L
  obtain ⟨hx, hb, hr, hml, hown, hts, hlocks, htab, hnm, htr, hK, hA, hZ⟩ := id X
  obtain ⟨hC, hP, hD, hS⟩ := id O
  subst hn
  subst hi
  have hc9 : (nI N).toNatClampNeg = N := nI_clamp (by omega)
  have hover : va_AO E s := by rcases hE with rfl | rfl; exact hZ.2.2.2.2.2.2.2.2.2.2.1; exact hZ.2.2.2.2.2.2.2.2.2.2.2.1
  refine va_newq (D := D) (cl := vwCl) hx hb hown (hts _ hcl) hover hK hP hD hS hA (nI_pos (by omega)) hc9 (by omega) hR.1 hR.2 hd (fun q c9 H1 hK1 hP1 hD1 hS1 => ?_)
  obtain ⟨-, -, -, -, -, e1⟩ := (hK1.2 6 (c9, .object E) rfl).2
  obtain ⟨-, -, -, -, -, e2⟩ := (hK.2 t _ (ht cA)).2
  have e3 : c9 = cA t := Option.some.inj (e1.symm.trans e2)
  subst e3
  exact g q D cA p l e s m args below meth c A H1 locs _ lsA X ⟨z_C_push (.inl (t, N, .inr (.inr (.inr (.inr (fun _ => none)))))) hC hD1, hP1, hD1, hS1⟩ L
theorem z_objI {a idx : Nat} (hd : decode M.2.1 pc = .ok (.invokespecial idx, 3)) (hn : pc + 3 = nx) (h1 : Cond.methodLink M.1.cls idx Lib.objectInit ∈ z_G) (h2 : Cond.instanceMethod Lib.objectInit ∈ z_G) (h3 : Cond.code Lib.objectInit ⟨#[0xb1]⟩ 1 none ∈ z_G) (hst : (st.map fun v => v.category).sum + 12 ≤ R.locals) (hf : 1 ≤ R.frames) (g : z_J Z M R k n Q nx ls st h) : z_J Z M R k n Q pc ls (.ref a :: st) h := by
  intro D cA p l e s m args below meth c A H locs ws lsA X O L
  obtain ⟨hx, hb, hr, hml, hown, hts, hlocks, htab, hnm, htr, hK, hA, hZ⟩ := id X
  subst hn
  exact W.objInit hx hb hown (hts _ h1) (hts _ h2) (hts _ h3) rfl (by rw [hml]; exact L.1.1) rfl hd hf (by show 2 * 0 + _ + 12 ≤ _; omega) (g D cA p l e s m args below meth c A H locs ws lsA X O L)
theorem z_mmax {x y : Int32} {idx : Nat} (hd : decode M.2.1 pc = .ok (.invokestatic idx, 3)) (hn : pc + 3 = nx) (h1 : Cond.methodLink M.1.cls idx Lib.Math.max.name ∈ z_G) (h2 : Cond.static Lib.Math.max.name ∈ z_G) (h3 : Cond.initialized "java/lang/Math" ∈ z_G) (h4 : Cond.code Lib.Math.max.name Lib.Math.max.code 2 (some .int) ∈ z_G) (hc : z_mchk R st k n = true) (g : z_J Z M R k n Q nx ls (.int (if x < y then y else x) :: st) h) : z_J Z M R k n Q pc ls (.int y :: .int x :: st) h := by
  intro D cA p l e s m args below meth c A H locs ws lsA X O L
  obtain ⟨hx, hb, hr, hml, hown, hts, hlocks, htab, hnm, htr, hK, hA, hZ⟩ := id X
  subst hn
  simp only [z_mchk, Bool.and_eq_true, Nat.ble_eq] at hc
  exact va_mmax hx hb (hml.trans L.1.1.symm) hown (hts _ h1) (hts _ h2) (hts _ h3) (hts _ h4) hc.1.1.1 hc.1.1.2 hc.1.2 hc.2 hd (g D cA p l e s m args below meth c A H locs ws lsA X O L)
theorem z_mmin {x y : Int32} {idx : Nat} (hd : decode M.2.1 pc = .ok (.invokestatic idx, 3)) (hn : pc + 3 = nx) (h1 : Cond.methodLink M.1.cls idx Lib.Math.min.name ∈ z_G) (h2 : Cond.static Lib.Math.min.name ∈ z_G) (h3 : Cond.initialized "java/lang/Math" ∈ z_G) (h4 : Cond.code Lib.Math.min.name Lib.Math.min.code 2 (some .int) ∈ z_G) (hc : z_mchk R st k n = true) (g : z_J Z M R k n Q nx ls (.int (if y < x then y else x) :: st) h) : z_J Z M R k n Q pc ls (.int y :: .int x :: st) h := by
  intro D cA p l e s m args below meth c A H locs ws lsA X O L
  obtain ⟨hx, hb, hr, hml, hown, hts, hlocks, htab, hnm, htr, hK, hA, hZ⟩ := id X
  subst hn
  simp only [z_mchk, Bool.and_eq_true, Nat.ble_eq] at hc
  exact va_mmin hx hb (hml.trans L.1.1.symm) hown (hts _ h1) (hts _ h2) (hts _ h3) (hts _ h4) hc.1.1.1 hc.1.1.2 hc.1.2 hc.2 hd (g D cA p l e s m args below meth c A H locs ws lsA X O L)
end ZH
