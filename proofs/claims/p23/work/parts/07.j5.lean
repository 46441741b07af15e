/-! ===== contracts, calls, returns, throws ===== -/
def z_Pc (Z : zZ) (D : va_G) (cA : Nat → ClassId) (h : zH) (ws : va_W) (A : Nat → Prop) (As : List Value) : Array Value → State → Prop := fun v U =>
  v = As.toArray ∧ z_C cA h ws ∧ va_P D vwCl ws U.heap ∧ va_D A ws ∧ va_K D vwCl (z_tys cA) U ∧ (∀ q, U.heap.size ≤ q → A q) ∧ z_S Z A U U.heap
def z_cw (M : zM) : Cond := match M.2.2.2.2 with
  | [] => .code M.1 M.2.1 M.2.2.1 M.2.2.2.1
  | hh => .codeWith M.1 M.2.1 M.2.2.1 M.2.2.2.1 hh
theorem z_blind {Z : zZ} {D : va_G} {cA : Nat → ClassId} {h : zH} {ws : va_W} {A : Nat → Prop} {As : List Value} : FrameBlind (z_Pc Z D cA h ws A As) := by
  intro a U g mk q
  obtain ⟨q0, q1, q2, q3, q4, q5, q6⟩ := q
  exact ⟨q0, q1, q2, q3, va_K.moved (u := U) (U := U.calling g mk a) (Vm.Alike.refl U.vm) q4, q5, z_S.to (s := U) (U := U.calling g mk a) q6 (State.WarmedH.refl U) va_S.rf (fun _ z => z)⟩
theorem z_met {Z : zZ} {M : zM} {R : Room} {Q : zO → zH → Prop} {As : List Value} {h : zH} {l : Launch} (hl : l.stackTraces = false) (D : va_G) (cA : Nat → ClassId) (ws : va_W) (A : Nat → Prop) (hy : plainName M.1.cls = true) (hcat : ∀ v ∈ As, v.category = 1) (hn : (lg_sl As).length ≤ M.2.2.1)
    (g : z_J Z M R 0 0 Q 0 As [] h) : vx_Met l M.1 (z_cw M :: z_G) R (z_Pc Z D cA h ws A As) (z_Qc D cA Q A) (z_XC D cA Q A) R.cells R.slots A := by
  have body : ∀ (p : Program) (e : Env) (s : State) (m : MethodId) (args : Array Value) (below : List Frame) (meth : Method) (c : Code) (s₁ : State), BodyLoose p l M.1 (headSpec (z_cw M :: z_G) R) M.2.1 M.2.2.1 M.2.2.2.1 e s m args below meth c s₁ → c.maxLocals = M.2.2.1 → c.exceptionTable.toList = tableOf M.2.2.2.2 → z_Pc Z D cA h ws A As args s →
      W p l e R s m args below meth c s.heap [] 0 0 (vx_MQ below (z_Qc D cA Q A) (z_XC D cA Q A) args s R.cells R.slots A) (entryFrame m args M.2.2.1) := by
    intro p e s m args below meth c s₁ B hml htab hv
    obtain ⟨rfl, hC, hP, hD, hK, hA, hZ⟩ := hv
    have hts0 := atoms_spec (ws := z_cw M :: z_G) B.pre
    rw [lg_entry_eq]
    exact g D cA p l e s m As.toArray below meth c A s.heap [] ws _ ⟨B.exec, B.bytes, B.returns, hml, findClass_of_methodNamed B.named, fun w hw => hts0 w (List.mem_cons_of_mem _ hw), B.notSynchronized, htab, (name_of_methodNamed B.named B.method).1, hl, hK, hA, hZ⟩ ⟨hC, hP, hD, va_S.rf⟩ (z_entry As hcat hn)
  obtain ⟨y, bytes, maxL, ret, hh⟩ := M
  cases hh with
  | nil =>
    refine vx_ofW (cc := bytes) (maxL := maxL) (ret := ret) hy rfl ?_
    intro p e s m args below meth c s₁ B hml ht hv
    refine body p e s m args below meth c s₁ B hml ?_ hv
    show c.exceptionTable.toList = []
    cases hx : c.exceptionTable.toList with
    | nil => rfl
    | cons x r => exact (ht x (by rw [hx]; exact List.mem_cons_self)).elim
  | cons x r =>
    refine vx_ofWH (cc := bytes) (maxL := maxL) (ret := ret) (hh := x :: r) hy rfl ?_
    intro p e s m args below meth c s₁ B hml hv
    refine body p e s m args below meth c s₁ B hml ?_ hv
    exact vx_table (x := y) B (atoms_spec (ws := _) B.pre _ List.mem_cons_self)
theorem z_good {s : State} {args : Array Value} {cw : Cond} (h : ∀ w ∈ z_G, w.before args s = true) (hcw : cw ∈ z_G) : ∀ w ∈ cw :: z_G, ∀ (a' : Array Value) (U : State), s.WarmedH U.vm → w.before a' U = true := by
  intro w hw a' U hW
  have hm : w ∈ z_G := by
    rcases List.mem_cons.mp hw with rfl | hw
    · exact hcw
    · exact hw
  exact word_at hW (good_of_word (List.mem_filter.mp hm).2) (h w hm)
/-- what a call asks of the tables -/
def z_cs (own : String) (idx : Nat) (M : zM) (na : Nat) : Prop :=
  Cond.methodLink own idx M.1 ∈ z_G ∧ Cond.initialized M.1.cls ∈ z_G ∧ z_cw M ∈ z_G ∧ (M.1.cls ≠ "java/lang/invoke/MethodHandle" ∧ M.1.cls ≠ "java/lang/invoke/VarHandle" ∧ (parseMethodDescriptor M.1.desc).map (fun d => d.parameters.length) = some na) ∧ plainName M.1.cls = true
def z_rm (R R' : Room) (maxL k n : Nat) : Prop := R'.frames + 1 ≤ R.frames ∧ 8 + (maxL + 11) + R'.locals ≤ R.locals ∧ k + R'.cells ≤ R.cells ∧ n + R'.slots ≤ R.slots
theorem z_len {d : String} {na : Nat} (h : (parseMethodDescriptor d).map (fun d => d.parameters.length) = some na) : ∀ sig, parseMethodDescriptor d = some sig → na = sig.parameters.length := by
  intro sig hs
  rw [hs] at h
  exact (Option.some.inj h).symm
section ZC
variable {Z : zZ} {M M' : zM} {R R' : Room} {k n : Nat} {Q Q' : zO → zH → Prop} {pc nx : Nat} {ls st : List Value} {h : zH}
theorem z_go {D : va_G} {cA : Nat → ClassId} {p : Program} {l : Launch} {e : Env} {s : State} {m : MethodId} {args : Array Value} {below : List Frame} {meth : Method} {c : Code} {A A' : Nat → Prop} {H : Heap} {locs : List Loc} {lsA : Array Slot} {rest : List Value} {a : Array Value} {st0 : List Value}
    (hr : vx_Run p l e R s m args below meth c H locs k n R'.cells R'.slots (F0 m pc lsA st0) rest (z_Qc D cA Q' A' a) (z_XC D cA Q' A') A')
    (X : z_X Z D cA M p l s m args meth c A) (hS : va_S A s.heap H locs) (hA' : ∀ q, A' q → A q) (L : z_L lsA M.2.2.1 ls)
    (kr : ∀ (v : Option Value) (h' : zH), Q' (.inl v) h' → z_J Z M R (k + R'.cells) (n + R'.slots) Q (pc + 3) ls (v.toList ++ rest) h')
    (kx : ∀ (E : String) (h' : zH), Q' (.inr E) h' → z_JX Z M R (k + R'.cells) (n + R'.slots) Q pc ls E h') :
    W p l e R s m args below meth c H locs k n (z_F D cA Q A below args s R) (F0 m pc lsA st0) := by
  intro T hT X9
  rcases hr T hT X9 with ⟨v, st₀, t, T', L9, h0, X', hL, e1, e2, ⟨⟨v', h', ws', hv, hq, hC', hP', hD'⟩, hF⟩, st⟩ | ⟨q, st₀, t, T', L9, E, ce, h0, X', hL, e1, e2, ⟨⟨h', ws', hq, hC', hP', hD'⟩, hF⟩, hce, hcv, hcl, st⟩
  · cases hv
    obtain ⟨k1, k2, k3⟩ := vx_keep h0 e1 hS (fun q _ z => hA' q z) hA' hL hF
    obtain ⟨t2, a1, b1⟩ := kr v h' hq D cA p l e s m args below meth c A T'.heap (locs ++ L9) ws' lsA X ⟨hC', by rw [e1]; exact hP', hD'.weaken (fun _ _ _ z => hA' _ z), k3⟩ L T' rfl X'
    exact ⟨t2, st t2 a1, b1⟩
  · obtain ⟨k1, k2, k3⟩ := vx_keep h0 e1 hS (fun q _ z => hA' q z) hA' hL hF
    obtain ⟨t2, a1, b1⟩ := kx E h' hq D cA p l e s m args below meth c A T'.heap (locs ++ L9) ws' lsA rest q ce X ⟨hC', by rw [e1]; exact hP', hD'.weaken (fun _ _ _ z => hA' _ z), k3⟩ L (by rw [e1]; exact hce) hcv hcl T' rfl X'
    exact ⟨t2, st.trans a1, b1⟩
theorem z_pre {D : va_G} {cA : Nat → ClassId} {p : Program} {l : Launch} {s : State} {m : MethodId} {args : Array Value} {meth : Method} {c : Code} {A : Nat → Prop} {H : Heap} {locs : List Loc} {ws : va_W} (As : List Value)
    (X : z_X Z D cA M p l s m args meth c A) (O : z_O D cA h A ws s.heap H locs) : (∀ q, va_A ws H.size q → A q) ∧ ∀ U : State, U.heap = H → s.WarmedH U.vm → z_Pc Z D cA h ws (va_A ws H.size) As As.toArray U := by
  obtain ⟨hx, hb, hr, hml, hown, hts, hlocks, htab, hnm, htr, hK, hA, hZ⟩ := X
  obtain ⟨hC, hP, hD, hS⟩ := O
  have hAA : ∀ q, va_A ws H.size q → A q := by
    intro q hq
    rcases hq with ⟨i, e, hi⟩ | hq
    · exact hD.2 i _ hi
    · exact hA q (Nat.le_trans hS.1 hq)
  refine ⟨hAA, fun U hU hW => ⟨rfl, hC, by rw [hU]; exact hP, hD.self, va_K.moved hW.alike hK, fun q hq => Or.inr (by rw [← hU]; exact hq), ?_⟩⟩
  rw [hU]
  exact hZ.to hW hS hAA
def z_args : Nat → List Value → List Value → Option (List Value × List Value)
  | 0, st, acc => some (acc, st)
  | na + 1, v :: r, acc => z_args na r (v :: acc)
  | _ + 1, [], _ => none
theorem z_args_ok : ∀ (na : Nat) (st acc As rest : List Value), z_args na st acc = some (As, rest) → ∃ P : List Value, As = P ++ acc ∧ st = P.reverse ++ rest ∧ P.length = na
  | 0, st, acc, As, rest, h => by
    simp only [z_args, Option.some.injEq, Prod.mk.injEq] at h
    obtain ⟨rfl, rfl⟩ := h
    exact ⟨[], rfl, rfl, rfl⟩
  | na + 1, v :: r, acc, As, rest, h => by
    simp only [z_args] at h
    obtain ⟨P, h1, h2, h3⟩ := z_args_ok na r (v :: acc) As rest h
    exact ⟨P ++ [v], by rw [h1]; simp, by rw [h2]; simp, by simp [h3]⟩
  | na + 1, [], acc, As, rest, h => by cases h
theorem z_args0 {na : Nat} {As rest : List Value} (h : z_args na st [] = some (As, rest)) : st = As.reverse ++ rest ∧ As.length = na := by
  obtain ⟨P, h1, h2, h3⟩ := z_args_ok na st [] As rest h
  rw [List.append_nil] at h1
  subst h1
  exact ⟨h2, h3⟩
theorem z_callV {na idx r b ci : Nat} {As rest fs : List Value} {q : vw_C} (hd : decode M.2.1 pc = .ok (.invokevirtual idx, 3)) (hn : pc + 3 = nx) (hs : z_cs M.1.cls idx M' na) (hh' : M'.2.2.2.2 = []) (hi : Cond.instanceMethod M'.1 ∈ z_G) (hsel : Cond.selects q.1 M'.1 M'.1 ∈ z_G)
    (ha : z_args na st [] = some (As, .ref b :: rest)) (hh : h r = some (b, .inr (ci, fs))) (hc : vwCl[ci]? = some q) (hR : z_rm R R' M'.2.2.1 k n) (hst : (rest.map fun v => v.category).sum ≤ 8) (hcat : ∀ v ∈ Value.ref b :: As, v.category = 1) (hl : (lg_sl (Value.ref b :: As)).length ≤ M'.2.2.1)
    (gc : z_J Z M' R' 0 0 Q' 0 (.ref b :: As) [] h)
    (kr : ∀ (v : Option Value) (h' : zH), Q' (.inl v) h' → z_J Z M R (k + R'.cells) (n + R'.slots) Q nx ls (v.toList ++ rest) h')
    (kx : ∀ (E : String) (h' : zH), Q' (.inr E) h' → z_JX Z M R (k + R'.cells) (n + R'.slots) Q pc ls E h') : z_J Z M R k n Q pc ls st h := by
  intro D cA p l e s m args below meth c A H locs ws lsA X O L
  obtain ⟨hx, hb, hr, hml, hown, hts, hlocks, htab, hnm, htr, hK, hA, hZ⟩ := id X
  obtain ⟨hC, hP, hD, hS⟩ := id O
  obtain ⟨q0, hq⟩ := List.getElem?_of_mem (hC.1 r b _ hh)
  obtain ⟨hAA, hPc⟩ := z_pre (.ref b :: As) X O
  obtain ⟨h1, h2, h3, h4, h5⟩ := hs
  obtain ⟨e1, e2⟩ := z_args0 ha
  subst hn
  subst e1
  have hcw : z_cw M' = .code M'.1 M'.2.1 M'.2.2.1 M'.2.2.2.1 := by unfold z_cw; rw [hh']
  have hM := z_met htr D cA ws (va_A ws H.size) h5 hcat hl gc
  rw [hcw] at hM h3
  have hrun := vx_runV (cells := k) (slots := n) (n := na) (R := R) (index := idx) (locs := locs) (H := H) (e := e) (below := below) (meth := meth) (g := F0 m pc lsA (As.reverse ++ .ref b :: rest)) (C := q.1) ⟨hx, hb, hml, hown, hts⟩ hM
    ⟨⟨rfl, rfl, hR.1, hR.2.1, z_good hts h3, List.mem_cons_self, hts _ h3, hts _ h2, ⟨h4.1, h4.2.1⟩, z_len h4.2.2, hts _ h1⟩, hts _ hi, hts _ hsel⟩
    ⟨z_blind, va_recv hK hP hc hq, hPc⟩ rfl e2 L.1.1 rfl (by show 2 * 0 + _ ≤ 8; omega) hd ⟨hR.2.2.1, hR.2.2.2⟩
  exact z_go hrun X hS hAA L kr kx
theorem z_callS {na idx : Nat} {As rest : List Value} (hd : decode M.2.1 pc = .ok (.invokestatic idx, 3)) (hn : pc + 3 = nx) (hs : z_cs M.1.cls idx M' na) (hi : Cond.static M'.1 ∈ z_G)
    (ha : z_args na st [] = some (As, rest)) (hR : z_rm R R' M'.2.2.1 k n) (hst : (rest.map fun v => v.category).sum ≤ 8) (hcat : ∀ v ∈ As, v.category = 1) (hl : (lg_sl As).length ≤ M'.2.2.1)
    (gc : z_J Z M' R' 0 0 Q' 0 As [] h)
    (kr : ∀ (v : Option Value) (h' : zH), Q' (.inl v) h' → z_J Z M R (k + R'.cells) (n + R'.slots) Q nx ls (v.toList ++ rest) h')
    (kx : ∀ (E : String) (h' : zH), Q' (.inr E) h' → z_JX Z M R (k + R'.cells) (n + R'.slots) Q pc ls E h') : z_J Z M R k n Q pc ls st h := by
  intro D cA p l e s m args below meth c A H locs ws lsA X O L
  obtain ⟨hx, hb, hr, hml, hown, hts, hlocks, htab, hnm, htr, hK, hA, hZ⟩ := id X
  obtain ⟨hC, hP, hD, hS⟩ := id O
  obtain ⟨hAA, hPc⟩ := z_pre As X O
  obtain ⟨h1, h2, h3, h4, h5⟩ := hs
  obtain ⟨e1, e2⟩ := z_args0 ha
  subst hn
  subst e1
  have hM := z_met htr D cA ws (va_A ws H.size) h5 hcat hl gc
  obtain ⟨y, bytes, maxL, ret, hh⟩ := M'
  cases hh with
  | nil =>
    have hrun := vx_runS (cells := k) (slots := n) (n := na) (R := R) (index := idx) (locs := locs) (H := H) (e := e) (below := below) (meth := meth) (g := F0 m pc lsA (As.reverse ++ rest)) ⟨hx, hb, hml, hown, hts⟩ hM
      ⟨⟨rfl, rfl, hR.1, hR.2.1, z_good hts h3, List.mem_cons_self, hts _ h3, hts _ h2, ⟨h4.1, h4.2.1⟩, z_len h4.2.2, hts _ h1⟩, hts _ hi⟩
      ⟨z_blind, hPc⟩ rfl e2 L.1.1 rfl (by show 2 * 0 + _ ≤ 8; omega) hd ⟨hR.2.2.1, hR.2.2.2⟩
    exact z_go hrun X hS hAA L kr kx
  | cons x r =>
    have hrun := vx_runSX (hh := x :: r) (cells := k) (slots := n) (n := na) (R := R) (index := idx) (locs := locs) (H := H) (e := e) (below := below) (meth := meth) (g := F0 m pc lsA (As.reverse ++ rest)) ⟨hx, hb, hml, hown, hts⟩ hM
      ⟨⟨rfl, rfl, hR.1, hR.2.1, z_good hts h3, List.mem_cons_self⟩, hts _ h3, hts _ h2, ⟨h4.1, h4.2.1⟩, z_len h4.2.2, hts _ h1, hts _ hi⟩
      ⟨z_blind, hPc⟩ rfl e2 L.1.1 rfl (by show 2 * 0 + _ ≤ 8; omega) hd ⟨hR.2.2.1, hR.2.2.2⟩
    exact z_go hrun X hS hAA L kr kx
/-- a constructor's call; it throws nothing -/
theorem z_goI {D : va_G} {cA : Nat → ClassId} {p : Program} {l : Launch} {e : Env} {s : State} {m : MethodId} {args : Array Value} {below : List Frame} {meth : Method} {c : Code} {A A' : Nat → Prop} {H : Heap} {locs : List Loc} {lsA : Array Slot} {rest : List Value} {a : Array Value} {st0 : List Value}
    (hr : va_Run p l e R s m args below meth c H locs k n R'.cells R'.slots (F0 m pc lsA st0) rest (z_Qc D cA Q' A' a) A')
    (X : z_X Z D cA M p l s m args meth c A) (hS : va_S A s.heap H locs) (hA' : ∀ q, A' q → A q) (L : z_L lsA M.2.2.1 ls)
    (kr : ∀ (v : Option Value) (h' : zH), Q' (.inl v) h' → z_J Z M R (k + R'.cells) (n + R'.slots) Q (pc + 3) ls (v.toList ++ rest) h') :
    W p l e R s m args below meth c H locs k n (z_F D cA Q A below args s R) (F0 m pc lsA st0) := by
  intro T hT X9
  obtain ⟨v, st₀, t, T', L9, h0, X', hL, e1, e2, ⟨⟨v', h', ws', hv, hq, hC', hP', hD'⟩, hF⟩, st⟩ := hr T hT X9
  cases hv
  obtain ⟨k1, k2, k3⟩ := vx_keep h0 e1 hS (fun q _ z => hA' q z) hA' hL hF
  obtain ⟨t2, a1, b1⟩ := kr v h' hq D cA p l e s m args below meth c A T'.heap (locs ++ L9) ws' lsA X ⟨hC', by rw [e1]; exact hP', hD'.weaken (fun _ _ _ z => hA' _ z), k3⟩ L T' rfl X'
  exact ⟨t2, st t2 a1, b1⟩
theorem z_metI {As : List Value} {l : Launch} (hl : l.stackTraces = false) (D : va_G) (cA : Nat → ClassId) (ws : va_W) (A : Nat → Prop) (hy : plainName M.1.cls = true) (hcat : ∀ v ∈ As, v.category = 1) (hn : (lg_sl As).length ≤ M.2.2.1) (hq : ∀ E h', ¬ Q (.inr E) h')
    (g : z_J Z M R 0 0 Q 0 As [] h) : Met l M.1 (z_cw M :: z_G) R (z_Pc Z D cA h ws A As) (z_Qc D cA Q A) R.cells R.slots A := by
  refine MetFree.mono (z_met hl D cA ws A hy hcat hn g) (fun _ _ q => q) (fun _ _ _ _ _ q => q) ?_
  intro a s o t _ hq9
  rcases hq9 with ⟨h1, h2⟩ | ⟨q, h1, E, ce, L, ⟨⟨h', ws', hx, -⟩, -⟩, -⟩
  · exact ⟨h1, h2⟩
  · exact absurd hx (hq E h')
theorem z_callI {na idx b : Nat} {As rest : List Value} (hd : decode M.2.1 pc = .ok (.invokespecial idx, 3)) (hn : pc + 3 = nx) (hs : z_cs M.1.cls idx M' na) (hret : M'.2.2.2.1 = none) (hh' : M'.2.2.2.2 = []) (hi : Cond.instanceMethod M'.1 ∈ z_G) (hini : M'.1.name = "<init>")
    (ha : z_args na st [] = some (As, .ref b :: rest)) (hR : z_rm R R' M'.2.2.1 k n) (hst : (rest.map fun v => v.category).sum ≤ 8) (hcat : ∀ v ∈ Value.ref b :: As, v.category = 1) (hl : (lg_sl (Value.ref b :: As)).length ≤ M'.2.2.1) (hq : ∀ E h', ¬ Q' (.inr E) h')
    (gc : z_J Z M' R' 0 0 Q' 0 (.ref b :: As) [] h)
    (kr : ∀ (v : Option Value) (h' : zH), Q' (.inl v) h' → z_J Z M R (k + R'.cells) (n + R'.slots) Q nx ls (v.toList ++ rest) h') : z_J Z M R k n Q pc ls st h := by
  intro D cA p l e s m args below meth c A H locs ws lsA X O L
  obtain ⟨hx, hb, hr, hml, hown, hts, hlocks, htab, hnm, htr, hK, hA, hZ⟩ := id X
  obtain ⟨hC, hP, hD, hS⟩ := id O
  obtain ⟨hAA, hPc⟩ := z_pre (.ref b :: As) X O
  obtain ⟨h1, h2, h3, h4, h5⟩ := hs
  obtain ⟨e1, e2⟩ := z_args0 ha
  subst hn
  subst e1
  have hcw : z_cw M' = .code M'.1 M'.2.1 M'.2.2.1 none := by unfold z_cw; rw [hh', hret]
  have hM := z_metI htr D cA ws (va_A ws H.size) h5 hcat hl hq gc
  rw [hcw] at hM h3
  have hrun := va_runI (cells := k) (slots := n) (n := na) (R := R) (index := idx) (locs := locs) (H := H) (e := e) (below := below) (meth := meth) (g := F0 m pc lsA (As.reverse ++ .ref b :: rest)) ⟨hx, hb, hml, hown, hts⟩ hM
    ⟨⟨rfl, rfl, hR.1, hR.2.1, z_good hts h3, List.mem_cons_self, hts _ h3, hts _ h2, ⟨h4.1, h4.2.1⟩, z_len h4.2.2, hts _ h1⟩, hini, hts _ hi⟩
    ⟨z_blind, hPc⟩ rfl e2 L.1.1 rfl (by show 2 * 0 + _ ≤ 8; omega) hd ⟨hR.2.2.1, hR.2.2.2⟩
  exact z_goI hrun X hS hAA L kr
/-- a private constructor of a nest mate -/
theorem z_callIN {na idx b : Nat} {host : String} {As rest : List Value} (hd : decode M.2.1 pc = .ok (.invokespecial idx, 3)) (hn : pc + 3 = nx) (hne : (M.1.cls, idx, M'.1, host) ∈ z_nests) (h2 : Cond.initialized M'.1.cls ∈ z_G) (h3 : z_cw M' ∈ z_G) (h4 : M'.1.cls ≠ "java/lang/invoke/MethodHandle" ∧ M'.1.cls ≠ "java/lang/invoke/VarHandle" ∧ (parseMethodDescriptor M'.1.desc).map (fun d => d.parameters.length) = some na) (h5 : plainName M'.1.cls = true) (hret : M'.2.2.2.1 = none) (hh' : M'.2.2.2.2 = []) (hi : Cond.instanceMethod M'.1 ∈ z_G) (hini : M'.1.name = "<init>")
    (ha : z_args na st [] = some (As, .ref b :: rest)) (hR : z_rm R R' M'.2.2.1 k n) (hst : (rest.map fun v => v.category).sum ≤ 8) (hcat : ∀ v ∈ Value.ref b :: As, v.category = 1) (hl : (lg_sl (Value.ref b :: As)).length ≤ M'.2.2.1) (hq : ∀ E h', ¬ Q' (.inr E) h')
    (gc : z_J Z M' R' 0 0 Q' 0 (.ref b :: As) [] h)
    (kr : ∀ (v : Option Value) (h' : zH), Q' (.inl v) h' → z_J Z M R (k + R'.cells) (n + R'.slots) Q nx ls (v.toList ++ rest) h') : z_J Z M R k n Q pc ls st h := by
  intro D cA p l e s m args below meth c A H locs ws lsA X O L
  obtain ⟨hx, hb, hr, hml, hown, hts, hlocks, htab, hnm, htr, hK, hA, hZ⟩ := id X
  obtain ⟨hC, hP, hD, hS⟩ := id O
  obtain ⟨hAA, hPc⟩ := z_pre (.ref b :: As) X O
  obtain ⟨e1, e2⟩ := z_args0 ha
  subst hn
  subst e1
  have hcw : z_cw M' = .code M'.1 M'.2.1 M'.2.2.1 none := by unfold z_cw; rw [hh', hret]
  have hM := z_metI htr D cA ws (va_A ws H.size) h5 hcat hl hq gc
  rw [hcw] at hM h3
  have hrun := va_runIN (cells := k) (slots := n) (n := na) (R := R) (index := idx) (host := host) (locs := locs) (H := H) (e := e) (below := below) (meth := meth) (g := F0 m pc lsA (As.reverse ++ .ref b :: rest)) ⟨hx, hb, hml, hown, hts⟩ hM
    ⟨⟨⟨rfl, rfl, hR.1, hR.2.1, z_good hts h3, List.mem_cons_self⟩, hts _ h3, hts _ h2, ⟨h4.1, h4.2.1⟩, z_len h4.2.2, va_Nw.use rfl (hZ.2.2.2.2.2.2.2.2.2.1 _ hne)⟩, hini, hts _ hi⟩
    ⟨z_blind, hPc⟩ rfl e2 L.1.1 rfl (by show 2 * 0 + _ ≤ 8; omega) hd ⟨hR.2.2.1, hR.2.2.2⟩
  exact z_goI hrun X hS hAA L kr
/-! returns -/
theorem z_iret {v : Int32} {ty : FieldType} (hd : decode M.2.1 pc = .ok (.ireturn, 1)) (hr0 : M.2.2.2.1 = some ty) (hnar : narrow ty (.int v) = .int v) (hk : k ≤ R.cells) (hsl : n ≤ R.slots) (hq : Q (.inl (some (.int v))) h) : z_J Z M R k n Q pc ls [.int v] h := by
  intro D cA p l e s m args below meth c A H locs ws lsA X O L
  obtain ⟨hx, hb, hr, hml, hown, hts, hlocks, htab, hnm, htr, hK, hA, hZ⟩ := id X
  obtain ⟨hC, hP, hD, hS⟩ := id O
  refine W.widen hk hsl (vx_ret ?_)
  exact W.zret (ty := ty) hx hb (hr.trans hr0) hnar (fun t ht hW => ⟨⟨_, h, ws, rfl, hq, hC, by rw [ht]; exact hP, hD⟩, hS.F ht⟩) hS.2.2 hd
theorem z_aret {a : Nat} {nm : String} (hd : decode M.2.1 pc = .ok (.areturn, 1)) (hr0 : M.2.2.2.1 = some (.object nm) ∨ ∃ t, M.2.2.2.1 = some (.array t)) (hk : k ≤ R.cells) (hsl : n ≤ R.slots) (hq : Q (.inl (some (.ref a))) h) : z_J Z M R k n Q pc ls [.ref a] h := by
  intro D cA p l e s m args below meth c A H locs ws lsA X O L
  obtain ⟨hx, hb, hr, hml, hown, hts, hlocks, htab, hnm, htr, hK, hA, hZ⟩ := id X
  obtain ⟨hC, hP, hD, hS⟩ := id O
  refine W.widen hk hsl (vx_ret ?_)
  rcases hr0 with hr0 | ⟨t, hr0⟩
  · exact W.aret (rt := .object nm) hx hb (hr.trans hr0) (Or.inl ⟨_, rfl⟩) (Or.inr ⟨_, rfl⟩) (fun t ht hW => ⟨⟨_, h, ws, rfl, hq, hC, by rw [ht]; exact hP, hD⟩, hS.F ht⟩) hS.2.2 hd
  · exact W.aret (rt := .array t) hx hb (hr.trans hr0) (Or.inr ⟨_, rfl⟩) (Or.inr ⟨_, rfl⟩) (fun t ht hW => ⟨⟨_, h, ws, rfl, hq, hC, by rw [ht]; exact hP, hD⟩, hS.F ht⟩) hS.2.2 hd
theorem z_vret (hd : decode M.2.1 pc = .ok (.return_, 1)) (hr0 : M.2.2.2.1 = none) (hk : k ≤ R.cells) (hsl : n ≤ R.slots) (hq : Q (.inl none) h) : z_J Z M R k n Q pc ls [] h := by
  intro D cA p l e s m args below meth c A H locs ws lsA X O L
  obtain ⟨hx, hb, hr, hml, hown, hts, hlocks, htab, hnm, htr, hK, hA, hZ⟩ := id X
  obtain ⟨hC, hP, hD, hS⟩ := id O
  refine W.widen hk hsl (vx_ret ?_)
  exact W.vret hx hb (hr.trans hr0) (fun t ht hW => ⟨⟨_, h, ws, rfl, hq, hC, by rw [ht]; exact hP, hD⟩, hS.F ht⟩) hS.2.2 hd
/-! throws -/
theorem z_out {E : String} (hh : M.2.2.2.2 = []) (hk : k ≤ R.cells) (hsl : n ≤ R.slots) (hq : Q (.inr E) h) : z_JX Z M R k n Q pc ls E h := by
  intro D cA p l e s m args below meth c A H locs ws lsA rest q ce X O L hce hcv hcl
  obtain ⟨hx, hb, hr, hml, hown, hts, hlocks, htab, hnm, htr, hK, hA, hZ⟩ := id X
  obtain ⟨hC, hP, hD, hS⟩ := id O
  rw [hh] at htab
  exact vx_out (fun x hx9 => by rw [htab] at hx9; cases hx9) hlocks hce hcv hcl (fun t ht hW => ⟨⟨h, ws, hq, hC, by rw [ht]; exact hP, hD⟩, hS.F ht⟩) hS.2.2 hk hsl
theorem z_catch {E nm : String} {pre suf : List (Nat × Nat × Nat × Nat)} {x : Nat × Nat × Nat × Nat} (hh : M.2.2.2.2 = pre ++ x :: suf)
    (hpre : ∀ z ∈ pre, z.2.2.2 ≠ 0 ∧ ∃ n0 : String, Cond.classLink M.1.cls z.2.2.2 n0 ∈ z_G ∧ (E, n0) ∈ z_ncasts) (hx1 : x.1 ≤ pc ∧ pc < x.2.1) (hx0 : x.2.2.2 ≠ 0) (hl : Cond.classLink M.1.cls x.2.2.2 nm ∈ z_G) (hc : (E, nm) ∈ z_casts)
    (g : ∀ q : Nat, z_J Z M R k n Q x.2.2.1 ls [.ref q] h) : z_JX Z M R k n Q pc ls E h := by
  intro D cA p l e s m args below meth c A H locs ws lsA rest q ce X O L hce hcv hcl
  obtain ⟨hx, hb, hr, hml, hown, hts, hlocks, htab, hnm, htr, hK, hA, hZ⟩ := id X
  rw [hh] at htab
  have hV := hZ.2.2.2.2.2.2
  refine vx_catch hown (tableOf pre) ⟨x.1, x.2.1, x.2.2.1, x.2.2.2⟩ (tableOf suf) (by rw [htab]; simp [tableOf]) ?_ (by simp [covers, hx1.1, hx1.2]) hx0 (hts _ hl) (va_Nw.use rfl (hV.1 _ hc)) hce hcv hcl (g q D cA p l e s m args below meth c A H locs ws lsA X O L)
  intro z hz
  simp only [tableOf, List.mem_map] at hz
  obtain ⟨y, hy, rfl⟩ := hz
  obtain ⟨h1, n0, h2, h3⟩ := hpre y hy
  exact Or.inr ⟨h1, n0, hts _ h2, hV.2.1 _ h3⟩
theorem z_throw {E text : String} {ik is ic : Nat} {names : List String} (hh : M.2.2.2.2 = []) (d0 : decode M.2.1 pc = .ok (.new ik, 3)) (d3 : decode M.2.1 (pc + 3) = .ok (.dup, 1)) (d4 : decode M.2.1 (pc + 4) = .ok (.ldc is, 2)) (d6 : decode M.2.1 (pc + 6) = .ok (.invokespecial ic, 3)) (d9 : decode M.2.1 (pc + 9) = .ok (.athrow, 1))
    (hcls : Bundle.fit E = true) (hnames : ∀ n ∈ names, Bundle.fit n = true) (hk1 : Cond.classLink M.1.cls ik E ∈ z_G) (hini : Cond.initialized E ∈ z_G) (hstr : (M.1.cls, is, text) ∈ z_strs) (hat : ∀ w ∈ vx_atS M.1.cls ic E names, w ∈ z_G ∨ (∃ q ∈ z_casts, w = .castable q.1 q.2) ∨ ∃ q ∈ z_decls, w = .declares q) (hgood : ∀ w ∈ Cond.classLink M.1.cls ik E :: Cond.initialized E :: vx_atS M.1.cls ic E names, vx_ot w = true)
    (hRf : names.length + 3 < R.frames) (hRl : (st.map fun v => v.category).sum + (13 * (names.length + 1) + 43) ≤ R.locals) (hRc : k + 1 ≤ R.cells) (hRs : n + 6 ≤ R.slots) (hq : Q (.inr E) h) : z_J Z M R k n Q pc ls st h := by
  intro D cA p l e s m args below meth c A H locs ws lsA X O L
  obtain ⟨hx, hb, hr, hml, hown, hts, hlocks, htab, hnm, htr, hK, hA, hZ⟩ := id X
  obtain ⟨hC, hP, hD, hS⟩ := id O
  rw [hh] at htab
  have hV := hZ.2.2.2.2.2.2
  obtain ⟨sa, hsa⟩ := hV.2.2.1 _ hstr
  refine vx_throwS (A := A) hx hb htr hown hcls hnames (hts _ hk1) (hts _ hini) hsa (fun w hw => ?_) hgood hZ.2.2.1 hZ.2.2.2.1 hS (by rw [hml]; exact L.1.1) d0 d3 d4 d6 d9 (fun x hx9 => by rw [htab] at hx9; cases hx9) hRf hRl hRc hRs hlocks ?_ hS.2.2 hRc hRs
  · rcases hat w hw with h1 | ⟨q, h1, rfl⟩ | ⟨q, h1, rfl⟩
    · exact hts _ h1
    · exact va_Nw.use rfl (hV.1 _ h1)
    · exact va_Nw.use rfl (hV.2.2.2.2.2.2.2 _ h1)
  · intro t ht1 ht2 ht3
    refine ⟨⟨h, ws, hq, hC, hP.kept (fun i q hi => ht3 q.1 (hP i q hi).lt), hD⟩, Nat.le_trans hS.1 ht2, fun q h1 h2 => ?_⟩
    rw [ht3 q (Nat.lt_of_lt_of_le h1 hS.1)]
    exact hS.2.1 q h1 h2
end ZC
