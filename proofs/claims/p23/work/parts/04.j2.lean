/-! ===== what stands outside the abstract heap: lists written by program out of the Statement ===== -/
def z_casts : List (String × String) := [("java/lang/IllegalArgumentException", "java/lang/IllegalArgumentException"), ("java/lang/IllegalStateException", "java/lang/IllegalStateException"), ("java/lang/IndexOutOfBoundsException", "java/lang/IndexOutOfBoundsException"), ("RightsCounter$History", "java/lang/Object"), ("RightsCounter", "java/lang/Object"), ("java/util/ArrayList", "java/lang/Object"), ("RightsCounter$Needs", "java/lang/Object"), ("RightsCounter$Giving", "java/lang/Object"), ("java/lang/IndexOutOfBoundsException", "java/lang/Object"), ("java/lang/IllegalArgumentException", "java/lang/Object"), ("java/lang/IllegalStateException", "java/lang/Object"), ("RightsCounter$Right", "java/lang/Object"), ("RightsCounter$Machine", "java/lang/Object"), ("java/lang/Throwable", "java/lang/Object"), ("java/lang/String", "java/lang/Object"), ("[I", "java/lang/Object"), ("[[I", "java/lang/Object"), ("[B", "java/lang/Object"), ("[Ljava/lang/Object;", "java/lang/Object"), ("[LRightsCounter$History;", "java/lang/Object")]
def z_ncasts : List (String × String) := [("java/lang/IllegalArgumentException", "java/lang/IllegalStateException"), ("java/lang/IllegalArgumentException", "java/lang/IndexOutOfBoundsException"), ("java/lang/IllegalStateException", "java/lang/IllegalArgumentException"), ("java/lang/IllegalStateException", "java/lang/IndexOutOfBoundsException"), ("java/lang/IndexOutOfBoundsException", "java/lang/IllegalArgumentException"), ("java/lang/IndexOutOfBoundsException", "java/lang/IllegalStateException")]
def z_strs : List (String × Nat × String) := [("RightsCounter", 204, "an argument is out of range"), ("RightsCounter", 53, "there are 10 rights"), ("RightsCounter", 214, "there is no such right"), ("RightsCounter", 75, "the version is not above that of the right"), ("RightsCounter", 220, "there is no such machine"), ("RightsCounter", 84, "there are 8 machines"), ("RightsCounter", 209, "there is no such product"), ("RightsCounter", 121, "installed 10 times, or changed on this day or a later one"), ("RightsCounter", 133, "not installed now, or installed on this day or a later one"), ("RightsCounter", 212, "there is no such need"), ("RightsCounter", 176, "the day has more than 10 needs")]
def z_nests : List (String × Nat × MethodName × String) := [("RightsCounter", 25, ⟨"RightsCounter$Needs", "<init>", "()V"⟩, "RightsCounter"), ("RightsCounter", 32, ⟨"RightsCounter$Giving", "<init>", "()V"⟩, "RightsCounter"), ("RightsCounter$Machine", 28, ⟨"RightsCounter$History", "<init>", "()V"⟩, "RightsCounter")]
def z_decls : List MethodName := [⟨"java/lang/RuntimeException", "<init>", "()V"⟩, ⟨"java/lang/RuntimeException", "<init>", "(Ljava/lang/String;)V"⟩, ⟨"java/lang/Exception", "<init>", "()V"⟩, ⟨"java/lang/Exception", "<init>", "(Ljava/lang/String;)V"⟩, ⟨"java/lang/Throwable", "<init>", "()V"⟩, ⟨"java/lang/Throwable", "<init>", "(Ljava/lang/String;)V"⟩, ⟨"java/lang/Object", "getClass", "()Ljava/lang/Class;"⟩]
theorem z_AOA_moved {ty : FieldType} {s U : State} (hvm : s.vm.Alike U.vm) (h : va_AOA ty s) : va_AOA ty U := by
  have key : ∀ (V : State), va_AOA ty V ↔ (V.vm.findClass (FieldType.array ty).toString).bind (fun comp => (V.vm.bare.classes.findIdx? fun (x : Class) => match x.kind with | .array component _ => component == comp | _ => false).bind fun c => (V.vm.bare.classes[c]?).map fun (k : Class) => match k.kind with
      | .array _ t => decide (t = FieldType.array ty) && decide (V.vm.findClass ("[" ++ (FieldType.array ty).toString) = some c)
      | _ => false) = some true := by
    intro V
    unfold va_AOA Cond.before Cond.holds
    simp only [Cond.value, beq_iff_eq]
    refine Eq.to_iff (congrArg (fun o => o = some true) ?_)
    congr 1
    funext comp
    refine (congrArg (fun o : Option Nat => o.bind fun c => (V.vm.classes[c]?).map fun (k : Class) => match k.kind with
      | .array _ t => decide (t = FieldType.array ty) && decide (V.vm.findClass ("[" ++ (FieldType.array ty).toString) = some c)
      | _ => false) (va_idx_bare V.vm comp).symm).trans ?_
    congr 1
    funext c
    simp only [Vm.bare, Array.getElem?_map, Option.map_map]
    rfl
  refine (key U).mpr ?_
  have h1 := (key s).mp h
  have hb : U.vm.bare = s.vm.bare := by first | exact hvm.bare_eq | exact hvm.bare_eq.symm
  rw [hb, hvm.findClass, hvm.findClass]
  exact h1
def z_V (U : State) : Prop :=
  (∀ q ∈ z_casts, va_Nw (.castable q.1 q.2) U) ∧ (∀ q ∈ z_ncasts, va_Nc q.1 q.2 U) ∧ (∀ q ∈ z_strs, ∃ a, vk_R q.1 q.2.1 q.2.2 a U) ∧ (∀ q ∈ z_nests, va_Nw (.methodLinkNest q.1 q.2.1 q.2.2.1 q.2.2.2) U) ∧
  va_AO "java/lang/Object" U ∧ va_AO "RightsCounter$History" U ∧ va_AOA .int U ∧ ∀ y ∈ z_decls, va_Nw (.declares y) U
theorem z_V.warm {s U : State} (hW : s.WarmedH U.vm) (h : z_V s) : z_V U :=
  ⟨fun q hq => va_Nw.warmC hW (h.1 q hq), fun q hq => (h.2.1 q hq).moved hW.alike, fun q hq => (h.2.2.1 q hq).elim fun a ha => ⟨a, ha.warm hW⟩, fun q hq => va_Nw.warmM hW (h.2.2.2.1 q hq),
   h.2.2.2.2.1.moved hW.alike, h.2.2.2.2.2.1.moved hW.alike, z_AOA_moved hW.alike h.2.2.2.2.2.2.1, fun q hq => va_Nw.warmD hW (h.2.2.2.2.2.2.2 q hq)⟩
abbrev z_ALd : String := "[Ljava/lang/Object;"
def z_S (Z : zZ) (A : Nat → Prop) (U : State) (H : Heap) : Prop :=
  va_X Z.1 Z.2.1 Z.2.2.1 U H ∧ (Z.1 < H.size ∧ ¬ A Z.1) ∧ vx_Zq Bundle.tN "UNASSIGNED_STACK" Bundle.steD A U H ∧ vx_Zq Bundle.tN "SUPPRESSED_SENTINEL" Bundle.listD A U H ∧
  va_Z "java/util/ArrayList" "DEFAULTCAPACITY_EMPTY_ELEMENTDATA" z_ALd (.ref Z.2.2.2) A U H ∧ va_T (.object "java/lang/Object") Z.2.2.2 0 (fun _ => .null) A U H ∧ z_V U
theorem z_S.step {Z : zZ} {A B : Nat → Prop} {s U : State} {H0 H : Heap} {locs : List Loc} (h : z_S Z A s H0) (hW : s.WarmedH U.vm) (hS : va_S A H0 H locs) (hAB : ∀ q, B q → q < H0.size → A q) : z_S Z (fun q => B q ∧ A q) U H := by
  obtain ⟨h1, ⟨h2, h3⟩, h4, h5, h6, h7, h8⟩ := h
  have al := hW.alike
  have hk : ∀ a : Nat, a < H0.size → ¬ A a → H[a]? = H0[a]? := hS.2.1
  have hn : ∀ q, (B q ∧ A q) → A q := fun q z => z.2
  exact ⟨(h1.kept (hk _ h2 h3)).moved al, ⟨Nat.lt_of_lt_of_le h2 hS.1, fun z => h3 z.2⟩, ((h4.kept hk).narrow hn).moved al, ((h5.kept hk).narrow hn).moved al, ((h6.kept hk).narrow hn).moved al, ((h7.kept hk).narrow hn).moved al, h8.warm hW⟩
/-- the same for a set within A -/
theorem z_S.to {Z : zZ} {A B : Nat → Prop} {s U : State} {H0 H : Heap} {locs : List Loc} (h : z_S Z A s H0) (hW : s.WarmedH U.vm) (hS : va_S A H0 H locs) (hAB : ∀ q, B q → A q) : z_S Z B U H := by
  obtain ⟨h1, ⟨h2, h3⟩, h4, h5, h6, h7, h8⟩ := h
  have al := hW.alike
  have hk : ∀ a : Nat, a < H0.size → ¬ A a → H[a]? = H0[a]? := hS.2.1
  exact ⟨(h1.kept (hk _ h2 h3)).moved al, ⟨Nat.lt_of_lt_of_le h2 hS.1, fun z => h3 (hAB _ z)⟩, ((h4.kept hk).narrow hAB).moved al, ((h5.kept hk).narrow hAB).moved al, ((h6.kept hk).narrow hAB).moved al, ((h7.kept hk).narrow hAB).moved al, h8.warm hW⟩
/-! ===== the judgement ===== -/
def z_X (Z : zZ) (D : va_G) (cA : Nat → ClassId) (M : zM) (p : Program) (l : Launch) (s : State) (m : MethodId) (args : Array Value) (meth : Method) (c : Code) (A : Nat → Prop) : Prop :=
  p.tables.exec = Jvm.exec ∧ c.code = M.2.1 ∧ meth.sig.returnType = M.2.2.2.1 ∧ c.maxLocals = M.2.2.1 ∧ s.vm.findClass M.1.cls = some m.cls ∧ (∀ w ∈ z_G, w.before args s = true) ∧ meth.locks = false ∧ c.exceptionTable.toList = tableOf M.2.2.2.2 ∧
  meth.name = M.1.name ∧ l.stackTraces = false ∧ va_K D vwCl (z_tys cA) s ∧ (∀ q, s.heap.size ≤ q → A q) ∧ z_S Z A s s.heap
def z_O (D : va_G) (cA : Nat → ClassId) (h : zH) (A : Nat → Prop) (ws : va_W) (H0 H : Heap) (locs : List Loc) : Prop :=
  z_C cA h ws ∧ va_P D vwCl ws H ∧ va_D A ws ∧ va_S A H0 H locs
def z_Qc (D : va_G) (cA : Nat → ClassId) (Q : zO → zH → Prop) (A : Nat → Prop) : Array Value → State → Outcome → State → Prop := fun _ st o t =>
  (∃ (v : Option Value) (h' : zH) (ws : va_W), o = .returned v ∧ Q (.inl v) h' ∧ z_C cA h' ws ∧ va_P D vwCl ws t.heap ∧ va_D A ws) ∧ va_F A st t
def z_XC (D : va_G) (cA : Nat → ClassId) (Q : zO → zH → Prop) (A : Nat → Prop) : String → State → State → Prop := fun E st t =>
  (∃ (h' : zH) (ws : va_W), Q (.inr E) h' ∧ z_C cA h' ws ∧ va_P D vwCl ws t.heap ∧ va_D A ws) ∧ va_F A st t
def z_F (D : va_G) (cA : Nat → ClassId) (Q : zO → zH → Prop) (A : Nat → Prop) (below : List Frame) (args : Array Value) (s : State) (R : Room) : State → Prop :=
  vx_MQ below (z_Qc D cA Q A) (z_XC D cA Q A) args s R.cells R.slots A
def z_J (Z : zZ) (M : zM) (R : Room) (k n : Nat) (Q : zO → zH → Prop) (pc : Nat) (ls st : List Value) (h : zH) : Prop :=
  ∀ (D : va_G) (cA : Nat → ClassId) (p : Program) (l : Launch) (e : Env) (s : State) (m : MethodId) (args : Array Value) (below : List Frame) (meth : Method) (c : Code) (A : Nat → Prop) (H : Heap) (locs : List Loc) (ws : va_W) (lsA : Array Slot),
    z_X Z D cA M p l s m args meth c A → z_O D cA h A ws s.heap H locs → z_L lsA M.2.2.1 ls → W p l e R s m args below meth c H locs k n (z_F D cA Q A below args s R) (F0 m pc lsA st)
/-- an exception of class E flies over the frame -/
def z_JX (Z : zZ) (M : zM) (R : Room) (k n : Nat) (Q : zO → zH → Prop) (pc : Nat) (ls : List Value) (E : String) (h : zH) : Prop :=
  ∀ (D : va_G) (cA : Nat → ClassId) (p : Program) (l : Launch) (e : Env) (s : State) (m : MethodId) (args : Array Value) (below : List Frame) (meth : Method) (c : Code) (A : Nat → Prop) (H : Heap) (locs : List Loc) (ws : va_W) (lsA : Array Slot) (rest : List Value) (q : Nat) (ce : Cell),
    z_X Z D cA M p l s m args meth c A → z_O D cA h A ws s.heap H locs → z_L lsA M.2.2.1 ls → H[q]? = some ce → ce.vm = .none → s.vm.findClass E = some ce.cls →
      vx_W p l e R s m args below meth c H locs k n (z_F D cA Q A below args s R) (F0 m pc lsA rest) q
theorem z_J.widen {Z : zZ} {M : zM} {R : Room} {k n : Nat} (k' n' : Nat) {Q : zO → zH → Prop} {pc : Nat} {ls st : List Value} {h : zH} (h1 : k ≤ k') (h2 : n ≤ n') (g : z_J Z M R k' n' Q pc ls st h) : z_J Z M R k n Q pc ls st h := by
  intro D cA p l e s m args below meth c A H locs ws lsA X O L
  exact W.widen h1 h2 (g D cA p l e s m args below meth c A H locs ws lsA X O L)
theorem z_J.take {Z : zZ} {M : zM} {R : Room} {k n : Nat} {Q : zO → zH → Prop} {pc : Nat} {ls st : List Value} {h : zH} (j : Nat) (g : z_J Z M R k n Q pc (ls.take j) st h) : z_J Z M R k n Q pc ls st h := by
  intro D cA p l e s m args below meth c A H locs ws lsA X O L
  exact g D cA p l e s m args below meth c A H locs ws lsA X O (z_Lsub j L)
theorem z_g {w : Cond} (i : Nat) (h1 : lw_tbl[i]? = some w) (h2 : goodWord w = true) : w ∈ z_G := List.mem_filter.mpr ⟨List.mem_of_getElem? h1, h2⟩
