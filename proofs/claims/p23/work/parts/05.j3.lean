/-! ===== straight runs ===== -/
def z_ldi (ls : List Value) (k : Nat) (st : List Value) : Option (List Value × List Value) := match ls[k]? with
  | some (.int x) => some (ls, .int x :: st)
  | _ => none
def z_lda (ls : List Value) (k : Nat) (st : List Value) : Option (List Value × List Value) := match ls[k]? with
  | some (.ref x) => some (ls, .ref x :: st)
  | some .null => some (ls, .null :: st)
  | _ => none
def z_st (n : Nat) (ls : List Value) (k : Nat) (v : Value) (st : List Value) : Option (List Value × List Value) := match Nat.blt k n with
  | true => match z_up ls k v with
    | some ls' => some (ls', st)
    | none => none
  | false => none
def z_step (n : Nat) (i : ClassFile.Instr) (cv : Int32) (ls st : List Value) : Option (List Value × List Value) := match i, st with
  | .iload k, st => z_ldi ls k st
  | .iload_n k, st => z_ldi ls k.val st
  | .aload k, st => z_lda ls k st
  | .aload_n k, st => z_lda ls k.val st
  | .istore k, .int x :: st => z_st n ls k (.int x) st
  | .istore_n k, .int x :: st => z_st n ls k.val (.int x) st
  | .astore k, .ref x :: st => z_st n ls k (.ref x) st
  | .astore_n k, .ref x :: st => z_st n ls k.val (.ref x) st
  | .astore k, .null :: st => z_st n ls k .null st
  | .astore_n k, .null :: st => z_st n ls k.val .null st
  | .iconst _, st => some (ls, .int cv :: st)
  | .bipush _, st => some (ls, .int cv :: st)
  | .sipush _, st => some (ls, .int cv :: st)
  | .aconst_null, st => some (ls, .null :: st)
  | .iinc k _, st => match ls[k]? with
    | some (.int x) => z_st n ls k (.int (x + cv)) st
    | _ => none
  | .iadd, .int y :: .int x :: st => some (ls, .int (x + y) :: st)
  | .isub, .int y :: .int x :: st => some (ls, .int (x - y) :: st)
  | .imul, .int y :: .int x :: st => some (ls, .int (x * y) :: st)
  | .iand, .int y :: .int x :: st => some (ls, .int (x &&& y) :: st)
  | .ior, .int y :: .int x :: st => some (ls, .int (x ||| y) :: st)
  | .ixor, .int y :: .int x :: st => some (ls, .int (x ^^^ y) :: st)
  | .ishl, .int y :: .int x :: st => some (ls, .int (x <<< (y &&& 31)) :: st)
  | .ishr, .int y :: .int x :: st => some (ls, .int (x >>> (y &&& 31)) :: st)
  | .i2l, .int x :: st => some (ls, .long x.toInt64 :: st)
  | .dup, .int x :: st => some (ls, .int x :: .int x :: st)
  | .dup, .ref x :: st => some (ls, .ref x :: .ref x :: st)
  | .dup2, .int y :: .int x :: st => some (ls, .int y :: .int x :: .int y :: .int x :: st)
  | .dup2, .int y :: .ref x :: st => some (ls, .int y :: .ref x :: .int y :: .ref x :: st)
  | .dup_x1, .ref y :: .ref x :: st => some (ls, .ref y :: .ref x :: .ref y :: st)
  | .pop, .int _ :: st => some (ls, st)
  | .pop, .ref _ :: st => some (ls, st)
  | .goto _, st => some (ls, st)
  | _, _ => none
def z_ok1 (cc : ByteArray) (pc : Nat) (i : ClassFile.Instr) (nx : Nat) (cv : Int32) : Bool := match i with
  | .goto off => decide (decode cc pc = .ok (.goto off, 3)) && decide ((pc : Int) + off = (nx : Int))
  | .iconst n => decide (decode cc pc = .ok (.iconst n, 1)) && Nat.beq nx (pc + 1) && decide (Int32.ofInt n = cv)
  | .bipush n => decide (decode cc pc = .ok (.bipush n, 2)) && Nat.beq nx (pc + 2) && decide ((Int8.ofInt n).toInt32 = cv)
  | .sipush n => decide (decode cc pc = .ok (.sipush n, 3)) && Nat.beq nx (pc + 3) && decide ((Int16.ofInt n).toInt32 = cv)
  | .iinc k n => decide (decode cc pc = .ok (.iinc k n, 3)) && Nat.beq nx (pc + 3) && decide (Int32.ofInt n = cv)
  | .iload k => decide (decode cc pc = .ok (.iload k, 2)) && Nat.beq nx (pc + 2)
  | .istore k => decide (decode cc pc = .ok (.istore k, 2)) && Nat.beq nx (pc + 2)
  | .aload k => decide (decode cc pc = .ok (.aload k, 2)) && Nat.beq nx (pc + 2)
  | .astore k => decide (decode cc pc = .ok (.astore k, 2)) && Nat.beq nx (pc + 2)
  | i => decide (decode cc pc = .ok (i, 1)) && Nat.beq nx (pc + 1)
def z_ok (cc : ByteArray) : Nat → zB → Nat → Bool
  | pc, [], e => Nat.beq pc e
  | pc, t :: r, e => Nat.beq t.1 pc && z_ok1 cc pc t.2.1 t.2.2.1 t.2.2.2 && z_ok cc t.2.2.1 r e
def z_run (n : Nat) : zB → List Value → List Value → Option (List Value × List Value)
  | [], ls, st => some (ls, st)
  | t :: r, ls, st => match z_step n t.2.1 t.2.2.2 ls st with
    | some q => z_run n r q.1 q.2
    | none => none
section ZR
variable {Z : zZ} {M : zM} {R : Room} {k n : Nat} {Q : zO → zH → Prop} {pc nx : Nat} {ls ls' st st' : List Value} {h : zH}

theorem z_s_ldi {kk : Nat} (hi : (decode M.2.1 pc = .ok (.iload kk, 2) ∧ nx = pc + 2) ∨ (∃ f : Fin 4, f.val = kk ∧ decode M.2.1 pc = .ok (.iload_n f, 1) ∧ nx = pc + 1)) (hs : z_ldi ls kk st = some (ls', st')) (g : z_J Z M R k n Q nx ls' st' h) : z_J Z M R k n Q pc ls st h := by
  intro D cA p l e s m args below meth c A H locs ws lsA X O L
  obtain ⟨hx, hb, -⟩ := id X
  unfold z_ldi at hs
  split at hs
  · rename_i x hl
    simp only [Option.some.injEq, Prod.mk.injEq] at hs
    obtain ⟨rfl, rfl⟩ := hs
    rcases hi with ⟨hd, rfl⟩ | ⟨f, rfl, hd, rfl⟩
    · exact lv_iload hx hb hd (z_lat L hl) (g D cA p l e s m args below meth c A H locs ws lsA X O L)
    · exact lv_iload_n hx hb hd rfl (z_lat L hl) (g D cA p l e s m args below meth c A H locs ws lsA X O L)
  · cases hs
theorem z_s_lda {kk : Nat} (hi : (decode M.2.1 pc = .ok (.aload kk, 2) ∧ nx = pc + 2) ∨ (∃ f : Fin 4, f.val = kk ∧ decode M.2.1 pc = .ok (.aload_n f, 1) ∧ nx = pc + 1)) (hs : z_lda ls kk st = some (ls', st')) (g : z_J Z M R k n Q nx ls' st' h) : z_J Z M R k n Q pc ls st h := by
  intro D cA p l e s m args below meth c A H locs ws lsA X O L
  obtain ⟨hx, hb, -⟩ := id X
  unfold z_lda at hs
  split at hs
  · rename_i x hl
    simp only [Option.some.injEq, Prod.mk.injEq] at hs
    obtain ⟨rfl, rfl⟩ := hs
    rcases hi with ⟨hd, rfl⟩ | ⟨f, rfl, hd, rfl⟩
    · exact lv_aload hx hb hd (z_lat L hl) (g D cA p l e s m args below meth c A H locs ws lsA X O L)
    · exact lv_aload_n hx hb hd rfl (z_lat L hl) (g D cA p l e s m args below meth c A H locs ws lsA X O L)
  · rename_i hl
    simp only [Option.some.injEq, Prod.mk.injEq] at hs
    obtain ⟨rfl, rfl⟩ := hs
    rcases hi with ⟨hd, rfl⟩ | ⟨f, rfl, hd, rfl⟩
    · exact lv_aloadN hx hb hd (z_lat L hl) (g D cA p l e s m args below meth c A H locs ws lsA X O L)
    · exact lv_aload_nN hx hb hd rfl (z_lat L hl) (g D cA p l e s m args below meth c A H locs ws lsA X O L)
  · cases hs
theorem z_st_sp {nL : Nat} {kk : Nat} {v : Value} (hs : z_st nL ls kk v st = some (ls', st')) : kk < nL ∧ z_up ls kk v = some ls' ∧ st' = st := by
  unfold z_st at hs
  split at hs
  · rename_i hlt
    split at hs
    · rename_i l2 hu
      simp only [Option.some.injEq, Prod.mk.injEq] at hs
      obtain ⟨rfl, rfl⟩ := hs
      exact ⟨by simpa [Nat.blt_eq] using hlt, hu, rfl⟩
    · cases hs
  · cases hs

theorem z_s_sti {kk : Nat} {x : Int32} (hi : (decode M.2.1 pc = .ok (.istore kk, 2) ∧ nx = pc + 2) ∨ (∃ f : Fin 4, f.val = kk ∧ decode M.2.1 pc = .ok (.istore_n f, 1) ∧ nx = pc + 1)) (hs : z_st M.2.2.1 ls kk (.int x) st = some (ls', st')) (g : z_J Z M R k n Q nx ls' st' h) : z_J Z M R k n Q pc ls ((.int x) :: st) h := by
  intro D cA p l e s m args below meth c A H locs ws lsA X O L
  obtain ⟨hx, hb, -⟩ := id X
  obtain ⟨h1, h2, rfl⟩ := z_st_sp hs
  rcases hi with ⟨hd, rfl⟩ | ⟨f, rfl, hd, rfl⟩
  · exact lv_istore hx hb hd L.1 h1 rfl (fun lsB hlB => g D cA p l e s m args below meth c A H locs ws lsB X O (z_lset L.2 rfl h2 hlB))
  · exact lv_istore_n hx hb hd rfl L.1 h1 rfl (fun lsB hlB => g D cA p l e s m args below meth c A H locs ws lsB X O (z_lset L.2 rfl h2 hlB))
theorem z_s_sta {kk : Nat} {x : Nat} (hi : (decode M.2.1 pc = .ok (.astore kk, 2) ∧ nx = pc + 2) ∨ (∃ f : Fin 4, f.val = kk ∧ decode M.2.1 pc = .ok (.astore_n f, 1) ∧ nx = pc + 1)) (hs : z_st M.2.2.1 ls kk (.ref x) st = some (ls', st')) (g : z_J Z M R k n Q nx ls' st' h) : z_J Z M R k n Q pc ls ((.ref x) :: st) h := by
  intro D cA p l e s m args below meth c A H locs ws lsA X O L
  obtain ⟨hx, hb, -⟩ := id X
  obtain ⟨h1, h2, rfl⟩ := z_st_sp hs
  rcases hi with ⟨hd, rfl⟩ | ⟨f, rfl, hd, rfl⟩
  · exact lv_astore hx hb hd L.1 h1 rfl (fun lsB hlB => g D cA p l e s m args below meth c A H locs ws lsB X O (z_lset L.2 rfl h2 hlB))
  · exact lv_astore_n hx hb hd rfl L.1 h1 rfl (fun lsB hlB => g D cA p l e s m args below meth c A H locs ws lsB X O (z_lset L.2 rfl h2 hlB))
theorem z_s_stn {kk : Nat} (hi : (decode M.2.1 pc = .ok (.astore kk, 2) ∧ nx = pc + 2) ∨ (∃ f : Fin 4, f.val = kk ∧ decode M.2.1 pc = .ok (.astore_n f, 1) ∧ nx = pc + 1)) (hs : z_st M.2.2.1 ls kk (.null) st = some (ls', st')) (g : z_J Z M R k n Q nx ls' st' h) : z_J Z M R k n Q pc ls ((.null) :: st) h := by
  intro D cA p l e s m args below meth c A H locs ws lsA X O L
  obtain ⟨hx, hb, -⟩ := id X
  obtain ⟨h1, h2, rfl⟩ := z_st_sp hs
  rcases hi with ⟨hd, rfl⟩ | ⟨f, rfl, hd, rfl⟩
  · exact lv_astoreN hx hb hd L.1 h1 rfl (fun lsB hlB => g D cA p l e s m args below meth c A H locs ws lsB X O (z_lset L.2 rfl h2 hlB))
  · exact lv_astore_nN hx hb hd rfl L.1 h1 rfl (fun lsB hlB => g D cA p l e s m args below meth c A H locs ws lsB X O (z_lset L.2 rfl h2 hlB))
theorem z_s_iinc {kk : Nat} {off : Int} {cv x : Int32} (hd : decode M.2.1 pc = .ok (.iinc kk off, 3)) (hn : nx = pc + 3) (hc : Int32.ofInt off = cv) (hl : ls[kk]? = some (.int x)) (hs : z_st M.2.2.1 ls kk (.int (x + cv)) st = some (ls', st')) (g : z_J Z M R k n Q nx ls' st' h) : z_J Z M R k n Q pc ls st h := by
  intro D cA p l e s m args below meth c A H locs ws lsA X O L
  obtain ⟨hx, hb, -⟩ := id X
  obtain ⟨h1, h2, rfl⟩ := z_st_sp hs
  subst hn
  exact lv_iinc (k := kk) (x := x) (v := x + cv) hx hb hd L.1 (by rw [z_lp_get, hl]; simp) (by rw [hc]) h1 rfl (fun lsB hlB => g D cA p l e s m args below meth c A H locs ws lsB X O (z_lset L.2 rfl h2 hlB))
theorem z_s_iadd {x y : Int32} (hd : decode M.2.1 pc = .ok (.iadd, 1)) (hn : nx = pc + 1) (g : z_J Z M R k n Q nx ls (.int (x + y) :: st) h) : z_J Z M R k n Q pc ls (.int y :: .int x :: st) h := by
  intro D cA p l e s m args below meth c A H locs ws lsA X O L
  obtain ⟨hx, hb, -⟩ := id X
  subst hn
  exact lv_iadd hx hb hd (g D cA p l e s m args below meth c A H locs ws lsA X O L)
theorem z_s_isub {x y : Int32} (hd : decode M.2.1 pc = .ok (.isub, 1)) (hn : nx = pc + 1) (g : z_J Z M R k n Q nx ls (.int (x - y) :: st) h) : z_J Z M R k n Q pc ls (.int y :: .int x :: st) h := by
  intro D cA p l e s m args below meth c A H locs ws lsA X O L
  obtain ⟨hx, hb, -⟩ := id X
  subst hn
  exact lv_isub hx hb hd (g D cA p l e s m args below meth c A H locs ws lsA X O L)
theorem z_s_imul {x y : Int32} (hd : decode M.2.1 pc = .ok (.imul, 1)) (hn : nx = pc + 1) (g : z_J Z M R k n Q nx ls (.int (x * y) :: st) h) : z_J Z M R k n Q pc ls (.int y :: .int x :: st) h := by
  intro D cA p l e s m args below meth c A H locs ws lsA X O L
  obtain ⟨hx, hb, -⟩ := id X
  subst hn
  exact lv_imul hx hb hd (g D cA p l e s m args below meth c A H locs ws lsA X O L)
theorem z_s_iand {x y : Int32} (hd : decode M.2.1 pc = .ok (.iand, 1)) (hn : nx = pc + 1) (g : z_J Z M R k n Q nx ls (.int (x &&& y) :: st) h) : z_J Z M R k n Q pc ls (.int y :: .int x :: st) h := by
  intro D cA p l e s m args below meth c A H locs ws lsA X O L
  obtain ⟨hx, hb, -⟩ := id X
  subst hn
  exact lv_iand hx hb hd (g D cA p l e s m args below meth c A H locs ws lsA X O L)
theorem z_s_ior {x y : Int32} (hd : decode M.2.1 pc = .ok (.ior, 1)) (hn : nx = pc + 1) (g : z_J Z M R k n Q nx ls (.int (x ||| y) :: st) h) : z_J Z M R k n Q pc ls (.int y :: .int x :: st) h := by
  intro D cA p l e s m args below meth c A H locs ws lsA X O L
  obtain ⟨hx, hb, -⟩ := id X
  subst hn
  exact lv_ior hx hb hd (g D cA p l e s m args below meth c A H locs ws lsA X O L)
theorem z_s_ixor {x y : Int32} (hd : decode M.2.1 pc = .ok (.ixor, 1)) (hn : nx = pc + 1) (g : z_J Z M R k n Q nx ls (.int (x ^^^ y) :: st) h) : z_J Z M R k n Q pc ls (.int y :: .int x :: st) h := by
  intro D cA p l e s m args below meth c A H locs ws lsA X O L
  obtain ⟨hx, hb, -⟩ := id X
  subst hn
  exact lv_ixor hx hb hd (g D cA p l e s m args below meth c A H locs ws lsA X O L)
theorem z_s_ishl {x y : Int32} (hd : decode M.2.1 pc = .ok (.ishl, 1)) (hn : nx = pc + 1) (g : z_J Z M R k n Q nx ls (.int (x <<< (y &&& 31)) :: st) h) : z_J Z M R k n Q pc ls (.int y :: .int x :: st) h := by
  intro D cA p l e s m args below meth c A H locs ws lsA X O L
  obtain ⟨hx, hb, -⟩ := id X
  subst hn
  exact lv_ishl hx hb hd (g D cA p l e s m args below meth c A H locs ws lsA X O L)
theorem z_s_ishr {x y : Int32} (hd : decode M.2.1 pc = .ok (.ishr, 1)) (hn : nx = pc + 1) (g : z_J Z M R k n Q nx ls (.int (x >>> (y &&& 31)) :: st) h) : z_J Z M R k n Q pc ls (.int y :: .int x :: st) h := by
  intro D cA p l e s m args below meth c A H locs ws lsA X O L
  obtain ⟨hx, hb, -⟩ := id X
  subst hn
  exact lv_ishr hx hb hd (g D cA p l e s m args below meth c A H locs ws lsA X O L)
theorem z_s_i2l {x : Int32} (hd : decode M.2.1 pc = .ok (.i2l, 1)) (hn : nx = pc + 1) (g : z_J Z M R k n Q nx ls (.long x.toInt64 :: st) h) : z_J Z M R k n Q pc ls (.int x :: st) h := by
  intro D cA p l e s m args below meth c A H locs ws lsA X O L
  obtain ⟨hx, hb, -⟩ := id X
  subst hn
  exact lv_i2l hx hb hd rfl (g D cA p l e s m args below meth c A H locs ws lsA X O L)
theorem z_s_dup {v : Value} (hd : decode M.2.1 pc = .ok (.dup, 1)) (hv : v.category = 1) (hn : nx = pc + 1) (g : z_J Z M R k n Q nx ls (v :: v :: st) h) : z_J Z M R k n Q pc ls (v :: st) h := by
  intro D cA p l e s m args below meth c A H locs ws lsA X O L
  obtain ⟨hx, hb, -⟩ := id X
  subst hn
  exact lv_dup hx hb hd hv (g D cA p l e s m args below meth c A H locs ws lsA X O L)
theorem z_s_dup2 {v u : Value} (hd : decode M.2.1 pc = .ok (.dup2, 1)) (hv : v.category = 1) (hu : u.category = 1) (hn : nx = pc + 1) (g : z_J Z M R k n Q nx ls (v :: u :: v :: u :: st) h) : z_J Z M R k n Q pc ls (v :: u :: st) h := by
  intro D cA p l e s m args below meth c A H locs ws lsA X O L
  obtain ⟨hx, hb, -⟩ := id X
  subst hn
  exact lv_dup2_11 hx hb hd hv hu (g D cA p l e s m args below meth c A H locs ws lsA X O L)
theorem z_s_dup_x1 {v u : Value} (hd : decode M.2.1 pc = .ok (.dup_x1, 1)) (hv : v.category = 1) (hu : u.category = 1) (hn : nx = pc + 1) (g : z_J Z M R k n Q nx ls (v :: u :: v :: st) h) : z_J Z M R k n Q pc ls (v :: u :: st) h := by
  intro D cA p l e s m args below meth c A H locs ws lsA X O L
  obtain ⟨hx, hb, -⟩ := id X
  subst hn
  exact lv_dup_x1 hx hb hd hv hu (g D cA p l e s m args below meth c A H locs ws lsA X O L)
theorem z_s_pop {v : Value} (hd : decode M.2.1 pc = .ok (.pop, 1)) (hv : v.category = 1) (hn : nx = pc + 1) (g : z_J Z M R k n Q nx ls (st) h) : z_J Z M R k n Q pc ls (v :: st) h := by
  intro D cA p l e s m args below meth c A H locs ws lsA X O L
  obtain ⟨hx, hb, -⟩ := id X
  subst hn
  exact lv_pop hx hb hd hv (g D cA p l e s m args below meth c A H locs ws lsA X O L)
theorem z_s_iconst {off : Int} {cv : Int32} (hd : decode M.2.1 pc = .ok (.iconst off, 1)) (hc : Int32.ofInt off = cv) (hn : nx = pc + 1) (g : z_J Z M R k n Q nx ls (.int cv :: st) h) : z_J Z M R k n Q pc ls (st) h := by
  intro D cA p l e s m args below meth c A H locs ws lsA X O L
  obtain ⟨hx, hb, -⟩ := id X
  subst hn
  exact lv_iconst hx hb hd hc (g D cA p l e s m args below meth c A H locs ws lsA X O L)
theorem z_s_null (hd : decode M.2.1 pc = .ok (.aconst_null, 1)) (hn : nx = pc + 1) (g : z_J Z M R k n Q nx ls (.null :: st) h) : z_J Z M R k n Q pc ls (st) h := by
  intro D cA p l e s m args below meth c A H locs ws lsA X O L
  obtain ⟨hx, hb, -⟩ := id X
  subst hn
  exact lv_null hx hb hd (g D cA p l e s m args below meth c A H locs ws lsA X O L)
theorem z_s_bipush {off : Int} {cv : Int32} (hd : decode M.2.1 pc = .ok (.bipush off, 2)) (hc : (Int8.ofInt off).toInt32 = cv) (hn : nx = pc + 2) (g : z_J Z M R k n Q nx ls (.int cv :: st) h) : z_J Z M R k n Q pc ls st h := by
  intro D cA p l e s m args below meth c A H locs ws lsA X O L
  obtain ⟨hx, hb, -⟩ := id X
  subst hn
  exact lv_bipush hx hb hd hc (g D cA p l e s m args below meth c A H locs ws lsA X O L)
theorem z_s_sipush {off : Int} {cv : Int32} (hd : decode M.2.1 pc = .ok (.sipush off, 3)) (hc : (Int16.ofInt off).toInt32 = cv) (hn : nx = pc + 3) (g : z_J Z M R k n Q nx ls (.int cv :: st) h) : z_J Z M R k n Q pc ls st h := by
  intro D cA p l e s m args below meth c A H locs ws lsA X O L
  obtain ⟨hx, hb, -⟩ := id X
  subst hn
  exact lv_sipush hx hb hd hc (g D cA p l e s m args below meth c A H locs ws lsA X O L)
theorem z_s_goto {off : Int} (hd : decode M.2.1 pc = .ok (.goto off, 3)) (ht : (pc : Int) + off = (nx : Int)) (g : z_J Z M R k n Q nx ls st h) : z_J Z M R k n Q pc ls st h := by
  intro D cA p l e s m args below meth c A H locs ws lsA X O L
  obtain ⟨hx, hb, -⟩ := id X
  exact lv_goto hx hb hd ht (g D cA p l e s m args below meth c A H locs ws lsA X O L)
theorem z_step_ok {i : ClassFile.Instr} {cv : Int32} (hk : z_ok1 M.2.1 pc i nx cv = true) (hs : z_step M.2.2.1 i cv ls st = some (ls', st')) (g : z_J Z M R k n Q nx ls' st' h) : z_J Z M R k n Q pc ls st h := by
  unfold z_step at hs
  split at hs
  all_goals (try (simp only [z_ok1, Bool.and_eq_true, decide_eq_true_eq, Nat.beq_eq] at hk))
  all_goals (try (simp only [Option.some.injEq, Prod.mk.injEq] at hs))
  · exact z_s_ldi (Or.inl ⟨hk.1, hk.2⟩) hs g
  · exact z_s_ldi (Or.inr ⟨_, rfl, hk.1, hk.2⟩) hs g
  · exact z_s_lda (Or.inl ⟨hk.1, hk.2⟩) hs g
  · exact z_s_lda (Or.inr ⟨_, rfl, hk.1, hk.2⟩) hs g
  · exact z_s_sti (Or.inl ⟨hk.1, hk.2⟩) hs g
  · exact z_s_sti (Or.inr ⟨_, rfl, hk.1, hk.2⟩) hs g
  · exact z_s_sta (Or.inl ⟨hk.1, hk.2⟩) hs g
  · exact z_s_sta (Or.inr ⟨_, rfl, hk.1, hk.2⟩) hs g
  · exact z_s_stn (Or.inl ⟨hk.1, hk.2⟩) hs g
  · exact z_s_stn (Or.inr ⟨_, rfl, hk.1, hk.2⟩) hs g
  · obtain ⟨rfl, rfl⟩ := hs; exact z_s_iconst hk.1.1 hk.2 hk.1.2 g
  · obtain ⟨rfl, rfl⟩ := hs; exact z_s_bipush hk.1.1 hk.2 hk.1.2 g
  · obtain ⟨rfl, rfl⟩ := hs; exact z_s_sipush hk.1.1 hk.2 hk.1.2 g
  · obtain ⟨rfl, rfl⟩ := hs; exact z_s_null hk.1 hk.2 g
  · split at hs
    · rename_i hl
      exact z_s_iinc hk.1.1 hk.1.2 hk.2 hl hs g
    · cases hs
  · obtain ⟨rfl, rfl⟩ := hs; exact z_s_iadd hk.1 hk.2 g
  · obtain ⟨rfl, rfl⟩ := hs; exact z_s_isub hk.1 hk.2 g
  · obtain ⟨rfl, rfl⟩ := hs; exact z_s_imul hk.1 hk.2 g
  · obtain ⟨rfl, rfl⟩ := hs; exact z_s_iand hk.1 hk.2 g
  · obtain ⟨rfl, rfl⟩ := hs; exact z_s_ior hk.1 hk.2 g
  · obtain ⟨rfl, rfl⟩ := hs; exact z_s_ixor hk.1 hk.2 g
  · obtain ⟨rfl, rfl⟩ := hs; exact z_s_ishl hk.1 hk.2 g
  · obtain ⟨rfl, rfl⟩ := hs; exact z_s_ishr hk.1 hk.2 g
  · obtain ⟨rfl, rfl⟩ := hs; exact z_s_i2l hk.1 hk.2 g
  · obtain ⟨rfl, rfl⟩ := hs; exact z_s_dup hk.1 rfl hk.2 g
  · obtain ⟨rfl, rfl⟩ := hs; exact z_s_dup hk.1 rfl hk.2 g
  · obtain ⟨rfl, rfl⟩ := hs; exact z_s_dup2 hk.1 rfl rfl hk.2 g
  · obtain ⟨rfl, rfl⟩ := hs; exact z_s_dup2 hk.1 rfl rfl hk.2 g
  · obtain ⟨rfl, rfl⟩ := hs; exact z_s_dup_x1 hk.1 rfl rfl hk.2 g
  · obtain ⟨rfl, rfl⟩ := hs; exact z_s_pop hk.1 rfl hk.2 g
  · obtain ⟨rfl, rfl⟩ := hs; exact z_s_pop hk.1 rfl hk.2 g
  · obtain ⟨rfl, rfl⟩ := hs; exact z_s_goto hk.1 hk.2 g
  · cases hs
theorem z_jr : ∀ (b : zB) {pc e : Nat} {ls ls' st st' : List Value}, z_ok M.2.1 pc b e = true → z_run M.2.2.1 b ls st = some (ls', st') → z_J Z M R k n Q e ls' st' h → z_J Z M R k n Q pc ls st h
  | [], pc, e, ls, ls', st, st', h1, h2, g => by
    simp only [z_ok, Nat.beq_eq] at h1
    simp only [z_run, Option.some.injEq, Prod.mk.injEq] at h2
    obtain ⟨rfl, rfl⟩ := h2
    subst h1
    exact g
  | t :: r, pc, e, ls, ls', st, st', h1, h2, g => by
    simp only [z_ok, Bool.and_eq_true, Nat.beq_eq] at h1
    simp only [z_run] at h2
    split at h2
    · rename_i q hq
      exact z_step_ok h1.1.2 hq (z_jr r h1.2 h2 g)
    · cases h2

theorem z_ic_eq {x y : Int32} {off : Int} {tgt : Nat} (hd : decode M.2.1 pc = .ok (.if_icmp .eq off, 3)) (ht : (pc : Int) + off = (tgt : Int)) (hn : pc + 3 = nx) (kt : x = y → z_J Z M R k n Q tgt ls st h) (kf : ¬ x = y → z_J Z M R k n Q nx ls st h) : z_J Z M R k n Q pc ls (.int y :: .int x :: st) h := by
  intro D cA p l e s m args below meth c A H locs ws lsA X O L
  obtain ⟨hx, hb, -⟩ := id X
  subst hn
  exact lv_icmp_eq hx hb hd ht (fun q => kt q D cA p l e s m args below meth c A H locs ws lsA X O L) (fun q => kf q D cA p l e s m args below meth c A H locs ws lsA X O L)
theorem z_ic_ne {x y : Int32} {off : Int} {tgt : Nat} (hd : decode M.2.1 pc = .ok (.if_icmp .ne off, 3)) (ht : (pc : Int) + off = (tgt : Int)) (hn : pc + 3 = nx) (kt : ¬ x = y → z_J Z M R k n Q tgt ls st h) (kf : x = y → z_J Z M R k n Q nx ls st h) : z_J Z M R k n Q pc ls (.int y :: .int x :: st) h := by
  intro D cA p l e s m args below meth c A H locs ws lsA X O L
  obtain ⟨hx, hb, -⟩ := id X
  subst hn
  exact lv_icmp_ne hx hb hd ht (fun q => kt q D cA p l e s m args below meth c A H locs ws lsA X O L) (fun q => kf q D cA p l e s m args below meth c A H locs ws lsA X O L)
theorem z_ic_lt {x y : Int32} {off : Int} {tgt : Nat} (hd : decode M.2.1 pc = .ok (.if_icmp .lt off, 3)) (ht : (pc : Int) + off = (tgt : Int)) (hn : pc + 3 = nx) (kt : x < y → z_J Z M R k n Q tgt ls st h) (kf : ¬ x < y → z_J Z M R k n Q nx ls st h) : z_J Z M R k n Q pc ls (.int y :: .int x :: st) h := by
  intro D cA p l e s m args below meth c A H locs ws lsA X O L
  obtain ⟨hx, hb, -⟩ := id X
  subst hn
  exact lv_icmp_lt hx hb hd ht (fun q => kt q D cA p l e s m args below meth c A H locs ws lsA X O L) (fun q => kf q D cA p l e s m args below meth c A H locs ws lsA X O L)
theorem z_ic_ge {x y : Int32} {off : Int} {tgt : Nat} (hd : decode M.2.1 pc = .ok (.if_icmp .ge off, 3)) (ht : (pc : Int) + off = (tgt : Int)) (hn : pc + 3 = nx) (kt : y ≤ x → z_J Z M R k n Q tgt ls st h) (kf : ¬ y ≤ x → z_J Z M R k n Q nx ls st h) : z_J Z M R k n Q pc ls (.int y :: .int x :: st) h := by
  intro D cA p l e s m args below meth c A H locs ws lsA X O L
  obtain ⟨hx, hb, -⟩ := id X
  subst hn
  exact lv_icmp_ge hx hb hd ht (fun q => kt q D cA p l e s m args below meth c A H locs ws lsA X O L) (fun q => kf q D cA p l e s m args below meth c A H locs ws lsA X O L)
theorem z_ic_gt {x y : Int32} {off : Int} {tgt : Nat} (hd : decode M.2.1 pc = .ok (.if_icmp .gt off, 3)) (ht : (pc : Int) + off = (tgt : Int)) (hn : pc + 3 = nx) (kt : y < x → z_J Z M R k n Q tgt ls st h) (kf : ¬ y < x → z_J Z M R k n Q nx ls st h) : z_J Z M R k n Q pc ls (.int y :: .int x :: st) h := by
  intro D cA p l e s m args below meth c A H locs ws lsA X O L
  obtain ⟨hx, hb, -⟩ := id X
  subst hn
  exact lv_icmp_gt hx hb hd ht (fun q => kt q D cA p l e s m args below meth c A H locs ws lsA X O L) (fun q => kf q D cA p l e s m args below meth c A H locs ws lsA X O L)
theorem z_ic_le {x y : Int32} {off : Int} {tgt : Nat} (hd : decode M.2.1 pc = .ok (.if_icmp .le off, 3)) (ht : (pc : Int) + off = (tgt : Int)) (hn : pc + 3 = nx) (kt : x ≤ y → z_J Z M R k n Q tgt ls st h) (kf : ¬ x ≤ y → z_J Z M R k n Q nx ls st h) : z_J Z M R k n Q pc ls (.int y :: .int x :: st) h := by
  intro D cA p l e s m args below meth c A H locs ws lsA X O L
  obtain ⟨hx, hb, -⟩ := id X
  subst hn
  exact lv_icmp_le hx hb hd ht (fun q => kt q D cA p l e s m args below meth c A H locs ws lsA X O L) (fun q => kf q D cA p l e s m args below meth c A H locs ws lsA X O L)
theorem z_if_eq {x : Int32} {off : Int} {tgt : Nat} (hd : decode M.2.1 pc = .ok (.ifCond .eq off, 3)) (ht : (pc : Int) + off = (tgt : Int)) (hn : pc + 3 = nx) (kt : x = 0 → z_J Z M R k n Q tgt ls st h) (kf : ¬ x = 0 → z_J Z M R k n Q nx ls st h) : z_J Z M R k n Q pc ls (.int x :: st) h := by
  intro D cA p l e s m args below meth c A H locs ws lsA X O L
  obtain ⟨hx, hb, -⟩ := id X
  subst hn
  exact lv_if_eq hx hb hd ht (fun q => kt q D cA p l e s m args below meth c A H locs ws lsA X O L) (fun q => kf q D cA p l e s m args below meth c A H locs ws lsA X O L)
theorem z_if_ne {x : Int32} {off : Int} {tgt : Nat} (hd : decode M.2.1 pc = .ok (.ifCond .ne off, 3)) (ht : (pc : Int) + off = (tgt : Int)) (hn : pc + 3 = nx) (kt : ¬ x = 0 → z_J Z M R k n Q tgt ls st h) (kf : x = 0 → z_J Z M R k n Q nx ls st h) : z_J Z M R k n Q pc ls (.int x :: st) h := by
  intro D cA p l e s m args below meth c A H locs ws lsA X O L
  obtain ⟨hx, hb, -⟩ := id X
  subst hn
  exact lv_if_ne hx hb hd ht (fun q => kt q D cA p l e s m args below meth c A H locs ws lsA X O L) (fun q => kf q D cA p l e s m args below meth c A H locs ws lsA X O L)
theorem z_if_lt {x : Int32} {off : Int} {tgt : Nat} (hd : decode M.2.1 pc = .ok (.ifCond .lt off, 3)) (ht : (pc : Int) + off = (tgt : Int)) (hn : pc + 3 = nx) (kt : x < 0 → z_J Z M R k n Q tgt ls st h) (kf : ¬ x < 0 → z_J Z M R k n Q nx ls st h) : z_J Z M R k n Q pc ls (.int x :: st) h := by
  intro D cA p l e s m args below meth c A H locs ws lsA X O L
  obtain ⟨hx, hb, -⟩ := id X
  subst hn
  exact lv_if_lt hx hb hd ht (fun q => kt q D cA p l e s m args below meth c A H locs ws lsA X O L) (fun q => kf q D cA p l e s m args below meth c A H locs ws lsA X O L)
theorem z_if_ge {x : Int32} {off : Int} {tgt : Nat} (hd : decode M.2.1 pc = .ok (.ifCond .ge off, 3)) (ht : (pc : Int) + off = (tgt : Int)) (hn : pc + 3 = nx) (kt : 0 ≤ x → z_J Z M R k n Q tgt ls st h) (kf : ¬ 0 ≤ x → z_J Z M R k n Q nx ls st h) : z_J Z M R k n Q pc ls (.int x :: st) h := by
  intro D cA p l e s m args below meth c A H locs ws lsA X O L
  obtain ⟨hx, hb, -⟩ := id X
  subst hn
  exact lv_if_ge hx hb hd ht (fun q => kt q D cA p l e s m args below meth c A H locs ws lsA X O L) (fun q => kf q D cA p l e s m args below meth c A H locs ws lsA X O L)
theorem z_if_gt {x : Int32} {off : Int} {tgt : Nat} (hd : decode M.2.1 pc = .ok (.ifCond .gt off, 3)) (ht : (pc : Int) + off = (tgt : Int)) (hn : pc + 3 = nx) (kt : 0 < x → z_J Z M R k n Q tgt ls st h) (kf : ¬ 0 < x → z_J Z M R k n Q nx ls st h) : z_J Z M R k n Q pc ls (.int x :: st) h := by
  intro D cA p l e s m args below meth c A H locs ws lsA X O L
  obtain ⟨hx, hb, -⟩ := id X
  subst hn
  exact lv_if_gt hx hb hd ht (fun q => kt q D cA p l e s m args below meth c A H locs ws lsA X O L) (fun q => kf q D cA p l e s m args below meth c A H locs ws lsA X O L)
theorem z_if_le {x : Int32} {off : Int} {tgt : Nat} (hd : decode M.2.1 pc = .ok (.ifCond .le off, 3)) (ht : (pc : Int) + off = (tgt : Int)) (hn : pc + 3 = nx) (kt : x ≤ 0 → z_J Z M R k n Q tgt ls st h) (kf : ¬ x ≤ 0 → z_J Z M R k n Q nx ls st h) : z_J Z M R k n Q pc ls (.int x :: st) h := by
  intro D cA p l e s m args below meth c A H locs ws lsA X O L
  obtain ⟨hx, hb, -⟩ := id X
  subst hn
  exact lv_if_le hx hb hd ht (fun q => kt q D cA p l e s m args below meth c A H locs ws lsA X O L) (fun q => kf q D cA p l e s m args below meth c A H locs ws lsA X O L)
theorem z_ifnull {a : Nat} {off : Int} (hd : decode M.2.1 pc = .ok (.ifnull off, 3)) (hn : pc + 3 = nx) (g : z_J Z M R k n Q nx ls st h) : z_J Z M R k n Q pc ls (.ref a :: st) h := by
  intro D cA p l e s m args below meth c A H locs ws lsA X O L
  obtain ⟨hx, hb, -⟩ := id X
  subst hn
  exact lv_ifnull hx hb hd (g D cA p l e s m args below meth c A H locs ws lsA X O L)
theorem z_ifnullN {off : Int} {tgt : Nat} (hd : decode M.2.1 pc = .ok (.ifnull off, 3)) (ht : (pc : Int) + off = (tgt : Int)) (g : z_J Z M R k n Q tgt ls st h) : z_J Z M R k n Q pc ls (.null :: st) h := by
  intro D cA p l e s m args below meth c A H locs ws lsA X O L
  obtain ⟨hx, hb, -⟩ := id X
  exact lv_ifnullN hx hb hd ht (g D cA p l e s m args below meth c A H locs ws lsA X O L)
theorem z_acmp_eq {a : Nat} {off : Int} {tgt : Nat} (hd : decode M.2.1 pc = .ok (.if_acmp .eq off, 3)) (ht : (pc : Int) + off = (tgt : Int)) (g : z_J Z M R k n Q tgt ls st h) : z_J Z M R k n Q pc ls (.ref a :: .ref a :: st) h := by
  intro D cA p l e s m args below meth c A H locs ws lsA X O L
  obtain ⟨hx, hb, -⟩ := id X
  exact lv_acmp_eq (rx := some a) (ry := some a) hx hb hd ht (fun _ => g D cA p l e s m args below meth c A H locs ws lsA X O L) (fun q => absurd rfl q)
theorem z_lcmp_id {x y : Int64} (hd : decode M.2.1 pc = .ok (.lcmp, 1)) (hn : pc + 1 = nx) (g : z_J Z M R k n Q nx ls (.int (lg_cmp x y) :: st) h) : z_J Z M R k n Q pc ls (.long y :: .long x :: st) h := by
  intro D cA p l e s m args below meth c A H locs ws lsA X O L
  obtain ⟨hx, hb, -⟩ := id X
  subst hn
  exact W.lcmp hx hb hd (g D cA p l e s m args below meth c A H locs ws lsA X O L)
end ZR
