/-! ===== the judgement over an abstract heap: definitions ===== -/
/-- an abstract cell: an array (its kind, its length, its contents) or an object (its class in vwCl, its fields) -/
abbrev zE : Type := (Nat × vp_A) ⊕ (Nat × List Value)
/-- an abstract heap: by a number of our own (a role), the address and the cell -/
abbrev zH : Type := Nat → Option (Nat × zE)
/-- a method: name, bytes, locals, return type, handlers -/
abbrev zM : Type := MethodName × ByteArray × Nat × Option FieldType × List (Nat × Nat × Nat × Nat)
abbrev zO : Type := Option Value ⊕ String
/-- what stands outside: the script's address, length, ints; ArrayList's empty array -/
abbrev zZ : Type := Nat × Nat × (Nat → Int32) × Nat
/-- a straight instruction: its place, itself, the next place, its constant -/
abbrev zB : Type := List (Nat × ClassFile.Instr × Nat × Int32)
def z_cv (cA : Nat → ClassId) : zE → va_E
  | .inl x => .inl (cA x.1, x.2)
  | .inr o => .inr o
def z_C (cA : Nat → ClassId) (h : zH) (ws : va_W) : Prop :=
  (∀ r a e, h r = some (a, e) → (a, z_cv cA e) ∈ ws) ∧ ∀ r r' a e e', h r = some (a, e) → h r' = some (a, e') → r = r'
abbrev z_tys (cA : Nat → ClassId) : List (ClassId × FieldType) := [(cA 0, .int), (cA 1, .byte), (cA 2, .byte), (cA 3, .array .int), (cA 4, .object "RightsCounter$History"), (cA 5, .object "java/lang/Object")]
def z_G : List Cond := lw_tbl.filter goodWord
def z_lp : Nat → List Value → List (Nat × Value)
  | _, [] => []
  | i, v :: r => (i, v) :: z_lp (i + 1) r
def z_L (lsA : Array Slot) (n : Nat) (ls : List Value) : Prop := lv_has lsA n (z_lp 0 ls) ∧ ∀ v ∈ ls, v.category = 1
/-! ===== locals ===== -/
theorem z_lp_get : ∀ (ls : List Value) (i k : Nat), (z_lp i ls)[k]? = (ls[k]?).map (fun v => (i + k, v))
  | [], i, k => by simp [z_lp]
  | v :: r, i, 0 => by simp [z_lp]
  | v :: r, i, k + 1 => by
    simp only [z_lp, List.getElem?_cons_succ]
    rw [z_lp_get r (i + 1) k]
    simp [Nat.add_assoc, Nat.add_comm 1 k]
theorem z_lp_mem {ls : List Value} {i : Nat} {q : Nat × Value} : q ∈ z_lp i ls ↔ ∃ k, ls[k]? = some q.2 ∧ q.1 = i + k := by
  constructor
  · intro h
    obtain ⟨k, hk⟩ := List.getElem?_of_mem h
    rw [z_lp_get] at hk
    cases hv : ls[k]? with
    | none => rw [hv] at hk; cases hk
    | some v => rw [hv] at hk; cases hk; exact ⟨k, hv, rfl⟩
  · rintro ⟨k, h1, h2⟩
    have h3 : (z_lp i ls)[k]? = some q := by
      rw [z_lp_get, h1]
      show some (i + k, q.2) = some q
      rw [← h2]
    exact List.mem_of_getElem? h3
theorem z_lat {lsA : Array Slot} {n : Nat} {ls : List Value} (h : z_L lsA n ls) {k : Nat} {v : Value} (hk : ls[k]? = some v) : lsA[k]? = some (.val v) := by
  refine lv_at h.1 k (i := k) (v := v) ?_
  rw [z_lp_get, hk]
  simp
def z_up : List Value → Nat → Value → Option (List Value)
  | [], 0, x => some [x]
  | [], _ + 1, _ => none
  | _ :: r, 0, x => some (x :: r)
  | v :: r, i + 1, x => match z_up r i x with
    | some r' => some (v :: r')
    | none => none
theorem z_up_at : ∀ (ls ls' : List Value) (i : Nat) (x : Value), z_up ls i x = some ls' → ∀ k v, ls'[k]? = some v → (k = i ∧ v = x) ∨ (k ≠ i ∧ ls[k]? = some v)
  | [], ls', 0, x, h, k, v, hk => by
    simp only [z_up, Option.some.injEq] at h
    subst h
    cases k with
    | zero => simp at hk; exact Or.inl ⟨rfl, hk.symm⟩
    | succ k => simp at hk
  | [], ls', i + 1, x, h, k, v, hk => by simp [z_up] at h
  | w :: r, ls', 0, x, h, k, v, hk => by
    simp only [z_up, Option.some.injEq] at h
    subst h
    cases k with
    | zero => simp at hk; exact Or.inl ⟨rfl, hk.symm⟩
    | succ k => exact Or.inr ⟨by omega, by simpa using hk⟩
  | w :: r, ls', i + 1, x, h, k, v, hk => by
    simp only [z_up] at h
    split at h
    · rename_i r' hr
      simp only [Option.some.injEq] at h
      subst h
      cases k with
      | zero => exact Or.inr ⟨by omega, by simpa using hk⟩
      | succ k =>
        rcases z_up_at r r' i x hr k v (by simpa using hk) with ⟨h1, h2⟩ | ⟨h1, h2⟩
        · exact Or.inl ⟨by omega, h2⟩
        · exact Or.inr ⟨by omega, by simpa using h2⟩
    · cases h
theorem z_lset {lsA : Array Slot} {n i : Nat} {x : Value} {ls ls' : List Value} (hc : ∀ v ∈ ls, v.category = 1) (hx : x.category = 1) (hu : z_up ls i x = some ls')
    (h : lv_has lsA n ((i, x) :: (z_lp 0 ls).filter (fun q => !(q.1 == i) && !(q.1 + 1 == i && q.2.category == 2)))) : z_L lsA n ls' := by
  refine ⟨⟨h.1, h.2.1, fun q hq => ?_⟩, fun v hv => ?_⟩
  · obtain ⟨k, h1, h2⟩ := z_lp_mem.mp hq
    rw [Nat.zero_add] at h2
    rcases z_up_at ls ls' i x hu k q.2 h1 with ⟨h3, h4⟩ | ⟨h3, h4⟩
    · refine h.2.2 q ?_
      have : q = (i, x) := by rw [← h4, ← h3, ← h2]
      rw [this]
      exact List.mem_cons_self
    · refine h.2.2 q (List.mem_cons_of_mem _ (List.mem_filter.mpr ⟨z_lp_mem.mpr ⟨k, h4, by omega⟩, ?_⟩))
      have h5 := hc q.2 (List.mem_of_getElem? h4)
      simp [h5]
      omega
  · obtain ⟨k, hk⟩ := List.getElem?_of_mem hv
    rcases z_up_at ls ls' i x hu k v hk with ⟨-, h4⟩ | ⟨-, h4⟩
    · rw [h4]; exact hx
    · exact hc v (List.mem_of_getElem? h4)
theorem z_Lsub {lsA : Array Slot} {n : Nat} {ls : List Value} (k : Nat) (h : z_L lsA n ls) : z_L lsA n (ls.take k) := by
  refine ⟨⟨h.1.1, h.1.2.1, fun q hq => ?_⟩, fun v hv => h.2 v (List.mem_of_mem_take hv)⟩
  obtain ⟨j, h1, h2⟩ := z_lp_mem.mp hq
  refine h.1.2.2 q (z_lp_mem.mpr ⟨j, ?_, h2⟩)
  rw [List.getElem?_take] at h1
  split at h1
  · exact h1
  · cases h1
theorem z_entry (vs : List Value) {n : Nat} (hc : ∀ v ∈ vs, v.category = 1) (hn : (lg_sl vs).length ≤ n) : z_L ((lg_sl vs ++ List.replicate (n - (lg_sl vs).length) Slot.unset).toArray) n vs := by
  have h := lv_entry vs (n := n) hn
  have key : ∀ (l : List Value) (i : Nat), (∀ v ∈ l, v.category = 1) → lv_args i l = z_lp i l := by
    intro l
    induction l with
    | nil => intro i _; simp [lv_args, z_lp]
    | cons v r ih =>
      intro i hl
      have h1 := hl v List.mem_cons_self
      have h2 := ih (i + 1) (fun w hw => hl w (List.mem_cons_of_mem _ hw))
      simp only [lv_args, z_lp, h1]
      rw [if_neg (by decide), h2]
  rw [key vs 0 hc] at h
  exact ⟨h, hc⟩
