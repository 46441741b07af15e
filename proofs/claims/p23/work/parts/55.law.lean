/-! ===== the law ===== -/
def x_u (k : Nat) : zLx := (z_zero, z_zero, fun _ => some 0, z_zero, n_fill z_zero 1 k, z_zero, z_zero)
theorem x_u_li : z_li s_0 (x_u 5) := by
  refine ⟨⟨Nat.zero_le _, rfl, rfl, Nat.zero_le _⟩, fun k hk => absurd hk (Nat.not_lt_zero k), fun k hk => absurd hk (Nat.not_lt_zero k), fun p _ => rfl, ⟨?_, fun k hk => absurd hk (Nat.not_lt_zero k)⟩, fun k hk => absurd hk (Nat.not_lt_zero k), fun m p hm => absurd hm (Nat.not_lt_zero m)⟩
  show (0 : Nat) < 2 ^ 0
  decide
theorem z_zf : (fun _ : Nat => (0 : Int32)) = fun k => nI (z_zero k) := rfl
theorem z_zfo : (fun _ : Nat => (0 : Int32)) = fun _ => n_o (some 0) := rfl
abbrev l_ll (a0 a1 : Nat) (la : Nat → Nat) : List Value := [.ref a0, .ref a1, .ref (la 700), .ref (la 701), .ref (la 702), .ref (la 703), .ref (la 704), .ref (la 705), .ref (la 706), .ref (la 707), .ref (la 708), .ref (la 709)]
abbrev z_RL (R : Room) : Prop := 12 ≤ R.frames ∧ 258 ≤ R.locals
section ZLaw
variable {Z : zZ} {h : zH} {a1 : Nat} {la : Nat → Nat} {σ : zSt} {x : zLx} {y : zLy} {R : Room} {k n : Nat} {Q : zO → zH → Prop}
/-- the cores of a unit -/
theorem l_law_u (hq : ∀ g, z_lw Z g a1 la s_0 (x_u 5) y → z_J Z mlaw R k n Q 83 (l_ll Z.1 a1 la ++ [.int (nI 5)]) [] g) :
    ∀ m i g, i + m = 5 → z_lw Z g a1 la s_0 (x_u i) y → z_J Z mlaw R k n Q 65 (l_ll Z.1 a1 la ++ [.int (nI i)]) [] g := by
  intro m
  induction m with
  | zero =>
    intro i g hi W
    obtain rfl : i = 5 := by omega
    refine ilaw_65 rfl ?_
    refine ilaw_68 (fun _ => hq g W) (fun cc => absurd (Int32.le_refl _) cc)
  | succ m ih =>
    intro i g hi W
    refine ilaw_65 rfl ?_
    refine ilaw_68 (fun cc => ?_) (fun cc => ?_)
    · have := n_le cc; omega
    refine ilaw_71 rfl ?_
    refine ilaw_76 W.2.1.2.2.2.2.1 rfl (by omega) (by omega) ?_
    rw [n_upd]
    have W1 := W.put (fun r hr => z_u_n (by omega)) (W.2.putU i 1)
    have e : x_putU (x_u i) i 1 = x_u (i + 1) := by
      unfold x_putU x_u
      have e2 : nu (n_fill z_zero 1 i) i 1 = n_fill z_zero 1 (i + 1) := by
        funext j
        unfold nu n_fill
        by_cases c : j = i
        · rw [if_pos c, if_pos (by omega)]
        · rw [if_neg c]
          by_cases c2 : j < i
          · rw [if_pos c2, if_pos (by omega)]
          · rw [if_neg c2, if_neg (by omega)]
      show (_, _, _, _, nu (n_fill z_zero 1 i) i 1, _, _) = _
      rw [e2]
    rw [e] at W1
    refine ilaw_77 rfl ?_
    have ih := ih (i + 1) _ (by omega) W1
    rw [← nI_add i 1] at ih
    exact ih
/-- one turn, behind what it did -/
theorem l_law_told {t : Nat} {vx vy vz : Int32} {va : Value} (W : z_lw Z h a1 la σ x y) (I : z_li σ x) (hRL : z_RL R) (ht : t < 45) (hk : k + 700 ≤ R.cells) (hn : n + 4200 ≤ R.slots)
    (hq : ∀ g σ x y, z_li σ x → z_lw Z g a1 la σ x y → z_J Z mlaw R (k + 700) (n + 4200) Q 115 (l_ll Z.1 a1 la ++ [.int (nI (t + 1))]) [] g) :
    z_J Z mlaw R k n Q 263 (l_ll Z.1 a1 la ++ [.int (nI t), .int vx, .int vy, .int vz, va]) [] h := by
  obtain ⟨r1, r2⟩ := hRL
  have J : ∀ b : Bool, z_J Z mlaw R k n Q 302 (l_ll Z.1 a1 la ++ [.int (nI t), .int vx, .int vy, .int vz, va]) [.int (zb b), .ref (la 709), .ref (la 708), .ref (la 707), .ref (la 706), .ref (la 705), .ref (la 704), .ref (la 703), .ref (la 702), .ref (la 701), .ref (la 700), .int ((vx >>> (nI 5 &&& 31)) ^^^ vy), .ref a1] h := fun b => by
    refine ilaw_302 (R' := (zR 11 220 700 4200)) rfl rfl ⟨Nat.le_trans (by decide) r1, Nat.le_trans (by decide) r2, by show k + 700 ≤ R.cells; omega, by show n + 4200 ≤ R.slots; omega⟩ (c_L_isTold (b := b) W I) (fun v h' w9 => ?_) (fun E h' w9 => by cases w9.1)
    obtain ⟨w1, σ', x', y', I', W'⟩ := w9
    cases w1
    refine ilaw_305 (fun _ => ?_) (fun cc => absurd (show (1 : Int32) = 0 from cc) (by decide))
    refine ilaw_310 rfl ?_
    refine z_J.take 13 ?_
    have hq := hq h' σ' x' y' I' W'
    rw [← nI_add t 1] at hq
    exact hq
  refine ilaw_263 rfl ?_
  show z_J Z mlaw R k n Q 292 (l_ll Z.1 a1 la ++ [.int (nI t), .int vx, .int vy, .int vz, va]) [.int (nI 4), .int (nI t), .ref (la 709), .ref (la 708), .ref (la 707), .ref (la 706), .ref (la 705), .ref (la 704), .ref (la 703), .ref (la 702), .ref (la 701), .ref (la 700), .int ((vx >>> (nI 5 &&& 31)) ^^^ vy), .ref a1] h
  refine ilaw_292 (by decide) ?_
  refine ilaw_293 rfl ?_
  refine ilaw_294 (fun _ => ?_) (fun _ => ?_)
  · refine ilaw_301 rfl ?_
    exact J false
  · refine ilaw_297 rfl ?_
    exact J true
theorem l_law_act {t A : Nat} {vx vy vz : Int32} (W : z_lw Z h a1 la σ x y) (I : z_li σ x) (hRL : z_RL R) (ht : t < 45) (hA : A < 100) (hk : k + 921 ≤ R.cells) (hn : n + 5786 ≤ R.slots)
    (hq : ∀ g σ x y, z_li σ x → z_lw Z g a1 la σ x y → z_J Z mlaw R (k + 921) (n + 5786) Q 115 (l_ll Z.1 a1 la ++ [.int (nI (t + 1))]) [] g) :
    z_J Z mlaw R k n Q 196 (l_ll Z.1 a1 la ++ [.int (nI t), .int vx, .int vy, .int vz]) [.int (nI A)] h := by
  obtain ⟨r1, r2⟩ := id hRL
  have G : ∀ g σ x y, z_li σ x → z_lw Z g a1 la σ x y → z_J Z mlaw R (k + 221) (n + 1586) Q 263 (l_ll Z.1 a1 la ++ [.int (nI t), .int vx, .int vy, .int vz, .int (nI A)]) [] g := fun g σ x y I W => l_law_told W I hRL ht (by omega) (by omega) hq
  refine ilaw_196 rfl ?_
  show z_J Z mlaw R k n Q 201 (l_ll Z.1 a1 la ++ [.int (nI t), .int vx, .int vy, .int vz, .int (nI A)]) [.int (nI 5), .int (nI A)] h
  refine ilaw_201 (fun cc => ?_) (fun cc => ?_)
  · have cc := n_le cc
    have J : ∀ B, B < 1000 → z_J Z mlaw R k n Q 243 (l_ll Z.1 a1 la ++ [.int (nI t), .int vx, .int vy, .int vz, .int (nI A)]) [.int (nI B), .ref a1] h := fun B hB => by
      refine ilaw_243 rfl ?_
      refine ilaw_257 (R' := (zR 10 176 221 1586)) rfl rfl ⟨Nat.le_trans (by decide) r1, Nat.le_trans (by decide) r2, by show k + 221 ≤ R.cells; omega, by show n + 1586 ≤ R.slots; omega⟩ (c_L_machines (act := B) (vy := vy) (vz := vz) W I hB) (fun v h' w9 => ?_) (fun E h' w9 => by cases w9.1)
      obtain ⟨w1, σ', x', I', W'⟩ := w9
      cases w1
      refine ilaw_260 (fun cc => absurd (show (1 : Int32) = 0 from cc) (by decide)) (fun _ => ?_)
      exact G h' σ' x' y I' W'
    refine ilaw_224 rfl ?_
    show z_J Z mlaw R k n Q 231 (l_ll Z.1 a1 la ++ [.int (nI t), .int vx, .int vy, .int vz, .int (nI A)]) [.int (nI 12), .int (nI A - nI 5), .ref a1] h
    refine ilaw_231 (fun _ => ?_) (fun _ => ?_)
    · refine ilaw_241 rfl ?_
      exact J 6 (by omega)
    · refine ilaw_234 rfl ?_
      show z_J Z mlaw R k n Q 243 (l_ll Z.1 a1 la ++ [.int (nI t), .int vx, .int vy, .int vz, .int (nI A)]) [.int (nI A - nI 5), .ref a1] h
      rw [pk_sub (by omega)]
      exact J _ (by omega)
  · refine ilaw_204 rfl ?_
    refine ilaw_215 (R' := (zR 9 161 119 747)) rfl rfl ⟨Nat.le_trans (by decide) r1, Nat.le_trans (by decide) r2, by show k + 119 ≤ R.cells; omega, by show n + 747 ≤ R.slots; omega⟩ (c_L_rights (act := A) (vy := vy) (vz := vz) W I (by omega)) (fun v h' w9 => ?_) (fun E h' w9 => by cases w9.1)
    obtain ⟨w1, σ', x', I', W'⟩ := w9
    cases w1
    refine ilaw_218 (fun cc => absurd (show (1 : Int32) = 0 from cc) (by decide)) (fun _ => ?_)
    refine ilaw_221 rfl ?_
    refine z_J.widen (k + 221) (n + 1586) (by show k + 119 ≤ _; omega) (by show n + 747 ≤ _; omega) ?_
    exact G h' σ' x' y I' W'
theorem l_law (hRL : z_RL R) (hL : Z.2.1 < 100000) (hq : ∀ g, Q (.inl (some (.int 1))) g) :
    ∀ m t k n (g : zH) (σ : zSt) (x : zLx) (y : zLy), t + m = 45 → k + 921 * m ≤ R.cells → n + 5786 * m ≤ R.slots → z_li σ x → z_lw Z g a1 la σ x y → z_J Z mlaw R k n Q 115 (l_ll Z.1 a1 la ++ [.int (nI t)]) [] g := by
  obtain ⟨r1, r2⟩ := id hRL
  intro m
  induction m with
  | zero =>
    intro t k n g σ x y ht hk hn I W
    obtain rfl : t = 45 := by omega
    refine ilaw_115 rfl ?_
    refine ilaw_119 (fun _ => ?_) (fun cc => absurd (Int32.le_refl _) cc)
    refine ilaw_316 rfl ?_
    exact ilaw_317 rfl (by omega) (by omega) (hq g)
  | succ m ih =>
    intro t k n g σ x y ht hk hn I W
    rw [Nat.mul_succ] at hk hn
    generalize 921 * m = K at hk ih
    generalize 5786 * m = N at hn ih
    have hk1 : k + 921 ≤ R.cells := Nat.le_trans (Nat.add_le_add_left (Nat.le_add_left 921 K) k) hk
    have hn1 : n + 5786 ≤ R.slots := Nat.le_trans (Nat.add_le_add_left (Nat.le_add_left 5786 N) n) hn
    have hk2 : k + 921 + K ≤ R.cells := by omega
    have hn2 : n + 5786 + N ≤ R.slots := by omega
    have hA : ∀ (vx vy vz : Int32) (A : Nat), A < 100 → z_J Z mlaw R k n Q 196 (l_ll Z.1 a1 la ++ [.int (nI t), .int vx, .int vy, .int vz]) [.int (nI A)] g := fun vx vy vz A hA => l_law_act W I hRL (by omega) hA hk1 hn1 (fun g' σ' x' y' I' W' => ih (t + 1) (k + 921) (n + 5786) g' σ' x' y' (by omega) hk2 hn2 I' W')
    refine ilaw_115 rfl ?_
    refine ilaw_119 (fun cc => ?_) (fun cc => ?_)
    · have := n_le cc; omega
    have rmc : ∀ k' n', k' ≤ R.cells → n' ≤ R.slots → z_rm R (zR 0 0 0 0) 2 k' n' := fun k' n' q1 q2 => ⟨Nat.le_trans (by decide) r1, Nat.le_trans (by decide) r2, q1, q2⟩
    refine ilaw_122 rfl ?_
    show z_J Z mlaw R k n Q 127 (l_ll Z.1 a1 la ++ [.int (nI t)]) [.int (nI 3 * nI t), .ref Z.1] g
    rw [pk_mul]
    refine ilaw_127 (R' := (zR 0 0 0 0)) rfl rfl (rmc k n (by omega) (by omega)) (c_L_cell (k := 3 * t) (by omega) (by omega)) (fun v h' w => ?_) (fun E h' w => by obtain ⟨-, v, w⟩ := w; cases w)
    obtain ⟨rfl, vx, w⟩ := w
    cases w
    refine ilaw_130 rfl ?_
    show z_J Z mlaw R k n Q 139 (l_ll Z.1 a1 la ++ [.int (nI t), .int vx]) [.int (nI 3 * nI t + nI 1), .ref Z.1] h'
    rw [pk_mul, nI_add]
    refine ilaw_139 (R' := (zR 0 0 0 0)) rfl rfl (rmc k n (by omega) (by omega)) (c_L_cell (k := 3 * t + 1) (by omega) (by omega)) (fun v h'' w => ?_) (fun E h'' w => by obtain ⟨-, v, w⟩ := w; cases w)
    obtain ⟨rfl, vy, w⟩ := w
    cases w
    refine ilaw_142 rfl ?_
    show z_J Z mlaw R k n Q 151 (l_ll Z.1 a1 la ++ [.int (nI t), .int vx, .int vy]) [.int (nI 3 * nI t + nI 2), .ref Z.1] h''
    rw [pk_mul, nI_add]
    refine ilaw_151 (R' := (zR 0 0 0 0)) rfl rfl (rmc k n (by omega) (by omega)) (c_L_cell (k := 3 * t + 2) (by omega) (by omega)) (fun v h3 w => ?_) (fun E h3 w => by obtain ⟨-, v, w⟩ := w; cases w)
    obtain ⟨rfl, vz, w⟩ := w
    cases w
    refine ilaw_154 rfl ?_
    show z_J Z mlaw R k n Q 159 (l_ll Z.1 a1 la ++ [.int (nI t), .int vx, .int vy, .int vz]) [.int (nI 3), .int (nI t)] h3
    refine ilaw_159 (fun _ => ?_) (fun _ => ?_)
    · refine ilaw_166 rfl ?_
      refine ilaw_170 (fun _ => ?_) (fun _ => ?_)
      · refine ilaw_177 rfl ?_
        refine ilaw_181 (fun _ => ?_) (fun _ => ?_)
        · refine ilaw_189 rfl ?_
          refine ilaw_193 (R' := (zR 0 0 0 0)) rfl rfl ⟨Nat.le_trans (by decide) r1, Nat.le_trans (by decide) r2, by show k + 0 ≤ R.cells; omega, by show n + 0 ≤ R.slots; omega⟩ (c_L_low (v := vx) (m := 20) (by omega) (by omega)) (z_qr ?_) z_qx
          exact hA vx vy vz _ (by have := l_low_lt vx (n := 20) (by omega); omega)
        · refine ilaw_184 rfl ?_
          exact hA vx vy vz 9 (by omega)
      · refine ilaw_173 rfl ?_
        exact hA vx vy vz 0 (by omega)
    · refine ilaw_162 rfl ?_
      exact hA vx vy vz 5 (by omega)
theorem c_law (hL : Z.2.1 < 100000) (hRL : z_RL R) (hk : 42300 ≤ R.cells) (hn : 265600 ≤ R.slots) : z_J Z mlaw R 0 0 (fun o _ => o = .inl (some (.int 1))) 0 [.ref Z.1] [] (fun _ => none) := by
  obtain ⟨r1, r2⟩ := id hRL
  refine ilaw_0 1 ⟨by omega, by omega⟩ (fun q1 => ?_)
  refine ilaw_3 rfl ?_
  refine ilaw_4 (R' := (zR 4 76 58 799)) rfl rfl ⟨Nat.le_trans (by decide) r1, Nat.le_trans (by decide) r2, by show 0 + 1 + 58 ≤ R.cells; omega, by show 0 + 5 + 799 ≤ R.slots; omega⟩ (fun E h' q => by cases q.1) (c_X5_init z_u_s) (fun v h' w => ?_)
  obtain ⟨w1, w2, ad, w3, w4⟩ := w
  cases w1
  obtain ⟨g1, rfl⟩ : ∃ q, q = h' := ⟨_, rfl⟩
  refine ilaw_7 rfl ?_
  refine ilaw_10 700 rfl (by decide) ⟨by show 0 + 1 + 58 + 1 ≤ R.cells; omega, by show 0 + 5 + 799 + 10 ≤ R.slots; omega⟩ (fun q700 => ?_)
  refine ilaw_12 rfl ?_
  refine ilaw_15 701 rfl (by decide) ⟨by show 0 + 1 + 58 + 1 + 1 ≤ R.cells; omega, by show 0 + 5 + 799 + 10 + 10 ≤ R.slots; omega⟩ (fun q701 => ?_)
  refine ilaw_17 rfl ?_
  refine ilaw_19 702 rfl (by decide) ⟨by show 0 + 1 + 58 + 1 + 1 + 1 ≤ R.cells; omega, by show 0 + 5 + 799 + 10 + 10 + 4 ≤ R.slots; omega⟩ (fun q702 => ?_)
  refine ilaw_21 rfl ?_
  refine ilaw_24 703 rfl (by decide) ⟨by show 0 + 1 + 58 + 1 + 1 + 1 + 1 ≤ R.cells; omega, by show 0 + 5 + 799 + 10 + 10 + 4 + 4 ≤ R.slots; omega⟩ (fun q703 => ?_)
  refine ilaw_26 rfl ?_
  refine ilaw_29 704 rfl (by decide) ⟨by show 0 + 1 + 58 + 1 + 1 + 1 + 1 + 1 ≤ R.cells; omega, by show 0 + 5 + 799 + 10 + 10 + 4 + 4 + 5 ≤ R.slots; omega⟩ (fun q704 => ?_)
  refine ilaw_31 rfl ?_
  refine ilaw_35 705 rfl (by decide) ⟨by show 0 + 1 + 58 + 1 + 1 + 1 + 1 + 1 + 1 ≤ R.cells; omega, by show 0 + 5 + 799 + 10 + 10 + 4 + 4 + 5 + 60 ≤ R.slots; omega⟩ (fun q705 => ?_)
  refine ilaw_37 rfl ?_
  refine ilaw_41 706 rfl (by decide) ⟨by show 0 + 1 + 58 + 1 + 1 + 1 + 1 + 1 + 1 + 1 ≤ R.cells; omega, by show 0 + 5 + 799 + 10 + 10 + 4 + 4 + 5 + 60 + 20 ≤ R.slots; omega⟩ (fun q706 => ?_)
  refine ilaw_43 rfl ?_
  refine ilaw_47 707 rfl (by decide) ⟨by show 0 + 1 + 58 + 1 + 1 + 1 + 1 + 1 + 1 + 1 + 1 ≤ R.cells; omega, by show 0 + 5 + 799 + 10 + 10 + 4 + 4 + 5 + 60 + 20 + 20 ≤ R.slots; omega⟩ (fun q707 => ?_)
  refine ilaw_49 rfl ?_
  refine ilaw_53 708 rfl (by decide) ⟨by show 0 + 1 + 58 + 1 + 1 + 1 + 1 + 1 + 1 + 1 + 1 + 1 ≤ R.cells; omega, by show 0 + 5 + 799 + 10 + 10 + 4 + 4 + 5 + 60 + 20 + 20 + 20 ≤ R.slots; omega⟩ (fun q708 => ?_)
  refine ilaw_55 rfl ?_
  refine ilaw_58 709 rfl (by decide) ⟨by show 0 + 1 + 58 + 1 + 1 + 1 + 1 + 1 + 1 + 1 + 1 + 1 + 1 ≤ R.cells; omega, by show 0 + 5 + 799 + 10 + 10 + 4 + 4 + 5 + 60 + 20 + 20 + 20 + 5 ≤ R.slots; omega⟩ (fun q709 => ?_)
  refine ilaw_60 rfl ?_
  obtain ⟨la, rfl, rfl, rfl, rfl, rfl, rfl, rfl, rfl, rfl, rfl⟩ : ∃ la : Nat → Nat, la 700 = q700 ∧ la 701 = q701 ∧ la 702 = q702 ∧ la 703 = q703 ∧ la 704 = q704 ∧ la 705 = q705 ∧ la 706 = q706 ∧ la 707 = q707 ∧ la 708 = q708 ∧ la 709 = q709 := ⟨fun r => [q700, q701, q702, q703, q704, q705, q706, q707, q708, q709].getD (r - 700) 0, rfl, rfl, rfl, rfl, rfl, rfl, rfl, rfl, rfl, rfl⟩
  have W : z_lw Z (z_u (z_u (z_u (z_u (z_u (z_u (z_u (z_u (z_u (z_u g1 700 (la 700, .inl (0, 10, .inl (fun _ => 0)))) 701 (la 701, .inl (0, 10, .inl (fun _ => 0)))) 702 (la 702, .inl (0, 4, .inl (fun _ => 0)))) 703 (la 703, .inl (0, 4, .inl (fun _ => 0)))) 704 (la 704, .inl (0, 5, .inl (fun _ => 0)))) 705 (la 705, .inl (0, 60, .inl (fun _ => 0)))) 706 (la 706, .inl (0, 20, .inl (fun _ => 0)))) 707 (la 707, .inl (0, 20, .inl (fun _ => 0)))) 708 (la 708, .inl (0, 20, .inl (fun _ => 0)))) 709 (la 709, .inl (0, 5, .inl (fun _ => 0)))) (ad 1) la s_0 (x_u 0) (z_zero, z_zero, z_zero) := by
    refine ⟨⟨ad, rfl, w4.hi (fun r hr => ?_)⟩, ⟨?_, ?_, ?_, ?_, ?_, ?_⟩, ⟨?_, ?_, ?_⟩, ?_⟩
    · rw [z_u_n (by omega), z_u_n (by omega), z_u_n (by omega), z_u_n (by omega), z_u_n (by omega), z_u_n (by omega), z_u_n (by omega), z_u_n (by omega), z_u_n (by omega), z_u_n (by omega)]
    · exact (z_u_n (by omega)).trans ((z_u_n (by omega)).trans ((z_u_n (by omega)).trans ((z_u_n (by omega)).trans ((z_u_n (by omega)).trans ((z_u_n (by omega)).trans ((z_u_n (by omega)).trans ((z_u_n (by omega)).trans ((z_u_n (by omega)).trans (z_u_s)))))))))
    · exact (z_u_n (by omega)).trans ((z_u_n (by omega)).trans ((z_u_n (by omega)).trans ((z_u_n (by omega)).trans ((z_u_n (by omega)).trans ((z_u_n (by omega)).trans ((z_u_n (by omega)).trans ((z_u_n (by omega)).trans (z_u_s))))))))
    · exact (z_u_n (by omega)).trans ((z_u_n (by omega)).trans ((z_u_n (by omega)).trans ((z_u_n (by omega)).trans ((z_u_n (by omega)).trans ((z_u_n (by omega)).trans ((z_u_n (by omega)).trans (z_u_s)))))))
    · exact (z_u_n (by omega)).trans ((z_u_n (by omega)).trans ((z_u_n (by omega)).trans ((z_u_n (by omega)).trans ((z_u_n (by omega)).trans ((z_u_n (by omega)).trans (z_u_s))))))
    · exact (z_u_n (by omega)).trans ((z_u_n (by omega)).trans ((z_u_n (by omega)).trans ((z_u_n (by omega)).trans ((z_u_n (by omega)).trans (z_u_s)))))
    · exact (z_u_n (by omega)).trans ((z_u_n (by omega)).trans ((z_u_n (by omega)).trans ((z_u_n (by omega)).trans (z_u_s))))
    · exact (z_u_n (by omega)).trans ((z_u_n (by omega)).trans ((z_u_n (by omega)).trans (z_u_s)))
    · exact (z_u_n (by omega)).trans ((z_u_n (by omega)).trans (z_u_s))
    · exact (z_u_n (by omega)).trans (z_u_s)
    · exact z_u_s
  obtain ⟨G, hG⟩ : ∃ G, G = (z_u (z_u (z_u (z_u (z_u (z_u (z_u (z_u (z_u (z_u g1 700 (la 700, .inl (0, 10, .inl (fun _ => 0)))) 701 (la 701, .inl (0, 10, .inl (fun _ => 0)))) 702 (la 702, .inl (0, 4, .inl (fun _ => 0)))) 703 (la 703, .inl (0, 4, .inl (fun _ => 0)))) 704 (la 704, .inl (0, 5, .inl (fun _ => 0)))) 705 (la 705, .inl (0, 60, .inl (fun _ => 0)))) 706 (la 706, .inl (0, 20, .inl (fun _ => 0)))) 707 (la 707, .inl (0, 20, .inl (fun _ => 0)))) 708 (la 708, .inl (0, 20, .inl (fun _ => 0)))) 709 (la 709, .inl (0, 5, .inl (fun _ => 0)))) := ⟨_, rfl⟩
  subst w3
  rw [← hG] at W ⊢
  refine z_J.widen 100 1000 (by decide) (by decide) ?_
  refine l_law_u (y := (z_zero, z_zero, z_zero)) (fun g W => ?_) 5 0 G rfl W
  refine ilaw_83 rfl ?_
  refine ilaw_104 (R' := (zR 11 220 700 4200)) rfl rfl ⟨Nat.le_trans (by decide) r1, Nat.le_trans (by decide) r2, by show 100 + 700 ≤ R.cells; omega, by show 1000 + 4200 ≤ R.slots; omega⟩ (c_L_isTold (b := true) W x_u_li) (fun v h' w9 => ?_) (fun E h' w9 => by cases w9.1)
  obtain ⟨w1, σ', x', y', I', W'⟩ := w9
  cases w1
  refine ilaw_107 (fun _ => ?_) (fun cc => absurd (show (1 : Int32) = 0 from cc) (by decide))
  refine ilaw_112 rfl ?_
  exact l_law (a1 := ad 1) hRL hL (fun g => rfl) 45 0 (100 + 700) (1000 + 4200) h' σ' x' y' rfl (by omega) (by omega) I' W'
end ZLaw
