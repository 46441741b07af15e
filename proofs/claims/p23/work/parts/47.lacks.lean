/-! ===== the law: lacks ===== -/
section ZLacks
variable {Z : zZ} {h : zH} {la : Nat → Nat} {σ : zSt} {x : zLx} {y : zLy} {Q : zO → zH → Prop} {many more mB : Nat}
theorem l_L_lacks2 {X A S w kk : Nat} (LH : z_lh h la x y) (I : z_li σ x) (hok : s_ok σ) (hA : A < 2 ^ 30) (hS : S < 1024)
    (hq : z_J Z mL_lacks (zR 0 0 0 0) 0 0 Q 106 [.int (nI many), .int (nI more), .int (nI mB), .ref (la 700), .ref (la 707), .ref (la 708), .ref (la 709), .int (nI w), .int (nI X), .int (nI A - nI (s_ru σ S)), .int (nI S), .int (nI (s_nR σ))] [] h) :
    ∀ n k, k + n = s_nR σ → z_J Z mL_lacks (zR 0 0 0 0) 0 0 Q 71 [.int (nI many), .int (nI more), .int (nI mB), .ref (la 700), .ref (la 707), .ref (la 708), .ref (la 709), .int (nI w), .int (nI X), .int (nI A - nI (n_sum (fun c => if S.testBit c = true then s_RU σ c else 0) k)), .int (nI S), .int (nI k)] [] h := by
  obtain ⟨⟨a0, a1, a2, a3, a4, a5⟩, ⟨a6, a7, a8⟩, a9⟩ := LH
  obtain ⟨⟨-, i2, -⟩, iR, -⟩ := I
  have hn := hok.1.1
  intro n
  induction n with
  | zero =>
    intro k hk
    obtain rfl : k = s_nR σ := by omega
    refine iL_lacks_71 rfl ?_
    refine iL_lacks_76 a9 rfl (by omega) (by omega) ?_
    refine iL_lacks_77 (fun cc => ?_) (fun cc => ?_)
    · exact hq
    · rw [i2] at cc
      exact absurd (Int32.le_refl _) cc
  | succ n ih =>
    intro k hk
    have ih := ih (k + 1) (by omega)
    obtain ⟨e1, e2, e3⟩ := iR k (by omega)
    obtain ⟨b1, b2, b3, b4, b5⟩ := hok.1.2 k
    have e : n_sum (fun c => if S.testBit c = true then s_RU σ c else 0) (k + 1) = n_sum (fun c => if S.testBit c = true then s_RU σ c else 0) k + S / 2 ^ k % 2 * s_RU σ k := by
      show _ + (if S.testBit k = true then s_RU σ k else 0) = _
      rw [n_tb]
      rcases (show S / 2 ^ k % 2 = 0 ∨ S / 2 ^ k % 2 = 1 by omega) with q | q
      · rw [q]; simp
      · rw [q]; simp
    refine iL_lacks_71 rfl ?_
    refine iL_lacks_76 a9 rfl (by omega) (by omega) ?_
    refine iL_lacks_77 (fun cc => ?_) (fun cc => ?_)
    · rw [i2] at cc
      have := n_le cc; omega
    refine iL_lacks_80 rfl ?_
    refine iL_lacks_92 a0 rfl (by omega) (by omega) ?_
    refine iL_lacks_93 rfl ?_
    refine z_J.take 12 ?_
    show z_J Z mL_lacks _ _ _ Q 71 [_, _, _, _, _, _, _, _, _, .int (nI A - nI (n_sum (fun c => if S.testBit c = true then s_RU σ c else 0) k) - ((nI S >>> (nI k &&& 31)) &&& nI 1) * (nI (x_R x k) >>> (nI 9 &&& 31))), _, .int (nI k + nI 1)] _ h
    rw [n_bit (by omega) (by omega), e1, l_sh9 (by omega), show (s_RP σ k + 32 * s_RV σ k + 512 * s_RU σ k) / 512 = s_RU σ k by omega, pk_mul, i_sub2, nI_add, nI_add, ← e]
    exact ih
theorem l_L_lacks1 {X w : Nat} (LH : z_lh h la x y) (hm : many ≤ 10) (hX : X < 1024)
    (hq : z_J Z mL_lacks (zR 0 0 0 0) 0 0 Q 68 [.int (nI many), .int (nI more), .int (nI mB), .ref (la 700), .ref (la 707), .ref (la 708), .ref (la 709), .int (nI w), .int (nI X), .int (nI (more + n_sum (fun k => if X.testBit k then y.2.1 k else 0) many)), .int (nI (mB ||| n_or (fun k => if X.testBit k then y.2.2 k else 0) many)), .int (nI many)] [] h) :
    ∀ n k, k + n = many → z_J Z mL_lacks (zR 0 0 0 0) 0 0 Q 23 [.int (nI many), .int (nI more), .int (nI mB), .ref (la 700), .ref (la 707), .ref (la 708), .ref (la 709), .int (nI w), .int (nI X), .int (nI (more + n_sum (fun k => if X.testBit k then y.2.1 k else 0) k)), .int (nI (mB ||| n_or (fun k => if X.testBit k then y.2.2 k else 0) k)), .int (nI k)] [] h := by
  obtain ⟨⟨a0, a1, a2, a3, a4, a5⟩, ⟨a6, a7, a8⟩, a9⟩ := LH
  intro n
  induction n with
  | zero =>
    intro k hk
    obtain rfl : k = many := by omega
    refine iL_lacks_23 rfl ?_
    refine iL_lacks_26 (fun cc => ?_) (fun cc => ?_)
    · exact hq
    · exact absurd (Int32.le_refl _) cc
  | succ n ih =>
    intro k hk
    have ih := ih (k + 1) (by omega)
    have e1 : n_sum (fun k => if X.testBit k then y.2.1 k else 0) (k + 1) = n_sum (fun k => if X.testBit k then y.2.1 k else 0) k + (if X.testBit k then y.2.1 k else 0) := rfl
    have e2 : n_or (fun k => if X.testBit k then y.2.2 k else 0) (k + 1) = n_or (fun k => if X.testBit k then y.2.2 k else 0) k ||| (if X.testBit k then y.2.2 k else 0) := rfl
    refine iL_lacks_23 rfl ?_
    refine iL_lacks_26 (fun cc => ?_) (fun cc => ?_)
    · have := n_le cc; omega
    refine iL_lacks_29 rfl ?_
    show z_J Z mL_lacks _ _ _ Q 36 _ [.int ((nI X >>> (nI k &&& 31)) &&& nI 1)] h
    rw [n_bit (by omega) (by omega)]
    have hb := n_tb X k
    refine iL_lacks_36 (fun c => ?_) (fun c => ?_)
    · have c := n_ne0 c
      rw [decide_eq_true (by omega)] at hb
      rw [if_pos hb] at e1 e2
      refine iL_lacks_42 rfl ?_
      refine iL_lacks_48 a7 rfl (by omega) (by omega) ?_
      refine iL_lacks_49 rfl ?_
      show z_J Z mL_lacks _ _ _ Q 58 [_, _, _, _, _, _, _, _, _, .int (nI (more + n_sum (fun k => if X.testBit k then y.2.1 k else 0) k) + nI (y.2.1 k)), _, _] _ h
      refine iL_lacks_58 a8 rfl (by omega) (by omega) ?_
      refine iL_lacks_59 rfl ?_
      refine iL_lacks_62 rfl ?_
      show z_J Z mL_lacks _ _ _ Q 23 [_, _, _, _, _, _, _, _, _, .int (nI (more + n_sum (fun k => if X.testBit k then y.2.1 k else 0) k) + nI (y.2.1 k)), .int (nI (mB ||| n_or (fun k => if X.testBit k then y.2.2 k else 0) k) ||| nI (y.2.2 k)), .int (nI k + nI 1)] _ h
      rw [nI_add, nI_add, nI_or, Nat.add_assoc, Nat.or_assoc, ← e1, ← e2]
      exact ih
    · have c := n_e0 c
      rw [decide_eq_false (by omega)] at hb
      rw [if_neg (by rw [hb]; decide)] at e1 e2
      rw [Nat.add_zero (n_sum (fun k => if X.testBit k then y.2.1 k else 0) k)] at e1
      rw [Nat.or_zero] at e2
      refine iL_lacks_39 rfl ?_
      refine iL_lacks_62 rfl ?_
      show z_J Z mL_lacks _ _ _ Q 23 [_, _, _, _, _, _, _, _, _, _, _, .int (nI k + nI 1)] _ h
      rw [nI_add, ← e1, ← e2]
      exact ih
theorem l_v_le {D B : Nat → Nat} {X : Nat} (hm : many ≤ 10) (hmore : more ≤ 5000) (hD : ∀ k, k < many → D k ≤ 1000) : more + n_sum (fun k => if X.testBit k then D k else 0) many ≤ 15000 := by
  have h1 := n_sum_leb (f := fun k => if X.testBit k then D k else 0) (b := 1000) (n := many) (fun k hk => by
    have := hD k hk
    split <;> omega)
  have h2 : many * 1000 ≤ 10 * 1000 := Nat.mul_le_mul_right _ hm
  omega
theorem l_L_lacks (LH : z_lh h la x y) (I : z_li σ x) (hok : s_ok σ) (hm : many ≤ 10) (hmore : more ≤ 5000) (hmB : mB < 1024) (hD : ∀ k, k < many → y.2.1 k ≤ 1000) (hB : ∀ k, k < many → y.2.2 k < 1024) (hq : Q (.inl (some (.int (nI (n_mx (l_v σ more mB y.2.1 y.2.2 many) (2 ^ many)))))) h) :
    ∀ n X, X + n = 2 ^ many → z_J Z mL_lacks (zR 0 0 0 0) 0 0 Q 6 [.int (nI many), .int (nI more), .int (nI mB), .ref (la 700), .ref (la 707), .ref (la 708), .ref (la 709), .int (nI (n_mx (l_v σ more mB y.2.1 y.2.2 many) X)), .int (nI X)] [] h := by
  have hp : 2 ^ many ≤ 2 ^ 10 := Nat.pow_le_pow_right (by decide) hm
  have hv : ∀ X, l_v σ more mB y.2.1 y.2.2 many X ≤ 15000 := fun X => by
    have := l_v_le (D := y.2.1) (B := y.2.2) (X := X) hm hmore hD
    unfold l_v
    omega
  have hmx : ∀ X, n_mx (l_v σ more mB y.2.1 y.2.2 many) X ≤ 15000 := fun X => n_mx_le (fun k _ => hv k)
  intro n
  induction n with
  | zero =>
    intro X hX
    obtain rfl : X = 2 ^ many := by omega
    have := hmx (2 ^ many)
    refine iL_lacks_6 rfl ?_
    show z_J Z mL_lacks _ _ _ Q 11 _ [.int (nI 1 <<< (nI many &&& 31)), .int (nI (2 ^ many))] h
    rw [n_sh1 (by omega)]
    refine iL_lacks_11 (fun cc => ?_) (fun cc => ?_)
    · refine iL_lacks_128 rfl ?_
      exact iL_lacks_130 (Nat.le_of_ble_eq_true rfl) (Nat.le_of_ble_eq_true rfl) hq
    · exact absurd (Int32.le_refl _) cc
  | succ n ih =>
    intro X hX
    have ih := ih (X + 1) (by omega)
    have hx1 := hmx X
    have hx2 := l_v_le (D := y.2.1) (B := y.2.2) (X := X) hm hmore hD
    refine iL_lacks_6 rfl ?_
    show z_J Z mL_lacks _ _ _ Q 11 _ [.int (nI 1 <<< (nI many &&& 31)), .int (nI X)] h
    rw [n_sh1 (by omega)]
    refine iL_lacks_11 (fun cc => ?_) (fun cc => ?_)
    · have := n_le cc; omega
    refine iL_lacks_14 rfl ?_
    have hS : mB ||| n_or (fun k => if X.testBit k then y.2.2 k else 0) many < 1024 := Nat.or_lt_two_pow (n := 10) hmB (n_or_ltb (fun k hk => by
      split
      · exact hB k hk
      · decide))
    suffices hS1 : z_J Z mL_lacks (zR 0 0 0 0) 0 0 Q 68 [.int (nI many), .int (nI more), .int (nI mB), .ref (la 700), .ref (la 707), .ref (la 708), .ref (la 709), .int (nI (n_mx (l_v σ more mB y.2.1 y.2.2 many) X)), .int (nI X), .int (nI (more + n_sum (fun k => if X.testBit k then y.2.1 k else 0) many)), .int (nI (mB ||| n_or (fun k => if X.testBit k then y.2.2 k else 0) many)), .int (nI many)] [] h by
      have H1 := l_L_lacks1 (X := X) (w := n_mx (l_v σ more mB y.2.1 y.2.2 many) X) LH hm (by omega) hS1 many 0 (by omega)
      rw [show mB ||| n_or (fun k => if X.testBit k then y.2.2 k else 0) 0 = mB from Nat.or_zero mB] at H1
      exact H1
    refine iL_lacks_68 rfl ?_
    generalize hA : more + n_sum (fun k => if X.testBit k then y.2.1 k else 0) many = A at hx2 ⊢
    generalize hSS : mB ||| n_or (fun k => if X.testBit k then y.2.2 k else 0) many = S at hS ⊢
    have hlv : l_v σ more mB y.2.1 y.2.2 many X = A - s_ru σ S := by
      unfold l_v
      rw [hA, hSS]
    have hru := s_ru_le hok S
    have H2 := l_L_lacks2 (Z := Z) (Q := Q) (many := many) (more := more) (mB := mB) (X := X) (A := A) (S := S) (w := n_mx (l_v σ more mB y.2.1 y.2.2 many) X) (kk := 0) LH I hok (by omega) hS ?_ (s_nR σ) 0 (by omega)
    · rw [show n_sum (fun c => if S.testBit c = true then s_RU σ c else 0) 0 = 0 from rfl, pk_sub (Nat.zero_le _), Nat.sub_zero] at H2
      exact H2
    have emx : n_mx (l_v σ more mB y.2.1 y.2.2 many) (X + 1) = max (n_mx (l_v σ more mB y.2.1 y.2.2 many) X) (A - s_ru σ S) := by
      show max _ (l_v σ more mB y.2.1 y.2.2 many X) = _
      rw [hlv]
    have hmd := n_maxd (m := n_mx (l_v σ more mB y.2.1 y.2.2 many) X) (a := A) (b := s_ru σ S) (by omega) (by omega) (by omega)
    rw [← emx] at hmd
    refine iL_lacks_106 rfl ?_
    refine iL_lacks_110 (fun c => ?_) (fun c => ?_)
    · rw [if_neg (i_nlt.mpr c)] at hmd
      refine iL_lacks_118 rfl ?_
      refine iL_lacks_120 rfl ?_
      refine z_J.take 9 ?_
      rw [← hmd, ← nI_add] at ih
      exact ih
    · rw [if_pos (i_nle.mp c)] at hmd
      refine iL_lacks_113 rfl ?_
      refine iL_lacks_120 rfl ?_
      refine z_J.take 9 ?_
      rw [← hmd, ← nI_add] at ih
      exact ih
theorem c_L_lacks (LH : z_lh h la x y) (I : z_li σ x) (hok : s_ok σ) (hm : many ≤ 10) (hmore : more ≤ 5000) (hmB : mB < 1024) (hD : ∀ k, k < many → y.2.1 k ≤ 1000) (hB : ∀ k, k < many → y.2.2 k < 1024) : z_J Z mL_lacks (zR 0 0 0 0) 0 0 (z_eq (.inl (some (.int (nI (n_mx (l_v σ more mB y.2.1 y.2.2 many) (2 ^ many)))))) h) 0 [.int (nI many), .int (nI more), .int (nI mB), .ref (la 700), .ref (la 707), .ref (la 708), .ref (la 709)] [] h := by
  refine iL_lacks_0 rfl ?_
  exact l_L_lacks LH I hok hm hmore hmB hD hB ⟨rfl, rfl⟩ (2 ^ many) 0 (by omega)
end ZLacks
