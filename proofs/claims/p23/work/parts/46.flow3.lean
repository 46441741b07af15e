/-! ===== what needs lack, by sets of needs, as the law says it ===== -/
theorem n_mn_mono {f g : Nat → Nat} : ∀ {k : Nat}, (∀ T, T ≤ k → f T ≤ g T) → n_mn f k ≤ n_mn g k
  | 0, h => h 0 (Nat.le_refl _)
  | k + 1, h => by
    show min (n_mn f k) (f (k + 1)) ≤ min (n_mn g k) (g (k + 1))
    have h1 := n_mn_mono (f := f) (g := g) (k := k) (fun T hT => h T (by omega))
    have h2 := h (k + 1) (Nat.le_refl _)
    omega
theorem n_sum_leb {f : Nat → Nat} {b : Nat} : ∀ {n : Nat}, (∀ k, k < n → f k ≤ b) → n_sum f n ≤ n * b
  | 0, _ => Nat.zero_le _
  | n + 1, h => by
    show n_sum f n + f n ≤ (n + 1) * b
    have h1 := n_sum_leb (f := f) (n := n) (fun k hk => h k (by omega))
    have h2 := h n (by omega)
    rw [Nat.succ_mul]
    omega
theorem s_cut_succ (σ : zSt) (GS D : Nat → Nat) (s T : Nat) : s_cut σ GS D (s + 1) T = s_cut σ GS D s T + (if GS s &&& (T ^^^ 1023) = 0 then 0 else D s) := by
  unfold s_cut
  show _ + (n_sum _ s + (if GS s &&& (T ^^^ 1023) = 0 then 0 else D s)) = _
  omega
theorem s_flow_mono (σ : zSt) (GS D : Nat → Nat) (s : Nat) : s_flow σ GS D s ≤ s_flow σ GS D (s + 1) := n_mn_mono (fun T _ => by rw [s_cut_succ]; omega)
theorem s_flow_big {σ : zSt} (hok : s_ok σ) {GS D : Nat → Nat} {s G w w' : Nat} (hg : G < 2 ^ s_nR σ) (hw : 1000 ≤ w) (hw' : 1000 ≤ w') : s_flow σ (nu GS s G) (nu D s w) (s + 1) ≤ s_flow σ (nu GS s G) (nu D s w') (s + 1) := by
  have hp := Nat.two_pow_pos (s_nR σ)
  have hle : 2 ^ s_nR σ ≤ 2 ^ 10 := Nat.pow_le_pow_right (by decide) hok.1.1
  obtain ⟨T, hT, e⟩ := n_mn_at (s_cut σ (nu GS s G) (nu D s w') (s + 1)) (2 ^ s_nR σ - 1)
  have e : s_flow σ (nu GS s G) (nu D s w') (s + 1) = s_cut σ (nu GS s G) (nu D s w') (s + 1) T := e
  rw [e, s_cut_succ, nu_s, nu_s]
  have ecut : ∀ w'' T', s_cut σ (nu GS s G) (nu D s w'') s T' = s_cut σ GS D s T' := fun w'' T' => s_cut_cong (fun i hi => nu_n (by omega)) (fun i hi => nu_n (by omega)) T'
  by_cases hc : G &&& (T ^^^ 1023) = 0
  · refine Nat.le_trans (n_mn_le (S := T) hT) ?_
    rw [s_cut_succ, nu_s, nu_s, if_pos hc, if_pos hc, ecut, ecut]
    exact Nat.le_refl _
  · rw [if_neg hc]
    -- the set of all rights
    refine Nat.le_trans (n_mn_le (S := 2 ^ s_nR σ - 1) (Nat.le_refl _)) ?_
    rw [s_cut_succ, nu_s, nu_s, ecut, ecut]
    have hbit : ∀ c, c < s_nR σ → (2 ^ s_nR σ - 1).testBit c = true := fun c hc => by
      rw [Nat.testBit_two_pow_sub_one]; exact decide_eq_true hc
    have hsub : ∀ a, a < 2 ^ s_nR σ → a &&& ((2 ^ s_nR σ - 1) ^^^ 1023) = 0 := fun a ha => (g_sub_iff (by omega)).mpr (fun x hx hbx => by
      by_cases hxn : x < s_nR σ
      · exact hbit x hxn
      · rw [n_bit_ge ha (by omega)] at hbx
        cases hbx)
    rw [if_pos (hsub G hg)]
    -- its cut is at most the units with what the others cannot get
    have h1 := s_ru_le hok (2 ^ s_nR σ - 1)
    have h2 : n_sum (fun i => if GS i &&& ((2 ^ s_nR σ - 1) ^^^ 1023) = 0 then 0 else D i) s ≤ n_sum (fun i => if GS i &&& (T ^^^ 1023) = 0 then 0 else D i) s := n_sum_mono (fun i hi => by
      by_cases hz : GS i &&& (T ^^^ 1023) = 0
      · rw [if_pos hz, if_pos]
        · exact Nat.le_refl _
        · have hz1 : GS i &&& ((2 ^ s_nR σ - 1) ^^^ 1023) = 0 := by
            apply Nat.eq_of_testBit_eq
            intro x
            have hx0 : (GS i &&& (T ^^^ 1023)).testBit x = false := by rw [hz]; exact Nat.zero_testBit x
            rw [Nat.testBit_and, Nat.testBit_xor] at hx0
            rw [Nat.zero_testBit, Nat.testBit_and, Nat.testBit_xor]
            by_cases hxn : x < s_nR σ
            · rw [hbit x hxn, n_tb1023 (by have := hok.1.1; omega)]
              simp
            · have hT9 : T.testBit x = false := n_bit_ge (n := s_nR σ) (by omega) (by omega)
              have hA9 : (2 ^ s_nR σ - 1).testBit x = false := n_bit_ge (n := s_nR σ) (by omega) (by omega)
              rw [hT9] at hx0
              rw [hA9]
              exact hx0
          exact hz1
      · rw [if_neg hz]
        split
        · exact Nat.zero_le _
        · exact Nat.le_refl _)
    unfold s_cut
    omega
theorem s_fl_le (σ : zSt) (d : Nat) : ∀ k, s_fl σ d k ≤ n_sum (t_D (s_all σ d)) k := fun k => by
  refine Nat.le_trans (n_mn_le (S := 0) (Nat.zero_le _)) ?_
  unfold s_cut s_ru
  rw [n_sum_0 (f := fun c => if (0 : Nat).testBit c = true then s_RU σ c else 0) (fun k hk => by rw [Nat.zero_testBit]; rfl), Nat.zero_add]
  exact n_sum_mono (fun i hi => by split; exact Nat.zero_le _; exact Nat.le_refl _)
theorem i_sub2 (a b c : Int32) : a - b - c = a - (b + c) := Int32.sub_sub a b c
theorem i_subadd (a b c : Int32) : a - b + c = a + c - b := by
  rw [Int32.sub_eq_add_neg, Int32.sub_eq_add_neg, Int32.add_assoc, Int32.add_comm (-b), ← Int32.add_assoc]
theorem i_addsub (a b c : Int32) : a + (b - c) = a + b - c := by
  rw [Int32.sub_eq_add_neg, Int32.sub_eq_add_neg, Int32.add_assoc]
theorem l_msub {a b c : Nat} (h : b ≤ a + c) : nI a - nI b + nI c = nI (a + c - b) := by
  rw [i_subadd, nI_add, pk_sub h]
/-- by how much some of the first needs, and one more, are above the units that can serve one of them -/
def l_v (σ : zSt) (more mB : Nat) (D B : Nat → Nat) (many X : Nat) : Nat := more + n_sum (fun k => if X.testBit k then D k else 0) many - s_ru σ (mB ||| n_or (fun k => if X.testBit k then B k else 0) many)
theorem n_mx_cong {f g : Nat → Nat} : ∀ {n : Nat}, (∀ k, k < n → f k = g k) → n_mx f n = n_mx g n
  | 0, _ => rfl
  | n + 1, h => by
    show max (n_mx f n) (f n) = max (n_mx g n) (g n)
    rw [n_mx_cong (n := n) (fun k hk => h k (by omega)), h n (by omega)]
theorem n_or_cong {f g : Nat → Nat} : ∀ {n : Nat}, (∀ k, k < n → f k = g k) → n_or f n = n_or g n
  | 0, _ => rfl
  | n + 1, h => by
    show n_or f n ||| f n = n_or g n ||| g n
    rw [n_or_cong (n := n) (fun k hk => h k (by omega)), h n (by omega)]
theorem l_v_0 (σ : zSt) (D B : Nat → Nat) (m X : Nat) : l_v σ 0 0 D B m X = s_setw σ B D m X := by
  unfold l_v s_setw
  rw [Nat.zero_add, Nat.zero_or]
theorem l_lk {σ : zSt} {D B D' B' : Nat → Nat} {m : Nat} (hn : s_nR σ ≤ 10) (hb : ∀ i, i < m → B i < 2 ^ s_nR σ) (hB : ∀ i, i < m → B' i = B i) (hD : ∀ i, i < m → D' i = D i) : n_mx (l_v σ 0 0 D' B' m) (2 ^ m) + s_flow σ B D m = n_sum D m := by
  rw [n_mx_cong (f := l_v σ 0 0 D' B' m) (g := s_setw σ B D m) (fun X _ => ?_)]
  · exact s_sets hn hb
  · rw [l_v_0]
    unfold s_setw
    rw [n_sum_cong (f := fun k => if X.testBit k then D' k else 0) (g := fun k => if X.testBit k then D k else 0) (fun k hk => by rw [hD k hk]), n_or_cong (f := fun k => if X.testBit k then B' k else 0) (g := fun k => if X.testBit k then B k else 0) (fun k hk => by rw [hB k hk])]
theorem l_tb_hi {X m j : Nat} (hj : j < m) : (X ||| 2 ^ m).testBit j = X.testBit j := by
  rw [Nat.testBit_or, Nat.testBit_two_pow, decide_eq_false (by omega), Bool.or_false]
theorem l_sp {σ : zSt} (hok : s_ok σ) {D B D' B' : Nat → Nat} {m G w : Nat} (hw : 1000 ≤ w) (hG : G < 2 ^ s_nR σ) (hb : ∀ i, i < m → B i < 2 ^ s_nR σ) (hB : ∀ i, i < m → B' i = B i) (hD : ∀ i, i < m → D' i = D i) : n_mx (l_v σ w G D' B' m) (2 ^ m) + s_flow σ (nu B m G) (nu D m w) (m + 1) = n_sum D m + w := by
  have hs := s_sets (σ := σ) (GS := nu B m G) (D := nu D m w) (s := m + 1) hok.1.1 (fun i hi => by
    by_cases e : i = m
    · subst e; rw [nu_s]; exact hG
    · rw [nu_n e]; exact hb i (by omega))
  have hsum : n_sum (nu D m w) (m + 1) = n_sum D m + w := by
    show n_sum (nu D m w) m + nu D m w m = _
    rw [nu_s, n_sum_cong (f := nu D m w) (g := D) (fun k hk => nu_n (by omega))]
  rw [hsum] at hs
  have hA : ∀ X, s_setw σ (nu B m G) (nu D m w) (m + 1) X = n_sum (fun k => if X.testBit k then D' k else 0) m + (if X.testBit m then w else 0) - s_ru σ (n_or (fun k => if X.testBit k then B' k else 0) m ||| (if X.testBit m then G else 0)) := fun X => by
    unfold s_setw
    show n_sum (fun k => if X.testBit k then nu D m w k else 0) m + (if X.testBit m then nu D m w m else 0) - s_ru σ (n_or (fun k => if X.testBit k then nu B m G k else 0) m ||| (if X.testBit m then nu B m G m else 0)) = _
    rw [nu_s, nu_s, n_sum_cong (f := fun k => if X.testBit k then nu D m w k else 0) (g := fun k => if X.testBit k then D' k else 0) (fun k hk => by rw [nu_n (by omega), hD k hk]), n_or_cong (f := fun k => if X.testBit k then nu B m G k else 0) (g := fun k => if X.testBit k then B' k else 0) (fun k hk => by rw [nu_n (by omega), hB k hk])]
  have hB2 : ∀ X Y, (∀ k, k < m → X.testBit k = Y.testBit k) → X.testBit m = true → s_setw σ (nu B m G) (nu D m w) (m + 1) X = l_v σ w G D' B' m Y := fun X Y h1 h2 => by
    rw [hA, if_pos h2, if_pos h2]
    unfold l_v
    rw [n_sum_cong (f := fun k => if X.testBit k then D' k else 0) (g := fun k => if Y.testBit k then D' k else 0) (fun k hk => by rw [h1 k hk]), n_or_cong (f := fun k => if X.testBit k then B' k else 0) (g := fun k => if Y.testBit k then B' k else 0) (fun k hk => by rw [h1 k hk]), Nat.or_comm _ G, Nat.add_comm w]
  have e : n_mx (l_v σ w G D' B' m) (2 ^ m) = n_mx (s_setw σ (nu B m G) (nu D m w) (m + 1)) (2 ^ (m + 1)) := by
    apply Nat.le_antisymm
    · refine n_mx_le (fun X hX => ?_)
      rw [← hB2 (X ||| 2 ^ m) X (fun k hk => l_tb_hi hk) (by rw [Nat.testBit_or, Nat.testBit_two_pow, decide_eq_true rfl, Bool.or_true])]
      refine n_mx_ge (Nat.or_lt_two_pow (Nat.lt_of_lt_of_le hX (Nat.pow_le_pow_right (by decide) (by omega))) (Nat.pow_lt_pow_right (by decide) (by omega)))
    · refine n_mx_le (fun Y hY => ?_)
      have hm : Y % 2 ^ m < 2 ^ m := Nat.mod_lt _ (Nat.two_pow_pos m)
      have hbit : ∀ k, k < m → Y.testBit k = (Y % 2 ^ m).testBit k := fun k hk => by
        rw [Nat.testBit_mod_two_pow, decide_eq_true hk, Bool.true_and]
      refine Nat.le_trans ?_ (n_mx_ge (f := l_v σ w G D' B' m) hm)
      by_cases c : Y.testBit m = true
      · rw [hB2 Y (Y % 2 ^ m) hbit c]
        exact Nat.le_refl _
      · rw [hA, if_neg c, if_neg c]
        unfold l_v
        have h1 := s_ru_le hok (G ||| n_or (fun k => if (Y % 2 ^ m).testBit k then B' k else 0) m)
        rw [n_sum_cong (f := fun k => if Y.testBit k then D' k else 0) (g := fun k => if (Y % 2 ^ m).testBit k then D' k else 0) (fun k hk => by rw [hbit k hk])]
        omega
  rw [e]
  exact hs
