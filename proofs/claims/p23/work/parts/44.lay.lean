/-! ===== the law: rightsFor, lay ===== -/
def x_putR (x : zLx) (k v : Nat) : zLx := (nu (x.1) k v, x.2.1, x.2.2.1, x.2.2.2.1, x.2.2.2.2.1, x.2.2.2.2.2.1, x.2.2.2.2.2.2)
def x_putF (x : zLx) (k v : Nat) : zLx := (x.1, nu (x.2.1) k v, x.2.2.1, x.2.2.2.1, x.2.2.2.2.1, x.2.2.2.2.2.1, x.2.2.2.2.2.2)
def x_putC (x : zLx) (k v : Nat) : zLx := (x.1, x.2.1, x.2.2.1, nu (x.2.2.2.1) k v, x.2.2.2.2.1, x.2.2.2.2.2.1, x.2.2.2.2.2.2)
def x_putU (x : zLx) (k v : Nat) : zLx := (x.1, x.2.1, x.2.2.1, x.2.2.2.1, nu (x.2.2.2.2.1) k v, x.2.2.2.2.2.1, x.2.2.2.2.2.2)
def x_putE (x : zLx) (k v : Nat) : zLx := (x.1, x.2.1, x.2.2.1, x.2.2.2.1, x.2.2.2.2.1, nu (x.2.2.2.2.2.1) k v, x.2.2.2.2.2.2)
def x_putG (x : zLx) (k v : Nat) : zLx := (x.1, x.2.1, x.2.2.1, x.2.2.2.1, x.2.2.2.2.1, x.2.2.2.2.2.1, nu (x.2.2.2.2.2.2) k v)
def x_putH (x : zLx) (k : Nat) (v : Option Nat) : zLx := (x.1, x.2.1, nuo (x.2.2.1) k v, x.2.2.2.1, x.2.2.2.2.1, x.2.2.2.2.2.1, x.2.2.2.2.2.2)
theorem z_lh.putR {h : zH} {la : Nat → Nat} {x : zLx} {y : zLy} (H : z_lh h la x y) (k v : Nat) : z_lh (z_u h 700 (la 700, .inl (0, 10, .inl (fun j => nI (nu (x_R x) k v j))))) la (x_putR x k v) y := by
  obtain ⟨⟨a0, a1, a2, a3, a4, a5⟩, ⟨a6, a7, a8⟩, a9⟩ := H
  exact ⟨⟨z_u_s, (z_u_n (by omega)).trans a1, (z_u_n (by omega)).trans a2, (z_u_n (by omega)).trans a3, (z_u_n (by omega)).trans a4, (z_u_n (by omega)).trans a5⟩, ⟨(z_u_n (by omega)).trans a6, (z_u_n (by omega)).trans a7, (z_u_n (by omega)).trans a8⟩, (z_u_n (by omega)).trans a9⟩
theorem z_lh.putF {h : zH} {la : Nat → Nat} {x : zLx} {y : zLy} (H : z_lh h la x y) (k v : Nat) : z_lh (z_u h 701 (la 701, .inl (0, 10, .inl (fun j => nI (nu (x_F x) k v j))))) la (x_putF x k v) y := by
  obtain ⟨⟨a0, a1, a2, a3, a4, a5⟩, ⟨a6, a7, a8⟩, a9⟩ := H
  exact ⟨⟨(z_u_n (by omega)).trans a0, z_u_s, (z_u_n (by omega)).trans a2, (z_u_n (by omega)).trans a3, (z_u_n (by omega)).trans a4, (z_u_n (by omega)).trans a5⟩, ⟨(z_u_n (by omega)).trans a6, (z_u_n (by omega)).trans a7, (z_u_n (by omega)).trans a8⟩, (z_u_n (by omega)).trans a9⟩
theorem z_lh.putC {h : zH} {la : Nat → Nat} {x : zLx} {y : zLy} (H : z_lh h la x y) (k v : Nat) : z_lh (z_u h 703 (la 703, .inl (0, 4, .inl (fun j => nI (nu (x_C x) k v j))))) la (x_putC x k v) y := by
  obtain ⟨⟨a0, a1, a2, a3, a4, a5⟩, ⟨a6, a7, a8⟩, a9⟩ := H
  exact ⟨⟨(z_u_n (by omega)).trans a0, (z_u_n (by omega)).trans a1, (z_u_n (by omega)).trans a2, z_u_s, (z_u_n (by omega)).trans a4, (z_u_n (by omega)).trans a5⟩, ⟨(z_u_n (by omega)).trans a6, (z_u_n (by omega)).trans a7, (z_u_n (by omega)).trans a8⟩, (z_u_n (by omega)).trans a9⟩
theorem z_lh.putU {h : zH} {la : Nat → Nat} {x : zLx} {y : zLy} (H : z_lh h la x y) (k v : Nat) : z_lh (z_u h 704 (la 704, .inl (0, 5, .inl (fun j => nI (nu (x_U x) k v j))))) la (x_putU x k v) y := by
  obtain ⟨⟨a0, a1, a2, a3, a4, a5⟩, ⟨a6, a7, a8⟩, a9⟩ := H
  exact ⟨⟨(z_u_n (by omega)).trans a0, (z_u_n (by omega)).trans a1, (z_u_n (by omega)).trans a2, (z_u_n (by omega)).trans a3, z_u_s, (z_u_n (by omega)).trans a5⟩, ⟨(z_u_n (by omega)).trans a6, (z_u_n (by omega)).trans a7, (z_u_n (by omega)).trans a8⟩, (z_u_n (by omega)).trans a9⟩
theorem z_lh.putE {h : zH} {la : Nat → Nat} {x : zLx} {y : zLy} (H : z_lh h la x y) (k v : Nat) : z_lh (z_u h 705 (la 705, .inl (0, 60, .inl (fun j => nI (nu (x_E x) k v j))))) la (x_putE x k v) y := by
  obtain ⟨⟨a0, a1, a2, a3, a4, a5⟩, ⟨a6, a7, a8⟩, a9⟩ := H
  exact ⟨⟨(z_u_n (by omega)).trans a0, (z_u_n (by omega)).trans a1, (z_u_n (by omega)).trans a2, (z_u_n (by omega)).trans a3, (z_u_n (by omega)).trans a4, z_u_s⟩, ⟨(z_u_n (by omega)).trans a6, (z_u_n (by omega)).trans a7, (z_u_n (by omega)).trans a8⟩, (z_u_n (by omega)).trans a9⟩
theorem z_lh.putG {h : zH} {la : Nat → Nat} {x : zLx} {y : zLy} (H : z_lh h la x y) (k v : Nat) : z_lh (z_u h 709 (la 709, .inl (0, 5, .inl (fun j => nI (nu (x_G x) k v j))))) la (x_putG x k v) y := by
  obtain ⟨⟨a0, a1, a2, a3, a4, a5⟩, ⟨a6, a7, a8⟩, a9⟩ := H
  exact ⟨⟨(z_u_n (by omega)).trans a0, (z_u_n (by omega)).trans a1, (z_u_n (by omega)).trans a2, (z_u_n (by omega)).trans a3, (z_u_n (by omega)).trans a4, (z_u_n (by omega)).trans a5⟩, ⟨(z_u_n (by omega)).trans a6, (z_u_n (by omega)).trans a7, (z_u_n (by omega)).trans a8⟩, z_u_s⟩
theorem z_lh.putH {h : zH} {la : Nat → Nat} {x : zLx} {y : zLy} (H : z_lh h la x y) (k : Nat) (v : Option Nat) : z_lh (z_u h 702 (la 702, .inl (0, 4, .inl (fun j => n_o (nuo (x_H x) k v j))))) la (x_putH x k v) y := by
  obtain ⟨⟨a0, a1, a2, a3, a4, a5⟩, ⟨a6, a7, a8⟩, a9⟩ := H
  exact ⟨⟨(z_u_n (by omega)).trans a0, (z_u_n (by omega)).trans a1, z_u_s, (z_u_n (by omega)).trans a3, (z_u_n (by omega)).trans a4, (z_u_n (by omega)).trans a5⟩, ⟨(z_u_n (by omega)).trans a6, (z_u_n (by omega)).trans a7, (z_u_n (by omega)).trans a8⟩, (z_u_n (by omega)).trans a9⟩
theorem z_lh.putN {h : zH} {la : Nat → Nat} {x : zLx} {y : zLy} (H : z_lh h la x y) (k v : Nat) : z_lh (z_u h 706 (la 706, .inl (0, 20, .inl (fun j => nI (nu y.1 k v j))))) la x (nu y.1 k v, y.2) := by
  obtain ⟨⟨a0, a1, a2, a3, a4, a5⟩, ⟨a6, a7, a8⟩, a9⟩ := H
  exact ⟨⟨(z_u_n (by omega)).trans a0, (z_u_n (by omega)).trans a1, (z_u_n (by omega)).trans a2, (z_u_n (by omega)).trans a3, (z_u_n (by omega)).trans a4, (z_u_n (by omega)).trans a5⟩, ⟨z_u_s, (z_u_n (by omega)).trans a7, (z_u_n (by omega)).trans a8⟩, (z_u_n (by omega)).trans a9⟩
theorem z_lh.putD {h : zH} {la : Nat → Nat} {x : zLx} {y : zLy} (H : z_lh h la x y) (k v : Nat) : z_lh (z_u h 707 (la 707, .inl (0, 20, .inl (fun j => nI (nu y.2.1 k v j))))) la x (y.1, nu y.2.1 k v, y.2.2) := by
  obtain ⟨⟨a0, a1, a2, a3, a4, a5⟩, ⟨a6, a7, a8⟩, a9⟩ := H
  exact ⟨⟨(z_u_n (by omega)).trans a0, (z_u_n (by omega)).trans a1, (z_u_n (by omega)).trans a2, (z_u_n (by omega)).trans a3, (z_u_n (by omega)).trans a4, (z_u_n (by omega)).trans a5⟩, ⟨(z_u_n (by omega)).trans a6, z_u_s, (z_u_n (by omega)).trans a8⟩, (z_u_n (by omega)).trans a9⟩
theorem z_lh.putB {h : zH} {la : Nat → Nat} {x : zLx} {y : zLy} (H : z_lh h la x y) (k v : Nat) : z_lh (z_u h 708 (la 708, .inl (0, 20, .inl (fun j => nI (nu y.2.2 k v j))))) la x (y.1, y.2.1, nu y.2.2 k v) := by
  obtain ⟨⟨a0, a1, a2, a3, a4, a5⟩, ⟨a6, a7, a8⟩, a9⟩ := H
  exact ⟨⟨(z_u_n (by omega)).trans a0, (z_u_n (by omega)).trans a1, (z_u_n (by omega)).trans a2, (z_u_n (by omega)).trans a3, (z_u_n (by omega)).trans a4, (z_u_n (by omega)).trans a5⟩, ⟨(z_u_n (by omega)).trans a6, (z_u_n (by omega)).trans a7, z_u_s⟩, (z_u_n (by omega)).trans a9⟩
theorem nu_nu (f : Nat → Nat) (k a b : Nat) : nu (nu f k a) k b = nu f k b := by
  funext j
  unfold nu
  split
  · rfl
  · rfl
theorem x_putG2 (x : zLx) (k a b : Nat) : x_putG (x_putG x k a) k b = x_putG x k b := by
  unfold x_putG
  rw [nu_nu]
theorem z_li.g4 {σ : zSt} {x : zLx} (I : z_li σ x) (c : Nat) : z_li σ (x_putG x 4 c) := by
  obtain ⟨⟨i1, i2, i3, i4⟩, i5, i6, i7, ⟨i8, i9⟩, i10, i11⟩ := I
  have e : ∀ k, k ≠ 4 → x_G (x_putG x 4 c) k = x_G x k := fun k hk => nu_n hk
  exact ⟨⟨i1, (e 0 (by omega)).trans i2, (e 1 (by omega)).trans i3, by rw [e 3 (by omega)]; exact i4⟩, i5, i6, i7, ⟨by rw [e 2 (by omega)]; exact i8, fun j hj => by rw [e 2 (by omega)]; exact i9 j hj⟩, by rw [e 3 (by omega)]; exact i10, by rw [e 3 (by omega)]; exact i11⟩
theorem l_bitR {P V U p : Nat} (hp : p < 5) : (P + 32 * V + 512 * U) / 2 ^ p % 2 = P / 2 ^ p % 2 := by
  rcases (show p = 0 ∨ p = 1 ∨ p = 2 ∨ p = 3 ∨ p = 4 by omega) with rfl | rfl | rfl | rfl | rfl <;> omega
theorem l_un {C u : Nat} (h : 1 ≤ u) : (C + u - 1) / u = C / u + (if 0 < C % u then 1 else 0) := by
  have e := Nat.div_add_mod C u
  have hr := Nat.mod_lt C (show u > 0 by omega)
  generalize C / u = a at e ⊢
  generalize C % u = b at e hr ⊢
  by_cases c : 0 < b
  · rw [if_pos c, show C + u - 1 = (b - 1) + u * (a + 1) by rw [Nat.mul_add]; omega, Nat.add_mul_div_left _ _ (by omega), Nat.div_eq_of_lt (by omega)]
    omega
  · rw [if_neg c, show C + u - 1 = (u - 1) + u * a by omega, Nat.add_mul_div_left _ _ (by omega), Nat.div_eq_of_lt (by omega)]
    omega
theorem l_by_fix {MH : Nat → Option Nat} {MA : Nat → Bool} (hw : ∀ j i, MH j = some i → i < j) (f' : Nat) : ∀ f j, j ≤ f → m_by MH MA f' (m_by MH MA f j) = m_by MH MA f j := by
  have hfix : ∀ j, (MH j = none ∨ MA j = true) → m_by MH MA f' j = j := by
    intro j hj
    cases f' with
    | zero => rfl
    | succ f' =>
      unfold m_by
      cases hz : MH j with
      | none => rfl
      | some i =>
        rcases hj with hj | hj
        · rw [hz] at hj; cases hj
        · exact if_pos hj
  intro f
  induction f with
  | zero =>
    intro j hj
    refine hfix j (Or.inl ?_)
    cases hz : MH j with
    | none => rfl
    | some i => have := hw j i hz; omega
  | succ f ih =>
    intro j hj
    have e : m_by MH MA (f + 1) j = match MH j with
      | none => j
      | some i => if MA j = true then j else m_by MH MA f i := rfl
    rw [e]
    cases hz : MH j with
    | none => exact hfix j (Or.inl hz)
    | some i =>
      have hi := hw j i hz
      dsimp only
      by_cases hm : MA j = true
      · rw [if_pos hm]; exact hfix j (Or.inr hm)
      · rw [if_neg hm]; exact ih i (by omega)
theorem n_gr_0 {by_ : Nat → Nat} {on : Nat → Nat → Nat} {m p : Nat} : ∀ {k : Nat}, (∀ j, j < k → by_ j ≠ m) → n_gr by_ on k m p = 0
  | 0, _ => rfl
  | k + 1, h => by
    show (if by_ k = m then max (n_gr by_ on k m p) (on k p) else n_gr by_ on k m p) = 0
    rw [if_neg (h k (by omega))]
    exact n_gr_0 (fun j hj => h j (by omega))
theorem n_gr_le {by_ : Nat → Nat} {on : Nat → Nat → Nat} {b m p : Nat} : ∀ {k : Nat}, (∀ j, j < k → on j p ≤ b) → n_gr by_ on k m p ≤ b
  | 0, _ => Nat.zero_le _
  | k + 1, h => by
    show (if by_ k = m then max (n_gr by_ on k m p) (on k p) else n_gr by_ on k m p) ≤ b
    have h1 := n_gr_le (by_ := by_) (on := on) (m := m) (k := k) (fun j hj => h j (by omega))
    have h2 := h k (by omega)
    split
    · exact Nat.max_le.mpr ⟨h1, h2⟩
    · exact h1
theorem s_need_at (σ : zSt) (d m p : Nat) (hp : p < 5) : s_need σ d (m * 5 + p) = if s_gr σ d m p = 0 then none else some (m, p, s_gr σ d m p, s_un σ m p) := by
  unfold s_need
  rw [show (m * 5 + p) / 5 = m by omega, show (m * 5 + p) % 5 = p by omega]
theorem s_needs_none {σ : zSt} {d m p : Nat} (hp : p < 5) (h : s_gr σ d m p = 0) : s_needs σ d (m * 5 + (p + 1)) = s_needs σ d (m * 5 + p) := by
  have := s_needs_succ σ d (m * 5 + p)
  rw [s_need_at σ d m p hp, if_pos h] at this
  exact this
theorem s_needs_some {σ : zSt} {d m p : Nat} (hp : p < 5) (h : s_gr σ d m p ≠ 0) : s_needs σ d (m * 5 + (p + 1)) = s_needs σ d (m * 5 + p) ++ [(m, p, s_gr σ d m p, s_un σ m p)] := by
  have := s_needs_succ σ d (m * 5 + p)
  rw [s_need_at σ d m p hp, if_neg h] at this
  exact this
/-- the law's rows of needs hold the first n of the list -/
def l_ag (σ : zSt) (d n c : Nat) (y : zLy) : Prop := c = (s_needs σ d n).length ∧ ∀ k q, (s_needs σ d n)[k]? = some q → y.1 k = 100 * q.1 + 10 * q.2.1 + q.2.2.1 ∧ y.2.1 k = q.2.2.2 ∧ y.2.2 k = s_giv σ q.2.1 q.2.2.1 d (s_nR σ)
theorem l_ag_add {σ : zSt} {d n n' : Nat} {c : Nat} {y : zLy} {q : Nat × Nat × Nat × Nat} (H : l_ag σ d n c y) (e : s_needs σ d n' = s_needs σ d n ++ [q]) : l_ag σ d n' (c + 1) (nu y.1 c (100 * q.1 + 10 * q.2.1 + q.2.2.1), nu y.2.1 c q.2.2.2, nu y.2.2 c (s_giv σ q.2.1 q.2.2.1 d (s_nR σ))) := by
  obtain ⟨rfl, h2⟩ := H
  refine ⟨by rw [e, List.length_append]; rfl, fun k x hk => ?_⟩
  rw [e] at hk
  by_cases hl : k < (s_needs σ d n).length
  · rw [List.getElem?_append_left hl] at hk
    have := h2 k x hk
    dsimp only
    rw [nu_n (by omega), nu_n (by omega), nu_n (by omega)]
    exact this
  · rw [List.getElem?_append_right (by omega)] at hk
    have hz : k - (s_needs σ d n).length < 1 := (List.getElem?_eq_some_iff.mp hk).1
    have e : k = (s_needs σ d n).length := by omega
    subst e
    rw [Nat.sub_self] at hk
    cases hk
    dsimp only
    rw [nu_s, nu_s, nu_s]
    exact ⟨rfl, rfl, rfl⟩
section ZLay
variable {Z : zZ} {h : zH} {la : Nat → Nat} {σ : zSt} {x : zLx} {y : zLy} {Q : zO → zH → Prop}
theorem l_L_rightsFor {d p v : Nat} (LH : z_lh h la x y) (I : z_li σ x) (hok : s_ok σ) (hd : d ≤ 720) (hp : p < 5) (hv : v < 1000) (hq : Q (.inl (some (.int (nI (s_giv σ p v d (s_nR σ)))))) h) :
    ∀ n k, k + n = s_nR σ → z_J Z mL_rightsFor (zR 0 0 0 0) 0 0 Q 6 [.ref (la 700), .ref (la 701), .ref (la 709), .int (nI d), .int (nI p), .int (nI v), .int (nI (s_giv σ p v d k)), .int (nI k)] [] h := by
  obtain ⟨⟨a0, a1, a2, a3, a4, a5⟩, ⟨a6, a7, a8⟩, a9⟩ := LH
  obtain ⟨⟨-, i2, -⟩, iR, -⟩ := I
  have hn := hok.1.1
  intro n
  induction n with
  | zero =>
    intro k hk
    obtain rfl : k = s_nR σ := by omega
    refine iL_rightsFor_6 rfl ?_
    refine iL_rightsFor_10 a9 rfl (by omega) (by omega) ?_
    refine iL_rightsFor_11 (fun cc => ?_) (fun cc => ?_)
    · refine iL_rightsFor_79 rfl ?_
      exact iL_rightsFor_81 (Nat.le_of_ble_eq_true rfl) (Nat.le_of_ble_eq_true rfl) hq
    · rw [i2] at cc
      exact absurd (Int32.le_refl _) cc
  | succ n ih =>
    intro k hk
    have ih := ih (k + 1) (by omega)
    obtain ⟨e1, e2, e3⟩ := iR k (by omega)
    obtain ⟨b1, b2, b3, b4, b5⟩ := hok.1.2 k
    have e : s_giv σ p v d (k + 1) = s_giv σ p v d k ||| (if r_can (s_RP σ k) (s_RF σ k) (s_RL σ k) (s_RV σ k) p v d then 2 ^ k else 0) := rfl
    have hno : r_can (s_RP σ k) (s_RF σ k) (s_RL σ k) (s_RV σ k) p v d = false → z_J Z mL_rightsFor (zR 0 0 0 0) 0 0 Q 73 [.ref (la 700), .ref (la 701), .ref (la 709), .int (nI d), .int (nI p), .int (nI v), .int (nI (s_giv σ p v d k)), .int (nI k)] [] h := fun c => by
      refine iL_rightsFor_73 rfl ?_
      rw [e, if_neg (by rw [c]; decide), Nat.or_zero, ← nI_add] at ih
      exact ih
    refine iL_rightsFor_6 rfl ?_
    refine iL_rightsFor_10 a9 rfl (by omega) (by omega) ?_
    refine iL_rightsFor_11 (fun cc => ?_) (fun cc => ?_)
    · rw [i2] at cc
      have := n_le cc; omega
    refine iL_rightsFor_14 rfl ?_
    refine iL_rightsFor_17 a0 rfl (by omega) (by omega) ?_
    refine iL_rightsFor_18 rfl ?_
    show z_J Z mL_rightsFor _ _ _ Q 24 _ [.int (nI 1), .int ((nI (x_R x k) >>> (nI p &&& 31)) &&& nI 1)] h
    rw [e1, n_bit (by omega) (by omega), l_bitR hp]
    refine iL_rightsFor_24 (fun c1 => ?_) (fun c1 => ?_)
    · have c1 := n_ne c1
      exact hno (by unfold r_can; rw [n_tb, decide_eq_false c1]; rfl)
    have c1 := n_eq c1
    refine iL_rightsFor_27 rfl ?_
    refine iL_rightsFor_30 a0 rfl (by omega) (by omega) ?_
    refine iL_rightsFor_31 rfl ?_
    show z_J Z mL_rightsFor _ _ _ Q 38 _ [.int (nI v), .int ((nI (x_R x k) >>> (nI 5 &&& 31)) &&& nI 15)] h
    rw [e1, l_sh5 (by omega), l_an15 (by omega), show (s_RP σ k + 32 * s_RV σ k + 512 * s_RU σ k) / 32 % 16 = s_RV σ k by omega]
    refine iL_rightsFor_38 (fun c2 => ?_) (fun c2 => ?_)
    · have c2 := n_lt c2
      exact hno (by unfold r_can; rw [decide_eq_false (p := v ≤ s_RV σ k) (by omega), Bool.and_false]; rfl)
    have c2 := n_nlt c2
    refine iL_rightsFor_41 rfl ?_
    refine iL_rightsFor_44 a1 rfl (by omega) (by omega) ?_
    refine iL_rightsFor_45 rfl ?_
    show z_J Z mL_rightsFor _ _ _ Q 50 _ [.int (nI d), .int (nI (x_F x k) &&& nI 1023)] h
    rw [e2, l_an1023 (by omega), show (s_RF σ k + 1024 * s_RL σ k) % 1024 = s_RF σ k by omega]
    refine iL_rightsFor_50 (fun c3 => ?_) (fun c3 => ?_)
    · have c3 := n_lt c3
      exact hno (by unfold r_can; rw [decide_eq_false (p := s_RF σ k ≤ d) (by omega), Bool.and_false]; rfl)
    have c3 := n_nlt c3
    refine iL_rightsFor_53 rfl ?_
    refine iL_rightsFor_56 a1 rfl (by omega) (by omega) ?_
    refine iL_rightsFor_57 rfl ?_
    show z_J Z mL_rightsFor _ _ _ Q 61 _ [.int (nI d), .int (nI (x_F x k) >>> (nI 10 &&& 31))] h
    rw [e2, l_sh10 (by omega), show (s_RF σ k + 1024 * s_RL σ k) / 1024 = s_RL σ k by omega]
    refine iL_rightsFor_61 (fun c4 => ?_) (fun c4 => ?_)
    · have c4 := n_lt c4
      exact hno (by unfold r_can; rw [decide_eq_false (p := d ≤ s_RL σ k) (by omega), Bool.and_false])
    have c4 := n_nlt c4
    have hc : r_can (s_RP σ k) (s_RF σ k) (s_RL σ k) (s_RV σ k) p v d = true := by
      unfold r_can
      rw [n_tb, decide_eq_true c1, decide_eq_true c2, decide_eq_true c3, decide_eq_true c4]
      rfl
    rw [if_pos hc] at e
    refine iL_rightsFor_64 rfl ?_
    show z_J Z mL_rightsFor _ _ _ Q 73 [_, _, _, _, _, _, .int (nI (s_giv σ p v d k) ||| (nI 1 <<< (nI k &&& 31))), _] _ h
    rw [n_sh1 (by omega), nI_or, ← e]
    refine iL_rightsFor_73 rfl ?_
    rw [← nI_add] at ih
    exact ih
theorem c_L_rightsFor {d p v : Nat} (LH : z_lh h la x y) (I : z_li σ x) (hok : s_ok σ) (hd : d ≤ 720) (hp : p < 5) (hv : v < 1000) : z_J Z mL_rightsFor (zR 0 0 0 0) 0 0 (z_eq (.inl (some (.int (nI (s_giv σ p v d (s_nR σ)))))) h) 0 [.ref (la 700), .ref (la 701), .ref (la 709), .int (nI d), .int (nI p), .int (nI v)] [] h := by
  refine iL_rightsFor_0 rfl ?_
  exact l_L_rightsFor LH I hok hd hp hv ⟨rfl, rfl⟩ (s_nR σ) 0 (by omega)
/-- the greatest version of a machine's group -/
theorem l_L_lay1 {d m p : Nat} {l11 : List Value} (LH : z_lh h la x y) (I : z_li σ x) (hok : s_ok σ) (hd : d ≤ 720) (hp : p < 5) (hm : m < 1000)
    (hq : ∀ tl : List Value, z_J Z mL_lay (zR 2 51 0 0) 0 0 Q 111 ([.int (nI d), .ref (la 700), .ref (la 701), .ref (la 702), .ref (la 703), .ref (la 704), .ref (la 705), .ref (la 706), .ref (la 707), .ref (la 708), .ref (la 709), .int (nI m), .int (nI p), .int (nI (s_gr σ d m p))] ++ tl) [] h) :
    ∀ n k (tl : List Value), k + n = s_nM σ → tl.length ≤ 1 → z_J Z mL_lay (zR 2 51 0 0) 0 0 Q 49 ([.int (nI d), .ref (la 700), .ref (la 701), .ref (la 702), .ref (la 703), .ref (la 704), .ref (la 705), .ref (la 706), .ref (la 707), .ref (la 708), .ref (la 709), .int (nI m), .int (nI p), .int (nI (n_gr (s_by σ) (s_on σ d) k m p)), .int (nI k)]) [] h := by
  obtain ⟨⟨a0, a1, a2, a3, a4, a5⟩, ⟨a6, a7, a8⟩, a9⟩ := id LH
  obtain ⟨⟨i1, i2, i3, i4⟩, i5, i6, i7, i8, i10, i11⟩ := id I
  intro n
  induction n with
  | zero =>
    intro k tl hk htl
    obtain rfl : k = s_nM σ := by omega
    refine iL_lay_49 rfl ?_
    refine iL_lay_54 a9 rfl (by omega) (by omega) ?_
    refine iL_lay_55 (fun cc => ?_) (fun cc => ?_)
    · exact hq [.int (nI (s_nM σ))]
    · rw [i3] at cc
      exact absurd (Int32.le_refl _) cc
  | succ n ih =>
    intro k tl hk htl
    have ih := ih (k + 1) [] (by omega) (by simp)
    have hon : ∀ j, j < s_nM σ → s_on σ d j p ≤ 9 := fun j hj => I.on hd hj hp
    have h9 : n_gr (s_by σ) (s_on σ d) k m p ≤ 9 := n_gr_le (fun j hj => hon j (by omega))
    have hk9 := hon k (by omega)
    have e : n_gr (s_by σ) (s_on σ d) (k + 1) m p = if s_by σ k = m then max (n_gr (s_by σ) (s_on σ d) k m p) (s_on σ d k p) else n_gr (s_by σ) (s_on σ d) k m p := rfl
    have hby : s_by σ k < 8 := m_by_lt hok.2.1 (by omega) 8
    refine iL_lay_49 rfl ?_
    refine iL_lay_54 a9 rfl (by omega) (by omega) ?_
    refine iL_lay_55 (fun cc => ?_) (fun cc => ?_)
    · rw [i3] at cc
      have := n_le cc; omega
    refine iL_lay_58 rfl ?_
    refine iL_lay_63 (R' := zR 0 0 0 0) rfl rfl (z_rmo rfl) (c_L_counts LH I hok.2.1 (by omega)) (z_qr ?_) z_qx
    refine iL_lay_66 rfl ?_
    refine iL_lay_68 (fun c1 => ?_) (fun c1 => ?_)
    · rw [if_neg (n_ne c1)] at e
      refine iL_lay_86 rfl ?_
      refine iL_lay_87 rfl ?_
      refine iL_lay_93 (fun c2 => ?_) (fun c2 => ?_)
      · refine iL_lay_101 rfl ?_
        refine iL_lay_103 rfl ?_
        refine z_J.take 15 ?_
        rw [e, ← nI_add] at ih
        exact ih
      · exact absurd (nI_pos' (n := n_gr (s_by σ) (s_on σ d) k m p) (by omega)) c2
    · rw [if_pos (n_eq c1)] at e
      refine iL_lay_71 rfl ?_
      refine iL_lay_80 (R' := zR 1 26 0 0) rfl rfl (z_rmo rfl) (c_L_version LH i4 (fun j hj => (i10 j hj).2.2.1) (by omega) hp (by omega)) (z_qr ?_) z_qx
      rw [(i11 k p (by omega) hp).1 d hd]
      refine iL_lay_83 rfl ?_
      refine iL_lay_87 rfl ?_
      refine iL_lay_93 (fun c2 => ?_) (fun c2 => ?_)
      · have c2 := n_le c2
        rw [Nat.max_eq_left c2] at e
        refine iL_lay_101 rfl ?_
        refine iL_lay_103 rfl ?_
        refine z_J.take 15 ?_
        rw [e, ← nI_add] at ih
        exact ih
      · have c2 := n_nle c2
        rw [Nat.max_eq_right (by omega)] at e
        refine iL_lay_96 rfl ?_
        refine iL_lay_103 rfl ?_
        refine z_J.take 15 ?_
        rw [e, ← nI_add] at ih
        exact ih
end ZLay
