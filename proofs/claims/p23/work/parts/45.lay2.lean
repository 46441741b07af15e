/-! ===== the law: lay ===== -/
theorem z_cls.hi {Z : zZ} {h h' : zH} {ad : Nat → Nat} {σ : zSt} (H : z_cls Z h ad σ) (hk : ∀ x, x ≤ 599 → h' x = h x) : z_cls Z h' ad σ := by
  obtain ⟨h0, h1, ⟨h2, h3⟩, ⟨h4, h5, h6, h7⟩, h8⟩ := H
  have hn8 : s_nM σ ≤ 8 := h0.2.1.1
  have hn10 : s_nR σ ≤ 10 := h0.1.1
  refine ⟨h0, by rw [hk _ (by omega)]; exact h1, ⟨h2.kept (hk _ (by omega)) (hk _ (by omega)), fun i hi => ?_⟩, ⟨h4.kept (hk _ (by omega)) (hk _ (by omega)), fun j hj => ?_, fun j hj => ?_, fun q hq => (h7 q hq).kept (fun x _ _ => hk _ (by omega))⟩, by rw [hk _ (by omega)]; exact h8⟩
  · have := h3 i hi
    unfold z_right at this ⊢
    rw [hk _ (by omega)]; exact this
  · have := h5 j hj
    unfold z_mach at this ⊢
    rw [hk _ (by omega)]; exact this
  · obtain ⟨e, e1, e2⟩ := h6 j hj
    exact ⟨e, by rw [hk _ (by omega)]; exact e1, e2⟩
theorem z_world.hi {Z : zZ} {h h' : zH} {ad : Nat → Nat} {σ : zSt} (H : z_world Z h ad σ) (hk : ∀ x, x ≤ 599 → h' x = h x) : z_world Z h' ad σ := ⟨H.1.hi hk, H.2.kept (fun x _ _ => hk x (by omega))⟩
theorem z_lw.put {Z : zZ} {h h' : zH} {a1 : Nat} {la : Nat → Nat} {σ : zSt} {x x' : zLx} {y y' : zLy} (W : z_lw Z h a1 la σ x y) (hk : ∀ r, r ≤ 599 → h' r = h r) (L : z_lh h' la x' y') : z_lw Z h' a1 la σ x' y' := by
  obtain ⟨⟨ad, e, H⟩, -⟩ := W
  exact ⟨⟨ad, e, H.hi hk⟩, L⟩
theorem z_lw.ok {Z : zZ} {h : zH} {a1 : Nat} {la : Nat → Nat} {σ : zSt} {x : zLx} {y : zLy} (W : z_lw Z h a1 la σ x y) : s_ok σ := by
  obtain ⟨⟨ad, e, H⟩, -⟩ := W
  exact H.1.1
section ZLay2
variable {Z : zZ} {h : zH} {a1 : Nat} {la : Nat → Nat} {σ : zSt} {x : zLx} {y : zLy} {Q : zO → zH → Prop}
theorem l_L_lay2 {d m : Nat} {h0 : zH} (I : z_li σ x) (hok : s_ok σ) (hd : d ≤ 720) (hm : m < s_nM σ)
    (hq : ∀ (g : zH) (y : zLy) (c : Nat), z_same 706 709 h0 g → z_lh g la (x_putG x 4 c) y → l_ag σ d (m * 5 + 5) c y → z_J Z mL_lay (zR 2 51 0 0) 0 0 Q 211 [.int (nI d), .ref (la 700), .ref (la 701), .ref (la 702), .ref (la 703), .ref (la 704), .ref (la 705), .ref (la 706), .ref (la 707), .ref (la 708), .ref (la 709), .int (nI m), .int (nI 5)] [] g) :
    ∀ n p (g : zH) (y : zLy) (c : Nat), p + n = 5 → z_same 706 709 h0 g → z_lh g la (x_putG x 4 c) y → l_ag σ d (m * 5 + p) c y → z_J Z mL_lay (zR 2 51 0 0) 0 0 Q 36 [.int (nI d), .ref (la 700), .ref (la 701), .ref (la 702), .ref (la 703), .ref (la 704), .ref (la 705), .ref (la 706), .ref (la 707), .ref (la 708), .ref (la 709), .int (nI m), .int (nI p)] [] g := by
  intro n
  induction n with
  | zero =>
    intro p g y c hp hs LH hA
    obtain rfl : p = 5 := by omega
    refine iL_lay_36 rfl ?_
    refine iL_lay_39 (fun cc => ?_) (fun cc => ?_)
    · exact hq g y c hs LH hA
    · exact absurd (Int32.le_refl _) cc
  | succ n ih =>
    intro p g y c hp hs LH hA
    have I' := I.g4 c
    obtain ⟨⟨i1, i2, i3, i4⟩, i5, i6, i7, i8, i10, i11⟩ := id I
    have hmc := hok.2.2.1 m
    have hcu := hok.2.2.2 p (by omega)
    have hlen := s_needs_len σ d (m * 5 + p)
    have hc20 : c < 20 := by have := hA.1; omega
    have eg : x_G (x_putG x 4 c) 4 = c := nu_s (f := x_G x) (k := 4) (x := c)
    have h9 : s_gr σ d m p ≤ 9 := n_gr_le (fun j hj => I.on hd hj (by omega))
    have e0 : n_gr (s_by σ) (s_on σ d) m m p = 0 := n_gr_0 (fun j hj => by
      have := m_by_le (MA := s_MA σ) hok.2.1 8 j
      unfold s_by
      omega)
    refine iL_lay_36 rfl ?_
    refine iL_lay_39 (fun cc => ?_) (fun cc => ?_)
    · have := n_le cc; omega
    refine iL_lay_42 rfl ?_
    suffices hS : ∀ tl : List Value, z_J Z mL_lay (zR 2 51 0 0) 0 0 Q 111 ([.int (nI d), .ref (la 700), .ref (la 701), .ref (la 702), .ref (la 703), .ref (la 704), .ref (la 705), .ref (la 706), .ref (la 707), .ref (la 708), .ref (la 709), .int (nI m), .int (nI p), .int (nI (s_gr σ d m p))] ++ tl) [] g by
      have H1 := l_L_lay1 (l11 := []) LH I' hok hd (p := p) (m := m) (by omega) (by omega) hS (s_nM σ - m) m [] (by omega) (by simp)
      rw [e0] at H1
      exact H1
    intro tl
    have hnext : ∀ (g' : zH) (y' : zLy) (c' : Nat) (tl' : List Value), z_same 706 709 h0 g' → z_lh g' la (x_putG x 4 c') y' → l_ag σ d (m * 5 + (p + 1)) c' y' → z_J Z mL_lay (zR 2 51 0 0) 0 0 Q 205 ([.int (nI d), .ref (la 700), .ref (la 701), .ref (la 702), .ref (la 703), .ref (la 704), .ref (la 705), .ref (la 706), .ref (la 707), .ref (la 708), .ref (la 709), .int (nI m), .int (nI p)] ++ tl') [] g' := fun g' y' c' tl' q1 q2 q3 => by
      refine iL_lay_205 rfl ?_
      refine z_J.take 13 ?_
      show z_J Z mL_lay _ _ _ Q 36 [_, _, _, _, _, _, _, _, _, _, _, _, .int (nI p + nI 1)] [] g'
      rw [nI_add]
      exact ih (p + 1) g' y' c' (by omega) q1 q2 q3
    refine iL_lay_111 rfl ?_
    refine iL_lay_113 (fun cz => ?_) (fun cz => ?_)
    rotate_left
    · have hz : s_gr σ d m p = 0 := n_e0 cz
      refine iL_lay_116 rfl ?_
      refine hnext g y _ (.int (nI (s_gr σ d m p)) :: tl) hs LH ?_
      unfold l_ag
      rw [s_needs_none (by omega) hz]
      exact hA
    have hz := n_ne0 cz
    have hsn := s_needs_some (σ := σ) (d := d) (m := m) (p := p) (by omega) hz
    obtain ⟨⟨a0, a1, a2, a3, a4, a5⟩, ⟨a6, a7, a8⟩, a9⟩ := id LH
    refine iL_lay_119 rfl ?_
    refine iL_lay_124 a9 rfl (by omega) (by omega) ?_
    rw [eg]
    refine iL_lay_125 rfl ?_
    show z_J Z mL_lay _ _ _ Q 139 _ [.int (nI 100 * nI m + nI 10 * nI p + nI (s_gr σ d m p)), .int (nI c), .ref (la 706)] g
    rw [pk_mul, pk_mul, nI_add, nI_add]
    refine iL_lay_139 a6 rfl (by omega) (by omega) ?_
    rw [n_upd]
    have L1 := LH.putN c (100 * m + 10 * p + s_gr σ d m p)
    have s1 : z_same 706 709 h0 _ := hs.u (r := 706) (x := (la 706, .inl (0, 20, .inl (fun j => nI (nu y.1 c (100 * m + 10 * p + s_gr σ d m p) j))))) (by omega) (by omega)
    generalize z_u g 706 (la 706, .inl (0, 20, .inl (fun j => nI (nu y.1 c (100 * m + 10 * p + s_gr σ d m p) j)))) = g1 at L1 s1 ⊢
    obtain ⟨⟨b0, b1, b2, b3, b4, b5⟩, ⟨b6, b7, b8⟩, b9⟩ := id L1
    refine iL_lay_140 rfl ?_
    refine iL_lay_145 b9 rfl (by omega) (by omega) ?_
    rw [eg]
    refine iL_lay_146 rfl ?_
    refine iL_lay_150 b3 rfl (by omega) (by omega) ?_
    rw [show x_C (x_putG x 4 c) m = s_MC σ m from (i6 m hm).2]
    refine iL_lay_151 rfl ?_
    refine iL_lay_155 b4 rfl (by omega) (by omega) ?_
    rw [show x_U (x_putG x 4 c) p = s_CU σ p from i7 p (by omega)]
    refine iL_lay_156 (fun q => absurd (n_e0 q) (by omega)) ?_
    rw [pk_div (by omega) (by omega) (by omega)]
    refine iL_lay_157 rfl ?_
    refine iL_lay_161 b3 rfl (by omega) (by omega) ?_
    rw [show x_C (x_putG x 4 c) m = s_MC σ m from (i6 m hm).2]
    refine iL_lay_162 rfl ?_
    refine iL_lay_166 b4 rfl (by omega) (by omega) ?_
    rw [show x_U (x_putG x 4 c) p = s_CU σ p from i7 p (by omega)]
    refine iL_lay_167 (fun q => absurd (n_e0 q) (by omega)) ?_
    rw [pk_rem (by omega) (by omega) (by omega)]
    have hj : ∀ b, b = (if 0 < s_MC σ m % s_CU σ p then 1 else 0) → z_J Z mL_lay (zR 2 51 0 0) 0 0 Q 176 ([.int (nI d), .ref (la 700), .ref (la 701), .ref (la 702), .ref (la 703), .ref (la 704), .ref (la 705), .ref (la 706), .ref (la 707), .ref (la 708), .ref (la 709), .int (nI m), .int (nI p), .int (nI (s_gr σ d m p))] ++ tl) [.int (nI b), .int (nI (s_MC σ m / s_CU σ p)), .int (nI c), .ref (la 707)] g1 := fun b hb => by
      refine iL_lay_176 rfl ?_
      show z_J Z mL_lay _ _ _ Q 177 _ [.int (nI (s_MC σ m / s_CU σ p) + nI b), .int (nI c), .ref (la 707)] g1
      rw [nI_add, hb, ← l_un hcu.1]
      show z_J Z mL_lay _ _ _ Q 177 _ [.int (nI (s_un σ m p)), .int (nI c), .ref (la 707)] g1
      refine iL_lay_177 b7 rfl (by omega) (by omega) ?_
      rw [n_upd]
      have L2 := L1.putD c (s_un σ m p)
      have s2 : z_same 706 709 h0 _ := s1.u (r := 707) (x := (la 707, .inl (0, 20, .inl (fun j => nI (nu y.2.1 c (s_un σ m p) j))))) (by omega) (by omega)
      dsimp only at L2
      generalize z_u g1 707 (la 707, .inl (0, 20, .inl (fun j => nI (nu y.2.1 c (s_un σ m p) j)))) = g2 at L2 s2 ⊢
      obtain ⟨⟨d0, d1, d2, d3, d4, d5⟩, ⟨d6, d7, d8⟩, d9⟩ := id L2
      refine iL_lay_178 rfl ?_
      refine iL_lay_183 d9 rfl (by omega) (by omega) ?_
      rw [eg]
      refine iL_lay_184 rfl ?_
      refine iL_lay_193 (R' := zR 0 0 0 0) rfl rfl (z_rmo rfl) (c_L_rightsFor L2 I' hok hd (p := p) (v := s_gr σ d m p) (by omega) (by omega)) (z_qr ?_) z_qx
      refine iL_lay_196 d8 rfl (by omega) (by omega) ?_
      rw [n_upd]
      have L3 := L2.putB c (s_giv σ p (s_gr σ d m p) d (s_nR σ))
      have s3 : z_same 706 709 h0 _ := s2.u (r := 708) (x := (la 708, .inl (0, 20, .inl (fun j => nI (nu y.2.2 c (s_giv σ p (s_gr σ d m p) d (s_nR σ)) j))))) (by omega) (by omega)
      dsimp only at L3
      generalize z_u g2 708 (la 708, .inl (0, 20, .inl (fun j => nI (nu y.2.2 c (s_giv σ p (s_gr σ d m p) d (s_nR σ)) j)))) = g3 at L3 s3 ⊢
      obtain ⟨⟨f0, f1, f2, f3, f4, f5⟩, ⟨f6, f7, f8⟩, f9⟩ := id L3
      refine iL_lay_197 rfl ?_
      refine iL_lay_201 f9 rfl (by omega) (by omega) ?_
      rw [eg]
      refine iL_lay_202 rfl ?_
      show z_J Z mL_lay _ _ _ Q 204 _ [.int (nI c + nI 1), .int (nI 4), .ref (la 709)] g3
      rw [nI_add]
      refine iL_lay_204 f9 rfl (by omega) (by omega) ?_
      rw [n_upd]
      have L4 := L3.putG 4 (c + 1)
      have s4 : z_same 706 709 h0 _ := s3.u (r := 709) (x := (la 709, .inl (0, 5, .inl (fun j => nI (nu (x_G (x_putG x 4 c)) 4 (c + 1) j))))) (by omega) (by omega)
      rw [x_putG2] at L4
      generalize z_u g3 709 (la 709, .inl (0, 5, .inl (fun j => nI (nu (x_G (x_putG x 4 c)) 4 (c + 1) j)))) = g4 at L4 s4 ⊢
      exact hnext g4 _ (c + 1) (.int (nI (s_gr σ d m p)) :: tl) s4 L4 (l_ag_add hA hsn)
    refine iL_lay_168 (fun c9 => ?_) (fun c9 => ?_)
    · have c9 : s_MC σ m % s_CU σ p ≤ 0 := n_le (b := 0) c9 (by have := Nat.mod_le (s_MC σ m) (s_CU σ p); omega)
      refine iL_lay_175 rfl ?_
      exact hj 0 (by rw [if_neg (by omega)])
    · have c9 : 0 < s_MC σ m % s_CU σ p := n_nle (b := 0) c9 (by have := Nat.mod_le (s_MC σ m) (s_CU σ p); omega)
      refine iL_lay_171 rfl ?_
      exact hj 1 (by rw [if_pos c9])
theorem l_L_lay3 {d : Nat} {h0 : zH} (I : z_li σ x) (hok : s_ok σ) (hd : d ≤ 720)
    (hq : ∀ (g : zH) (y : zLy) (c : Nat), z_same 706 709 h0 g → z_lh g la (x_putG x 4 c) y → l_ag σ d (s_nM σ * 5) c y → Q (.inl none) g) :
    ∀ n m (g : zH) (y : zLy) (c : Nat), m + n = s_nM σ → z_same 706 709 h0 g → z_lh g la (x_putG x 4 c) y → l_ag σ d (m * 5) c y → z_J Z mL_lay (zR 2 51 0 0) 0 0 Q 8 [.int (nI d), .ref (la 700), .ref (la 701), .ref (la 702), .ref (la 703), .ref (la 704), .ref (la 705), .ref (la 706), .ref (la 707), .ref (la 708), .ref (la 709), .int (nI m)] [] g := by
  have n4 := I.1.1
  intro n
  induction n with
  | zero =>
    intro m g y c hm hs LH hA
    obtain rfl : m = s_nM σ := by omega
    have i3 := (I.g4 c).1.2.2.1
    refine iL_lay_8 rfl ?_
    refine iL_lay_13 LH.2.2 rfl (by omega) (by omega) ?_
    refine iL_lay_14 (fun cc => ?_) (fun cc => ?_)
    · exact iL_lay_217 (Nat.le_of_ble_eq_true rfl) (Nat.le_of_ble_eq_true rfl) (hq g y c hs LH hA)
    · rw [i3] at cc
      exact absurd (Int32.le_refl _) cc
  | succ n ih =>
    intro m g y c hm hs LH hA
    have i3 := (I.g4 c).1.2.2.1
    have hby : s_by σ m < 8 := m_by_lt hok.2.1 (by omega) 8
    have hnext : ∀ (g' : zH) (y' : zLy) (c' : Nat) (tl' : List Value), z_same 706 709 h0 g' → z_lh g' la (x_putG x 4 c') y' → l_ag σ d (m * 5 + 5) c' y' → z_J Z mL_lay (zR 2 51 0 0) 0 0 Q 211 ([.int (nI d), .ref (la 700), .ref (la 701), .ref (la 702), .ref (la 703), .ref (la 704), .ref (la 705), .ref (la 706), .ref (la 707), .ref (la 708), .ref (la 709), .int (nI m)] ++ tl') [] g' := fun g' y' c' tl' q1 q2 q3 => by
      refine iL_lay_211 rfl ?_
      refine z_J.take 12 ?_
      show z_J Z mL_lay _ _ _ Q 8 [_, _, _, _, _, _, _, _, _, _, _, .int (nI m + nI 1)] [] g'
      rw [nI_add]
      exact ih (m + 1) g' y' c' (by omega) q1 q2 (by rw [Nat.succ_mul]; exact q3)
    refine iL_lay_8 rfl ?_
    refine iL_lay_13 LH.2.2 rfl (by omega) (by omega) ?_
    refine iL_lay_14 (fun cc => ?_) (fun cc => ?_)
    · rw [i3] at cc
      have := n_le cc; omega
    refine iL_lay_17 rfl ?_
    refine iL_lay_22 (R' := zR 0 0 0 0) rfl rfl (z_rmo rfl) (c_L_counts LH (I.g4 c) hok.2.1 (by omega)) (z_qr ?_) z_qx
    refine iL_lay_25 rfl ?_
    refine iL_lay_27 (fun c1 => ?_) (fun c1 => ?_)
    · refine iL_lay_33 rfl ?_
      refine l_L_lay2 (h0 := g) I hok hd (m := m) (by omega) (fun g' y' c' q1 q2 q3 => ?_) 5 0 g y c rfl z_same.rf LH hA
      exact hnext g' y' c' [.int (nI 5)] (hs.trans q1) q2 q3
    · have hne := n_ne c1
      refine iL_lay_30 rfl ?_
      refine hnext g y c [] hs LH ?_
      have hz : ∀ p, s_gr σ d m p = 0 := fun p => n_gr_0 (fun j hj e => hne (by
        have := l_by_fix (MA := s_MA σ) hok.2.1.2 8 8 j (by omega)
        unfold s_by at e ⊢
        rw [← e]
        exact this))
      have e : s_needs σ d (m * 5 + 5) = s_needs σ d (m * 5) :=
        (s_needs_none (p := 4) (by omega) (hz 4)).trans ((s_needs_none (p := 3) (by omega) (hz 3)).trans ((s_needs_none (p := 2) (by omega) (hz 2)).trans ((s_needs_none (p := 1) (by omega) (hz 1)).trans (s_needs_none (p := 0) (by omega) (hz 0)))))
      unfold l_ag
      rw [e]
      exact hA
theorem c_L_lay {d : Nat} (W : z_lw Z h a1 la σ x y) (I : z_li σ x) (hd : d ≤ 720) : z_J Z mL_lay (zR 2 51 0 0) 0 0 (fun o g => o = .inl none ∧ ∃ y', z_lw Z g a1 la σ (x_putG x 4 (s_all σ d).length) y' ∧ l_ag σ d (s_nM σ * 5) (s_all σ d).length y') 0 [.int (nI d), .ref (la 700), .ref (la 701), .ref (la 702), .ref (la 703), .ref (la 704), .ref (la 705), .ref (la 706), .ref (la 707), .ref (la 708), .ref (la 709)] [] h := by
  have LH := W.2
  refine iL_lay_0 rfl ?_
  refine iL_lay_4 LH.2.2 rfl (by omega) (by omega) ?_
  show z_J Z mL_lay _ _ _ _ 5 _ _ (z_u h 709 (la 709, .inl (0, 5, .inl (upd (fun j => nI (x_G x j)) 4 (nI 0)))))
  rw [n_upd]
  have L1 := LH.putG 4 0
  have s1 : z_same 706 709 h _ := z_same.rf.u (r := 709) (x := (la 709, .inl (0, 5, .inl (fun j => nI (nu (x_G x) 4 0 j))))) (by omega) (by omega)
  generalize z_u h 709 (la 709, .inl (0, 5, .inl (fun j => nI (nu (x_G x) 4 0 j)))) = g1 at L1 s1 ⊢
  refine iL_lay_5 rfl ?_
  refine l_L_lay3 (h0 := h) I W.ok hd (fun g y' c q1 q2 q3 => ?_) (s_nM σ) 0 g1 y 0 (by omega) s1 L1 ⟨rfl, fun k q hk => by cases hk⟩
  obtain rfl : c = (s_all σ d).length := q3.1
  exact ⟨rfl, y', W.put (fun r hr => q1 r (by omega)) q2, q3⟩
end ZLay2
