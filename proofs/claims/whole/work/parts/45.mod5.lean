/-! ===== the model: addRight ===== -/
section ZMod5
variable {Z : zZ} {h : zH} {am : Nat → Nat} {th : Nat} {σ : zSt} {HO : Nat → Int32} {E : zMs} {S : zMn} {Q : zO → zH → Prop}
theorem l_X6_addRight0 {p v u f l : Int32} (HM : z_mo h am th σ HO E S) (HI : z_mi σ HO E) (hS : S.1 ≤ 40) : z_J Z mX6_addRight (zR 1 22 0 0) 0 0 (z_resm h am (1, 0, σ)) 59 [.ref (am 600), .int p, .int v, .int u, .int f, .int l] [] h := by
  refine iX6_addRight_59 rfl ?_
  refine iX6_addRight_60 rfl ?_
  refine iX6_addRight_65 (fun c => ?_) (fun c => ?_)
  · exact absurd rfl c
  · refine iX6_addRight_68 rfl ?_
    refine iX6_addRight_86 HM.1 rfl ?_
    refine iX6_addRight_89 rfl ?_
    refine iX6_addRight_90 z_u_s rfl ?_
    refine iX6_addRight_93 (fun c2 => ?_) (fun c2 => ?_)
    · exact absurd c2 (by decide)
    · refine iX6_addRight_96 rfl ?_
      exact iX6_addRight_97 (Nat.le_of_ble_eq_true rfl) (Nat.le_of_ble_eq_true rfl) (z_resm_x HM HI hS 1 0)
theorem c_X6_addRight {p v u f l : Int32} (H : z_mod h am th σ) : z_J Z mX6_addRight (zR 1 22 0 0) 0 0 (z_resm h am (f_addRight σ p v u f l)) 0 [.ref (am 600), .int p, .int v, .int u, .int f, .int l] [] h := by
  obtain ⟨HO, E, S, HM, HI, hS⟩ := H
  have hn10 := HI.1.1.1
  unfold f_addRight
  by_cases c1 : zin p 1 31 = true
  rotate_left
  · rw [if_neg (by simp [c1])]
    refine iX6_addRight_0 rfl ?_
    refine iX6_addRight_4 (R' := zR 0 0 0 0) rfl rfl (z_rmo rfl) (c_X6_in) (z_qr ?_) z_qx
    refine iX6_addRight_7 (fun c => ?_) (fun c => ?_)
    · exact l_X6_addRight0 HM HI hS
    · exact absurd (zb_n0 c) c1
  have i1 := c_X6_in (Z := Z) (h := h) (v := p) (lo := nI 1) (hi := nI 31)
  rw [zin_n, c1] at i1
  by_cases c2 : zin v 1 9 = true
  rotate_left
  · rw [if_neg (by simp [c2])]
    refine iX6_addRight_0 rfl ?_
    refine iX6_addRight_4 (R' := zR 0 0 0 0) rfl rfl (z_rmo rfl) (i1) (z_qr ?_) z_qx
    refine iX6_addRight_7 (fun c => ?_) (fun c => ?_)
    · exact absurd c (by decide)
    refine iX6_addRight_10 rfl ?_
    refine iX6_addRight_14 (R' := zR 0 0 0 0) rfl rfl (z_rmo rfl) (c_X6_in) (z_qr ?_) z_qx
    refine iX6_addRight_17 (fun c => ?_) (fun c => ?_)
    · exact l_X6_addRight0 HM HI hS
    · exact absurd (zb_n0 c) c2
  have i2 := c_X6_in (Z := Z) (h := h) (v := v) (lo := nI 1) (hi := nI 9)
  rw [zin_n, c2] at i2
  by_cases c3 : zin u 1 100 = true
  rotate_left
  · rw [if_neg (by simp [c3])]
    refine iX6_addRight_0 rfl ?_
    refine iX6_addRight_4 (R' := zR 0 0 0 0) rfl rfl (z_rmo rfl) (i1) (z_qr ?_) z_qx
    refine iX6_addRight_7 (fun c => ?_) (fun c => ?_)
    · exact absurd c (by decide)
    refine iX6_addRight_10 rfl ?_
    refine iX6_addRight_14 (R' := zR 0 0 0 0) rfl rfl (z_rmo rfl) (i2) (z_qr ?_) z_qx
    refine iX6_addRight_17 (fun c => ?_) (fun c => ?_)
    · exact absurd c (by decide)
    refine iX6_addRight_20 rfl ?_
    refine iX6_addRight_24 (R' := zR 0 0 0 0) rfl rfl (z_rmo rfl) (c_X6_in) (z_qr ?_) z_qx
    refine iX6_addRight_27 (fun c => ?_) (fun c => ?_)
    · exact l_X6_addRight0 HM HI hS
    · exact absurd (zb_n0 c) c3
  have i3 := c_X6_in (Z := Z) (h := h) (v := u) (lo := nI 1) (hi := nI 100)
  rw [zin_n, c3] at i3
  by_cases c4 : zin f 0 720 = true
  rotate_left
  · rw [if_neg (by simp [c4])]
    refine iX6_addRight_0 rfl ?_
    refine iX6_addRight_4 (R' := zR 0 0 0 0) rfl rfl (z_rmo rfl) (i1) (z_qr ?_) z_qx
    refine iX6_addRight_7 (fun c => ?_) (fun c => ?_)
    · exact absurd c (by decide)
    refine iX6_addRight_10 rfl ?_
    refine iX6_addRight_14 (R' := zR 0 0 0 0) rfl rfl (z_rmo rfl) (i2) (z_qr ?_) z_qx
    refine iX6_addRight_17 (fun c => ?_) (fun c => ?_)
    · exact absurd c (by decide)
    refine iX6_addRight_20 rfl ?_
    refine iX6_addRight_24 (R' := zR 0 0 0 0) rfl rfl (z_rmo rfl) (i3) (z_qr ?_) z_qx
    refine iX6_addRight_27 (fun c => ?_) (fun c => ?_)
    · exact absurd c (by decide)
    refine iX6_addRight_30 rfl ?_
    refine iX6_addRight_36 (R' := zR 0 0 0 0) rfl rfl (z_rmo rfl) (c_X6_in) (z_qr ?_) z_qx
    refine iX6_addRight_39 (fun c => ?_) (fun c => ?_)
    · exact l_X6_addRight0 HM HI hS
    · exact absurd (zb_n0 c) c4
  have i4 := c_X6_in (Z := Z) (h := h) (v := f) (lo := nI 0) (hi := nI 720)
  rw [zin_n, c4] at i4
  by_cases c5 : n_in l f (nI 720) = true
  rotate_left
  · have c5' : (decide (f ≤ l) && decide (l ≤ nI 720)) = false := Bool.eq_false_iff.mpr c5
    rw [if_neg (by rw [c5', Bool.and_false]; decide)]
    refine iX6_addRight_0 rfl ?_
    refine iX6_addRight_4 (R' := zR 0 0 0 0) rfl rfl (z_rmo rfl) (i1) (z_qr ?_) z_qx
    refine iX6_addRight_7 (fun c => ?_) (fun c => ?_)
    · exact absurd c (by decide)
    refine iX6_addRight_10 rfl ?_
    refine iX6_addRight_14 (R' := zR 0 0 0 0) rfl rfl (z_rmo rfl) (i2) (z_qr ?_) z_qx
    refine iX6_addRight_17 (fun c => ?_) (fun c => ?_)
    · exact absurd c (by decide)
    refine iX6_addRight_20 rfl ?_
    refine iX6_addRight_24 (R' := zR 0 0 0 0) rfl rfl (z_rmo rfl) (i3) (z_qr ?_) z_qx
    refine iX6_addRight_27 (fun c => ?_) (fun c => ?_)
    · exact absurd c (by decide)
    refine iX6_addRight_30 rfl ?_
    refine iX6_addRight_36 (R' := zR 0 0 0 0) rfl rfl (z_rmo rfl) (i4) (z_qr ?_) z_qx
    refine iX6_addRight_39 (fun c => ?_) (fun c => ?_)
    · exact absurd c (by decide)
    refine iX6_addRight_42 rfl ?_
    refine iX6_addRight_49 (R' := zR 0 0 0 0) rfl rfl (z_rmo rfl) (c_X6_in) (z_qr ?_) z_qx
    refine iX6_addRight_52 (fun c => ?_) (fun c => ?_)
    · exact l_X6_addRight0 HM HI hS
    · exact absurd (zb_n0 c) c5
  have i5 := c_X6_in (Z := Z) (h := h) (v := l) (lo := f) (hi := nI 720)
  rw [c5] at i5
  have c50 : (decide (f ≤ l) && decide (l ≤ nI 720)) = true := c5
  rw [if_pos (by rw [c1, c2, c3, c4, c50]; rfl)]
  refine iX6_addRight_0 rfl ?_
  refine iX6_addRight_4 (R' := zR 0 0 0 0) rfl rfl (z_rmo rfl) (i1) (z_qr ?_) z_qx
  refine iX6_addRight_7 (fun c => ?_) (fun c => ?_)
  · exact absurd c (by decide)
  refine iX6_addRight_10 rfl ?_
  refine iX6_addRight_14 (R' := zR 0 0 0 0) rfl rfl (z_rmo rfl) (i2) (z_qr ?_) z_qx
  refine iX6_addRight_17 (fun c => ?_) (fun c => ?_)
  · exact absurd c (by decide)
  refine iX6_addRight_20 rfl ?_
  refine iX6_addRight_24 (R' := zR 0 0 0 0) rfl rfl (z_rmo rfl) (i3) (z_qr ?_) z_qx
  refine iX6_addRight_27 (fun c => ?_) (fun c => ?_)
  · exact absurd c (by decide)
  refine iX6_addRight_30 rfl ?_
  refine iX6_addRight_36 (R' := zR 0 0 0 0) rfl rfl (z_rmo rfl) (i4) (z_qr ?_) z_qx
  refine iX6_addRight_39 (fun c => ?_) (fun c => ?_)
  · exact absurd c (by decide)
  refine iX6_addRight_42 rfl ?_
  refine iX6_addRight_49 (R' := zR 0 0 0 0) rfl rfl (z_rmo rfl) (i5) (z_qr ?_) z_qx
  refine iX6_addRight_52 (fun c => ?_) (fun c => ?_)
  · exact absurd c (by decide)
  refine iX6_addRight_55 rfl ?_
  refine iX6_addRight_60 rfl ?_
  refine iX6_addRight_65 (fun c => ?_) (fun c => ?_)
  rotate_left
  · exact absurd c (by decide)
  by_cases c6 : 10 ≤ s_nR σ
  · rw [if_pos c6]
    refine iX6_addRight_72 rfl ?_
    refine iX6_addRight_73 HM.1 rfl ?_
    refine iX6_addRight_76 rfl ?_
    refine iX6_addRight_78 (fun c => ?_) (fun c => ?_)
    · exact absurd (congrArg nI (show s_nR σ = 10 by omega)) c
    · refine iX6_addRight_81 rfl ?_
      refine iX6_addRight_86 HM.1 rfl ?_
      refine iX6_addRight_89 rfl ?_
      refine iX6_addRight_90 z_u_s rfl ?_
      refine iX6_addRight_93 (fun c2 => ?_) (fun c2 => ?_)
      · exact absurd c2 (by decide)
      · refine iX6_addRight_96 rfl ?_
        exact iX6_addRight_97 (Nat.le_of_ble_eq_true rfl) (Nat.le_of_ble_eq_true rfl) (z_resm_x HM HI hS 2 0)
  rw [if_neg c6]
  have hlz : zin l 0 720 = true := by
    simp only [Bool.and_eq_true, decide_eq_true_eq] at c50
    unfold zin
    simp only [Bool.and_eq_true, decide_eq_true_eq]
    exact ⟨i_le_trans (zin_ok c4).1 c50.1, c50.2⟩
  obtain ⟨P, rfl, p1, p2⟩ := zin_e c1
  obtain ⟨V, rfl, v1, v2⟩ := zin_e c2
  obtain ⟨U, rfl, u1, u2⟩ := zin_e c3
  obtain ⟨F, rfl, f1, f2⟩ := zin_e c4
  obtain ⟨L, rfl, l1, l2⟩ := zin_e hlz
  rw [zn_nI (d := P) (by omega), zn_nI (d := V) (by omega), zn_nI (d := U) (by omega), zn_nI (d := F) (by omega), zn_nI (d := L) (by omega)]
  refine iX6_addRight_72 rfl ?_
  refine iX6_addRight_73 HM.1 rfl ?_
  refine iX6_addRight_76 rfl ?_
  refine iX6_addRight_78 (fun c => ?_) (fun c => ?_)
  rotate_left
  · have := n_eq (b := 10) c
    omega
  obtain ⟨e0, ⟨e1, e2, e3, e4, e5⟩, ⟨e6, e7, e8, e9⟩, ⟨f0, g1, g2, g3⟩, ⟨g4, g5, g6, g7, g8⟩, g9⟩ := id HM
  unfold z_arr at e1 e2 e3 e4 e5
  refine iX6_addRight_85 rfl ?_
  refine iX6_addRight_86 HM.1 rfl ?_
  refine iX6_addRight_89 rfl ?_
  refine iX6_addRight_90 z_u_s rfl ?_
  refine iX6_addRight_93 (fun c2 => ?_) (fun c2 => ?_)
  rotate_left
  · exact absurd (Int32.le_refl _) c2
  refine iX6_addRight_98 rfl ?_
  refine iX6_addRight_99 z_u_s rfl ?_
  refine iX6_addRight_102 rfl ?_
  refine iX6_addRight_103 z_u_s rfl ?_
  refine iX6_addRight_106 rfl ?_
  refine iX6_addRight_107 ((z_u_n (by omega)).trans e1) rfl (by omega) (by omega) ?_
  rw [n_upd]
  have k0 : (z_u (z_u h 600 (am 600, .inr (7, z_mfs am 0 (s_nR σ) (s_nM σ) S.1))) 601 (am 601, .inl (0, 10, .inl (fun j => nI (nu (s_RP σ) (s_nR σ) P j))))) 600 = some (am 600, .inr (7, z_mfs am 0 (s_nR σ) (s_nM σ) S.1)) := by rw [z_u_n (by omega), z_u_s]
  have k1 : (z_u (z_u h 600 (am 600, .inr (7, z_mfs am 0 (s_nR σ) (s_nM σ) S.1))) 601 (am 601, .inl (0, 10, .inl (fun j => nI (nu (s_RP σ) (s_nR σ) P j))))) 601 = z_arr (am 601) 10 (nu (s_RP σ) (s_nR σ) P) := z_u_s
  have kx : ∀ x, x ≠ 600 → x ≠ 601 → (z_u (z_u h 600 (am 600, .inr (7, z_mfs am 0 (s_nR σ) (s_nM σ) S.1))) 601 (am 601, .inl (0, 10, .inl (fun j => nI (nu (s_RP σ) (s_nR σ) P j))))) x = h x := fun x h1 h2 => by rw [z_u_n h2, z_u_n h1]
  show z_J Z mX6_addRight _ _ _ _ 108 _ _ (z_u (z_u h 600 (am 600, .inr (7, z_mfs am 0 (s_nR σ) (s_nM σ) S.1))) 601 (am 601, .inl (0, 10, .inl (fun j => nI (nu (s_RP σ) (s_nR σ) P j)))))
  generalize z_u (z_u h 600 (am 600, .inr (7, z_mfs am 0 (s_nR σ) (s_nM σ) S.1))) 601 (am 601, .inl (0, 10, .inl (fun j => nI (nu (s_RP σ) (s_nR σ) P j)))) = G at k0 k1 kx ⊢
  refine iX6_addRight_108 rfl ?_
  refine iX6_addRight_109 k0 rfl ?_
  refine iX6_addRight_112 rfl ?_
  refine iX6_addRight_113 k0 rfl ?_
  refine iX6_addRight_116 rfl ?_
  refine iX6_addRight_117 ((kx 602 (by omega) (by omega)).trans e2) rfl (by omega) (by omega) ?_
  rw [n_upd]
  refine iX6_addRight_118 rfl ?_
  refine iX6_addRight_119 ((z_u_n (by omega)).trans k0) rfl ?_
  refine iX6_addRight_122 rfl ?_
  refine iX6_addRight_123 ((z_u_n (by omega)).trans k0) rfl ?_
  refine iX6_addRight_126 rfl ?_
  refine iX6_addRight_127 (((z_u_n (by omega)).trans (kx 603 (by omega) (by omega))).trans e3) rfl (by omega) (by omega) ?_
  rw [n_upd]
  have m0 : (z_u (z_u G 602 (am 602, .inl (0, 10, .inl (fun j => nI (nu (s_RV σ) (s_nR σ) V j))))) 603 (am 603, .inl (0, 10, .inl (fun j => nI (nu (s_RU σ) (s_nR σ) U j))))) 600 = some (am 600, .inr (7, z_mfs am 0 (s_nR σ) (s_nM σ) S.1)) := by rw [z_u_n (by omega), z_u_n (by omega)]; exact k0
  have m1 : (z_u (z_u G 602 (am 602, .inl (0, 10, .inl (fun j => nI (nu (s_RV σ) (s_nR σ) V j))))) 603 (am 603, .inl (0, 10, .inl (fun j => nI (nu (s_RU σ) (s_nR σ) U j))))) 601 = z_arr (am 601) 10 (nu (s_RP σ) (s_nR σ) P) := by rw [z_u_n (by omega), z_u_n (by omega)]; exact k1
  have m2 : (z_u (z_u G 602 (am 602, .inl (0, 10, .inl (fun j => nI (nu (s_RV σ) (s_nR σ) V j))))) 603 (am 603, .inl (0, 10, .inl (fun j => nI (nu (s_RU σ) (s_nR σ) U j))))) 602 = z_arr (am 602) 10 (nu (s_RV σ) (s_nR σ) V) := by rw [z_u_n (by omega), z_u_s]
  have m3 : (z_u (z_u G 602 (am 602, .inl (0, 10, .inl (fun j => nI (nu (s_RV σ) (s_nR σ) V j))))) 603 (am 603, .inl (0, 10, .inl (fun j => nI (nu (s_RU σ) (s_nR σ) U j))))) 603 = z_arr (am 603) 10 (nu (s_RU σ) (s_nR σ) U) := z_u_s
  have mx : ∀ x, (x < 600 ∨ 603 < x) → (z_u (z_u G 602 (am 602, .inl (0, 10, .inl (fun j => nI (nu (s_RV σ) (s_nR σ) V j))))) 603 (am 603, .inl (0, 10, .inl (fun j => nI (nu (s_RU σ) (s_nR σ) U j))))) x = h x := fun x hx => by rw [z_u_n (by omega), z_u_n (by omega), kx x (by omega) (by omega)]
  generalize z_u (z_u G 602 _) 603 _ = K at m0 m1 m2 m3 mx ⊢
  refine iX6_addRight_128 rfl ?_
  refine iX6_addRight_129 m0 rfl ?_
  refine iX6_addRight_132 rfl ?_
  refine iX6_addRight_133 m0 rfl ?_
  refine iX6_addRight_136 rfl ?_
  refine iX6_addRight_138 ((mx 604 (by omega)).trans e4) rfl (by omega) (by omega) ?_
  rw [n_upd]
  refine iX6_addRight_139 rfl ?_
  refine iX6_addRight_140 ((z_u_n (by omega)).trans m0) rfl ?_
  refine iX6_addRight_143 rfl ?_
  refine iX6_addRight_144 ((z_u_n (by omega)).trans m0) rfl ?_
  refine iX6_addRight_147 rfl ?_
  refine iX6_addRight_149 (((z_u_n (by omega)).trans (mx 605 (by omega))).trans e5) rfl (by omega) (by omega) ?_
  rw [n_upd]
  have n0 : (z_u (z_u K 604 (am 604, .inl (0, 10, .inl (fun j => nI (nu (s_RF σ) (s_nR σ) F j))))) 605 (am 605, .inl (0, 10, .inl (fun j => nI (nu (s_RL σ) (s_nR σ) L j))))) 600 = some (am 600, .inr (7, z_mfs am 0 (s_nR σ) (s_nM σ) S.1)) := by rw [z_u_n (by omega), z_u_n (by omega)]; exact m0
  refine iX6_addRight_150 rfl ?_
  refine iX6_addRight_152 n0 rfl ?_
  refine iX6_addRight_155 rfl ?_
  refine iX6_addRight_157 n0 rfl ?_
  refine iX6_addRight_160 rfl ?_
  refine iX6_addRight_161 z_u_s rfl ?_
  refine iX6_addRight_164 rfl ?_
  have hval : nI (s_nR σ) + nI 1 = nI (s_nR σ + 1) := nI_add _ _
  have hval2 : nI (s_nR σ + 1) - nI 1 = nI (s_nR σ) := nI_pred _
  refine iX6_addRight_166 (Nat.le_of_ble_eq_true rfl) (Nat.le_of_ble_eq_true rfl) ⟨?_, fun x hx => ?_, HO, E, S, ⟨?_, ⟨?_, ?_, ?_, ?_, ?_⟩, ⟨?_, ?_, ?_, ?_⟩, ⟨?_, ?_, ?_, ?_⟩, ⟨?_, ?_, ?_, ?_, ?_⟩, ?_⟩, ⟨⟨⟨by show s_nR σ + 1 ≤ 10; omega, fun i => ?_⟩, HI.1.2⟩, HI.2⟩, hS⟩
  · show Sum.inl (some (Value.int (nI (s_nR σ) + nI 1 - nI 1))) = Sum.inl (some (Value.int (nI (s_nR σ))))
    rw [hval, hval2]
  · rw [z_u_n (by omega), z_u_n (by omega), z_u_n (by omega), mx x (by omega)]
  · rw [z_u_s]
    show some (am 600, Sum.inr (7, (z_mfs am 0 (s_nR σ) (s_nM σ) S.1).set 1 (.int (nI (s_nR σ) + nI 1)))) = _
    rw [hval]
    rfl
  · rw [z_u_n (by omega), z_u_n (by omega), z_u_n (by omega)]; exact m1
  · rw [z_u_n (by omega), z_u_n (by omega), z_u_n (by omega)]; exact m2
  · rw [z_u_n (by omega), z_u_n (by omega), z_u_n (by omega)]; exact m3
  · rw [z_u_n (by omega), z_u_n (by omega)]; exact z_u_s
  · rw [z_u_n (by omega)]; exact z_u_s
  rotate_right
  · have hi := HI.1.1.2 i
    show nu (s_RP σ) (s_nR σ) P i < 32 ∧ nu (s_RF σ) (s_nR σ) F i ≤ 720 ∧ nu (s_RL σ) (s_nR σ) L i ≤ 720 ∧ nu (s_RV σ) (s_nR σ) V i ≤ 9 ∧ nu (s_RU σ) (s_nR σ) U i ≤ 100
    unfold nu
    split
    · omega
    · exact hi
  all_goals rw [z_u_n (by omega), z_u_n (by omega), z_u_n (by omega), mx _ (by omega)]
  all_goals assumption
end ZMod5
