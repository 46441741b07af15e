/-! ===== the model: install, uninstall ===== -/
section ZMod8
variable {Z : zZ} {h : zH} {am : Nat → Nat} {th : Nat} {σ : zSt} {HO : Nat → Int32} {E : zMs} {S : zMn} {Q : zO → zH → Prop}
theorem z_mo.put {h1 : zH} {E' : zMs} {q N' : Nat} {V' F' E9 : Nat → Nat} {x : zE} (H : z_mo h1 am th σ HO E' S) (hx : x = .inl (0, 40, .inl (fun j => nI (nu (s_HN σ) q N' j)))) : z_mo (z_u h1 611 (am 611, x)) am th (σ.1, σ.2.1, (nu (s_HN σ) q N', nuF (s_HV σ) q V', nuF (s_HF σ) q F', nuF (s_HE σ) q E9), s_CU σ) HO E' S := by
  subst hx
  obtain ⟨e0, ⟨e1, e2, e3, e4, e5⟩, ⟨e6, e7, e8, e9⟩, ⟨f0, f1, f2, f3⟩, ⟨f4, f5, f6, f7, f8⟩, f9⟩ := H
  refine ⟨?_, ⟨?_, ?_, ?_, ?_, ?_⟩, ⟨?_, ?_, ?_, ?_⟩, ⟨?_, z_u_s, ?_, ?_⟩, ⟨?_, ?_, ?_, ?_, ?_⟩, ?_⟩
  all_goals rw [z_u_n (by omega)]
  all_goals assumption
theorem c_X6_install {m p v d : Int32} (H : z_mod h am th σ) : z_J Z mX6_install (zR 2 43 0 0) 0 0 (z_resm h am (f_install σ m p v d)) 0 [.ref (am 600), .int m, .int p, .int v, .int d] [] h := by
  obtain ⟨HO, E, S, HM, HI, hS⟩ := H
  have hn8 := HI.1.2.1.1
  unfold f_install
  by_cases c1 : zix m (s_nM σ) = true
  rotate_left
  · rw [if_neg (fun z => c1 z.1)]
    refine iX6_install_0 rfl ?_
    refine iX6_install_3 (R' := zR 1 22 0 0) rfl rfl HM.1 (z_rmo rfl) (c_X6_isMachine HM hn8) (z_qr ?_) z_qx
    refine iX6_install_6 (fun c => ?_) (fun c => ?_)
    rotate_left
    · exact absurd (zb_n0 c) c1
    · refine iX6_install_16 rfl ?_
      refine iX6_install_43 HM.1 rfl ?_
      refine iX6_install_46 rfl ?_
      refine iX6_install_47 z_u_s rfl ?_
      refine iX6_install_50 (fun c2 => ?_) (fun c2 => ?_)
      · refine iX6_install_92 rfl ?_
        refine iX6_install_93 z_u_s rfl ?_
        refine iX6_install_96 (fun c3 => ?_) (fun c3 => ?_)
        · exact absurd c3 (by decide)
        · refine iX6_install_99 rfl ?_
          exact iX6_install_100 (Nat.le_of_ble_eq_true rfl) (Nat.le_of_ble_eq_true rfl) (z_resm_x HM HI hS 1 0)
      · exact absurd c2 (by decide)
  have hir := c_X6_isMachine (Z := Z) (m := m) HM hn8
  rw [c1] at hir
  by_cases cp : zix p 5 = true
  rotate_left
  · rw [if_neg (fun z => cp z.2)]
    refine iX6_install_0 rfl ?_
    refine iX6_install_3 (R' := zR 1 22 0 0) rfl rfl HM.1 (z_rmo rfl) (hir) (z_qr ?_) z_qx
    refine iX6_install_6 (fun c => ?_) (fun c => ?_)
    · exact absurd c (by decide)
    refine iX6_install_9 rfl ?_
    refine iX6_install_10 (R' := zR 1 22 0 0) rfl rfl (z_rmo rfl) (c_X6_isProduct) (z_qr ?_) z_qx
    refine iX6_install_13 (fun c => ?_) (fun c => ?_)
    · exact absurd (zb_n0 c) cp
    · refine iX6_install_16 rfl ?_
      refine iX6_install_43 HM.1 rfl ?_
      refine iX6_install_46 rfl ?_
      refine iX6_install_47 z_u_s rfl ?_
      refine iX6_install_50 (fun c2 => ?_) (fun c2 => ?_)
      · refine iX6_install_92 rfl ?_
        refine iX6_install_93 z_u_s rfl ?_
        refine iX6_install_96 (fun c3 => ?_) (fun c3 => ?_)
        · exact absurd c3 (by decide)
        · refine iX6_install_99 rfl ?_
          exact iX6_install_100 (Nat.le_of_ble_eq_true rfl) (Nat.le_of_ble_eq_true rfl) (z_resm_x HM HI hS 1 0)
      · exact absurd c2 (by decide)
  have hip := c_X6_isProduct (Z := Z) (h := h) (p := p)
  rw [cp] at hip
  rw [if_pos ⟨c1, cp⟩]
  by_cases cv : zin v 1 9 = true
  rotate_left
  · rw [if_neg (fun z => cv z.1)]
    refine iX6_install_0 rfl ?_
    refine iX6_install_3 (R' := zR 1 22 0 0) rfl rfl HM.1 (z_rmo rfl) (hir) (z_qr ?_) z_qx
    refine iX6_install_6 (fun c => ?_) (fun c => ?_)
    · exact absurd c (by decide)
    refine iX6_install_9 rfl ?_
    refine iX6_install_10 (R' := zR 1 22 0 0) rfl rfl (z_rmo rfl) (hip) (z_qr ?_) z_qx
    refine iX6_install_13 (fun c => ?_) (fun c => ?_)
    rotate_left
    · exact absurd c (by decide)
    refine iX6_install_20 rfl ?_
    refine iX6_install_24 (R' := zR 0 0 0 0) rfl rfl (z_rmo rfl) (c_X6_in) (z_qr ?_) z_qx
    refine iX6_install_27 (fun c => ?_) (fun c => ?_)
    rotate_left
    · exact absurd (zb_n0 c) cv
    · refine iX6_install_42 rfl ?_
      refine iX6_install_43 HM.1 rfl ?_
      refine iX6_install_46 rfl ?_
      refine iX6_install_47 z_u_s rfl ?_
      refine iX6_install_50 (fun c2 => ?_) (fun c2 => ?_)
      · refine iX6_install_92 rfl ?_
        refine iX6_install_93 z_u_s rfl ?_
        refine iX6_install_96 (fun c3 => ?_) (fun c3 => ?_)
        · exact absurd c3 (by decide)
        · refine iX6_install_99 rfl ?_
          exact iX6_install_100 (Nat.le_of_ble_eq_true rfl) (Nat.le_of_ble_eq_true rfl) (z_resm_x HM HI hS 2 0)
      · exact absurd c2 (by decide)
  have hiv := c_X6_in (Z := Z) (h := h) (v := v) (lo := nI 1) (hi := nI 9)
  rw [zin_n, cv] at hiv
  by_cases c3 : zin d 0 720 = true
  rotate_left
  · rw [if_neg (fun z => c3 z.2)]
    refine iX6_install_0 rfl ?_
    refine iX6_install_3 (R' := zR 1 22 0 0) rfl rfl HM.1 (z_rmo rfl) (hir) (z_qr ?_) z_qx
    refine iX6_install_6 (fun c => ?_) (fun c => ?_)
    · exact absurd c (by decide)
    refine iX6_install_9 rfl ?_
    refine iX6_install_10 (R' := zR 1 22 0 0) rfl rfl (z_rmo rfl) (hip) (z_qr ?_) z_qx
    refine iX6_install_13 (fun c => ?_) (fun c => ?_)
    rotate_left
    · exact absurd c (by decide)
    refine iX6_install_20 rfl ?_
    refine iX6_install_24 (R' := zR 0 0 0 0) rfl rfl (z_rmo rfl) (hiv) (z_qr ?_) z_qx
    refine iX6_install_27 (fun c => ?_) (fun c => ?_)
    · exact absurd c (by decide)
    refine iX6_install_30 rfl ?_
    refine iX6_install_32 (R' := zR 1 22 0 0) rfl rfl (z_rmo rfl) (c_X6_isDay) (z_qr ?_) z_qx
    refine iX6_install_35 (fun c => ?_) (fun c => ?_)
    rotate_left
    · exact absurd (zb_n0 c) c3
    · refine iX6_install_42 rfl ?_
      refine iX6_install_43 HM.1 rfl ?_
      refine iX6_install_46 rfl ?_
      refine iX6_install_47 z_u_s rfl ?_
      refine iX6_install_50 (fun c2 => ?_) (fun c2 => ?_)
      · refine iX6_install_92 rfl ?_
        refine iX6_install_93 z_u_s rfl ?_
        refine iX6_install_96 (fun c3 => ?_) (fun c3 => ?_)
        · exact absurd c3 (by decide)
        · refine iX6_install_99 rfl ?_
          exact iX6_install_100 (Nat.le_of_ble_eq_true rfl) (Nat.le_of_ble_eq_true rfl) (z_resm_x HM HI hS 2 0)
      · exact absurd c2 (by decide)
  have hid := c_X6_isDay (Z := Z) (h := h) (d := d)
  rw [c3] at hid
  rw [if_pos ⟨cv, c3⟩]
  refine iX6_install_0 rfl ?_
  refine iX6_install_3 (R' := zR 1 22 0 0) rfl rfl HM.1 (z_rmo rfl) (hir) (z_qr ?_) z_qx
  refine iX6_install_6 (fun c => ?_) (fun c => ?_)
  · exact absurd c (by decide)
  refine iX6_install_9 rfl ?_
  refine iX6_install_10 (R' := zR 1 22 0 0) rfl rfl (z_rmo rfl) (hip) (z_qr ?_) z_qx
  refine iX6_install_13 (fun c => ?_) (fun c => ?_)
  rotate_left
  · exact absurd c (by decide)
  refine iX6_install_20 rfl ?_
  refine iX6_install_24 (R' := zR 0 0 0 0) rfl rfl (z_rmo rfl) (hiv) (z_qr ?_) z_qx
  refine iX6_install_27 (fun c => ?_) (fun c => ?_)
  · exact absurd c (by decide)
  refine iX6_install_30 rfl ?_
  refine iX6_install_32 (R' := zR 1 22 0 0) rfl rfl (z_rmo rfl) (hid) (z_qr ?_) z_qx
  refine iX6_install_35 (fun c => ?_) (fun c => ?_)
  · exact absurd c (by decide)
  obtain ⟨M, rfl, m1⟩ := zix_e c1
  obtain ⟨P, rfl, p1⟩ := zix_e cp
  obtain ⟨D, rfl, d1, d2⟩ := zin_e c3
  obtain ⟨V, rfl, v1, v2⟩ := zin_e cv
  rw [zn_nI (d := M) (by omega), zn_nI (d := P) (by omega), zn_nI (d := V) (by omega)]
  have hqM : M * 5 + P < s_nM σ * 5 := by omega
  have hpair : ∀ g : zH, z_J Z mX6_pairOf (zR 0 0 0 0) 0 0 (z_eq (.inl (some (.int (nI (M * 5 + P))))) g) 0 [.int (nI M), .int (nI P)] [] g := fun g => c_X6_pairOf
  generalize M * 5 + P = q at hqM hpair ⊢
  have hev := HI.2.2.2.2.1 q (by omega)
  obtain ⟨lt1, lt2, lt3⟩ := z_ev_last hev
  unfold f_install1
  refine iX6_install_38 rfl ?_
  refine iX6_install_43 HM.1 rfl ?_
  show z_J Z mX6_install _ _ _ _ 46 _ _ (z_u h 600 (am 600, .inr (7, z_mfs am 0 (s_nR σ) (s_nM σ) S.1)))
  have HM1 := HM.thr 0
  have hs1 : z_same 600 619 h (z_u h 600 (am 600, .inr (7, z_mfs am 0 (s_nR σ) (s_nM σ) S.1))) := z_same.rf.u (by omega) (by omega)
  generalize z_u h 600 (am 600, .inr (7, z_mfs am 0 (s_nR σ) (s_nM σ) S.1)) = h1 at HM1 hs1 ⊢
  refine iX6_install_46 rfl ?_
  refine iX6_install_47 HM1.1 rfl ?_
  refine iX6_install_50 (fun c2 => ?_) (fun c2 => ?_)
  · exact absurd rfl c2
  refine iX6_install_53 rfl ?_
  refine iX6_install_55 (R' := zR 0 0 0 0) rfl rfl (z_rmo rfl) (hpair h1) (z_qr ?_) z_qx
  refine iX6_install_58 rfl ?_
  refine iX6_install_64 (R' := zR 0 0 0 0) rfl rfl HM1.1 (z_rmo rfl) (c_X6_latest HM1 HI (q := q) (by omega)) (z_qr ?_) z_qx
  refine iX6_install_67 rfl ?_
  refine iX6_install_69 (fun cl => ?_) (fun cl => ?_)
  · rw [if_neg (fun z => absurd cl (i_nle.mpr z.2))]
    refine iX6_install_84 rfl ?_
    refine iX6_install_89 HM1.1 rfl ?_
    refine iX6_install_92 rfl ?_
    refine iX6_install_93 z_u_s rfl ?_
    refine iX6_install_96 (fun c3 => ?_) (fun c3 => ?_)
    · exact absurd c3 (by decide)
    · refine iX6_install_99 rfl ?_
      exact iX6_install_100 (Nat.le_of_ble_eq_true rfl) (Nat.le_of_ble_eq_true rfl) (z_resm_x2 hs1 HM1 HI hS 3 0)
  have hlast := i_nle.mp cl
  have k11 := HM1.2.2.2.1.2.1
  unfold z_arr at k11
  refine iX6_install_72 rfl ?_
  refine iX6_install_73 HM1.1 rfl ?_
  refine iX6_install_76 rfl ?_
  refine iX6_install_78 k11 rfl (by omega) (by omega) ?_
  refine iX6_install_79 rfl ?_
  refine iX6_install_81 (fun cn => ?_) (fun cn => ?_)
  rotate_left
  · rw [if_neg (fun z => by have := n_eq (b := 10) cn (by have := hev.1; omega); omega)]
    refine iX6_install_84 rfl ?_
    refine iX6_install_89 HM1.1 rfl ?_
    refine iX6_install_92 rfl ?_
    refine iX6_install_93 z_u_s rfl ?_
    refine iX6_install_96 (fun c3 => ?_) (fun c3 => ?_)
    · exact absurd c3 (by decide)
    · refine iX6_install_99 rfl ?_
      exact iX6_install_100 (Nat.le_of_ble_eq_true rfl) (Nat.le_of_ble_eq_true rfl) (z_resm_x2 hs1 HM1 HI hS 3 0)
  have hN10 : s_HN σ q < 10 := by
    have h1 := hev.1
    by_cases e : s_HN σ q = 10
    · exact absurd (congrArg nI e) cn
    · omega
  have hT20 : E.1 q < 20 := by
    have h1 := ev_n_le (s_HE σ q) (s_HN σ q)
    have h2 := hev.2.1
    omega
  rw [if_pos ⟨hN10, hlast⟩, zn_nI (d := D) (by omega)]
  refine iX6_install_88 rfl ?_
  refine iX6_install_89 HM1.1 rfl ?_
  show z_J Z mX6_install _ _ _ _ 92 _ _ (z_u h1 600 (am 600, .inr (7, z_mfs am 0 (s_nR σ) (s_nM σ) S.1)))
  rw [z_u_id HM1.1]
  refine iX6_install_92 rfl ?_
  refine iX6_install_93 HM1.1 rfl ?_
  refine iX6_install_96 (fun c3 => ?_) (fun c3 => ?_)
  rotate_left
  · exact absurd (Int32.le_refl _) c3
  refine iX6_install_101 rfl ?_
  refine iX6_install_104 (R' := zR 0 0 0 0) rfl rfl (z_rmo rfl) (hpair h1) (z_qr ?_) z_qx
  refine iX6_install_107 rfl ?_
  refine iX6_install_110 (R' := zR 0 0 0 0) rfl rfl HM1.1 (z_rmo rfl) (c_X6_tells HM1 HI (q := q) (d := D) (v := V) (by omega) hT20) (fun v h' w => ?_) (fun E h' w => ?_)
  rotate_left
  · cases w.1
  obtain ⟨w1, w2, w3⟩ := w
  cases w1
  obtain ⟨g2, rfl⟩ : ∃ g, g = h' := ⟨_, rfl⟩
  have k11' := w3.2.2.2.1.2.1
  unfold z_arr at k11'
  refine iX6_install_113 rfl ?_
  refine iX6_install_114 w3.1 rfl ?_
  refine iX6_install_117 rfl ?_
  refine iX6_install_119 (R' := zR 0 0 0 0) rfl rfl (z_rmo rfl) (hpair g2) (z_qr ?_) z_qx
  refine iX6_install_122 rfl ?_
  refine iX6_install_123 k11' rfl (by omega) (by omega) ?_
  refine iX6_install_124 rfl ?_
  show z_J Z mX6_install _ _ _ _ 126 _ [.int (nI (s_HN σ q) + nI 1), .int (nI q), .ref (am 611)] g2
  rw [nI_add]
  refine iX6_install_126 k11' rfl (by omega) (by omega) ?_
  rw [n_upd]
  have HM3 := z_mo.put (q := q) (N' := s_HN σ q + 1) (V' := nu (s_HV σ q) (s_HN σ q) V) (F' := nu (s_HF σ q) (s_HN σ q) D) (E9 := nu (s_HE σ q) (s_HN σ q) 721) w3 rfl
  have hs3 : z_same 600 619 h (z_u g2 611 (am 611, .inl (0, 40, .inl (fun j => nI (nu (s_HN σ) q (s_HN σ q + 1) j))))) := (hs1.trans w2).u (by omega) (by omega)
  generalize z_u g2 611 (am 611, .inl (0, 40, .inl (fun j => nI (nu (s_HN σ) q (s_HN σ q + 1) j)))) = g3 at HM3 hs3 ⊢
  have k113 := HM3.2.2.2.1.2.1
  unfold z_arr at k113
  refine iX6_install_127 rfl ?_
  refine iX6_install_128 HM3.1 rfl ?_
  refine iX6_install_131 rfl ?_
  refine iX6_install_133 (R' := zR 0 0 0 0) rfl rfl (z_rmo rfl) (hpair g3) (z_qr ?_) z_qx
  refine iX6_install_136 k113 rfl (by omega) (by omega) ?_
  have hval : nu (s_HN σ) q (s_HN σ q + 1) q = s_HN σ q + 1 := nu_s
  show z_J Z mX6_install _ _ _ _ 137 _ [.int (nI (nu (s_HN σ) q (s_HN σ q + 1) q))] g3
  rw [hval]
  exact iX6_install_137 (Nat.le_of_ble_eq_true rfl) (Nat.le_of_ble_eq_true rfl) ⟨rfl, hs3, HO, _, S, HM3, z_mi_tells HI hqM rfl hT20 ⟨by omega, by omega⟩ (z_ev_install hev hN10 ⟨v1, v2⟩ d2), hS⟩
end ZMod8
