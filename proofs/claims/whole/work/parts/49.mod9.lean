/-! ===== the model: uninstall ===== -/
section ZMod9
variable {Z : zZ} {h : zH} {am : Nat → Nat} {th : Nat} {σ : zSt} {HO : Nat → Int32} {E : zMs} {S : zMn} {Q : zO → zH → Prop}
theorem nu_id (f : Nat → Nat) (q : Nat) : nu f q (f q) = f := by
  funext i; unfold nu; split
  · rename_i e; rw [e]
  · rfl
theorem nuF_id (f : Nat → Nat → Nat) (q : Nat) : nuF f q (f q) = f := by
  funext i; unfold nuF; split
  · rename_i e; rw [e]
  · rfl
theorem c_X6_uninstall {m p d : Int32} (H : z_mod h am th σ) : z_J Z mX6_uninstall (zR 2 43 0 0) 0 0 (z_resm h am (f_uninstall σ m p d)) 0 [.ref (am 600), .int m, .int p, .int d] [] h := by
  obtain ⟨HO, E, S, HM, HI, hS⟩ := H
  have hn8 := HI.1.2.1.1
  unfold f_uninstall
  by_cases c1 : zix m (s_nM σ) = true
  rotate_left
  · rw [if_neg (fun z => c1 z.1)]
    refine iX6_uninstall_0 rfl ?_
    refine iX6_uninstall_3 (R' := zR 1 22 0 0) rfl rfl HM.1 (z_rmo rfl) (c_X6_isMachine HM hn8) (z_qr ?_) z_qx
    refine iX6_uninstall_6 (fun c => ?_) (fun c => ?_)
    rotate_left
    · exact absurd (zb_n0 c) c1
    · refine iX6_uninstall_16 rfl ?_
      refine iX6_uninstall_32 HM.1 rfl ?_
      refine iX6_uninstall_35 rfl ?_
      refine iX6_uninstall_36 z_u_s rfl ?_
      refine iX6_uninstall_39 (fun c2 => ?_) (fun c2 => ?_)
      · exact absurd c2 (by decide)
      · refine iX6_uninstall_42 rfl ?_
        exact iX6_uninstall_43 (Nat.le_of_ble_eq_true rfl) (Nat.le_of_ble_eq_true rfl) (z_resm_x HM HI hS 1 0)
  have hir := c_X6_isMachine (Z := Z) (m := m) HM hn8
  rw [c1] at hir
  by_cases cp : zix p 5 = true
  rotate_left
  · rw [if_neg (fun z => cp z.2)]
    refine iX6_uninstall_0 rfl ?_
    refine iX6_uninstall_3 (R' := zR 1 22 0 0) rfl rfl HM.1 (z_rmo rfl) (hir) (z_qr ?_) z_qx
    refine iX6_uninstall_6 (fun c => ?_) (fun c => ?_)
    · exact absurd c (by decide)
    refine iX6_uninstall_9 rfl ?_
    refine iX6_uninstall_10 (R' := zR 1 22 0 0) rfl rfl (z_rmo rfl) (c_X6_isProduct) (z_qr ?_) z_qx
    refine iX6_uninstall_13 (fun c => ?_) (fun c => ?_)
    · exact absurd (zb_n0 c) cp
    · refine iX6_uninstall_16 rfl ?_
      refine iX6_uninstall_32 HM.1 rfl ?_
      refine iX6_uninstall_35 rfl ?_
      refine iX6_uninstall_36 z_u_s rfl ?_
      refine iX6_uninstall_39 (fun c2 => ?_) (fun c2 => ?_)
      · exact absurd c2 (by decide)
      · refine iX6_uninstall_42 rfl ?_
        exact iX6_uninstall_43 (Nat.le_of_ble_eq_true rfl) (Nat.le_of_ble_eq_true rfl) (z_resm_x HM HI hS 1 0)
  have hip := c_X6_isProduct (Z := Z) (h := h) (p := p)
  rw [cp] at hip
  rw [if_pos ⟨c1, cp⟩]
  by_cases c3 : zin d 0 720 = true
  rotate_left
  · rw [if_neg c3]
    refine iX6_uninstall_0 rfl ?_
    refine iX6_uninstall_3 (R' := zR 1 22 0 0) rfl rfl HM.1 (z_rmo rfl) (hir) (z_qr ?_) z_qx
    refine iX6_uninstall_6 (fun c => ?_) (fun c => ?_)
    · exact absurd c (by decide)
    refine iX6_uninstall_9 rfl ?_
    refine iX6_uninstall_10 (R' := zR 1 22 0 0) rfl rfl (z_rmo rfl) (hip) (z_qr ?_) z_qx
    refine iX6_uninstall_13 (fun c => ?_) (fun c => ?_)
    rotate_left
    · exact absurd c (by decide)
    refine iX6_uninstall_20 rfl ?_
    refine iX6_uninstall_21 (R' := zR 1 22 0 0) rfl rfl (z_rmo rfl) (c_X6_isDay) (z_qr ?_) z_qx
    refine iX6_uninstall_24 (fun c => ?_) (fun c => ?_)
    rotate_left
    · exact absurd (zb_n0 c) c3
    · refine iX6_uninstall_31 rfl ?_
      refine iX6_uninstall_32 HM.1 rfl ?_
      refine iX6_uninstall_35 rfl ?_
      refine iX6_uninstall_36 z_u_s rfl ?_
      refine iX6_uninstall_39 (fun c2 => ?_) (fun c2 => ?_)
      · exact absurd c2 (by decide)
      · refine iX6_uninstall_42 rfl ?_
        exact iX6_uninstall_43 (Nat.le_of_ble_eq_true rfl) (Nat.le_of_ble_eq_true rfl) (z_resm_x HM HI hS 2 0)
  have hid := c_X6_isDay (Z := Z) (h := h) (d := d)
  rw [c3] at hid
  rw [if_pos c3]
  refine iX6_uninstall_0 rfl ?_
  refine iX6_uninstall_3 (R' := zR 1 22 0 0) rfl rfl HM.1 (z_rmo rfl) (hir) (z_qr ?_) z_qx
  refine iX6_uninstall_6 (fun c => ?_) (fun c => ?_)
  · exact absurd c (by decide)
  refine iX6_uninstall_9 rfl ?_
  refine iX6_uninstall_10 (R' := zR 1 22 0 0) rfl rfl (z_rmo rfl) (hip) (z_qr ?_) z_qx
  refine iX6_uninstall_13 (fun c => ?_) (fun c => ?_)
  rotate_left
  · exact absurd c (by decide)
  refine iX6_uninstall_20 rfl ?_
  refine iX6_uninstall_21 (R' := zR 1 22 0 0) rfl rfl (z_rmo rfl) (hid) (z_qr ?_) z_qx
  refine iX6_uninstall_24 (fun c => ?_) (fun c => ?_)
  · exact absurd c (by decide)
  obtain ⟨M, rfl, m1⟩ := zix_e c1
  obtain ⟨P, rfl, p1⟩ := zix_e cp
  obtain ⟨D, rfl, d1, d2⟩ := zin_e c3
  rw [zn_nI (d := M) (by omega), zn_nI (d := P) (by omega)]
  have hqM : M * 5 + P < s_nM σ * 5 := by omega
  have hpair : ∀ g : zH, z_J Z mX6_pairOf (zR 0 0 0 0) 0 0 (z_eq (.inl (some (.int (nI (M * 5 + P))))) g) 0 [.int (nI M), .int (nI P)] [] g := fun g => c_X6_pairOf
  generalize M * 5 + P = q at hqM hpair ⊢
  have hev := HI.2.2.2.2.1 q (by omega)
  obtain ⟨lt1, lt2, lt3⟩ := z_ev_last hev
  unfold f_uninstall1
  refine iX6_uninstall_27 rfl ?_
  refine iX6_uninstall_32 HM.1 rfl ?_
  show z_J Z mX6_uninstall _ _ _ _ 35 _ _ (z_u h 600 (am 600, .inr (7, z_mfs am 0 (s_nR σ) (s_nM σ) S.1)))
  have HM1 := HM.thr 0
  have hs1 : z_same 600 619 h (z_u h 600 (am 600, .inr (7, z_mfs am 0 (s_nR σ) (s_nM σ) S.1))) := z_same.rf.u (by omega) (by omega)
  generalize z_u h 600 (am 600, .inr (7, z_mfs am 0 (s_nR σ) (s_nM σ) S.1)) = h1 at HM1 hs1 ⊢
  have k10 := HM1.2.2.2.1.1
  have k13 := HM1.2.2.2.1.2.2.2
  unfold z_arr at k10 k13
  refine iX6_uninstall_35 rfl ?_
  refine iX6_uninstall_36 HM1.1 rfl ?_
  refine iX6_uninstall_39 (fun c2 => ?_) (fun c2 => ?_)
  rotate_left
  · exact absurd (Int32.le_refl _) c2
  have J3 : ∀ v : Nat, (v = 0 ∨ ¬ h_last (s_HF σ q) (s_HE σ q) (s_HN σ q) < nI D) → ¬ (h_open (s_HE σ q) (s_HN σ q) = true ∧ h_last (s_HF σ q) (s_HE σ q) (s_HN σ q) < nI D) → v < 1000 →
      z_J Z mX6_uninstall (zR 2 43 0 0) 0 0 (z_resm h am (3, 0, σ)) 85 [.ref (am 600), .int (nI M), .int (nI P), .int (nI D), .int (nI q)] [.int (nI v)] h1 := fun v hv hn hv1 => by
    refine iX6_uninstall_85 rfl ?_
    refine iX6_uninstall_90 (fun c => ?_) (fun c => ?_)
    · refine iX6_uninstall_103 rfl ?_
      refine iX6_uninstall_108 HM1.1 rfl ?_
      refine iX6_uninstall_111 rfl ?_
      refine iX6_uninstall_112 z_u_s rfl ?_
      refine iX6_uninstall_115 (fun c3 => ?_) (fun c3 => ?_)
      · exact absurd c3 (by decide)
      · refine iX6_uninstall_118 rfl ?_
        exact iX6_uninstall_119 (Nat.le_of_ble_eq_true rfl) (Nat.le_of_ble_eq_true rfl) (z_resm_x2 hs1 HM1 HI hS 3 0)
    · have hv0 := n_ne0 c
      rcases hv with hv | hv
      · exact absurd hv hv0
      refine iX6_uninstall_93 rfl ?_
      refine iX6_uninstall_96 (R' := zR 0 0 0 0) rfl rfl HM1.1 (z_rmo rfl) (c_X6_latest HM1 HI (q := q) (by omega)) (z_qr ?_) z_qx
      refine iX6_uninstall_99 rfl ?_
      refine iX6_uninstall_100 (fun cl => ?_) (fun cl => ?_)
      · exact absurd cl hv
      · refine iX6_uninstall_103 rfl ?_
        refine iX6_uninstall_108 HM1.1 rfl ?_
        refine iX6_uninstall_111 rfl ?_
        refine iX6_uninstall_112 z_u_s rfl ?_
        refine iX6_uninstall_115 (fun c3 => ?_) (fun c3 => ?_)
        · exact absurd c3 (by decide)
        · refine iX6_uninstall_118 rfl ?_
          exact iX6_uninstall_119 (Nat.le_of_ble_eq_true rfl) (Nat.le_of_ble_eq_true rfl) (z_resm_x2 hs1 HM1 HI hS 3 0)
  have hB := HI.2.2.2.2.2 (20 * q + E.1 q - 1)
  refine iX6_uninstall_44 rfl ?_
  refine iX6_uninstall_46 (R' := zR 0 0 0 0) rfl rfl (z_rmo rfl) (hpair h1) (z_qr ?_) z_qx
  refine iX6_uninstall_49 rfl ?_
  refine iX6_uninstall_52 HM1.1 rfl ?_
  refine iX6_uninstall_55 rfl ?_
  refine iX6_uninstall_57 k10 rfl (by omega) (by omega) ?_
  refine iX6_uninstall_58 (fun c => ?_) (fun c => ?_)
  rotate_left
  · have hT := n_e0 c
    have hN := lt1.mp hT
    have hno : ¬ (h_open (s_HE σ q) (s_HN σ q) = true ∧ h_last (s_HF σ q) (s_HE σ q) (s_HN σ q) < nI D) := fun z => by
      have := z.1
      unfold h_open at this
      rw [hN] at this
      simp at this
    rw [if_neg hno]
    refine iX6_uninstall_61 rfl ?_
    exact J3 0 (Or.inl rfl) hno (by omega)
  have hT := n_ne0 c
  have hN : 0 < s_HN σ q := by omega
  obtain ⟨hl1, hl2⟩ := lt2 hN
  refine iX6_uninstall_65 rfl ?_
  refine iX6_uninstall_66 HM1.1 rfl ?_
  refine iX6_uninstall_69 rfl ?_
  refine iX6_uninstall_75 HM1.1 rfl ?_
  refine iX6_uninstall_78 rfl ?_
  refine iX6_uninstall_80 k10 rfl (by omega) (by omega) ?_
  refine iX6_uninstall_81 rfl ?_
  show z_J Z mX6_uninstall _ _ _ _ 84 _ [.int (nI 20 * nI q + nI (E.1 q) - nI 1), .ref (am 613)] h1
  rw [pk_mul, nI_add, n_m1 (by omega)]
  refine iX6_uninstall_84 k13 rfl (by omega) (by omega) ?_
  by_cases hcond : h_open (s_HE σ q) (s_HN σ q) = true ∧ h_last (s_HF σ q) (s_HE σ q) (s_HN σ q) < nI D
  rotate_left
  · rw [if_neg hcond]
    refine J3 _ ?_ hcond (by omega)
    by_cases c9 : s_HE σ q (s_HN σ q - 1) = 721
    · refine Or.inr (fun z => hcond ⟨?_, z⟩)
      unfold h_open
      rw [decide_eq_true hN, decide_eq_true c9]
      rfl
    · left
      rw [hl2, if_neg c9]
  rw [if_pos hcond, zn_nI (d := D) (by omega)]
  have ho : s_HE σ q (s_HN σ q - 1) = 721 := by
    have := hcond.1
    unfold h_open at this
    simp only [Bool.and_eq_true, decide_eq_true_eq] at this
    exact this.2
  rw [if_pos ho] at hl2
  obtain ⟨n, hn⟩ : ∃ n, s_HN σ q = n + 1 := ⟨s_HN σ q - 1, by omega⟩
  have en : s_HN σ q - 1 = n := by omega
  rw [en] at ho hl2
  obtain ⟨q1, q2, q3, q4, q5, q6, q7, q8⟩ := hev.2.2 n (by omega)
  have hfd : s_HF σ q n < D := by
    have := hcond.2
    unfold h_last at this
    rw [if_neg (by omega), en, if_pos ho] at this
    exact n_lt this
  have hT20 : E.1 q < 20 := by
    have h0 := hev.2.1
    rw [hn] at h0
    have h0' : E.1 q = ev_n (s_HE σ q) n + (if s_HE σ q n = 721 then 1 else 2) := h0
    rw [if_pos ho] at h0'
    have h1 := ev_n_le (s_HE σ q) n
    have h2 := hev.1
    omega
  rw [hl2]
  refine iX6_uninstall_85 rfl ?_
  refine iX6_uninstall_90 (fun cv => ?_) (fun cv => ?_)
  · have := n_e0 cv
    omega
  refine iX6_uninstall_93 rfl ?_
  refine iX6_uninstall_96 (R' := zR 0 0 0 0) rfl rfl HM1.1 (z_rmo rfl) (c_X6_latest HM1 HI (q := q) (by omega)) (z_qr ?_) z_qx
  refine iX6_uninstall_99 rfl ?_
  refine iX6_uninstall_100 (fun cl => ?_) (fun cl => ?_)
  rotate_left
  · exact absurd hcond.2 cl
  refine iX6_uninstall_107 rfl ?_
  refine iX6_uninstall_108 HM1.1 rfl ?_
  show z_J Z mX6_uninstall _ _ _ _ 111 _ _ (z_u h1 600 (am 600, .inr (7, z_mfs am 0 (s_nR σ) (s_nM σ) S.1)))
  rw [z_u_id HM1.1]
  refine iX6_uninstall_111 rfl ?_
  refine iX6_uninstall_112 HM1.1 rfl ?_
  refine iX6_uninstall_115 (fun c3 => ?_) (fun c3 => ?_)
  rotate_left
  · exact absurd (Int32.le_refl _) c3
  refine iX6_uninstall_120 rfl ?_
  refine iX6_uninstall_125 (R' := zR 0 0 0 0) rfl rfl HM1.1 (z_rmo rfl) (c_X6_tells HM1 HI (q := q) (d := D) (v := 0) (by omega) hT20) (fun v h' w => ?_) (fun E h' w => ?_)
  rotate_left
  · cases w.1
  obtain ⟨w1, w2, w3⟩ := w
  cases w1
  have hev' := z_ev_uninstall (d := D) (by rw [← hn]; exact hev) ho hfd d2
  rw [← hn] at hev'
  have HI' := z_mi_tells (N' := s_HN σ q) (V' := s_HV σ q) (F' := s_HF σ q) HI hqM rfl hT20 ⟨by omega, by omega⟩ hev'
  rw [nu_id, nuF_id, nuF_id] at HI'
  rw [en]
  refine iX6_uninstall_128 rfl ?_
  exact iX6_uninstall_130 (Nat.le_of_ble_eq_true rfl) (Nat.le_of_ble_eq_true rfl) ⟨rfl, hs1.trans w2, HO, _, S, w3, HI', hS⟩
end ZMod9
