/-! ===== the model: the day's questions ===== -/
section ZModD
variable {Z : zZ} {h : zH} {am : Nat → Nat} {th : Nat} {σ : zSt} {HO : Nat → Int32} {E : zMs} {S : zMn} {Q : zO → zH → Prop}
theorem z_ag_len {σ : zSt} {HO : Nat → Int32} {E : zMs} (HI : z_mi σ HO E) {d : Nat} {S : zMn} (hA : z_ag σ d (s_nM σ * 5) S) : S.1 = (s_all σ d).length ∧ S.1 ≤ 40 := by
  have hn8 := HI.1.2.1.1
  have hlen := s_needs_len σ d (s_nM σ * 5)
  have h1 := hA.1
  exact ⟨h1, by omega⟩
theorem c_X6_needs {d : Int32} (H : z_mod h am th σ) : z_J Z mX6_needs (zR 2 50 0 0) 0 0 (z_resm h am (f_needs σ d)) 0 [.ref (am 600), .int d] [] h := by
  obtain ⟨HO, E, S, HM, HI, hS⟩ := H
  unfold f_needs
  by_cases c1 : zin d 0 720 = true
  rotate_left
  · rw [if_neg c1]
    refine iX6_needs_0 rfl ?_
    refine iX6_needs_2 (R' := zR 1 22 0 0) rfl rfl (z_rmo rfl) (c_X6_isDay) (z_qr ?_) z_qx
    refine iX6_needs_5 (fun c => ?_) (fun c => ?_)
    · refine iX6_needs_12 rfl ?_
      refine iX6_needs_13 HM.1 rfl ?_
      refine iX6_needs_16 rfl ?_
      refine iX6_needs_17 z_u_s rfl ?_
      refine iX6_needs_20 (fun c2 => ?_) (fun c2 => ?_)
      · exact absurd c2 (by decide)
      · refine iX6_needs_23 rfl ?_
        exact iX6_needs_24 (Nat.le_of_ble_eq_true rfl) (Nat.le_of_ble_eq_true rfl) (z_resm_x HM HI hS 1 0)
    · exact absurd (zb_n0 c) c1
  rw [if_pos c1]
  have hid := c_X6_isDay (Z := Z) (h := h) (d := d)
  rw [c1] at hid
  obtain ⟨D, rfl, d1, d2⟩ := zin_e c1
  rw [zn_nI (d := D) (by omega)]
  refine iX6_needs_0 rfl ?_
  refine iX6_needs_2 (R' := zR 1 22 0 0) rfl rfl (z_rmo rfl) (hid) (z_qr ?_) z_qx
  refine iX6_needs_5 (fun c => ?_) (fun c => ?_)
  · exact absurd c (by decide)
  refine iX6_needs_8 rfl ?_
  refine iX6_needs_13 HM.1 rfl ?_
  show z_J Z mX6_needs _ _ _ _ 16 _ _ (z_u h 600 (am 600, .inr (7, z_mfs am 0 (s_nR σ) (s_nM σ) S.1)))
  have HM1 := HM.thr 0
  have hs1 : z_same 600 619 h (z_u h 600 (am 600, .inr (7, z_mfs am 0 (s_nR σ) (s_nM σ) S.1))) := z_same.rf.u (by omega) (by omega)
  generalize z_u h 600 (am 600, .inr (7, z_mfs am 0 (s_nR σ) (s_nM σ) S.1)) = h1 at HM1 hs1 ⊢
  refine iX6_needs_16 rfl ?_
  refine iX6_needs_17 HM1.1 rfl ?_
  refine iX6_needs_20 (fun c2 => ?_) (fun c2 => ?_)
  rotate_left
  · exact absurd (Int32.le_refl _) c2
  refine iX6_needs_25 rfl ?_
  refine iX6_needs_27 (R' := zR 1 24 0 0) rfl rfl HM1.1 (z_rmo rfl) (c_X6_laysNeeds HM1 HI d2) (fun v h' w => ?_) (fun E h' w => ?_)
  rotate_left
  · cases w.1
  obtain ⟨w1, w2, S', w3, w4⟩ := w
  cases w1
  obtain ⟨l1, l2⟩ := z_ag_len HI w4
  refine iX6_needs_30 rfl ?_
  refine iX6_needs_31 w3.1 rfl ?_
  exact iX6_needs_34 (Nat.le_of_ble_eq_true rfl) (Nat.le_of_ble_eq_true rfl) ⟨by rw [← l1], hs1.trans w2, HO, E, S', w3, HI, l2⟩
def z_ask (h : zH) (am : Nat → Nat) (σ : zSt) (HO : Nat → Int32) (E : zMs) (c : Nat) (b : Bool) : zO → zH → Prop := fun o g => o = .inl (some (.int (zb b))) ∧ z_same 600 619 h g ∧ ∃ S', z_mo g am c σ HO E S' ∧ S'.1 ≤ 40
theorem c_X6_asks_d {d k : Int32} (HM : z_mo h am th σ HO E S) (hS : S.1 ≤ 40) (c1 : ¬ zin d 0 720 = true) : z_J Z mX6_asks (zR 2 50 0 0) 0 0 (z_ask h am σ HO E 1 false) 0 [.ref (am 600), .int d, .int k] [] h := by
  refine iX6_asks_0 rfl ?_
  refine iX6_asks_2 (R' := zR 1 22 0 0) rfl rfl (z_rmo rfl) (c_X6_isDay) (z_qr ?_) z_qx
  refine iX6_asks_5 (fun c => ?_) (fun c => ?_)
  · refine iX6_asks_12 rfl ?_
    refine iX6_asks_13 HM.1 rfl ?_
    refine iX6_asks_16 rfl ?_
    refine iX6_asks_17 z_u_s rfl ?_
    refine iX6_asks_20 (fun c2 => ?_) (fun c2 => ?_)
    · refine iX6_asks_51 rfl ?_
      refine iX6_asks_52 z_u_s rfl ?_
      refine iX6_asks_55 (fun c3 => ?_) (fun c3 => ?_)
      · refine iX6_asks_62 rfl ?_
        exact iX6_asks_63 rfl (Nat.le_of_ble_eq_true rfl) (Nat.le_of_ble_eq_true rfl) ⟨rfl, z_same.rf.u (by omega) (by omega), S, HM.thr 1, hS⟩
      · exact absurd c3 (by decide)
    · exact absurd c2 (by decide)
  · exact absurd (zb_n0 c) c1
theorem c_X6_asks {k : Int32} {D : Nat} (HM : z_mo h am th σ HO E S) (HI : z_mi σ HO E) (d2 : D ≤ 720) : z_J Z mX6_asks (zR 2 50 0 0) 0 0 (fun o g => o = .inl (some (.int (zb (zix k (s_all σ D).length)))) ∧ z_same 600 619 h g ∧ ∃ S', z_mo g am (if zix k (s_all σ D).length = true then 0 else 2) σ HO E S' ∧ S'.1 ≤ 40 ∧ z_ag σ D (s_nM σ * 5) S') 0 [.ref (am 600), .int (nI D), .int k] [] h := by
  have hid := c_X6_isDay (Z := Z) (h := h) (d := nI D)
  have c1 : zin (nI D) 0 720 = true := by
    unfold zin
    rw [decide_eq_true (p := nI 0 ≤ nI D) ((nI_leI (by omega) (by omega)).mpr (by omega)), decide_eq_true (p := nI D ≤ nI 720) ((nI_leI (by omega) (by omega)).mpr (by omega))]
    rfl
  rw [c1] at hid
  refine iX6_asks_0 rfl ?_
  refine iX6_asks_2 (R' := zR 1 22 0 0) rfl rfl (z_rmo rfl) (hid) (z_qr ?_) z_qx
  refine iX6_asks_5 (fun c => ?_) (fun c => ?_)
  · exact absurd c (by decide)
  refine iX6_asks_8 rfl ?_
  refine iX6_asks_13 HM.1 rfl ?_
  show z_J Z mX6_asks _ _ _ _ 16 _ _ (z_u h 600 (am 600, .inr (7, z_mfs am 0 (s_nR σ) (s_nM σ) S.1)))
  have HM1 := HM.thr 0
  have hs1 : z_same 600 619 h (z_u h 600 (am 600, .inr (7, z_mfs am 0 (s_nR σ) (s_nM σ) S.1))) := z_same.rf.u (by omega) (by omega)
  generalize z_u h 600 (am 600, .inr (7, z_mfs am 0 (s_nR σ) (s_nM σ) S.1)) = h1 at HM1 hs1 ⊢
  refine iX6_asks_16 rfl ?_
  refine iX6_asks_17 HM1.1 rfl ?_
  refine iX6_asks_20 (fun c2 => ?_) (fun c2 => ?_)
  · exact absurd rfl c2
  refine iX6_asks_23 rfl ?_
  refine iX6_asks_25 (R' := zR 1 24 0 0) rfl rfl HM1.1 (z_rmo rfl) (c_X6_laysNeeds HM1 HI d2) (fun v h' w => ?_) (fun E h' w => ?_)
  rotate_left
  · cases w.1
  obtain ⟨w1, w2, S', w3, w4⟩ := w
  cases w1
  obtain ⟨g2, rfl⟩ : ∃ g, g = h' := ⟨_, rfl⟩
  obtain ⟨l1, l2⟩ := z_ag_len HI w4
  have hin2 : z_J Z mX6_in (zR 0 0 0 0) 0 0 (z_eq (.inl (some (.int (zb (zix k S'.1))))) g2) 0 [.int k, .int (nI 0), .int (nI S'.1 - nI 1)] [] g2 := by
    rw [← zix_n (by omega)]
    exact c_X6_in
  rw [← l1]
  refine iX6_asks_28 rfl ?_
  refine iX6_asks_32 w3.1 rfl ?_
  refine iX6_asks_35 rfl ?_
  refine iX6_asks_37 (R' := zR 0 0 0 0) rfl rfl (z_rmo rfl) (hin2) (z_qr ?_) z_qx
  refine iX6_asks_40 (fun c3 => ?_) (fun c3 => ?_)
  · have cz := zb_0 c3
    rw [cz]
    refine iX6_asks_47 rfl ?_
    refine iX6_asks_48 w3.1 rfl ?_
    refine iX6_asks_51 rfl ?_
    refine iX6_asks_52 z_u_s rfl ?_
    refine iX6_asks_55 (fun c4 => ?_) (fun c4 => ?_)
    · refine iX6_asks_62 rfl ?_
      exact iX6_asks_63 rfl (Nat.le_of_ble_eq_true rfl) (Nat.le_of_ble_eq_true rfl) ⟨rfl, (hs1.trans w2).u (by omega) (by omega), S', w3.thr 2, l2, w4⟩
    · exact absurd c4 (by decide)
  · have cz := zb_n0 c3
    rw [cz]
    refine iX6_asks_43 rfl ?_
    refine iX6_asks_48 w3.1 rfl ?_
    refine iX6_asks_51 rfl ?_
    refine iX6_asks_52 z_u_s rfl ?_
    refine iX6_asks_55 (fun c4 => ?_) (fun c4 => ?_)
    · exact absurd rfl c4
    · refine iX6_asks_58 rfl ?_
      exact iX6_asks_63 rfl (Nat.le_of_ble_eq_true rfl) (Nat.le_of_ble_eq_true rfl) ⟨rfl, (hs1.trans w2).u (by omega) (by omega), S', w3.thr 0, l2, w4⟩
end ZModD
