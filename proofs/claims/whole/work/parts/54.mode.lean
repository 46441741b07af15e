/-! ===== the model: need, demand, gets, lack, lackBySets ===== -/
section ZModE
variable {Z : zZ} {h : zH} {am : Nat → Nat} {th : Nat} {σ : zSt} {HO : Nat → Int32} {E : zMs} {S : zMn} {Q : zO → zH → Prop}
theorem c_X6_need {d k : Int32} (H : z_mod h am th σ) : z_J Z mX6_need (zR 3 72 0 0) 0 0 (z_resm h am (f_need σ d k)) 0 [.ref (am 600), .int d, .int k] [] h := by
  obtain ⟨HO, E, S, HM, HI, hS⟩ := H
  unfold f_need
  by_cases c1 : zin d 0 720 = true
  rotate_left
  · rw [if_neg c1]
    refine iX6_need_0 rfl ?_
    refine iX6_need_3 (R' := zR 2 50 0 0) rfl rfl HM.1 (z_rmo rfl) (c_X6_asks_d HM hS c1) (fun v h' w => ?_) (fun E h' w => ?_)
    rotate_left
    · cases w.1
    obtain ⟨w1, w2, S', w3, w4⟩ := w
    cases w1
    refine iX6_need_6 (fun c => ?_) (fun c => ?_)
    · refine iX6_need_38 rfl ?_
      exact iX6_need_39 (Nat.le_of_ble_eq_true rfl) (Nat.le_of_ble_eq_true rfl) ⟨rfl, w2, HO, E, S', w3, HI, w4⟩
    · exact absurd rfl c
  rw [if_pos c1]
  obtain ⟨D, rfl, d1, d2⟩ := zin_e c1
  rw [zn_nI (d := D) (by omega)]
  refine iX6_need_0 rfl ?_
  refine iX6_need_3 (R' := zR 2 50 0 0) rfl rfl HM.1 (z_rmo rfl) (c_X6_asks HM HI d2) (fun v h' w => ?_) (fun E h' w => ?_)
  rotate_left
  · cases w.1
  obtain ⟨w1, w2, S', w3, w4, w5⟩ := w
  cases w1
  by_cases c2 : zix k (s_all σ D).length = true
  rotate_left
  · rw [if_neg c2] at w3 ⊢
    rw [Bool.eq_false_iff.mpr c2]
    refine iX6_need_6 (fun c => ?_) (fun c => ?_)
    · refine iX6_need_38 rfl ?_
      exact iX6_need_39 (Nat.le_of_ble_eq_true rfl) (Nat.le_of_ble_eq_true rfl) ⟨rfl, w2, HO, E, S', w3, HI, w4⟩
    · exact absurd rfl c
  rw [if_pos c2] at w3 ⊢
  rw [c2]
  obtain ⟨l1, l2⟩ := z_ag_len HI w5
  obtain ⟨K, rfl, b1⟩ := zix_e c2
  rw [zn_nI (d := K) (by omega)]
  obtain ⟨q1, q2, q3, q4⟩ := w5.2.at b1
  have f4 := w3.2.2.2.2.1.1
  have f5 := w3.2.2.2.2.1.2.1
  have f6 := w3.2.2.2.2.1.2.2.1
  unfold z_arr at f4 f5 f6
  refine iX6_need_6 (fun c => ?_) (fun c => ?_)
  · exact absurd c (by decide)
  refine iX6_need_9 rfl ?_
  refine iX6_need_12 w3.1 rfl ?_
  refine iX6_need_15 rfl ?_
  refine iX6_need_16 f4 rfl (by omega) (by omega) ?_
  refine iX6_need_17 rfl ?_
  refine iX6_need_21 w3.1 rfl ?_
  refine iX6_need_24 rfl ?_
  refine iX6_need_25 f5 rfl (by omega) (by omega) ?_
  refine iX6_need_26 rfl ?_
  refine iX6_need_29 w3.1 rfl ?_
  refine iX6_need_32 rfl ?_
  refine iX6_need_33 f6 rfl (by omega) (by omega) ?_
  refine iX6_need_34 rfl ?_
  refine iX6_need_39 (Nat.le_of_ble_eq_true rfl) (Nat.le_of_ble_eq_true rfl) ⟨?_, w2, HO, E, S', w3, HI, l2⟩
  show Sum.inl (some (Value.int (nI 100 * nI (S'.2.1 K) + nI 10 * nI (S'.2.2.1 K) + nI (S'.2.2.2.1 K)))) = Sum.inl (some (Value.int (nI (100 * (t_q (s_all σ D) K).1 + 10 * (t_q (s_all σ D) K).2.1 + (t_q (s_all σ D) K).2.2.1))))
  rw [pk_mul, pk_mul, nI_add, nI_add, q1, q2, q3]
theorem c_X6_demand {d k : Int32} (H : z_mod h am th σ) : z_J Z mX6_demand (zR 3 72 0 0) 0 0 (z_resm h am (f_demand σ d k)) 0 [.ref (am 600), .int d, .int k] [] h := by
  obtain ⟨HO, E, S, HM, HI, hS⟩ := H
  unfold f_demand
  by_cases c1 : zin d 0 720 = true
  rotate_left
  · rw [if_neg c1]
    refine iX6_demand_0 rfl ?_
    refine iX6_demand_3 (R' := zR 2 50 0 0) rfl rfl HM.1 (z_rmo rfl) (c_X6_asks_d HM hS c1) (fun v h' w => ?_) (fun E h' w => ?_)
    rotate_left
    · cases w.1
    obtain ⟨w1, w2, S', w3, w4⟩ := w
    cases w1
    refine iX6_demand_6 (fun c => ?_) (fun c => ?_)
    · refine iX6_demand_18 rfl ?_
      exact iX6_demand_19 (Nat.le_of_ble_eq_true rfl) (Nat.le_of_ble_eq_true rfl) ⟨rfl, w2, HO, E, S', w3, HI, w4⟩
    · exact absurd rfl c
  rw [if_pos c1]
  obtain ⟨D, rfl, d1, d2⟩ := zin_e c1
  rw [zn_nI (d := D) (by omega)]
  refine iX6_demand_0 rfl ?_
  refine iX6_demand_3 (R' := zR 2 50 0 0) rfl rfl HM.1 (z_rmo rfl) (c_X6_asks HM HI d2) (fun v h' w => ?_) (fun E h' w => ?_)
  rotate_left
  · cases w.1
  obtain ⟨w1, w2, S', w3, w4, w5⟩ := w
  cases w1
  by_cases c2 : zix k (s_all σ D).length = true
  rotate_left
  · rw [if_neg c2] at w3 ⊢
    rw [Bool.eq_false_iff.mpr c2]
    refine iX6_demand_6 (fun c => ?_) (fun c => ?_)
    · refine iX6_demand_18 rfl ?_
      exact iX6_demand_19 (Nat.le_of_ble_eq_true rfl) (Nat.le_of_ble_eq_true rfl) ⟨rfl, w2, HO, E, S', w3, HI, w4⟩
    · exact absurd rfl c
  rw [if_pos c2] at w3 ⊢
  rw [c2]
  obtain ⟨l1, l2⟩ := z_ag_len HI w5
  obtain ⟨K, rfl, b1⟩ := zix_e c2
  rw [zn_nI (d := K) (by omega)]
  obtain ⟨q1, q2, q3, q4⟩ := w5.2.at b1
  have q4' : S'.2.2.2.2.1 K = t_D (s_all σ D) K := q4
  have f7 := w3.2.2.2.2.1.2.2.2.1
  unfold z_arr at f7
  refine iX6_demand_6 (fun c => ?_) (fun c => ?_)
  · exact absurd c (by decide)
  refine iX6_demand_9 rfl ?_
  refine iX6_demand_10 w3.1 rfl ?_
  refine iX6_demand_13 rfl ?_
  refine iX6_demand_14 f7 rfl (by omega) (by omega) ?_
  refine iX6_demand_15 rfl ?_
  exact iX6_demand_19 (Nat.le_of_ble_eq_true rfl) (Nat.le_of_ble_eq_true rfl) ⟨by rw [← q4'], w2, HO, E, S', w3, HI, l2⟩
theorem c_X6_gets {d k : Int32} (H : z_mod h am th σ) : z_J Z mX6_gets (zR 3 74 0 0) 0 0 (z_resm h am (f_gets σ d k)) 0 [.ref (am 600), .int d, .int k] [] h := by
  obtain ⟨HO, E, S, HM, HI, hS⟩ := H
  unfold f_gets
  by_cases c1 : zin d 0 720 = true
  rotate_left
  · rw [if_neg c1]
    refine iX6_gets_0 rfl ?_
    refine iX6_gets_3 (R' := zR 2 50 0 0) rfl rfl HM.1 (z_rmo rfl) (c_X6_asks_d HM hS c1) (fun v h' w => ?_) (fun E h' w => ?_)
    rotate_left
    · cases w.1
    obtain ⟨w1, w2, S', w3, w4⟩ := w
    cases w1
    refine iX6_gets_6 (fun c => ?_) (fun c => ?_)
    · exact absurd rfl c
    · refine iX6_gets_9 rfl ?_
      exact iX6_gets_10 (Nat.le_of_ble_eq_true rfl) (Nat.le_of_ble_eq_true rfl) ⟨rfl, w2, HO, E, S', w3, HI, w4⟩
  rw [if_pos c1]
  obtain ⟨D, rfl, d1, d2⟩ := zin_e c1
  rw [zn_nI (d := D) (by omega)]
  refine iX6_gets_0 rfl ?_
  refine iX6_gets_3 (R' := zR 2 50 0 0) rfl rfl HM.1 (z_rmo rfl) (c_X6_asks HM HI d2) (fun v h' w => ?_) (fun E h' w => ?_)
  rotate_left
  · cases w.1
  obtain ⟨w1, w2, S', w3, w4, w5⟩ := w
  cases w1
  obtain ⟨g1, rfl⟩ : ∃ g, g = h' := ⟨_, rfl⟩
  by_cases c2 : zix k (s_all σ D).length = true
  rotate_left
  · rw [if_neg c2] at w3 ⊢
    rw [Bool.eq_false_iff.mpr c2]
    refine iX6_gets_6 (fun c => ?_) (fun c => ?_)
    · exact absurd rfl c
    · refine iX6_gets_9 rfl ?_
      exact iX6_gets_10 (Nat.le_of_ble_eq_true rfl) (Nat.le_of_ble_eq_true rfl) ⟨rfl, w2, HO, E, S', w3, HI, w4⟩
  rw [if_pos c2] at w3 ⊢
  rw [c2]
  obtain ⟨K, rfl, b1⟩ := zix_e c2 (by have := (z_ag_len HI w5); omega)
  rw [zn_nI (d := K) (by have := (z_ag_len HI w5); omega)]
  refine iX6_gets_6 (fun c => ?_) (fun c => ?_)
  rotate_left
  · exact absurd c (by decide)
  refine iX6_gets_11 rfl ?_
  refine iX6_gets_13 (R' := zR 2 50 0 0) rfl rfl w3.1 (z_rmo rfl) (c_X6_laysGets w3 HI d2) (fun v h' y => ?_) (fun E h' y => ?_)
  rotate_left
  · cases y.1
  obtain ⟨y1, y2, S2, y3, y4, y5, y6⟩ := y
  cases y1
  obtain ⟨l1, l2⟩ := z_ag_len HI y4
  have f8 := y3.2.2.2.2.1.2.2.2.2
  unfold z_arr at f8
  refine iX6_gets_16 rfl ?_
  refine iX6_gets_18 y3.1 rfl ?_
  refine iX6_gets_21 rfl ?_
  refine iX6_gets_22 f8 rfl (by omega) (by omega) ?_
  rw [y5 K b1]
  exact iX6_gets_23 (Nat.le_of_ble_eq_true rfl) (Nat.le_of_ble_eq_true rfl) ⟨rfl, w2.trans y2, HO, E, S2, y3, HI, l2⟩
theorem l_X6_lacks {D all : Nat} {x2 : Value} (HM : z_mo h am th σ HO E S) (HI : z_mi σ HO E) (hA : z_ag σ D (s_nM σ * 5) S) (hle : all ≤ n_sum (t_D (s_all σ D)) (s_all σ D).length) (hq : Q (.inl (some (.int (nI (n_sum (t_D (s_all σ D)) (s_all σ D).length - all))))) h) :
    ∀ n k, k + n = (s_all σ D).length → z_J Z mX6_lacks (zR 3 74 0 0) 0 0 Q 11 [.ref (am 600), .int (nI D), .int (nI all), .int (nI (n_sum (t_D (s_all σ D)) k)), .int (nI k)] [] h := by
  obtain ⟨l1, l2⟩ := z_ag_len HI hA
  have f7 := HM.2.2.2.2.1.2.2.2.1
  unfold z_arr at f7
  intro n
  induction n with
  | zero =>
    intro k hk
    obtain rfl : k = (s_all σ D).length := by omega
    refine iX6_lacks_11 rfl ?_
    refine iX6_lacks_14 HM.1 rfl ?_
    refine iX6_lacks_17 (fun cc => ?_) (fun cc => ?_)
    · refine iX6_lacks_36 rfl ?_
      show z_J Z mX6_lacks _ _ _ Q 39 _ [.int (nI (n_sum (t_D (s_all σ D)) (s_all σ D).length) - nI all)] h
      rw [pk_sub hle]
      exact iX6_lacks_39 (Nat.le_of_ble_eq_true rfl) (Nat.le_of_ble_eq_true rfl) hq
    · exact absurd (by show nI S.1 ≤ _; rw [l1]; exact Int32.le_refl _) cc
  | succ n ih =>
    intro k hk
    obtain ⟨q1, q2, q3, q4⟩ := hA.2.at (k := k) (by show k < (s_all σ D).length; omega)
    have q4' : S.2.2.2.2.1 k = t_D (s_all σ D) k := q4
    refine iX6_lacks_11 rfl ?_
    refine iX6_lacks_14 HM.1 rfl ?_
    refine iX6_lacks_17 (fun cc => ?_) (fun cc => ?_)
    · have h1 : nI S.1 ≤ nI k := cc
      rw [l1] at h1
      have := n_le h1
      omega
    refine iX6_lacks_20 rfl ?_
    refine iX6_lacks_22 HM.1 rfl ?_
    refine iX6_lacks_25 rfl ?_
    refine iX6_lacks_27 f7 rfl (by omega) (by omega) ?_
    rw [q4']
    refine iX6_lacks_28 rfl ?_
    show z_J Z mX6_lacks _ _ _ Q 11 [.ref (am 600), .int (nI D), .int (nI all), .int (nI (n_sum (t_D (s_all σ D)) k) + nI (t_D (s_all σ D) k)), .int (nI k + nI 1)] [] h
    rw [nI_add, nI_add]
    exact ih (k + 1) (by omega)
theorem s_fl_le (σ : zSt) (d : Nat) : ∀ k, s_fl σ d k ≤ n_sum (t_D (s_all σ d)) k := fun k => by
  refine Nat.le_trans (n_mn_le (S := 0) (Nat.zero_le _)) ?_
  unfold s_cut s_ru
  rw [n_sum_0 (f := fun c => if (0 : Nat).testBit c = true then s_RU σ c else 0) (fun k hk => by rw [Nat.zero_testBit]; rfl), Nat.zero_add]
  exact n_sum_mono (fun i hi => by split; exact Nat.zero_le _; exact Nat.le_refl _)
theorem c_X6_lacks {D : Nat} (HM : z_mo h am th σ HO E S) (HI : z_mi σ HO E) (d2 : D ≤ 720) : z_J Z mX6_lacks (zR 3 74 0 0) 0 0 (fun o g => o = .inl (some (.int (nI (s_lk σ D)))) ∧ z_same 600 619 h g ∧ ∃ S', z_mo g am th σ HO E S' ∧ S'.1 ≤ 40) 0 [.ref (am 600), .int (nI D)] [] h := by
  refine iX6_lacks_0 rfl ?_
  refine iX6_lacks_2 (R' := zR 2 50 0 0) rfl rfl HM.1 (z_rmo rfl) (c_X6_laysGets HM HI d2) (fun v h' y => ?_) (fun E h' y => ?_)
  rotate_left
  · cases y.1
  obtain ⟨y1, y2, S2, y3, y4, y5, y6⟩ := y
  cases y1
  obtain ⟨l1, l2⟩ := z_ag_len HI y4
  refine iX6_lacks_5 rfl ?_
  exact l_X6_lacks (x2 := .null) y3 HI y4 (s_fl_le σ D _) ⟨rfl, y2, S2, y3, l2⟩ (s_all σ D).length 0 (by omega)
theorem c_X6_lack {d : Int32} (H : z_mod h am th σ) : z_J Z mX6_lack (zR 4 98 0 0) 0 0 (z_resm h am (f_lack σ d)) 0 [.ref (am 600), .int d] [] h := by
  obtain ⟨HO, E, S, HM, HI, hS⟩ := H
  unfold f_lack
  by_cases c1 : zin d 0 720 = true
  rotate_left
  · rw [if_neg c1]
    refine iX6_lack_0 rfl ?_
    refine iX6_lack_2 (R' := zR 1 22 0 0) rfl rfl (z_rmo rfl) (c_X6_isDay) (z_qr ?_) z_qx
    refine iX6_lack_5 (fun c => ?_) (fun c => ?_)
    · refine iX6_lack_12 rfl ?_
      refine iX6_lack_13 HM.1 rfl ?_
      refine iX6_lack_16 rfl ?_
      refine iX6_lack_17 z_u_s rfl ?_
      refine iX6_lack_20 (fun c2 => ?_) (fun c2 => ?_)
      · exact absurd c2 (by decide)
      · refine iX6_lack_23 rfl ?_
        exact iX6_lack_32 (Nat.le_of_ble_eq_true rfl) (Nat.le_of_ble_eq_true rfl) (z_resm_x HM HI hS 1 0)
    · exact absurd (zb_n0 c) c1
  rw [if_pos c1]
  have hid := c_X6_isDay (Z := Z) (h := h) (d := d)
  rw [c1] at hid
  obtain ⟨D, rfl, d1, d2⟩ := zin_e c1
  rw [zn_nI (d := D) (by omega)]
  refine iX6_lack_0 rfl ?_
  refine iX6_lack_2 (R' := zR 1 22 0 0) rfl rfl (z_rmo rfl) (hid) (z_qr ?_) z_qx
  refine iX6_lack_5 (fun c => ?_) (fun c => ?_)
  · exact absurd c (by decide)
  refine iX6_lack_8 rfl ?_
  refine iX6_lack_13 HM.1 rfl ?_
  show z_J Z mX6_lack _ _ _ _ 16 _ _ (z_u h 600 (am 600, .inr (7, z_mfs am 0 (s_nR σ) (s_nM σ) S.1)))
  have HM1 := HM.thr 0
  have hs1 : z_same 600 619 h (z_u h 600 (am 600, .inr (7, z_mfs am 0 (s_nR σ) (s_nM σ) S.1))) := z_same.rf.u (by omega) (by omega)
  generalize z_u h 600 (am 600, .inr (7, z_mfs am 0 (s_nR σ) (s_nM σ) S.1)) = h1 at HM1 hs1 ⊢
  refine iX6_lack_16 rfl ?_
  refine iX6_lack_17 HM1.1 rfl ?_
  refine iX6_lack_20 (fun c2 => ?_) (fun c2 => ?_)
  rotate_left
  · exact absurd (Int32.le_refl _) c2
  refine iX6_lack_27 rfl ?_
  refine iX6_lack_29 (R' := zR 3 74 0 0) rfl rfl HM1.1 (z_rmo rfl) (c_X6_lacks HM1 HI d2) (fun v h' w => ?_) (fun E h' w => ?_)
  rotate_left
  · cases w.1
  obtain ⟨w1, w2, S', w3, w4⟩ := w
  cases w1
  exact iX6_lack_32 (Nat.le_of_ble_eq_true rfl) (Nat.le_of_ble_eq_true rfl) ⟨rfl, hs1.trans w2, HO, E, S', w3, HI, w4⟩
theorem c_X6_lackBySets {d : Int32} (H : z_mod h am th σ) : z_J Z mX6_lackBySets (zR 4 98 0 0) 0 0 (z_resm h am (f_lackBySets σ d)) 0 [.ref (am 600), .int d] [] h := by
  obtain ⟨HO, E, S, HM, HI, hS⟩ := H
  unfold f_lackBySets
  by_cases c1 : zin d 0 720 = true
  rotate_left
  · rw [if_neg c1]
    refine iX6_lackBySets_0 rfl ?_
    refine iX6_lackBySets_2 (R' := zR 1 22 0 0) rfl rfl (z_rmo rfl) (c_X6_isDay) (z_qr ?_) z_qx
    refine iX6_lackBySets_5 (fun c => ?_) (fun c => ?_)
    · refine iX6_lackBySets_12 rfl ?_
      refine iX6_lackBySets_13 HM.1 rfl ?_
      refine iX6_lackBySets_16 rfl ?_
      refine iX6_lackBySets_17 z_u_s rfl ?_
      refine iX6_lackBySets_20 (fun c2 => ?_) (fun c2 => ?_)
      · refine iX6_lackBySets_46 rfl ?_
        refine iX6_lackBySets_47 z_u_s rfl ?_
        refine iX6_lackBySets_50 (fun c3 => ?_) (fun c3 => ?_)
        · exact absurd c3 (by decide)
        · refine iX6_lackBySets_53 rfl ?_
          exact iX6_lackBySets_62 (Nat.le_of_ble_eq_true rfl) (Nat.le_of_ble_eq_true rfl) (z_resm_x HM HI hS 1 0)
      · exact absurd c2 (by decide)
    · exact absurd (zb_n0 c) c1
  rw [if_pos c1]
  have hid := c_X6_isDay (Z := Z) (h := h) (d := d)
  rw [c1] at hid
  obtain ⟨D, rfl, d1, d2⟩ := zin_e c1
  rw [zn_nI (d := D) (by omega)]
  refine iX6_lackBySets_0 rfl ?_
  refine iX6_lackBySets_2 (R' := zR 1 22 0 0) rfl rfl (z_rmo rfl) (hid) (z_qr ?_) z_qx
  refine iX6_lackBySets_5 (fun c => ?_) (fun c => ?_)
  · exact absurd c (by decide)
  refine iX6_lackBySets_8 rfl ?_
  refine iX6_lackBySets_13 HM.1 rfl ?_
  show z_J Z mX6_lackBySets _ _ _ _ 16 _ _ (z_u h 600 (am 600, .inr (7, z_mfs am 0 (s_nR σ) (s_nM σ) S.1)))
  have HM1 := HM.thr 0
  have hs1 : z_same 600 619 h (z_u h 600 (am 600, .inr (7, z_mfs am 0 (s_nR σ) (s_nM σ) S.1))) := z_same.rf.u (by omega) (by omega)
  generalize z_u h 600 (am 600, .inr (7, z_mfs am 0 (s_nR σ) (s_nM σ) S.1)) = h1 at HM1 hs1 ⊢
  refine iX6_lackBySets_16 rfl ?_
  refine iX6_lackBySets_17 HM1.1 rfl ?_
  refine iX6_lackBySets_20 (fun c2 => ?_) (fun c2 => ?_)
  · exact absurd rfl c2
  refine iX6_lackBySets_23 rfl ?_
  refine iX6_lackBySets_25 (R' := zR 1 24 0 0) rfl rfl HM1.1 (z_rmo rfl) (c_X6_laysNeeds HM1 HI d2) (fun v h' w => ?_) (fun E h' w => ?_)
  rotate_left
  · cases w.1
  obtain ⟨w1, w2, S', w3, w4⟩ := w
  cases w1
  obtain ⟨g1, rfl⟩ : ∃ g, g = h' := ⟨_, rfl⟩
  obtain ⟨l1, l2⟩ := z_ag_len HI w4
  refine iX6_lackBySets_28 rfl ?_
  refine iX6_lackBySets_30 w3.1 rfl ?_
  refine iX6_lackBySets_33 rfl ?_
  refine iX6_lackBySets_35 (fun c3 => ?_) (fun c3 => ?_)
  rotate_left
  · have h1 : ¬ nI S'.1 ≤ nI 10 := c3
    have := n_nle h1
    rw [if_pos (by omega)]
    refine iX6_lackBySets_38 rfl ?_
    refine iX6_lackBySets_43 w3.1 rfl ?_
    refine iX6_lackBySets_46 rfl ?_
    refine iX6_lackBySets_47 z_u_s rfl ?_
    refine iX6_lackBySets_50 (fun c4 => ?_) (fun c4 => ?_)
    · exact absurd c4 (by decide)
    · refine iX6_lackBySets_53 rfl ?_
      exact iX6_lackBySets_62 (Nat.le_of_ble_eq_true rfl) (Nat.le_of_ble_eq_true rfl) (z_resm_x2 (hs1.trans w2) w3 HI l2 2 0)
  have h1 : nI S'.1 ≤ nI 10 := c3
  have := n_le h1
  rw [if_neg (by omega)]
  refine iX6_lackBySets_42 rfl ?_
  refine iX6_lackBySets_43 w3.1 rfl ?_
  show z_J Z mX6_lackBySets _ _ _ _ 46 _ _ (z_u g1 600 (am 600, .inr (7, z_mfs am 0 (s_nR σ) (s_nM σ) S'.1)))
  rw [z_u_id w3.1]
  refine iX6_lackBySets_46 rfl ?_
  refine iX6_lackBySets_47 w3.1 rfl ?_
  refine iX6_lackBySets_50 (fun c4 => ?_) (fun c4 => ?_)
  rotate_left
  · exact absurd (Int32.le_refl _) c4
  refine iX6_lackBySets_57 rfl ?_
  refine iX6_lackBySets_59 (R' := zR 3 74 0 0) rfl rfl w3.1 (z_rmo rfl) (c_X6_lacks w3 HI d2) (fun v h' y => ?_) (fun E h' y => ?_)
  rotate_left
  · cases y.1
  obtain ⟨y1, y2, S2, y3, y4⟩ := y
  cases y1
  exact iX6_lackBySets_62 (Nat.le_of_ble_eq_true rfl) (Nat.le_of_ble_eq_true rfl) ⟨rfl, (hs1.trans w2).trans y2, HO, E, S2, y3, HI, y4⟩
end ZModE
