/-! ===== the model: machines and products ===== -/
section ZMod3
variable {Z : zZ} {h : zH} {am : Nat → Nat} {th : Nat} {σ : zSt} {HO : Nat → Int32} {E : zMs} {S : zMn} {Q : zO → zH → Prop}
theorem c_X6_setCores {r v : Int32} (H : z_mod h am th σ) : z_J Z mX6_setCores (zR 2 43 0 0) 0 0 (z_resm h am (f_setCores σ r v)) 0 [.ref (am 600), .int r, .int v] [] h := by
  obtain ⟨HO, E, S, HM, HI, hS⟩ := H
  have hn8 := HI.1.2.1.1
  have a2 := HM.2.2.1.1
  unfold z_arr at a2
  unfold f_setCores
  by_cases c1 : zix r (s_nM σ) = true
  rotate_left
  · rw [if_neg c1]
    refine iX6_setCores_0 rfl ?_
    refine iX6_setCores_3 (R' := zR 1 22 0 0) rfl rfl HM.1 (z_rmo rfl) (c_X6_isMachine HM hn8) (z_qr ?_) z_qx
    refine iX6_setCores_6 (fun c => ?_) (fun c => ?_)
    · exact absurd (zb_n0 c) c1
    · refine iX6_setCores_9 rfl ?_
      refine iX6_setCores_28 HM.1 rfl ?_
      refine iX6_setCores_31 rfl ?_
      refine iX6_setCores_32 z_u_s rfl ?_
      refine iX6_setCores_35 (fun c2 => ?_) (fun c2 => ?_)
      · exact absurd c2 (by decide)
      · refine iX6_setCores_38 rfl ?_
        exact iX6_setCores_39 (Nat.le_of_ble_eq_true rfl) (Nat.le_of_ble_eq_true rfl) (z_resm_x HM HI hS 1 0)
  rw [if_pos c1]
  have hir := c_X6_isMachine (Z := Z) (m := r) HM hn8
  obtain ⟨X, rfl, b1⟩ := zix_e c1
  rw [zn_nI (d := X) (by omega)]
  by_cases c2 : zin v 1 64 = true
  rotate_left
  · rw [if_neg c2]
    refine iX6_setCores_0 rfl ?_
    refine iX6_setCores_3 (R' := zR 1 22 0 0) rfl rfl HM.1 (z_rmo rfl) (hir) (z_qr ?_) z_qx
    refine iX6_setCores_6 (fun c => ?_) (fun c => ?_)
    rotate_left
    · rw [c1] at c; exact absurd c (by decide)
    refine iX6_setCores_13 rfl ?_
    refine iX6_setCores_17 (R' := zR 0 0 0 0) rfl rfl (z_rmo rfl) (c_X6_in) (z_qr ?_) z_qx
    refine iX6_setCores_20 (fun c => ?_) (fun c => ?_)
    rotate_left
    · exact absurd (zb_n0 c) c2
    · refine iX6_setCores_27 rfl ?_
      refine iX6_setCores_28 HM.1 rfl ?_
      refine iX6_setCores_31 rfl ?_
      refine iX6_setCores_32 z_u_s rfl ?_
      refine iX6_setCores_35 (fun c2 => ?_) (fun c2 => ?_)
      · exact absurd c2 (by decide)
      · refine iX6_setCores_38 rfl ?_
        exact iX6_setCores_39 (Nat.le_of_ble_eq_true rfl) (Nat.le_of_ble_eq_true rfl) (z_resm_x HM HI hS 2 0)
  rw [if_pos c2]
  have hin := c_X6_in (Z := Z) (h := h) (v := v) (lo := nI 1) (hi := nI 64)
  rw [zin_n, c2] at hin
  obtain ⟨V, rfl, d1, d2⟩ := zin_e c2
  rw [zn_nI (d := V) (by omega)]
  refine iX6_setCores_0 rfl ?_
  refine iX6_setCores_3 (R' := zR 1 22 0 0) rfl rfl HM.1 (z_rmo rfl) (hir) (z_qr ?_) z_qx
  refine iX6_setCores_6 (fun c => ?_) (fun c => ?_)
  rotate_left
  · rw [c1] at c; exact absurd c (by decide)
  refine iX6_setCores_13 rfl ?_
  refine iX6_setCores_17 (R' := zR 0 0 0 0) rfl rfl (z_rmo rfl) (hin) (z_qr ?_) z_qx
  refine iX6_setCores_20 (fun c => ?_) (fun c => ?_)
  · exact absurd c (by decide)
  have a2' : (z_u h 600 (am 600, .inr (7, z_mfs am 0 (s_nR σ) (s_nM σ) S.1))) 606 = _ := (z_u_n (by omega)).trans a2
  refine iX6_setCores_23 rfl ?_
  refine iX6_setCores_28 HM.1 rfl ?_
  refine iX6_setCores_31 rfl ?_
  refine iX6_setCores_32 z_u_s rfl ?_
  refine iX6_setCores_35 (fun c2 => ?_) (fun c2 => ?_)
  rotate_left
  · exact absurd (Int32.le_refl _) c2
  refine iX6_setCores_40 rfl ?_
  refine iX6_setCores_41 z_u_s rfl ?_
  refine iX6_setCores_44 rfl ?_
  refine iX6_setCores_45 a2' rfl (by omega) (by omega) ?_
  refine iX6_setCores_46 rfl ?_
  refine iX6_setCores_48 z_u_s rfl ?_
  refine iX6_setCores_51 rfl ?_
  refine iX6_setCores_53 a2' rfl (by omega) (by omega) ?_
  rw [n_upd]
  refine iX6_setCores_54 rfl ?_
  obtain ⟨e0, ⟨e1, e2, e3, e4, e5⟩, ⟨e6, e7, e8, e9⟩, ⟨f0, f1, f2, f3⟩, ⟨f4, f5, f6, f7, f8⟩, f9⟩ := id HM
  refine iX6_setCores_55 (Nat.le_of_ble_eq_true rfl) (Nat.le_of_ble_eq_true rfl) ⟨rfl, (z_same.rf.u (by omega) (by omega)).u (by omega) (by omega), HO, E, S, ⟨?_, ⟨?_, ?_, ?_, ?_, ?_⟩, ⟨z_u_s, ?_, ?_, ?_⟩, ⟨?_, ?_, ?_, ?_⟩, ⟨?_, ?_, ?_, ?_, ?_⟩, ?_⟩, ⟨⟨HI.1.1, HI.1.2.1, fun i => ?_, HI.1.2.2.2⟩, HI.2⟩, hS⟩
  rotate_right
  · have hi := HI.1.2.2.1 i
    show nu (s_MC σ) X V i ≤ 64
    unfold nu
    split
    · omega
    · exact hi
  · rw [z_u_n (by omega)]; exact z_u_s
  all_goals rw [z_u_n (by omega), z_u_n (by omega)]
  all_goals assumption
theorem c_X6_setCoresOfUnit {r v : Int32} (H : z_mod h am th σ) : z_J Z mX6_setCoresOfUnit (zR 2 42 0 0) 0 0 (z_resm h am (f_setCoresOfUnit σ r v)) 0 [.ref (am 600), .int r, .int v] [] h := by
  obtain ⟨HO, E, S, HM, HI, hS⟩ := H
  have hn8 := HI.1.2.1.1
  have a2 := HM.2.2.1.2.2.2
  unfold z_arr at a2
  unfold f_setCoresOfUnit
  by_cases c1 : zix r 5 = true
  rotate_left
  · rw [if_neg c1]
    refine iX6_setCoresOfUnit_0 rfl ?_
    refine iX6_setCoresOfUnit_2 (R' := zR 1 22 0 0) rfl rfl (z_rmo rfl) (c_X6_isProduct) (z_qr ?_) z_qx
    refine iX6_setCoresOfUnit_5 (fun c => ?_) (fun c => ?_)
    · exact absurd (zb_n0 c) c1
    · refine iX6_setCoresOfUnit_8 rfl ?_
      refine iX6_setCoresOfUnit_27 HM.1 rfl ?_
      refine iX6_setCoresOfUnit_30 rfl ?_
      refine iX6_setCoresOfUnit_31 z_u_s rfl ?_
      refine iX6_setCoresOfUnit_34 (fun c2 => ?_) (fun c2 => ?_)
      · exact absurd c2 (by decide)
      · refine iX6_setCoresOfUnit_37 rfl ?_
        exact iX6_setCoresOfUnit_38 (Nat.le_of_ble_eq_true rfl) (Nat.le_of_ble_eq_true rfl) (z_resm_x HM HI hS 1 0)
  rw [if_pos c1]
  have hir := c_X6_isProduct (Z := Z) (h := h) (p := r)
  obtain ⟨X, rfl, b1⟩ := zix_e c1
  rw [zn_nI (d := X) (by omega)]
  by_cases c2 : zin v 1 16 = true
  rotate_left
  · rw [if_neg c2]
    refine iX6_setCoresOfUnit_0 rfl ?_
    refine iX6_setCoresOfUnit_2 (R' := zR 1 22 0 0) rfl rfl (z_rmo rfl) (hir) (z_qr ?_) z_qx
    refine iX6_setCoresOfUnit_5 (fun c => ?_) (fun c => ?_)
    rotate_left
    · rw [c1] at c; exact absurd c (by decide)
    refine iX6_setCoresOfUnit_12 rfl ?_
    refine iX6_setCoresOfUnit_16 (R' := zR 0 0 0 0) rfl rfl (z_rmo rfl) (c_X6_in) (z_qr ?_) z_qx
    refine iX6_setCoresOfUnit_19 (fun c => ?_) (fun c => ?_)
    rotate_left
    · exact absurd (zb_n0 c) c2
    · refine iX6_setCoresOfUnit_26 rfl ?_
      refine iX6_setCoresOfUnit_27 HM.1 rfl ?_
      refine iX6_setCoresOfUnit_30 rfl ?_
      refine iX6_setCoresOfUnit_31 z_u_s rfl ?_
      refine iX6_setCoresOfUnit_34 (fun c2 => ?_) (fun c2 => ?_)
      · exact absurd c2 (by decide)
      · refine iX6_setCoresOfUnit_37 rfl ?_
        exact iX6_setCoresOfUnit_38 (Nat.le_of_ble_eq_true rfl) (Nat.le_of_ble_eq_true rfl) (z_resm_x HM HI hS 2 0)
  rw [if_pos c2]
  have hin := c_X6_in (Z := Z) (h := h) (v := v) (lo := nI 1) (hi := nI 16)
  rw [zin_n, c2] at hin
  obtain ⟨V, rfl, d1, d2⟩ := zin_e c2
  rw [zn_nI (d := V) (by omega)]
  refine iX6_setCoresOfUnit_0 rfl ?_
  refine iX6_setCoresOfUnit_2 (R' := zR 1 22 0 0) rfl rfl (z_rmo rfl) (hir) (z_qr ?_) z_qx
  refine iX6_setCoresOfUnit_5 (fun c => ?_) (fun c => ?_)
  rotate_left
  · rw [c1] at c; exact absurd c (by decide)
  refine iX6_setCoresOfUnit_12 rfl ?_
  refine iX6_setCoresOfUnit_16 (R' := zR 0 0 0 0) rfl rfl (z_rmo rfl) (hin) (z_qr ?_) z_qx
  refine iX6_setCoresOfUnit_19 (fun c => ?_) (fun c => ?_)
  · exact absurd c (by decide)
  have a2' : (z_u h 600 (am 600, .inr (7, z_mfs am 0 (s_nR σ) (s_nM σ) S.1))) 609 = _ := (z_u_n (by omega)).trans a2
  refine iX6_setCoresOfUnit_22 rfl ?_
  refine iX6_setCoresOfUnit_27 HM.1 rfl ?_
  refine iX6_setCoresOfUnit_30 rfl ?_
  refine iX6_setCoresOfUnit_31 z_u_s rfl ?_
  refine iX6_setCoresOfUnit_34 (fun c2 => ?_) (fun c2 => ?_)
  rotate_left
  · exact absurd (Int32.le_refl _) c2
  refine iX6_setCoresOfUnit_39 rfl ?_
  refine iX6_setCoresOfUnit_40 z_u_s rfl ?_
  refine iX6_setCoresOfUnit_43 rfl ?_
  refine iX6_setCoresOfUnit_44 a2' rfl (by omega) (by omega) ?_
  refine iX6_setCoresOfUnit_45 rfl ?_
  refine iX6_setCoresOfUnit_47 z_u_s rfl ?_
  refine iX6_setCoresOfUnit_50 rfl ?_
  refine iX6_setCoresOfUnit_52 a2' rfl (by omega) (by omega) ?_
  rw [n_upd]
  refine iX6_setCoresOfUnit_53 rfl ?_
  obtain ⟨e0, ⟨e1, e2, e3, e4, e5⟩, ⟨e6, e7, e8, e9⟩, ⟨f0, f1, f2, f3⟩, ⟨f4, f5, f6, f7, f8⟩, f9⟩ := id HM
  refine iX6_setCoresOfUnit_54 (Nat.le_of_ble_eq_true rfl) (Nat.le_of_ble_eq_true rfl) ⟨rfl, (z_same.rf.u (by omega) (by omega)).u (by omega) (by omega), HO, E, S, ⟨?_, ⟨?_, ?_, ?_, ?_, ?_⟩, ⟨?_, ?_, ?_, z_u_s⟩, ⟨?_, ?_, ?_, ?_⟩, ⟨?_, ?_, ?_, ?_, ?_⟩, ?_⟩, ⟨⟨HI.1.1, HI.1.2.1, HI.1.2.2.1, fun i hi5 => ?_⟩, HI.2⟩, hS⟩
  rotate_right
  · have hi := HI.1.2.2.2 i hi5
    show 1 ≤ nu (s_CU σ) X V i ∧ nu (s_CU σ) X V i ≤ 16
    unfold nu
    split
    · omega
    · exact hi
  · rw [z_u_n (by omega)]; exact z_u_s
  all_goals rw [z_u_n (by omega), z_u_n (by omega)]
  all_goals assumption
theorem c_X6_tellApart {r : Int32} {b : Bool} (H : z_mod h am th σ) : z_J Z mX6_tellApart (zR 2 43 0 0) 0 0 (z_resm h am (f_tellApart σ r b)) 0 [.ref (am 600), .int r, .int (zb b)] [] h := by
  obtain ⟨HO, E, S, HM, HI, hS⟩ := H
  have hn8 := HI.1.2.1.1
  have a2 := HM.2.2.1.2.2.1
  unfold f_tellApart
  by_cases c1 : zix r (s_nM σ) = true
  rotate_left
  · rw [if_neg c1]
    refine iX6_tellApart_0 rfl ?_
    refine iX6_tellApart_3 (R' := zR 1 22 0 0) rfl rfl HM.1 (z_rmo rfl) (c_X6_isMachine HM hn8) (z_qr ?_) z_qx
    refine iX6_tellApart_6 (fun c => ?_) (fun c => ?_)
    rotate_left
    · exact absurd (zb_n0 c) c1
    · refine iX6_tellApart_13 rfl ?_
      refine iX6_tellApart_14 HM.1 rfl ?_
      refine iX6_tellApart_17 rfl ?_
      refine iX6_tellApart_18 z_u_s rfl ?_
      refine iX6_tellApart_21 (fun c2 => ?_) (fun c2 => ?_)
      · exact absurd c2 (by decide)
      · refine iX6_tellApart_24 rfl ?_
        exact iX6_tellApart_25 (Nat.le_of_ble_eq_true rfl) (Nat.le_of_ble_eq_true rfl) (z_resm_x HM HI hS 1 0)
  rw [if_pos c1]
  have hir := c_X6_isMachine (Z := Z) (m := r) HM hn8
  obtain ⟨X, rfl, b1⟩ := zix_e c1
  rw [zn_nI (d := X) (by omega)]
  refine iX6_tellApart_0 rfl ?_
  refine iX6_tellApart_3 (R' := zR 1 22 0 0) rfl rfl HM.1 (z_rmo rfl) (hir) (z_qr ?_) z_qx
  refine iX6_tellApart_6 (fun c => ?_) (fun c => ?_)
  · rw [c1] at c; exact absurd c (by decide)
  have a2' : (z_u h 600 (am 600, .inr (7, z_mfs am 0 (s_nR σ) (s_nM σ) S.1))) 608 = _ := (z_u_n (by omega)).trans a2
  refine iX6_tellApart_9 rfl ?_
  refine iX6_tellApart_14 HM.1 rfl ?_
  refine iX6_tellApart_17 rfl ?_
  refine iX6_tellApart_18 z_u_s rfl ?_
  refine iX6_tellApart_21 (fun c2 => ?_) (fun c2 => ?_)
  rotate_left
  · exact absurd (Int32.le_refl _) c2
  refine iX6_tellApart_26 rfl ?_
  refine iX6_tellApart_27 z_u_s rfl ?_
  refine iX6_tellApart_30 rfl ?_
  refine iX6_tellApart_32 a2' rfl (by omega) (by omega) (by cases b <;> rfl) ?_
  have e9 : upd (fun j => zb (s_MA σ j)) X (zb b) = fun j => zb (nub (s_MA σ) X b j) := by
    funext j
    unfold upd nub
    split <;> rfl
  rw [e9]
  have HM' : z_mo (z_u (z_u h 600 (am 600, .inr (7, z_mfs am 0 (s_nR σ) (s_nM σ) S.1))) 608 (am 608, .inl (1, 8, .inl (fun j => zb (nub (s_MA σ) X b j))))) am 0 (σ.1, (s_nM σ, s_MC σ, s_MH σ, nub (s_MA σ) X b), σ.2.2) HO E S := by
    obtain ⟨e0, ⟨e1, e2, e3, e4, e5⟩, ⟨e6, e7, e8, e9⟩, ⟨f0, f1, f2, f3⟩, ⟨f4, f5, f6, f7, f8⟩, f9⟩ := id HM
    refine ⟨?_, ⟨?_, ?_, ?_, ?_, ?_⟩, ⟨?_, ?_, z_u_s, ?_⟩, ⟨?_, ?_, ?_, ?_⟩, ⟨?_, ?_, ?_, ?_, ?_⟩, ?_⟩
    · rw [z_u_n (by omega)]; exact z_u_s
    all_goals rw [z_u_n (by omega), z_u_n (by omega)]
    all_goals assumption
  have HI' : z_mi (σ.1, (s_nM σ, s_MC σ, s_MH σ, nub (s_MA σ) X b), σ.2.2) HO E := ⟨⟨HI.1.1, HI.1.2.1, HI.1.2.2⟩, HI.2.1, fun j hj => by
    have hj : s_nM σ ≤ j := hj
    show nub (s_MA σ) X b j = false
    rw [nub_n (by omega)]
    exact HI.2.2.1 j hj, HI.2.2.2⟩
  refine iX6_tellApart_33 rfl ?_
  refine iX6_tellApart_35 (R' := zR 0 0 0 0) rfl rfl HM'.1 (z_rmo rfl) (c_X6_countsBy HM' HI' b1) (z_qr ?_) z_qx
  exact iX6_tellApart_38 (Nat.le_of_ble_eq_true rfl) (Nat.le_of_ble_eq_true rfl) ⟨rfl, (z_same.rf.u (by omega) (by omega)).u (by omega) (by omega), HO, E, S, HM', HI', hS⟩
end ZMod3
