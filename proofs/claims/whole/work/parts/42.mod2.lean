/-! ===== the model: rights ===== -/
section ZMod2
variable {Z : zZ} {h : zH} {am : Nat → Nat} {th : Nat} {σ : zSt} {HO : Nat → Int32} {E : zMs} {S : zMn} {Q : zO → zH → Prop}
theorem z_mo.kept {h' : zH} (H : z_mo h am th σ HO E S) (hk : ∀ x, 600 ≤ x → x ≤ 619 → h' x = h x) : z_mo h' am th σ HO E S := by
  obtain ⟨a0, ⟨a1, a2, a3, a4, a5⟩, ⟨a6, a7, a8, a9⟩, ⟨b0, b1, b2, b3⟩, ⟨b4, b5, b6, b7, b8⟩, b9⟩ := H
  refine ⟨?_, ⟨?_, ?_, ?_, ?_, ?_⟩, ⟨?_, ?_, ?_, ?_⟩, ⟨?_, ?_, ?_, ?_⟩, ⟨?_, ?_, ?_, ?_, ?_⟩, ?_⟩
  all_goals rw [hk _ (by omega) (by omega)]
  all_goals assumption
theorem z_mo.thr (H : z_mo h am th σ HO E S) (c : Nat) : z_mo (z_u h 600 (am 600, .inr (7, z_mfs am c (s_nR σ) (s_nM σ) S.1))) am c σ HO E S := by
  obtain ⟨a0, ⟨a1, a2, a3, a4, a5⟩, ⟨a6, a7, a8, a9⟩, ⟨b0, b1, b2, b3⟩, ⟨b4, b5, b6, b7, b8⟩, b9⟩ := H
  refine ⟨z_u_s, ⟨?_, ?_, ?_, ?_, ?_⟩, ⟨?_, ?_, ?_, ?_⟩, ⟨?_, ?_, ?_, ?_⟩, ⟨?_, ?_, ?_, ?_, ?_⟩, ?_⟩
  all_goals rw [z_u_n (by omega)]
  all_goals assumption
theorem z_resm_x (H : z_mo h am th σ HO E S) (HI : z_mi σ HO E) (hS : S.1 ≤ 40) (c : Nat) (v : Int32) : z_resm h am (c, v, σ) (.inl (some (.int v))) (z_u h 600 (am 600, .inr (7, z_mfs am c (s_nR σ) (s_nM σ) S.1))) :=
  ⟨rfl, z_same.rf.u (by omega) (by omega), HO, E, S, H.thr c, HI, hS⟩
theorem c_X6_thrown (H : z_mod h am th σ) : z_J Z mX6_thrown (zR 0 0 0 0) 0 0 (z_eq (.inl (some (.int (nI th)))) h) 0 [.ref (am 600)] [] h := by
  obtain ⟨HO, E, S, HM, -⟩ := H
  refine iX6_thrown_0 rfl ?_
  refine iX6_thrown_1 HM.1 rfl ?_
  exact iX6_thrown_4 (Nat.le_of_ble_eq_true rfl) (Nat.le_of_ble_eq_true rfl) ⟨rfl, rfl⟩
theorem c_X6_rights (H : z_mod h am th σ) : z_J Z mX6_rights (zR 0 0 0 0) 0 0 (z_resm h am (0, nI (s_nR σ), σ)) 0 [.ref (am 600)] [] h := by
  obtain ⟨HO, E, S, HM, HI, hS⟩ := H
  refine iX6_rights_0 rfl ?_
  refine iX6_rights_2 HM.1 rfl ?_
  refine iX6_rights_5 rfl ?_
  refine iX6_rights_6 z_u_s rfl ?_
  exact iX6_rights_9 (Nat.le_of_ble_eq_true rfl) (Nat.le_of_ble_eq_true rfl) (z_resm_x HM HI hS 0 _)
theorem c_X6_machines (H : z_mod h am th σ) : z_J Z mX6_machines (zR 0 0 0 0) 0 0 (z_resm h am (0, nI (s_nM σ), σ)) 0 [.ref (am 600)] [] h := by
  obtain ⟨HO, E, S, HM, HI, hS⟩ := H
  refine iX6_machines_0 rfl ?_
  refine iX6_machines_2 HM.1 rfl ?_
  refine iX6_machines_5 rfl ?_
  refine iX6_machines_6 z_u_s rfl ?_
  exact iX6_machines_9 (Nat.le_of_ble_eq_true rfl) (Nat.le_of_ble_eq_true rfl) (z_resm_x HM HI hS 0 _)
theorem c_X6_upgrade {r v : Int32} (H : z_mod h am th σ) : z_J Z mX6_upgrade (zR 2 43 0 0) 0 0 (z_resm h am (f_upgrade σ r v)) 0 [.ref (am 600), .int r, .int v] [] h := by
  obtain ⟨HO, E, S, HM, HI, hS⟩ := H
  have hn10 := HI.1.1.1
  have a2 := HM.2.1.2.1
  unfold z_arr at a2
  unfold f_upgrade
  by_cases c1 : zix r (s_nR σ) = true
  rotate_left
  · rw [if_neg c1]
    refine iX6_upgrade_0 rfl ?_
    refine iX6_upgrade_3 (R' := zR 1 22 0 0) rfl rfl HM.1 (z_rmo rfl) (c_X6_isRight HM hn10) (z_qr ?_) z_qx
    refine iX6_upgrade_6 (fun c => ?_) (fun c => ?_)
    · exact absurd (zb_n0 c) c1
    · refine iX6_upgrade_9 rfl ?_
      refine iX6_upgrade_42 HM.1 rfl ?_
      refine iX6_upgrade_45 rfl ?_
      refine iX6_upgrade_46 z_u_s rfl ?_
      refine iX6_upgrade_49 (fun c2 => ?_) (fun c2 => ?_)
      · exact absurd c2 (by decide)
      · refine iX6_upgrade_52 rfl ?_
        exact iX6_upgrade_53 (Nat.le_of_ble_eq_true rfl) (Nat.le_of_ble_eq_true rfl) (z_resm_x HM HI hS 1 0)
  rw [if_pos c1]
  have hir := c_X6_isRight (Z := Z) (m := r) HM hn10
  obtain ⟨X, rfl, b1⟩ := zix_e c1
  rw [zn_nI (d := X) (by omega)]
  have hb := HI.1.1.2 X
  by_cases c2 : zin v 1 9 = true
  rotate_left
  · rw [if_neg c2]
    refine iX6_upgrade_0 rfl ?_
    refine iX6_upgrade_3 (R' := zR 1 22 0 0) rfl rfl HM.1 (z_rmo rfl) (hir) (z_qr ?_) z_qx
    refine iX6_upgrade_6 (fun c => ?_) (fun c => ?_)
    rotate_left
    · rw [c1] at c; exact absurd c (by decide)
    refine iX6_upgrade_13 rfl ?_
    refine iX6_upgrade_17 (R' := zR 0 0 0 0) rfl rfl (z_rmo rfl) (c_X6_in) (z_qr ?_) z_qx
    refine iX6_upgrade_20 (fun c => ?_) (fun c => ?_)
    · exact absurd (zb_n0 c) c2
    · refine iX6_upgrade_23 rfl ?_
      refine iX6_upgrade_42 HM.1 rfl ?_
      refine iX6_upgrade_45 rfl ?_
      refine iX6_upgrade_46 z_u_s rfl ?_
      refine iX6_upgrade_49 (fun c2 => ?_) (fun c2 => ?_)
      · exact absurd c2 (by decide)
      · refine iX6_upgrade_52 rfl ?_
        exact iX6_upgrade_53 (Nat.le_of_ble_eq_true rfl) (Nat.le_of_ble_eq_true rfl) (z_resm_x HM HI hS 2 0)
  rw [if_pos c2]
  have hin := c_X6_in (Z := Z) (h := h) (v := v) (lo := nI 1) (hi := nI 9)
  rw [zin_n, c2] at hin
  obtain ⟨V, rfl, d1, d2⟩ := zin_e c2
  rw [zn_nI (d := V) (by omega)]
  refine iX6_upgrade_0 rfl ?_
  refine iX6_upgrade_3 (R' := zR 1 22 0 0) rfl rfl HM.1 (z_rmo rfl) (hir) (z_qr ?_) z_qx
  refine iX6_upgrade_6 (fun c => ?_) (fun c => ?_)
  rotate_left
  · rw [c1] at c; exact absurd c (by decide)
  refine iX6_upgrade_13 rfl ?_
  refine iX6_upgrade_17 (R' := zR 0 0 0 0) rfl rfl (z_rmo rfl) (hin) (z_qr ?_) z_qx
  refine iX6_upgrade_20 (fun c => ?_) (fun c => ?_)
  rotate_left
  · exact absurd c (by decide)
  refine iX6_upgrade_27 rfl ?_
  refine iX6_upgrade_29 HM.1 rfl ?_
  refine iX6_upgrade_32 rfl ?_
  refine iX6_upgrade_33 a2 rfl (by omega) (by omega) ?_
  refine iX6_upgrade_34 (fun c => ?_) (fun c => ?_)
  rotate_left
  · have c3 := n_nlt c
    rw [if_pos c3]
    refine iX6_upgrade_37 rfl ?_
    refine iX6_upgrade_42 HM.1 rfl ?_
    refine iX6_upgrade_45 rfl ?_
    refine iX6_upgrade_46 z_u_s rfl ?_
    refine iX6_upgrade_49 (fun c2 => ?_) (fun c2 => ?_)
    · exact absurd c2 (by decide)
    · refine iX6_upgrade_52 rfl ?_
      exact iX6_upgrade_53 (Nat.le_of_ble_eq_true rfl) (Nat.le_of_ble_eq_true rfl) (z_resm_x HM HI hS 3 0)
  have c3 := n_lt c
  rw [if_neg (by omega)]
  have a2' : (z_u h 600 (am 600, .inr (7, z_mfs am 0 (s_nR σ) (s_nM σ) S.1))) 602 = _ := (z_u_n (by omega)).trans a2
  refine iX6_upgrade_41 rfl ?_
  refine iX6_upgrade_42 HM.1 rfl ?_
  refine iX6_upgrade_45 rfl ?_
  refine iX6_upgrade_46 z_u_s rfl ?_
  refine iX6_upgrade_49 (fun c2 => ?_) (fun c2 => ?_)
  rotate_left
  · exact absurd (Int32.le_refl _) c2
  refine iX6_upgrade_54 rfl ?_
  refine iX6_upgrade_55 z_u_s rfl ?_
  refine iX6_upgrade_58 rfl ?_
  refine iX6_upgrade_59 a2' rfl (by omega) (by omega) ?_
  refine iX6_upgrade_60 rfl ?_
  refine iX6_upgrade_62 z_u_s rfl ?_
  refine iX6_upgrade_65 rfl ?_
  refine iX6_upgrade_67 a2' rfl (by omega) (by omega) ?_
  rw [n_upd]
  refine iX6_upgrade_68 rfl ?_
  obtain ⟨e0, ⟨e1, e2, e3, e4, e5⟩, ⟨e6, e7, e8, e9⟩, ⟨f0, f1, f2, f3⟩, ⟨f4, f5, f6, f7, f8⟩, f9⟩ := id HM
  refine iX6_upgrade_69 (Nat.le_of_ble_eq_true rfl) (Nat.le_of_ble_eq_true rfl) ⟨rfl, (z_same.rf.u (by omega) (by omega)).u (by omega) (by omega), HO, E, S, ⟨?_, ⟨?_, z_u_s, ?_, ?_, ?_⟩, ⟨?_, ?_, ?_, ?_⟩, ⟨?_, ?_, ?_, ?_⟩, ⟨?_, ?_, ?_, ?_, ?_⟩, ?_⟩, ⟨⟨⟨hn10, fun i => ?_⟩, HI.1.2⟩, HI.2⟩, hS⟩
  rotate_right
  · have hi := HI.1.1.2 i
    refine ⟨hi.1, hi.2.1, hi.2.2.1, ?_, hi.2.2.2.2⟩
    show nu (s_RV σ) X V i ≤ 9
    unfold nu
    split
    · omega
    · exact hi.2.2.2.1
  · rw [z_u_n (by omega)]; exact z_u_s
  all_goals rw [z_u_n (by omega), z_u_n (by omega)]
  all_goals assumption
theorem c_X6_setUnits {r v : Int32} (H : z_mod h am th σ) : z_J Z mX6_setUnits (zR 2 43 0 0) 0 0 (z_resm h am (f_setUnits σ r v)) 0 [.ref (am 600), .int r, .int v] [] h := by
  obtain ⟨HO, E, S, HM, HI, hS⟩ := H
  have hn10 := HI.1.1.1
  have a2 := HM.2.1.2.2.1
  unfold z_arr at a2
  unfold f_setUnits
  by_cases c1 : zix r (s_nR σ) = true
  rotate_left
  · rw [if_neg c1]
    refine iX6_setUnits_0 rfl ?_
    refine iX6_setUnits_3 (R' := zR 1 22 0 0) rfl rfl HM.1 (z_rmo rfl) (c_X6_isRight HM hn10) (z_qr ?_) z_qx
    refine iX6_setUnits_6 (fun c => ?_) (fun c => ?_)
    · exact absurd (zb_n0 c) c1
    · refine iX6_setUnits_9 rfl ?_
      refine iX6_setUnits_28 HM.1 rfl ?_
      refine iX6_setUnits_31 rfl ?_
      refine iX6_setUnits_32 z_u_s rfl ?_
      refine iX6_setUnits_35 (fun c2 => ?_) (fun c2 => ?_)
      · exact absurd c2 (by decide)
      · refine iX6_setUnits_38 rfl ?_
        exact iX6_setUnits_39 (Nat.le_of_ble_eq_true rfl) (Nat.le_of_ble_eq_true rfl) (z_resm_x HM HI hS 1 0)
  rw [if_pos c1]
  have hir := c_X6_isRight (Z := Z) (m := r) HM hn10
  obtain ⟨X, rfl, b1⟩ := zix_e c1
  rw [zn_nI (d := X) (by omega)]
  by_cases c2 : zin v 0 100 = true
  rotate_left
  · rw [if_neg c2]
    refine iX6_setUnits_0 rfl ?_
    refine iX6_setUnits_3 (R' := zR 1 22 0 0) rfl rfl HM.1 (z_rmo rfl) (hir) (z_qr ?_) z_qx
    refine iX6_setUnits_6 (fun c => ?_) (fun c => ?_)
    rotate_left
    · rw [c1] at c; exact absurd c (by decide)
    refine iX6_setUnits_13 rfl ?_
    refine iX6_setUnits_17 (R' := zR 0 0 0 0) rfl rfl (z_rmo rfl) (c_X6_in) (z_qr ?_) z_qx
    refine iX6_setUnits_20 (fun c => ?_) (fun c => ?_)
    rotate_left
    · exact absurd (zb_n0 c) c2
    · refine iX6_setUnits_27 rfl ?_
      refine iX6_setUnits_28 HM.1 rfl ?_
      refine iX6_setUnits_31 rfl ?_
      refine iX6_setUnits_32 z_u_s rfl ?_
      refine iX6_setUnits_35 (fun c2 => ?_) (fun c2 => ?_)
      · exact absurd c2 (by decide)
      · refine iX6_setUnits_38 rfl ?_
        exact iX6_setUnits_39 (Nat.le_of_ble_eq_true rfl) (Nat.le_of_ble_eq_true rfl) (z_resm_x HM HI hS 2 0)
  rw [if_pos c2]
  have hin := c_X6_in (Z := Z) (h := h) (v := v) (lo := nI 0) (hi := nI 100)
  rw [zin_n, c2] at hin
  obtain ⟨V, rfl, d1, d2⟩ := zin_e c2
  rw [zn_nI (d := V) (by omega)]
  refine iX6_setUnits_0 rfl ?_
  refine iX6_setUnits_3 (R' := zR 1 22 0 0) rfl rfl HM.1 (z_rmo rfl) (hir) (z_qr ?_) z_qx
  refine iX6_setUnits_6 (fun c => ?_) (fun c => ?_)
  rotate_left
  · rw [c1] at c; exact absurd c (by decide)
  refine iX6_setUnits_13 rfl ?_
  refine iX6_setUnits_17 (R' := zR 0 0 0 0) rfl rfl (z_rmo rfl) (hin) (z_qr ?_) z_qx
  refine iX6_setUnits_20 (fun c => ?_) (fun c => ?_)
  · exact absurd c (by decide)
  have a2' : (z_u h 600 (am 600, .inr (7, z_mfs am 0 (s_nR σ) (s_nM σ) S.1))) 603 = _ := (z_u_n (by omega)).trans a2
  refine iX6_setUnits_23 rfl ?_
  refine iX6_setUnits_28 HM.1 rfl ?_
  refine iX6_setUnits_31 rfl ?_
  refine iX6_setUnits_32 z_u_s rfl ?_
  refine iX6_setUnits_35 (fun c2 => ?_) (fun c2 => ?_)
  rotate_left
  · exact absurd (Int32.le_refl _) c2
  refine iX6_setUnits_40 rfl ?_
  refine iX6_setUnits_41 z_u_s rfl ?_
  refine iX6_setUnits_44 rfl ?_
  refine iX6_setUnits_45 a2' rfl (by omega) (by omega) ?_
  refine iX6_setUnits_46 rfl ?_
  refine iX6_setUnits_48 z_u_s rfl ?_
  refine iX6_setUnits_51 rfl ?_
  refine iX6_setUnits_53 a2' rfl (by omega) (by omega) ?_
  rw [n_upd]
  refine iX6_setUnits_54 rfl ?_
  obtain ⟨e0, ⟨e1, e2, e3, e4, e5⟩, ⟨e6, e7, e8, e9⟩, ⟨f0, f1, f2, f3⟩, ⟨f4, f5, f6, f7, f8⟩, f9⟩ := id HM
  refine iX6_setUnits_55 (Nat.le_of_ble_eq_true rfl) (Nat.le_of_ble_eq_true rfl) ⟨rfl, (z_same.rf.u (by omega) (by omega)).u (by omega) (by omega), HO, E, S, ⟨?_, ⟨?_, ?_, z_u_s, ?_, ?_⟩, ⟨?_, ?_, ?_, ?_⟩, ⟨?_, ?_, ?_, ?_⟩, ⟨?_, ?_, ?_, ?_, ?_⟩, ?_⟩, ⟨⟨⟨hn10, fun i => ?_⟩, HI.1.2⟩, HI.2⟩, hS⟩
  rotate_right
  · have hi := HI.1.1.2 i
    refine ⟨hi.1, hi.2.1, hi.2.2.1, hi.2.2.2.1, ?_⟩
    show nu (s_RU σ) X V i ≤ 100
    unfold nu
    split
    · omega
    · exact hi.2.2.2.2
  · rw [z_u_n (by omega)]; exact z_u_s
  all_goals rw [z_u_n (by omega), z_u_n (by omega)]
  all_goals assumption
end ZMod2
