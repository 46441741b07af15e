/-! ===== the model: addRight, addMachine ===== -/
section ZMod4
variable {Z : zZ} {h : zH} {am : Nat → Nat} {th : Nat} {σ : zSt} {HO : Nat → Int32} {E : zMs} {S : zMn} {Q : zO → zH → Prop}
theorem l_X6_addMachine {c t : Int32} {o : Option Nat} (HM : z_mo h am th σ HO E S) (HI : z_mi σ HO E) (hS : S.1 ≤ 40) (ht : n_o o = t) (ho : ∀ i, o = some i → i < s_nM σ) : z_J Z mX6_addMachine (zR 2 43 0 0) 0 0 (z_resm h am (f_addMachine1 σ c o)) 18 [.ref (am 600), .int c, .int t] [.ref (am 600)] h := by
  have hn8 := HI.1.2.1.1
  unfold f_addMachine1
  by_cases c1 : zin c 1 64 = true
  rotate_left
  · rw [if_neg c1]
    refine iX6_addMachine_18 rfl ?_
    refine iX6_addMachine_22 (R' := zR 0 0 0 0) rfl rfl (z_rmo rfl) (c_X6_in) (z_qr ?_) z_qx
    refine iX6_addMachine_25 (fun c => ?_) (fun c => ?_)
    · exact absurd (zb_n0 c) c1
    · refine iX6_addMachine_28 rfl ?_
      refine iX6_addMachine_46 HM.1 rfl ?_
      refine iX6_addMachine_49 rfl ?_
      refine iX6_addMachine_50 z_u_s rfl ?_
      refine iX6_addMachine_53 (fun c2 => ?_) (fun c2 => ?_)
      · exact absurd c2 (by decide)
      · refine iX6_addMachine_56 rfl ?_
        exact iX6_addMachine_57 (Nat.le_of_ble_eq_true rfl) (Nat.le_of_ble_eq_true rfl) (z_resm_x HM HI hS 2 0)
  rw [if_pos c1]
  have hin := c_X6_in (Z := Z) (h := h) (v := c) (lo := nI 1) (hi := nI 64)
  rw [zin_n, c1] at hin
  refine iX6_addMachine_18 rfl ?_
  refine iX6_addMachine_22 (R' := zR 0 0 0 0) rfl rfl (z_rmo rfl) (hin) (z_qr ?_) z_qx
  refine iX6_addMachine_25 (fun c => ?_) (fun c => ?_)
  rotate_left
  · exact absurd c (by decide)
  by_cases c6 : 8 ≤ s_nM σ
  · rw [if_pos c6]
    refine iX6_addMachine_32 rfl ?_
    refine iX6_addMachine_33 HM.1 rfl ?_
    refine iX6_addMachine_36 rfl ?_
    refine iX6_addMachine_38 (fun c => ?_) (fun c => ?_)
    · exact absurd (congrArg nI (show s_nM σ = 8 by omega)) c
    · refine iX6_addMachine_41 rfl ?_
      refine iX6_addMachine_46 HM.1 rfl ?_
      refine iX6_addMachine_49 rfl ?_
      refine iX6_addMachine_50 z_u_s rfl ?_
      refine iX6_addMachine_53 (fun c2 => ?_) (fun c2 => ?_)
      · exact absurd c2 (by decide)
      · refine iX6_addMachine_56 rfl ?_
        exact iX6_addMachine_57 (Nat.le_of_ble_eq_true rfl) (Nat.le_of_ble_eq_true rfl) (z_resm_x HM HI hS 3 0)
  rw [if_neg c6]
  obtain ⟨C, rfl, p1, p2⟩ := zin_e c1
  rw [zn_nI (d := C) (by omega)]
  refine iX6_addMachine_32 rfl ?_
  refine iX6_addMachine_33 HM.1 rfl ?_
  refine iX6_addMachine_36 rfl ?_
  refine iX6_addMachine_38 (fun c => ?_) (fun c => ?_)
  rotate_left
  · have := n_eq (b := 8) c
    omega
  obtain ⟨e0, ⟨e1, e2, e3, e4, e5⟩, ⟨e6, e7, e8, e9⟩, ⟨f0, f1, f2, f3⟩, ⟨f4, f5, f6, f7, f8⟩, f9⟩ := id HM
  unfold z_arr at e6
  have a6 : (z_u h 600 (am 600, .inr (7, z_mfs am 0 (s_nR σ) (s_nM σ) S.1))) 606 = _ := (z_u_n (by omega)).trans e6
  refine iX6_addMachine_45 rfl ?_
  refine iX6_addMachine_46 HM.1 rfl ?_
  refine iX6_addMachine_49 rfl ?_
  refine iX6_addMachine_50 z_u_s rfl ?_
  refine iX6_addMachine_53 (fun c2 => ?_) (fun c2 => ?_)
  rotate_left
  · exact absurd (Int32.le_refl _) c2
  refine iX6_addMachine_58 rfl ?_
  refine iX6_addMachine_59 z_u_s rfl ?_
  refine iX6_addMachine_62 rfl ?_
  refine iX6_addMachine_63 z_u_s rfl ?_
  refine iX6_addMachine_66 rfl ?_
  refine iX6_addMachine_67 a6 rfl (by omega) (by omega) ?_
  rw [n_upd]
  have k0 : (z_u (z_u h 600 (am 600, .inr (7, z_mfs am 0 (s_nR σ) (s_nM σ) S.1))) 606 (am 606, .inl (0, 8, .inl (fun j => nI (nu (s_MC σ) (s_nM σ) C j))))) 600 = some (am 600, .inr (7, z_mfs am 0 (s_nR σ) (s_nM σ) S.1)) := by rw [z_u_n (by omega), z_u_s]
  have k7 : (z_u (z_u h 600 (am 600, .inr (7, z_mfs am 0 (s_nR σ) (s_nM σ) S.1))) 606 (am 606, .inl (0, 8, .inl (fun j => nI (nu (s_MC σ) (s_nM σ) C j))))) 607 = some (am 607, .inl (0, 8, .inl HO)) := by rw [z_u_n (by omega), z_u_n (by omega)]; exact e7
  refine iX6_addMachine_68 rfl ?_
  refine iX6_addMachine_69 k0 rfl ?_
  refine iX6_addMachine_72 rfl ?_
  refine iX6_addMachine_73 k0 rfl ?_
  refine iX6_addMachine_76 rfl ?_
  refine iX6_addMachine_77 k7 rfl (by omega) (by omega) ?_
  refine iX6_addMachine_78 rfl ?_
  refine iX6_addMachine_80 ((z_u_n (by omega)).trans k0) rfl ?_
  refine iX6_addMachine_83 rfl ?_
  refine iX6_addMachine_85 ((z_u_n (by omega)).trans k0) rfl ?_
  refine iX6_addMachine_88 rfl ?_
  refine iX6_addMachine_89 z_u_s rfl ?_
  refine iX6_addMachine_92 rfl ?_
  have q1 : nub (s_MA σ) (s_nM σ) false = s_MA σ := by
    funext j
    unfold nub
    split
    · rename_i e; rw [e, HI.2.2.1 _ (Nat.le_refl _)]
    · rfl
  have q2 : (fun q => if s_nM σ * 5 ≤ q then 0 else s_HN σ q) = s_HN σ := by
    funext q
    split
    · rename_i e; exact (HI.2.2.2.1 q e).symm
    · rfl
  have hval : nI (s_nM σ) + nI 1 = nI (s_nM σ + 1) := nI_add _ _
  refine iX6_addMachine_94 (Nat.le_of_ble_eq_true rfl) (Nat.le_of_ble_eq_true rfl) ⟨?_, (((z_same.rf.u (by omega) (by omega)).u (by omega) (by omega)).u (by omega) (by omega)).u (by omega) (by omega), upd HO (s_nM σ) t, E, S, ⟨?_, ⟨?_, ?_, ?_, ?_, ?_⟩, ⟨?_, ?_, ?_, ?_⟩, ⟨?_, ?_, ?_, ?_⟩, ⟨?_, ?_, ?_, ?_, ?_⟩, ?_⟩, ⟨⟨HI.1.1, ⟨by show s_nM σ + 1 ≤ 8; omega, fun j i hi => ?_⟩, fun j => ?_, HI.1.2.2.2⟩, fun j hj => ?_, fun j hj => ?_, fun q hq => ?_, fun q hq => ?_, HI.2.2.2.2.2⟩, hS⟩
  · show Sum.inl (some (Value.int (nI (s_nM σ) + nI 1 - nI 1))) = Sum.inl (some (Value.int (nI (s_nM σ))))
    have e9 : nI (s_nM σ + 1) - nI 1 = nI (s_nM σ) := nI_pred _
    rw [hval, e9]
  · rw [z_u_s]
    show some (am 600, Sum.inr (7, (z_mfs am 0 (s_nR σ) (s_nM σ) S.1).set 7 (.int (nI (s_nM σ) + nI 1)))) = _
    rw [hval]
    rfl
  · rw [z_u_n (by omega), z_u_n (by omega), z_u_n (by omega), z_u_n (by omega)]; exact e1
  · rw [z_u_n (by omega), z_u_n (by omega), z_u_n (by omega), z_u_n (by omega)]; exact e2
  · rw [z_u_n (by omega), z_u_n (by omega), z_u_n (by omega), z_u_n (by omega)]; exact e3
  · rw [z_u_n (by omega), z_u_n (by omega), z_u_n (by omega), z_u_n (by omega)]; exact e4
  · rw [z_u_n (by omega), z_u_n (by omega), z_u_n (by omega), z_u_n (by omega)]; exact e5
  · rw [z_u_n (by omega), z_u_n (by omega), z_u_s]
  · rw [z_u_n (by omega), z_u_s]
  · show _ = some (am 608, Sum.inl (1, 8, Sum.inl (fun j => zb (nub (s_MA σ) (s_nM σ) false j))))
    rw [z_u_n (by omega), z_u_n (by omega), z_u_n (by omega), z_u_n (by omega), q1]; exact e8
  · rw [z_u_n (by omega), z_u_n (by omega), z_u_n (by omega), z_u_n (by omega)]; exact e9
  · rw [z_u_n (by omega), z_u_n (by omega), z_u_n (by omega), z_u_n (by omega)]; exact f0
  · show _ = z_arr (am 611) 40 (fun q => if s_nM σ * 5 ≤ q then 0 else s_HN σ q)
    rw [z_u_n (by omega), z_u_n (by omega), z_u_n (by omega), z_u_n (by omega), q2]; exact f1
  · rw [z_u_n (by omega), z_u_n (by omega), z_u_n (by omega), z_u_n (by omega)]; exact f2
  · rw [z_u_n (by omega), z_u_n (by omega), z_u_n (by omega), z_u_n (by omega)]; exact f3
  · rw [z_u_n (by omega), z_u_n (by omega), z_u_n (by omega), z_u_n (by omega)]; exact f4
  · rw [z_u_n (by omega), z_u_n (by omega), z_u_n (by omega), z_u_n (by omega)]; exact f5
  · rw [z_u_n (by omega), z_u_n (by omega), z_u_n (by omega), z_u_n (by omega)]; exact f6
  · rw [z_u_n (by omega), z_u_n (by omega), z_u_n (by omega), z_u_n (by omega)]; exact f7
  · rw [z_u_n (by omega), z_u_n (by omega), z_u_n (by omega), z_u_n (by omega)]; exact f8
  · rw [z_u_n (by omega), z_u_n (by omega), z_u_n (by omega), z_u_n (by omega)]; exact f9
  · have hi : nuo (s_MH σ) (s_nM σ) o j = some i := hi
    by_cases e8 : j = s_nM σ
    · subst e8
      rw [nuo_s] at hi
      exact ho i hi
    · rw [nuo_n e8] at hi
      exact HI.1.2.1.2 j i hi
  · show nu (s_MC σ) (s_nM σ) C j ≤ 64
    unfold nu
    have := HI.1.2.2.1 j
    split <;> omega
  · have hj : j < s_nM σ + 1 := hj
    show upd HO (s_nM σ) t j = n_o (nuo (s_MH σ) (s_nM σ) o j)
    by_cases e : j = s_nM σ
    · subst e
      rw [nuo_s, ht]
      exact if_pos rfl
    · rw [nuo_n e]
      exact (if_neg e).trans (HI.2.1 j (by omega))
  · have hj : s_nM σ + 1 ≤ j := hj
    show nub (s_MA σ) (s_nM σ) false j = false
    rw [q1]
    exact HI.2.2.1 j (by omega)
  · have hq : (s_nM σ + 1) * 5 ≤ q := hq
    show (if s_nM σ * 5 ≤ q then 0 else s_HN σ q) = 0
    rw [if_pos (by omega)]
  · have old := HI.2.2.2.2.1 q hq
    show z_ev (if s_nM σ * 5 ≤ q then 0 else s_HN σ q) (if s_nM σ * 5 ≤ q then z_zero else s_HV σ q) (if s_nM σ * 5 ≤ q then z_zero else s_HF σ q) (if s_nM σ * 5 ≤ q then z_zero else s_HE σ q) _ _ _ _
    by_cases e : s_nM σ * 5 ≤ q
    · rw [if_pos e, if_pos e, if_pos e, if_pos e]
      refine ⟨by omega, ?_, fun i hi => by omega⟩
      have := old.2.1
      rw [HI.2.2.2.1 q e] at this
      exact this
    · rw [if_neg e, if_neg e, if_neg e, if_neg e]
      exact old
theorem c_X6_addMachine {c t : Int32} (H : z_mod h am th σ) : z_J Z mX6_addMachine (zR 2 43 0 0) 0 0 (z_resm h am (f_addMachine σ c t)) 0 [.ref (am 600), .int c, .int t] [] h := by
  obtain ⟨HO, E, S, HM, HI, hS⟩ := H
  have hn8 := HI.1.2.1.1
  unfold f_addMachine
  by_cases c0 : t = -1
  · rw [if_pos c0]
    refine iX6_addMachine_0 rfl ?_
    refine iX6_addMachine_3 (fun cc => ?_) (fun cc => ?_)
    · exact l_X6_addMachine (o := none) HM HI hS c0.symm (fun i hi => by cases hi)
    · exact absurd c0 cc
  rw [if_neg c0]
  by_cases c1 : zix t (s_nM σ) = true
  · rw [if_pos c1]
    have hir := c_X6_isMachine (Z := Z) (m := t) HM hn8
    refine iX6_addMachine_0 rfl ?_
    refine iX6_addMachine_3 (fun cc => ?_) (fun cc => ?_)
    · exact absurd cc c0
    · refine iX6_addMachine_6 rfl ?_
      refine iX6_addMachine_8 (R' := zR 1 22 0 0) rfl rfl HM.1 (z_rmo rfl) (hir) (z_qr ?_) z_qx
      refine iX6_addMachine_11 (fun c => ?_) (fun c => ?_)
      · obtain ⟨T, rfl, b1⟩ := zix_e c1
        rw [zn_nI (d := T) (by omega)]
        exact l_X6_addMachine (o := some T) HM HI hS rfl (fun i hi => by cases hi; exact b1)
      · rw [c1] at c; exact absurd c (by decide)
  · rw [if_neg c1]
    refine iX6_addMachine_0 rfl ?_
    refine iX6_addMachine_3 (fun cc => ?_) (fun cc => ?_)
    · exact absurd cc c0
    · refine iX6_addMachine_6 rfl ?_
      refine iX6_addMachine_8 (R' := zR 1 22 0 0) rfl rfl HM.1 (z_rmo rfl) (c_X6_isMachine HM hn8) (z_qr ?_) z_qx
      refine iX6_addMachine_11 (fun c => ?_) (fun c => ?_)
      · exact absurd (zb_n0 c) c1
      · refine iX6_addMachine_14 rfl ?_
        refine iX6_addMachine_46 HM.1 rfl ?_
        refine iX6_addMachine_49 rfl ?_
        refine iX6_addMachine_50 z_u_s rfl ?_
        refine iX6_addMachine_53 (fun c2 => ?_) (fun c2 => ?_)
        · exact absurd c2 (by decide)
        · refine iX6_addMachine_56 rfl ?_
          exact iX6_addMachine_57 (Nat.le_of_ble_eq_true rfl) (Nat.le_of_ble_eq_true rfl) (z_resm_x HM HI hS 1 0)
end ZMod4
