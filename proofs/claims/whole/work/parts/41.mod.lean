/-! ===== the model: its picture ===== -/
abbrev zMs : Type := (Nat → Nat) × (Nat → Nat) × (Nat → Nat)
abbrev zMn : Type := Nat × (Nat → Nat) × (Nat → Nat) × (Nat → Nat) × (Nat → Nat) × (Nat → Nat) × (Nat → Nat)
def z_mfs (am : Nat → Nat) (th nR nM nN : Nat) : List Value := [.int (nI th), .int (nI nR), .ref (am 601), .ref (am 602), .ref (am 603), .ref (am 604), .ref (am 605), .int (nI nM), .ref (am 606), .ref (am 607), .ref (am 608), .ref (am 609), .ref (am 610), .ref (am 611), .ref (am 612), .ref (am 613), .int (nI nN), .ref (am 614), .ref (am 615), .ref (am 616), .ref (am 617), .ref (am 618), .ref (am 619)]
def z_mo (h : zH) (am : Nat → Nat) (th : Nat) (σ : zSt) (HO : Nat → Int32) (E : zMs) (S : zMn) : Prop :=
  h 600 = some (am 600, .inr (7, z_mfs am th (s_nR σ) (s_nM σ) S.1)) ∧
  (h 601 = z_arr (am 601) 10 (s_RP σ) ∧ h 602 = z_arr (am 602) 10 (s_RV σ) ∧ h 603 = z_arr (am 603) 10 (s_RU σ) ∧ h 604 = z_arr (am 604) 10 (s_RF σ) ∧ h 605 = z_arr (am 605) 10 (s_RL σ)) ∧
  (h 606 = z_arr (am 606) 8 (s_MC σ) ∧ h 607 = some (am 607, .inl (0, 8, .inl HO)) ∧ h 608 = some (am 608, .inl (1, 8, .inl (fun j => zb (s_MA σ j)))) ∧ h 609 = z_arr (am 609) 5 (s_CU σ)) ∧
  (h 610 = z_arr (am 610) 40 E.1 ∧ h 611 = z_arr (am 611) 40 (s_HN σ) ∧ h 612 = z_arr (am 612) 800 E.2.1 ∧ h 613 = z_arr (am 613) 800 E.2.2) ∧
  (h 614 = z_arr (am 614) 40 S.2.1 ∧ h 615 = z_arr (am 615) 40 S.2.2.1 ∧ h 616 = z_arr (am 616) 40 S.2.2.2.1 ∧ h 617 = z_arr (am 617) 40 S.2.2.2.2.1 ∧ h 618 = z_arr (am 618) 40 S.2.2.2.2.2.1) ∧ h 619 = z_arr (am 619) 1024 S.2.2.2.2.2.2
def ev_n (E : Nat → Nat) : Nat → Nat
  | 0 => 0
  | n + 1 => ev_n E n + (if E n = 721 then 1 else 2)
def z_ev (N : Nat) (V F E : Nat → Nat) (TO : Nat) (DA WI : Nat → Nat) (b : Nat) : Prop :=
  N ≤ 10 ∧ TO = ev_n E N ∧ ∀ i, i < N → DA (b + ev_n E i) = F i ∧ WI (b + ev_n E i) = V i ∧ (E i ≠ 721 → DA (b + ev_n E i + 1) = E i ∧ WI (b + ev_n E i + 1) = 0) ∧ 1 ≤ V i ∧ V i ≤ 9 ∧ F i ≤ 720 ∧ F i < E i ∧ E i ≤ 721
def z_mi (σ : zSt) (HO : Nat → Int32) (E : zMs) : Prop :=
  s_ok σ ∧ (∀ j, j < s_nM σ → HO j = n_o (s_MH σ j)) ∧ (∀ j, s_nM σ ≤ j → s_MA σ j = false) ∧ (∀ q, s_nM σ * 5 ≤ q → s_HN σ q = 0) ∧
  (∀ q, q < 40 → z_ev (s_HN σ q) (s_HV σ q) (s_HF σ q) (s_HE σ q) (E.1 q) E.2.1 E.2.2 (20 * q)) ∧ ∀ k, E.2.1 k < 1000 ∧ E.2.2 k < 1000
def z_mod (h : zH) (am : Nat → Nat) (th : Nat) (σ : zSt) : Prop := ∃ HO E S, z_mo h am th σ HO E S ∧ z_mi σ HO E ∧ S.1 ≤ 40
def z_resm (h : zH) (am : Nat → Nat) (a : zAn) : zO → zH → Prop := fun o h' => o = .inl (some (.int a.2.1)) ∧ z_same 600 619 h h' ∧ z_mod h' am a.1 a.2.2
def n_in (x lo hi : Int32) : Bool := decide (lo ≤ x) && decide (x ≤ hi)
theorem zin_n (x : Int32) (lo hi : Nat) : n_in x (nI lo) (nI hi) = zin x lo hi := rfl
theorem zix_n {x : Int32} {n : Nat} (h : n < 1000) : n_in x 0 (nI n - nI 1) = zix x n := by
  unfold n_in zix
  congr 1
  have e : (nI n - nI 1).toInt = (n : Int) - 1 := pk_sub_toInt (by omega) (by omega)
  have e2 : (nI n).toInt = (n : Int) := nI_toInt (by omega)
  rw [decide_eq_decide, Int32.le_iff_toInt_le, Int32.lt_iff_toInt_lt, e, e2]
  omega
section ZMod
variable {Z : zZ} {h : zH} {am : Nat → Nat} {th : Nat} {σ : zSt} {HO : Nat → Int32} {E : zMs} {S : zMn} {Q : zO → zH → Prop}
theorem c_X6_in {v lo hi : Int32} : z_J Z mX6_in (zR 0 0 0 0) 0 0 (z_eq (.inl (some (.int (zb (n_in v lo hi))))) h) 0 [.int v, .int lo, .int hi] [] h := by
  unfold n_in
  refine iX6_in_0 rfl ?_
  refine iX6_in_2 (fun c => ?_) (fun c => ?_)
  · refine iX6_in_14 rfl ?_
    exact iX6_in_15 rfl (Nat.le_of_ble_eq_true rfl) (Nat.le_of_ble_eq_true rfl) ⟨by rw [decide_eq_false (i_nle.mpr c)]; rfl, rfl⟩
  · refine iX6_in_5 rfl ?_
    refine iX6_in_7 (fun c2 => ?_) (fun c2 => ?_)
    · refine iX6_in_14 rfl ?_
      exact iX6_in_15 rfl (Nat.le_of_ble_eq_true rfl) (Nat.le_of_ble_eq_true rfl) ⟨by rw [decide_eq_false (p := v ≤ hi) (i_nle.mpr c2), Bool.and_false]; rfl, rfl⟩
    · refine iX6_in_10 rfl ?_
      exact iX6_in_15 rfl (Nat.le_of_ble_eq_true rfl) (Nat.le_of_ble_eq_true rfl) ⟨by rw [decide_eq_true (i_nlt.mp c), decide_eq_true (i_nlt.mp c2)]; rfl, rfl⟩
theorem c_X6_isDay {d : Int32} : z_J Z mX6_isDay (zR 1 22 0 0) 0 0 (z_eq (.inl (some (.int (zb (zin d 0 720))))) h) 0 [.int d] [] h := by
  refine iX6_isDay_0 rfl ?_
  refine iX6_isDay_5 (R' := zR 0 0 0 0) rfl rfl (z_rmo rfl) (c_X6_in) (z_qr ?_) z_qx
  exact iX6_isDay_8 (zb_nar _) (Nat.le_of_ble_eq_true rfl) (Nat.le_of_ble_eq_true rfl) ⟨rfl, rfl⟩
theorem c_X6_isProduct {p : Int32} : z_J Z mX6_isProduct (zR 1 22 0 0) 0 0 (z_eq (.inl (some (.int (zb (zix p 5))))) h) 0 [.int p] [] h := by
  rw [← zix_n (by omega)]
  refine iX6_isProduct_0 rfl ?_
  refine iX6_isProduct_3 (R' := zR 0 0 0 0) rfl rfl (z_rmo rfl) (c_X6_in) (z_qr ?_) z_qx
  exact iX6_isProduct_6 (zb_nar _) (Nat.le_of_ble_eq_true rfl) (Nat.le_of_ble_eq_true rfl) ⟨rfl, rfl⟩
theorem c_X6_isMachine {m : Int32} (H : z_mo h am th σ HO E S) (hn : s_nM σ ≤ 8) : z_J Z mX6_isMachine (zR 1 22 0 0) 0 0 (z_eq (.inl (some (.int (zb (zix m (s_nM σ)))))) h) 0 [.ref (am 600), .int m] [] h := by
  rw [← zix_n (by omega)]
  refine iX6_isMachine_0 rfl ?_
  refine iX6_isMachine_3 H.1 rfl ?_
  refine iX6_isMachine_6 rfl ?_
  refine iX6_isMachine_8 (R' := zR 0 0 0 0) rfl rfl (z_rmo rfl) (c_X6_in) (z_qr ?_) z_qx
  exact iX6_isMachine_11 (zb_nar _) (Nat.le_of_ble_eq_true rfl) (Nat.le_of_ble_eq_true rfl) ⟨rfl, rfl⟩
theorem c_X6_isRight {m : Int32} (H : z_mo h am th σ HO E S) (hn : s_nR σ ≤ 10) : z_J Z mX6_isRight (zR 1 22 0 0) 0 0 (z_eq (.inl (some (.int (zb (zix m (s_nR σ)))))) h) 0 [.ref (am 600), .int m] [] h := by
  rw [← zix_n (by omega)]
  refine iX6_isRight_0 rfl ?_
  refine iX6_isRight_3 H.1 rfl ?_
  refine iX6_isRight_6 rfl ?_
  refine iX6_isRight_8 (R' := zR 0 0 0 0) rfl rfl (z_rmo rfl) (c_X6_in) (z_qr ?_) z_qx
  exact iX6_isRight_11 (zb_nar _) (Nat.le_of_ble_eq_true rfl) (Nat.le_of_ble_eq_true rfl) ⟨rfl, rfl⟩
theorem c_X6_pairOf {m p : Nat} : z_J Z mX6_pairOf (zR 0 0 0 0) 0 0 (z_eq (.inl (some (.int (nI (m * 5 + p))))) h) 0 [.int (nI m), .int (nI p)] [] h := by
  refine iX6_pairOf_0 rfl ?_
  show z_J Z mX6_pairOf _ _ _ _ 5 _ [.int (nI 5 * nI m + nI p)] h
  rw [pk_mul, nI_add, Nat.mul_comm]
  exact iX6_pairOf_5 (Nat.le_of_ble_eq_true rfl) (Nat.le_of_ble_eq_true rfl) ⟨rfl, rfl⟩
theorem l_X6_countsBy {j0 : Int32} (H : z_mo h am th σ HO E S) (hM : z_mi σ HO E) : ∀ f j, j ≤ f → j < s_nM σ → Q (.inl (some (.int (nI (m_by (s_MH σ) (s_MA σ) f j))))) h → z_J Z mX6_countsBy (zR 0 0 0 0) 0 0 Q 2 [.ref (am 600), .int j0, .int (nI j)] [] h := by
  obtain ⟨h0, -, ⟨-, h7, h8, -⟩, -⟩ := id H
  have hw := hM.1.2.1
  have hn8 := hw.1
  intro f
  induction f with
  | zero =>
    intro j hj hn hq
    have hz : s_MH σ j = none := by
      cases q : s_MH σ j with
      | none => rfl
      | some i => have := hw.2 j i q; omega
    have hho := hM.2.1 j hn
    rw [hz] at hho
    refine iX6_countsBy_2 rfl ?_
    refine iX6_countsBy_3 h0 rfl ?_
    refine iX6_countsBy_6 rfl ?_
    refine iX6_countsBy_7 h7 rfl (by omega) (by omega) ?_
    refine iX6_countsBy_8 rfl ?_
    refine iX6_countsBy_9 (fun c => ?_) (fun c => ?_)
    · refine iX6_countsBy_31 rfl ?_
      exact iX6_countsBy_32 (Nat.le_of_ble_eq_true rfl) (Nat.le_of_ble_eq_true rfl) hq
    · exact absurd hho c
  | succ f ih =>
    intro j hj hn hq
    have hho := hM.2.1 j hn
    unfold m_by at hq
    cases hz : s_MH σ j with
    | none =>
      rw [hz] at hho hq
      refine iX6_countsBy_2 rfl ?_
      refine iX6_countsBy_3 h0 rfl ?_
      refine iX6_countsBy_6 rfl ?_
      refine iX6_countsBy_7 h7 rfl (by omega) (by omega) ?_
      refine iX6_countsBy_8 rfl ?_
      refine iX6_countsBy_9 (fun c => ?_) (fun c => ?_)
      · refine iX6_countsBy_31 rfl ?_
        exact iX6_countsBy_32 (Nat.le_of_ble_eq_true rfl) (Nat.le_of_ble_eq_true rfl) hq
      · exact absurd hho c
    | some i =>
      rw [hz] at hho hq
      have hi := hw.2 j i hz
      dsimp only at hq
      have hne : ¬ HO j = -1 := fun e => by
        have := nI_pos (n := i) (by omega)
        have e2 : nI i = -1 := hho.symm.trans e
        rw [e2] at this
        exact this (by decide)
      refine iX6_countsBy_2 rfl ?_
      refine iX6_countsBy_3 h0 rfl ?_
      refine iX6_countsBy_6 rfl ?_
      refine iX6_countsBy_7 h7 rfl (by omega) (by omega) ?_
      refine iX6_countsBy_8 rfl ?_
      refine iX6_countsBy_9 (fun c => ?_) (fun c => ?_)
      · exact absurd c hne
      · refine iX6_countsBy_12 rfl ?_
        refine iX6_countsBy_13 h0 rfl ?_
        refine iX6_countsBy_16 rfl ?_
        refine iX6_countsBy_17 h8 rfl (by omega) (by omega) ?_
        refine iX6_countsBy_18 (fun c => ?_) (fun c => ?_)
        · rw [if_pos (zb_n0 c)] at hq
          refine iX6_countsBy_31 rfl ?_
          exact iX6_countsBy_32 (Nat.le_of_ble_eq_true rfl) (Nat.le_of_ble_eq_true rfl) hq
        · rw [if_neg (by rw [zb_0 c]; decide)] at hq
          refine iX6_countsBy_21 rfl ?_
          refine iX6_countsBy_22 h0 rfl ?_
          refine iX6_countsBy_25 rfl ?_
          refine iX6_countsBy_26 h7 rfl (by omega) (by omega) ?_
          refine iX6_countsBy_27 rfl ?_
          rw [hho]
          exact ih i (by omega) (by omega) hq
theorem c_X6_countsBy {j : Nat} (H : z_mo h am th σ HO E S) (hM : z_mi σ HO E) (hj : j < s_nM σ) : z_J Z mX6_countsBy (zR 0 0 0 0) 0 0 (z_eq (.inl (some (.int (nI (s_by σ j))))) h) 0 [.ref (am 600), .int (nI j)] [] h := by
  have := hM.1.2.1.1
  refine iX6_countsBy_0 rfl ?_
  exact l_X6_countsBy H hM 8 j (by omega) hj ⟨rfl, rfl⟩
end ZMod
