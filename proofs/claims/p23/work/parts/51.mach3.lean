/-! ===== the law: machines, which of them ===== -/
section ZMach3
variable {Z : zZ} {h : zH} {a1 : Nat} {la : Nat → Nat} {σ : zSt} {x : zLx} {y : zLy} {act w C : Nat} {vy vz : Int32}
theorem l_mach_day {p D : Nat} (W : z_lw Z h a1 la σ x y) (I : z_li σ x) (hw : w < s_nM σ) (hp : p < 5) (ha : act < 1000) (hD : D < 1000) :
    z_J Z mL_machines (zR 10 176 221 1586) 0 0 (z_lb Z a1 la y) 587 (l_ml a1 la act vy vz w C ++ [.int (nI p), .int (n_o (l_lat (x_E x) (w + 8 * p) 1000 (x_G x 3))), .int (l_day (x_E x) (w + 8 * p) (x_G x 3))]) [.int (nI D)] h := by
  have n4 := I.1.1
  have i3 := I.1.2.2.1
  have i4 := I.1.2.2.2
  have ht : zix (nI w) (s_nM σ) = true := l_zix hw
  have htp : zix (nI p) 5 = true := l_zix hp
  refine iL_machines_587 rfl ?_
  refine iL_machines_594 (fun c => ?_) (fun c => ?_)
  rotate_left
  · refine iL_machines_597 rfl ?_
    refine iL_machines_605 (R' := zR 9 149 3 18) rfl rfl (z_rmo rfl) (c_L_runs W (fru_r ht htp (by decide))) (fun v h' w9 => ?_) (fun E h' w9 => by cases w9.1)
    obtain ⟨w1, W⟩ := w9
    cases w1
    refine iL_machines_608 rfl ?_
    refine iL_machines_610 (fun cc => absurd rfl cc) (fun _ => ?_)
    refine iL_machines_613 rfl ?_
    refine iL_machines_619 (R' := zR 9 149 3 18) rfl rfl (z_rmo rfl) (c_L_runs W (fru_r ht htp l_zinm)) (fun v h' w9 => ?_) (fun E h' w9 => by cases w9.1)
    obtain ⟨w1, W⟩ := w9
    cases w1
    refine iL_machines_622 rfl ?_
    refine iL_machines_624 (fun cc => absurd rfl cc) (fun _ => ?_)
    refine iL_machines_627 rfl ?_
    exact iL_machines_632 (zb_nar true) (Nat.le_of_ble_eq_true rfl) (Nat.le_of_ble_eq_true rfl) ⟨rfl, σ, x, I, W⟩
  have c := n_le c
  refine iL_machines_633 rfl ?_
  refine l_mach_many W I hw hp ?_ (x_G x 3) 0 (by omega)
  refine iL_machines_697 rfl ?_
  refine iL_machines_704 (R' := zR 0 0 0 0) rfl rfl (z_rmo rfl) (c_L_low (m := 9) (by omega) (by omega)) (z_qr ?_) z_qx
  have hV := l_low_lt (vy >>> (nI 8 &&& 31)) (n := 9) (by omega)
  refine iL_machines_707 rfl ?_
  show z_J Z mL_machines _ _ _ _ 713 (l_ml a1 la act vy vz w C ++ [.int (nI p), .int (n_o (l_lat (x_E x) (w + 8 * p) 1000 (x_G x 3))), .int (l_day (x_E x) (w + 8 * p) (x_G x 3)), .int (nI D), .int (nI (l_cnt (x_E x) (w + 8 * p) (x_G x 3))), .int (nI 1 + nI (l_low (vy >>> (nI 8 &&& 31)) 9))]) _ h
  rw [nI_add]
  generalize hV2 : 1 + l_low (vy >>> (nI 8 &&& 31)) 9 = V
  refine iL_machines_713 W.2.2.2 rfl (by omega) (by omega) ?_
  refine iL_machines_714 rfl ?_
  refine iL_machines_716 (fun c1 => ?_) (fun c1 => ?_)
  rotate_left
  · refine iL_machines_719 rfl ?_
    refine iL_machines_720 (R' := zR 1 20 0 0) rfl rfl (Classical.choose_spec W.obj) (z_rmo rfl) (c_W_machines W) (fun v h' w9 => ?_) (fun E h' w9 => by cases w9.1)
    obtain ⟨w1, W⟩ := w9
    cases w1
    refine iL_machines_723 rfl ?_
    refine iL_machines_726 W.2.2.2 rfl (by omega) (by omega) ?_
    rw [i3]
    refine iL_machines_727 (fun cc => absurd rfl cc) (fun _ => ?_)
    refine iL_machines_730 rfl ?_
    exact iL_machines_735 (zb_nar true) (Nat.le_of_ble_eq_true rfl) (Nat.le_of_ble_eq_true rfl) ⟨rfl, σ, x, I, W⟩
  have c1 := n_ne (b := 60) c1
  refine iL_machines_736 rfl ?_
  refine iL_machines_739 (fun c2 => ?_) (fun c2 => ?_)
  · exact l_mach_uns W I hw hp c (by omega)
  · exact l_mach_ins W I hw hp c (by omega) (by omega)
theorem l_mach_told {p : Nat} (W : z_lw Z h a1 la σ x y) (I : z_li σ x) (hw : w < s_nM σ) (hp : p < 5) (ha : act < 1000) :
    z_J Z mL_machines (zR 10 176 221 1586) 0 0 (z_lb Z a1 la y) 506 (l_ml a1 la act vy vz w C ++ [.int (nI p)]) [] h := by
  have n4 := I.1.1
  have i4 := I.1.2.2.2
  have i10 := I.2.2.2.2.2.1
  have K : z_J Z mL_machines (zR 10 176 221 1586) 0 0 (z_lb Z a1 la y) 540 (l_ml a1 la act vy vz w C ++ [.int (nI p), .int (n_o (l_lat (x_E x) (w + 8 * p) 1000 (x_G x 3)))]) [.int (l_day (x_E x) (w + 8 * p) (x_G x 3))] h := by
    refine iL_machines_540 rfl ?_
    refine iL_machines_546 (fun c => ?_) (fun c => ?_)
    · have ho := l_day_o (x_E x) (w + 8 * p) (x_G x 3)
      have hle := l_dyo_le (E := x_E x) (q := w + 8 * p) (n := x_G x 3) (fun k hk => (i10 k hk).1)
      have J : ∀ m, 0 < m → m ≤ 60 → z_J Z mL_machines (zR 10 176 221 1586) 0 0 (z_lb Z a1 la y) 583 (l_ml a1 la act vy vz w C ++ [.int (nI p), .int (n_o (l_lat (x_E x) (w + 8 * p) 1000 (x_G x 3))), .int (l_day (x_E x) (w + 8 * p) (x_G x 3))]) [.int (nI m), .int (vz >>> (nI 4 &&& 31)), .int (l_day (x_E x) (w + 8 * p) (x_G x 3) + nI 1)] h := fun m hm1 hm2 => by
        refine iL_machines_583 (R' := zR 0 0 0 0) rfl rfl (z_rmo rfl) (c_L_low (m := m) hm1 (by omega)) (z_qr ?_) z_qx
        have hu := l_low_lt (vz >>> (nI 4 &&& 31)) hm1
        refine iL_machines_586 rfl ?_
        obtain ⟨e, he1, he2⟩ : ∃ e, l_day (x_E x) (w + 8 * p) (x_G x 3) + nI 1 = nI e ∧ e ≤ 721 := by
          rw [ho]
          cases hz : l_dyo (x_E x) (w + 8 * p) (x_G x 3) with
          | none => exact ⟨0, by decide, by omega⟩
          | some k =>
            have := hle k hz
            exact ⟨k + 1, nI_add k 1, by omega⟩
        show z_J Z mL_machines _ _ _ _ 587 _ [.int (l_day (x_E x) (w + 8 * p) (x_G x 3) + nI 1 + nI (l_low (vz >>> (nI 4 &&& 31)) m))] h
        rw [he1, nI_add]
        exact l_mach_day W I hw hp ha (by omega)
      refine iL_machines_561 rfl ?_
      refine iL_machines_573 (fun c1 => ?_) (fun c1 => ?_)
      · refine iL_machines_581 rfl ?_
        exact J 8 (by omega) (by omega)
      · refine iL_machines_576 rfl ?_
        exact J 60 (by omega) (by omega)
    · refine iL_machines_549 rfl ?_
      refine iL_machines_555 (R' := zR 0 0 0 0) rfl rfl (z_rmo rfl) (c_L_low (v := vz >>> (nI 4 &&& 31)) (m := 721) (by omega) (by omega)) (z_qr ?_) z_qx
      have hu := l_low_lt (vz >>> (nI 4 &&& 31)) (n := 721) (by omega)
      refine iL_machines_558 rfl ?_
      exact l_mach_day W I hw hp ha (by omega)
  refine iL_machines_506 rfl ?_
  refine iL_machines_517 (R' := zR 0 0 0 0) rfl rfl (z_rmo rfl) (c_L_latest W.2 i4 (fun k hk => (i10 k hk).2.2.1) (m := w) (p := p) (d := 1000) (by omega) hp (by omega)) (z_qr ?_) z_qx
  refine iL_machines_520 rfl ?_
  unfold l_day at K
  cases hz : l_lat (x_E x) (w + 8 * p) 1000 (x_G x 3) with
  | none =>
    rw [hz] at K
    refine iL_machines_524 (fun c => ?_) (fun c => ?_)
    · exact absurd c (by decide)
    · refine iL_machines_527 rfl ?_
      exact K
  | some k =>
    rw [hz] at K
    have hk := l_lat_lt hz
    have hEk := i10 k hk
    refine iL_machines_524 (fun c => ?_) (fun c => ?_)
    · refine iL_machines_531 rfl ?_
      refine iL_machines_535 W.2.1.2.2.2.2.2 rfl (by omega) (by omega) ?_
      refine iL_machines_536 rfl ?_
      show z_J Z mL_machines _ _ _ _ 540 _ [.int (nI (x_E x k) &&& nI 1023)] h
      rw [l_an1023 (by omega)]
      exact K
    · exact absurd (nI_pos' (n := k) (by omega)) c
theorem c_L_machines (W : z_lw Z h a1 la σ x y) (I : z_li σ x) (ha : act < 1000) : z_J Z mL_machines (zR 10 176 221 1586) 0 0 (z_lb Z a1 la y) 0 [.ref a1, .int (nI act), .int vy, .int vz, .ref (la 702), .ref (la 703), .ref (la 704), .ref (la 705), .ref (la 709)] [] h := by
  have n4 := I.1.1
  have i3 := I.1.2.2.1
  refine iL_machines_0 rfl ?_
  refine iL_machines_4 W.2.2.2 rfl (by omega) (by omega) ?_
  rw [i3]
  refine iL_machines_5 rfl ?_
  show z_J Z mL_machines _ _ _ _ 7 _ [.int (nI (s_nM σ) + nI 1), .int vy] h
  rw [nI_add]
  refine iL_machines_7 (R' := zR 0 0 0 0) rfl rfl (z_rmo rfl) (c_L_low (v := vy) (m := s_nM σ + 1) (by omega) (by omega)) (z_qr ?_) z_qx
  refine iL_machines_10 rfl ?_
  refine iL_machines_16 (R' := zR 0 0 0 0) rfl rfl (z_rmo rfl) (c_L_low (v := vz) (m := 64) (by omega) (by omega)) (z_qr ?_) z_qx
  have hw := l_low_lt vy (n := s_nM σ + 1) (by omega)
  generalize l_low vy (s_nM σ + 1) = w at hw ⊢
  have hC := l_low_lt vz (n := 64) (by omega)
  refine iL_machines_19 rfl ?_
  show z_J Z mL_machines _ _ _ _ 23 [.ref a1, .int (nI act), .int vy, .int vz, .ref (la 702), .ref (la 703), .ref (la 704), .ref (la 705), .ref (la 709), .int (nI w), .int (nI 1 + nI (l_low vz 64))] [.int (nI act)] h
  rw [nI_add]
  generalize hC2 : 1 + l_low vz 64 = C
  refine iL_machines_23 (fun c => ?_) (fun c => ?_)
  rotate_left
  · have hN : z_J Z mL_machines (zR 10 176 221 1586) 0 0 (z_lb Z a1 la y) 40 (l_ml a1 la act vy vz w C) [] h := by
      refine iL_machines_40 rfl ?_
      exact l_mach_add (O := none) W I (by omega) (fun i hi => by cases hi)
    refine iL_machines_26 rfl ?_
    refine iL_machines_29 W.2.2.2 rfl (by omega) (by omega) ?_
    rw [i3]
    refine iL_machines_30 (fun c1 => ?_) (fun c1 => ?_)
    · exact hN
    have c1 := n_ne0 c1
    refine iL_machines_33 rfl ?_
    refine iL_machines_37 (fun c2 => ?_) (fun c2 => ?_)
    · refine iL_machines_44 rfl ?_
      refine iL_machines_50 W.2.2.2 rfl (by omega) (by omega) ?_
      rw [i3]
      refine iL_machines_51 (R' := zR 0 0 0 0) rfl rfl (z_rmo rfl) (c_L_low (m := s_nM σ) (by omega) (by omega)) (z_qr ?_) z_qx
      have hu := l_low_lt (vy >>> (nI 3 &&& 31)) (n := s_nM σ) (by omega)
      generalize l_low (vy >>> (nI 3 &&& 31)) (s_nM σ) = t at hu ⊢
      exact l_mach_add (O := some t) W I (by omega) (fun i hi => by cases hi; exact hu)
    · exact hN
  refine iL_machines_181 rfl ?_
  refine iL_machines_186 W.2.2.2 rfl (by omega) (by omega) ?_
  rw [i3]
  refine iL_machines_187 (fun c1 => ?_) (fun c1 => ?_)
  rotate_left
  · exact l_mach_no W I (n_eq c1)
  have c1 := n_ne c1
  have hw2 : w < s_nM σ := by omega
  refine iL_machines_262 rfl ?_
  refine iL_machines_264 (fun c2 => ?_) (fun c2 => ?_)
  rotate_left
  · exact l_mach_cor W I hw2 (by omega)
  refine iL_machines_325 rfl ?_
  refine iL_machines_327 (fun c3 => ?_) (fun c3 => ?_)
  rotate_left
  · exact l_mach_tel W I hw2
  have J : ∀ m, 0 < m → m ≤ 5 → z_J Z mL_machines (zR 10 176 221 1586) 0 0 (z_lb Z a1 la y) 418 (l_ml a1 la act vy vz w C) [.int (nI m), .int (vy >>> (nI 4 &&& 31))] h := fun m hm1 hm2 => by
    refine iL_machines_418 (R' := zR 0 0 0 0) rfl rfl (z_rmo rfl) (c_L_low (m := m) hm1 (by omega)) (z_qr ?_) z_qx
    have hu := l_low_lt (vy >>> (nI 4 &&& 31)) hm1
    generalize l_low (vy >>> (nI 4 &&& 31)) m = p at hu ⊢
    refine iL_machines_421 rfl ?_
    refine iL_machines_425 (fun c4 => ?_) (fun c4 => ?_)
    · exact l_mach_told W I hw2 (by omega) ha
    · exact l_mach_cou W I (by omega)
  refine iL_machines_403 rfl ?_
  refine iL_machines_410 (fun c5 => ?_) (fun c5 => ?_)
  · refine iL_machines_417 rfl ?_
    exact J 2 (by omega) (by omega)
  · refine iL_machines_413 rfl ?_
    exact J 5 (by omega) (by omega)
end ZMach3
