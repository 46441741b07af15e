/-! ===== the law: isTold ===== -/
abbrev l_tl (a1 : Nat) (la : Nat → Nat) (vy : Int32) (b : Bool) : List Value := [.ref a1, .int vy, .ref (la 700), .ref (la 701), .ref (la 702), .ref (la 703), .ref (la 704), .ref (la 705), .ref (la 706), .ref (la 707), .ref (la 708), .ref (la 709), .int (zb b)]
section ZTold2
variable {Z : zZ} {h : zH} {a1 : Nat} {la : Nat → Nat} {σ : zSt} {x : zLx} {y : zLy} {D : Nat} {b : Bool} {vy : Int32} {Q : zO → zH → Prop}
def t_dk (σ : zSt) (D P k : Nat) : Nat := n_sum (fun k => if (t_q (s_all σ D) k).2.1 = P then t_D (s_all σ D) k else 0) k
theorem t_dk_le {σ : zSt} {D P : Nat} {x : zLx} {y : zLy} (H : l_dy σ D x y) : ∀ k, k ≤ (s_all σ D).length → t_dk σ D P k ≤ 20000 := by
  intro k hk
  have h1 := n_sum_leb (f := fun k => if (t_q (s_all σ D) k).2.1 = P then t_D (s_all σ D) k else 0) (b := 1000) (n := k) (fun j hj => by
    have := H.2.2 j (by omega)
    have h2 : t_D (s_all σ D) j ≤ 1000 := by rw [← this.2.1]; exact this.2.2.2.1
    split <;> omega)
  have h3 := H.2.1
  have h2 : k * 1000 ≤ 20 * 1000 := Nat.mul_le_mul_right _ (by omega)
  unfold t_dk
  omega
theorem l_told1 {M P m : Nat} (H : l_dy σ D x y) (hP : P < 5) (W : z_lw Z h a1 la σ x y)
    (hq : z_J Z mL_isTold (zR 11 220 700 4200) 0 0 Q 114 (l_tl a1 la vy b ++ [.int (nI M), .int (nI P), .int (nI m), .int (nI D), .int (nI (t_dp P (s_all σ D))), .int (nI (s_all σ D).length)]) [] h) :
    ∀ n k, k + n = (s_all σ D).length → z_J Z mL_isTold (zR 11 220 700 4200) 0 0 Q 69 (l_tl a1 la vy b ++ [.int (nI M), .int (nI P), .int (nI m), .int (nI D), .int (nI (t_dk σ D P k)), .int (nI k)]) [] h := by
  obtain ⟨eg, hl, hr⟩ := id H
  intro n
  induction n with
  | zero =>
    intro k hk
    obtain rfl : k = (s_all σ D).length := by omega
    refine iL_isTold_69 rfl ?_
    refine iL_isTold_74 W.2.2.2 rfl (by omega) (by omega) ?_
    refine iL_isTold_75 (fun cc => ?_) (fun cc => ?_)
    · exact hq
    · rw [eg] at cc
      exact absurd (Int32.le_refl _) cc
  | succ n ih =>
    intro k hk
    obtain ⟨r1, r2, r3, r4, r5, r6, r7⟩ := hr k (by omega)
    have ih := ih (k + 1) (by omega)
    have e : t_dk σ D P (k + 1) = t_dk σ D P k + (if (t_q (s_all σ D) k).2.1 = P then t_D (s_all σ D) k else 0) := rfl
    have hnm : y.1 k < 1000000 := by
      have h0 := r1
      have hm : (t_q (s_all σ D) k).1 < 1000 := by
        obtain ⟨pl, p1, p2, -⟩ := s_need_in (t_q_of (L := s_all σ D) (k := k) (by omega))
        have n8 : s_nM σ ≤ 8 := W.ok.2.1.1
        rw [p2]
        show pl / 5 < 1000
        omega
      omega
    have K : ∀ v, v = (if (t_q (s_all σ D) k).2.1 = P then t_D (s_all σ D) k else 0) → z_J Z mL_isTold (zR 11 220 700 4200) 0 0 Q 105 (l_tl a1 la vy b ++ [.int (nI M), .int (nI P), .int (nI m), .int (nI D), .int (nI (t_dk σ D P k)), .int (nI k)]) [.int (nI v), .int (nI (t_dk σ D P k))] h := fun v hv => by
      refine iL_isTold_105 rfl ?_
      rw [e, ← hv, ← nI_add, ← nI_add] at ih
      exact ih
    refine iL_isTold_69 rfl ?_
    refine iL_isTold_74 W.2.2.2 rfl (by omega) (by omega) ?_
    refine iL_isTold_75 (fun cc => ?_) (fun cc => ?_)
    · rw [eg] at cc
      have := n_le cc; omega
    refine iL_isTold_78 rfl ?_
    refine iL_isTold_84 W.2.2.1.1 rfl (by omega) (by omega) ?_
    refine iL_isTold_85 rfl ?_
    refine iL_isTold_87 (by decide) ?_
    rw [pk_div (by omega) (by omega) (by omega)]
    refine iL_isTold_88 rfl ?_
    refine iL_isTold_90 (by decide) ?_
    rw [pk_rem (by omega) (by omega) (by omega)]
    have ep : y.1 k / 10 % 10 = (t_q (s_all σ D) k).2.1 := by omega
    rw [ep]
    refine iL_isTold_91 rfl ?_
    refine iL_isTold_93 (fun c => ?_) (fun c => ?_)
    · have c := n_ne c
      refine iL_isTold_104 rfl ?_
      exact K 0 (by rw [if_neg c])
    · have c := n_eq c
      refine iL_isTold_96 rfl ?_
      refine iL_isTold_100 W.2.2.1.2.1 rfl (by omega) (by omega) ?_
      rw [r2]
      refine iL_isTold_101 rfl ?_
      exact K _ (by rw [if_pos c])
theorem l_told2 {M P : Nat} (hP : P < 5) (hM : M ≤ 23) (hq : ∀ g x y, z_li σ x → z_lw Z g a1 la σ x y → z_J Z mL_isTold (zR 11 220 700 4200) 0 0 Q 136 (l_tl a1 la vy b ++ [.int (nI M), .int (nI P), .int (nI (n_mx (fun k => t_dp P (s_all σ (30 * M + k))) 30)), .int (nI (30 * M + 30))]) [] g) :
    ∀ n i g x y, i + n = 30 → z_li σ x → z_lw Z g a1 la σ x y → n_mx (fun k => t_dp P (s_all σ (30 * M + k))) i ≤ 20000 → z_J Z mL_isTold (zR 11 220 700 4200) 0 0 Q 27 (l_tl a1 la vy b ++ [.int (nI M), .int (nI P), .int (nI (n_mx (fun k => t_dp P (s_all σ (30 * M + k))) i)), .int (nI (30 * M + i))]) [] g := by
  intro n
  induction n with
  | zero =>
    intro i g x y hi I W hb
    obtain rfl : i = 30 := by omega
    refine iL_isTold_27 rfl ?_
    show z_J Z mL_isTold _ _ _ Q 37 (l_tl a1 la vy b ++ [.int (nI M), .int (nI P), .int (nI (n_mx (fun k => t_dp P (s_all σ (30 * M + k))) 30)), .int (nI (30 * M + 30))]) [.int (nI 30 * nI M + nI 30), .int (nI (30 * M + 30))] g
    rw [pk_mul, nI_add]
    refine iL_isTold_37 (fun cc => ?_) (fun cc => ?_)
    · exact hq g x y I W
    · exact absurd (Int32.le_refl _) cc
  | succ n ih =>
    intro i g x y hi I W hb
    refine iL_isTold_27 rfl ?_
    show z_J Z mL_isTold _ _ _ Q 37 (l_tl a1 la vy b ++ [.int (nI M), .int (nI P), .int (nI (n_mx (fun k => t_dp P (s_all σ (30 * M + k))) i)), .int (nI (30 * M + i))]) [.int (nI 30 * nI M + nI 30), .int (nI (30 * M + i))] g
    rw [pk_mul, nI_add]
    refine iL_isTold_37 (fun cc => ?_) (fun cc => ?_)
    · have := n_le cc; omega
    have hok := W.ok
    have hD : 30 * M + i ≤ 720 := by omega
    generalize hDD : 30 * M + i = D at hD ⊢
    refine iL_isTold_40 rfl ?_
    refine iL_isTold_60 (R' := (zR 2 51 0 0)) rfl rfl (z_rmo rfl) (c_L_lay W I hD) (fun v h' w9 => ?_) (fun E h' w9 => by cases w9.1)
    obtain ⟨w1, y', W, hA⟩ := w9
    cases w1
    have H := l_dy_of I hok hD hA
    have I := I.g4 (s_all σ D).length
    generalize x_putG x 4 (s_all σ D).length = x' at W I H
    refine iL_isTold_63 rfl ?_
    refine l_told1 (M := M) (m := n_mx (fun k => t_dp P (s_all σ (30 * M + k))) i) H hP W ?_ (s_all σ D).length 0 (by omega)
    have hle : t_dp P (s_all σ D) ≤ 20000 := t_dk_le (P := P) H _ (Nat.le_refl _)
    have ih := ih (i + 1) h' x' y' (by omega) I W
    have e : n_mx (fun k => t_dp P (s_all σ (30 * M + k))) (i + 1) = max (n_mx (fun k => t_dp P (s_all σ (30 * M + k))) i) (t_dp P (s_all σ D)) := by
      show max _ (t_dp P (s_all σ (30 * M + i))) = _
      rw [hDD]
    rw [e, ← Nat.add_assoc, hDD, ← nI_add D 1] at ih
    have ih := ih (Nat.max_le.mpr ⟨hb, hle⟩)
    refine iL_isTold_114 rfl ?_
    refine iL_isTold_118 (fun c => ?_) (fun c => ?_)
    · have c := n_le c
      rw [Nat.max_eq_left c] at ih
      refine iL_isTold_126 rfl ?_
      refine iL_isTold_128 rfl ?_
      refine z_J.take 17 ?_
      exact ih
    · have c := n_nle c
      rw [Nat.max_eq_right (by omega)] at ih
      refine iL_isTold_121 rfl ?_
      refine iL_isTold_128 rfl ?_
      refine z_J.take 17 ?_
      exact ih
theorem l_told3a {tl : List Value} {Q : zO → zH → Prop} (W : z_lw Z h a1 la σ x y) (hq : ∀ g, z_lw Z g a1 la σ x y → z_J Z mL_isTold (zR 11 220 700 4200) 617 3702 Q 414 (l_tl a1 la vy b ++ tl) [] g) : z_J Z mL_isTold (zR 11 220 700 4200) 610 3660 Q 367 (l_tl a1 la vy b ++ tl) [] h := by
  refine iL_isTold_367 rfl ?_
  refine iL_isTold_372 (R' := zR 9 146 2 12) rfl rfl (z_rmo rfl) (c_L_need W (fnd_r (by decide))) (fun v h' w9 => ?_) (fun E h' w9 => by cases w9.1)
  obtain ⟨w1, W⟩ := w9
  cases w1
  refine iL_isTold_375 rfl ?_
  refine iL_isTold_377 (fun cc => absurd rfl cc) (fun _ => ?_)
  refine iL_isTold_380 rfl ?_
  refine iL_isTold_384 (R' := zR 9 157 2 12) rfl rfl (z_rmo rfl) (c_L_gets W (fg_r l_zinm)) (fun v h' w9 => ?_) (fun E h' w9 => by cases w9.1)
  obtain ⟨w1, W⟩ := w9
  cases w1
  refine iL_isTold_387 rfl ?_
  refine iL_isTold_389 (fun cc => absurd rfl cc) (fun _ => ?_)
  refine iL_isTold_392 rfl ?_
  refine iL_isTold_396 (R' := zR 9 156 1 6) rfl rfl (z_rmo rfl) (c_L_lack W (fl_r (by decide))) (fun v h' w9 => ?_) (fun E h' w9 => by cases w9.1)
  obtain ⟨w1, W⟩ := w9
  cases w1
  refine iL_isTold_399 rfl ?_
  refine iL_isTold_401 (fun cc => absurd rfl cc) (fun _ => ?_)
  refine iL_isTold_404 rfl ?_
  refine iL_isTold_406 (R' := zR 9 147 2 12) rfl rfl (z_rmo rfl) (c_L_lackBySets W (fls_r l_zinm)) (fun v h' w9 => ?_) (fun E h' w9 => by cases w9.1)
  obtain ⟨w1, W⟩ := w9
  cases w1
  refine iL_isTold_409 rfl ?_
  refine iL_isTold_411 (fun cc => absurd rfl cc) (fun _ => ?_)
  exact hq _ W
theorem l_told3b {tl : List Value} {Q : zO → zH → Prop} (W : z_lw Z h a1 la σ x y) (hq : ∀ g, z_lw Z g a1 la σ x y → z_J Z mL_isTold (zR 11 220 700 4200) 626 3756 Q 455 (l_tl a1 la vy b ++ tl) [] g) : z_J Z mL_isTold (zR 11 220 700 4200) 617 3702 Q 414 (l_tl a1 la vy b ++ tl) [] h := by
  refine iL_isTold_414 rfl ?_
  refine iL_isTold_421 (R' := zR 9 158 3 18) rfl rfl (z_rmo rfl) (c_L_spare W (fsp_r (Or.inl (by decide)))) (fun v h' w9 => ?_) (fun E h' w9 => by cases w9.1)
  obtain ⟨w1, W⟩ := w9
  cases w1
  refine iL_isTold_424 rfl ?_
  refine iL_isTold_426 (fun cc => absurd rfl cc) (fun _ => ?_)
  refine iL_isTold_429 rfl ?_
  refine iL_isTold_435 (R' := zR 9 158 3 18) rfl rfl (z_rmo rfl) (c_L_spare W (fsp_r (Or.inr (by decide)))) (fun v h' w9 => ?_) (fun E h' w9 => by cases w9.1)
  obtain ⟨w1, W⟩ := w9
  cases w1
  refine iL_isTold_438 rfl ?_
  refine iL_isTold_440 (fun cc => absurd rfl cc) (fun _ => ?_)
  refine iL_isTold_443 rfl ?_
  refine iL_isTold_447 (R' := zR 9 158 3 18) rfl rfl (z_rmo rfl) (c_L_spare W (fsp_r (Or.inr (by decide)))) (fun v h' w9 => ?_) (fun E h' w9 => by cases w9.1)
  obtain ⟨w1, W⟩ := w9
  cases w1
  refine iL_isTold_450 rfl ?_
  refine iL_isTold_452 (fun cc => absurd rfl cc) (fun _ => ?_)
  exact hq _ W
theorem l_told3c {tl : List Value} {Q : zO → zH → Prop} (W : z_lw Z h a1 la σ x y) (hq : ∀ g, z_lw Z g a1 la σ x y → z_J Z mL_isTold (zR 11 220 700 4200) 632 3792 Q 480 (l_tl a1 la vy b ++ tl) [] g) : z_J Z mL_isTold (zR 11 220 700 4200) 626 3756 Q 455 (l_tl a1 la vy b ++ tl) [] h := by
  have t0 : zin (nI 0) 0 720 = true := by decide
  refine iL_isTold_455 rfl ?_
  refine iL_isTold_459 (R' := zR 9 158 3 18) rfl rfl (z_rmo rfl) (c_L_spare W (fsp_i t0 (by decide) (by decide))) (fun v h' w9 => ?_) (fun E h' w9 => by cases w9.1)
  obtain ⟨w1, W⟩ := w9
  cases w1
  refine iL_isTold_462 rfl ?_
  refine iL_isTold_464 (fun cc => absurd rfl cc) (fun _ => ?_)
  refine iL_isTold_467 rfl ?_
  refine iL_isTold_472 (R' := zR 9 158 3 18) rfl rfl (z_rmo rfl) (c_L_spare W (fsp_i t0 (by decide) (l_zixm 5))) (fun v h' w9 => ?_) (fun E h' w9 => by cases w9.1)
  obtain ⟨w1, W⟩ := w9
  cases w1
  refine iL_isTold_475 rfl ?_
  refine iL_isTold_477 (fun cc => absurd rfl cc) (fun _ => ?_)
  exact hq _ W
theorem l_told3 {tl : List Value} (W : z_lw Z h a1 la σ x y) (I : z_li σ x) : z_J Z mL_isTold (zR 11 220 700 4200) 610 3660 (z_lq Z a1 la) 345 (l_tl a1 la vy b ++ tl) [] h := by
  have i2 := I.1.2.1
  have i3 := I.1.2.2.1
  refine iL_isTold_345 rfl ?_
  refine iL_isTold_346 (R' := zR 1 20 0 0) rfl rfl (Classical.choose_spec W.obj) (z_rmo rfl) (c_W_rights W) (fun v h' w9 => ?_) (fun E h' w9 => by cases w9.1)
  obtain ⟨w1, W⟩ := w9
  cases w1
  refine iL_isTold_349 rfl ?_
  refine iL_isTold_352 W.2.2.2 rfl (by omega) (by omega) ?_
  rw [i2]
  refine iL_isTold_353 (fun cc => absurd rfl cc) (fun _ => ?_)
  refine iL_isTold_356 rfl ?_
  refine iL_isTold_357 (R' := zR 1 20 0 0) rfl rfl (Classical.choose_spec W.obj) (z_rmo rfl) (c_W_machines W) (fun v h' w9 => ?_) (fun E h' w9 => by cases w9.1)
  obtain ⟨w1, W⟩ := w9
  cases w1
  refine iL_isTold_360 rfl ?_
  refine iL_isTold_363 W.2.2.2 rfl (by omega) (by omega) ?_
  rw [i3]
  refine iL_isTold_364 (fun cc => absurd rfl cc) (fun _ => ?_)
  refine l_told3a W (fun g W => ?_)
  refine l_told3b W (fun g W => ?_)
  refine l_told3c W (fun g W => ?_)
  refine iL_isTold_480 rfl ?_
  exact iL_isTold_485 (zb_nar true) (Nat.le_of_ble_eq_true rfl) (Nat.le_of_ble_eq_true rfl) ⟨rfl, σ, x, y, I, W⟩
theorem l_told4 {one : Nat} {v1 v2 v3 : Value} (W : z_lw Z h a1 la σ x y) (I : z_li σ x) (h1 : one ≤ 720) : z_J Z mL_isTold (zR 11 220 700 4200) 10 60 (z_lq Z a1 la) 231 (l_tl a1 la vy b ++ [v1, v2, v3]) [.int (nI one)] h := by
  refine z_jr (pc := 231) (e := 233) [(231, .istore 16, 233, nI 0)] (by decide +kernel) rfl ?_
  show z_J Z mL_isTold _ _ _ _ 233 (l_tl a1 la vy b ++ [v1, v2, v3, .int (nI one)]) [] h
  refine z_jr (pc := 233) (e := 257) (bL_isTold_231.tail) (by decide +kernel) rfl ?_
  show z_J Z mL_isTold _ _ _ _ 257 (l_tl a1 la vy b ++ [v1, v2, v3, .int (nI one)]) [.ref (la 709), .ref (la 708), .ref (la 707), .ref (la 706), .ref (la 705), .ref (la 704), .ref (la 703), .ref (la 702), .ref (la 701), .ref (la 700), .int vy, .int (zb b), .int (nI one), .ref a1] h
  refine iL_isTold_257 (R' := (zR 10 183 200 1200)) rfl rfl (z_rmo rfl) (c_L_isDay (b := b) W I h1) (fun v h' w9 => ?_) (fun E h' w9 => by cases w9.1)
  obtain ⟨w1, σ', x', y', I', W'⟩ := w9
  cases w1
  show z_J Z mL_isTold _ _ _ _ 260 (l_tl a1 la vy b ++ [v1, v2, v3, .int (nI one)]) [.int (1 : Int32)] h'
  refine iL_isTold_260 (fun cc => absurd (show (1 : Int32) = 0 from cc) (by decide)) (fun _ => ?_)
  refine iL_isTold_263 rfl ?_
  refine iL_isTold_265 (fun c => ?_) (fun c => ?_)
  · refine z_J.widen 610 3660 (Nat.le_of_ble_eq_true rfl) (Nat.le_of_ble_eq_true rfl) ?_
    exact l_told3 (tl := [v1, v2, v3, .int (nI one)]) W' I'
  refine iL_isTold_268 rfl ?_
  refine iL_isTold_275 (R' := zR 0 0 0 0) rfl rfl (z_rmo rfl) (c_L_low (v := vy >>> (nI 3 &&& 31)) (m := 721) (by omega) (by omega)) (z_qr ?_) z_qx
  have hd1 := l_low_lt (vy >>> (nI 3 &&& 31)) (n := 721) (by omega)
  refine iL_isTold_278 rfl ?_
  show z_J Z mL_isTold _ _ _ _ 300 (l_tl a1 la vy b ++ [v1, v2, v3, .int (nI one)]) [.ref (la 709), .ref (la 708), .ref (la 707), .ref (la 706), .ref (la 705), .ref (la 704), .ref (la 703), .ref (la 702), .ref (la 701), .ref (la 700), .int (vy >>> (nI 2 &&& 31)), .int (zb true), .int (nI (l_low (vy >>> (nI 3 &&& 31)) 721)), .ref a1] _
  refine iL_isTold_300 (R' := (zR 10 183 200 1200)) rfl rfl (z_rmo rfl) (c_L_isDay (b := true) (D := l_low (vy >>> (nI 3 &&& 31)) 721) W' I' (by omega)) (fun v h' w9 => ?_) (fun E h' w9 => by cases w9.1)
  obtain ⟨w1, σ2, x2, y2, I2, W2⟩ := w9
  cases w1
  show z_J Z mL_isTold _ _ _ _ 303 (l_tl a1 la vy b ++ [v1, v2, v3, .int (nI one)]) [.int (1 : Int32)] h'
  refine iL_isTold_303 (fun cc => absurd (show (1 : Int32) = 0 from cc) (by decide)) (fun _ => ?_)
  refine iL_isTold_306 rfl ?_
  refine iL_isTold_312 (R' := zR 0 0 0 0) rfl rfl (z_rmo rfl) (c_L_low (v := vy >>> (nI 3 &&& 31)) (m := 61) (by omega) (by omega)) (z_qr ?_) z_qx
  have hd2 := l_low_lt (vy >>> (nI 3 &&& 31)) (n := 61) (by omega)
  refine iL_isTold_315 rfl ?_
  show z_J Z mL_isTold _ _ _ _ 337 (l_tl a1 la vy b ++ [v1, v2, v3, .int (nI one)]) [.ref (la 709), .ref (la 708), .ref (la 707), .ref (la 706), .ref (la 705), .ref (la 704), .ref (la 703), .ref (la 702), .ref (la 701), .ref (la 700), .int (vy >>> (nI 4 &&& 31)), .int (zb true), .int (nI (l_low (vy >>> (nI 3 &&& 31)) 61)), .ref a1] _
  refine iL_isTold_337 (R' := (zR 10 183 200 1200)) rfl rfl (z_rmo rfl) (c_L_isDay (b := true) (D := l_low (vy >>> (nI 3 &&& 31)) 61) W2 I2 (by omega)) (fun v h' w9 => ?_) (fun E h' w9 => by cases w9.1)
  obtain ⟨w1, σ3, x3, y3, I3, W3⟩ := w9
  cases w1
  show z_J Z mL_isTold _ _ _ _ 340 (l_tl a1 la vy b ++ [v1, v2, v3, .int (nI one)]) [.int (1 : Int32)] h'
  refine iL_isTold_340 (fun _ => ?_) (fun cc => absurd (show (1 : Int32) = 0 from cc) (by decide))
  exact l_told3 (tl := [v1, v2, v3, .int (nI one)]) W3 I3
theorem c_L_isTold (W : z_lw Z h a1 la σ x y) (I : z_li σ x) : z_J Z mL_isTold (zR 11 220 700 4200) 0 0 (z_lq Z a1 la) 0 (l_tl a1 la vy b) [] h := by
  refine iL_isTold_0 rfl ?_
  refine iL_isTold_3 (R' := zR 0 0 0 0) rfl rfl (z_rmo rfl) (c_L_low (v := vy) (m := 24) (by omega) (by omega)) (z_qr ?_) z_qx
  refine iL_isTold_6 rfl ?_
  refine iL_isTold_12 (R' := zR 0 0 0 0) rfl rfl (z_rmo rfl) (c_L_low (v := vy >>> (nI 5 &&& 31)) (m := 5) (by omega) (by omega)) (z_qr ?_) z_qx
  have hM := l_low_lt vy (n := 24) (by omega)
  have hP := l_low_lt (vy >>> (nI 5 &&& 31)) (n := 5) (by omega)
  generalize l_low vy 24 = M at hM ⊢
  generalize l_low (vy >>> (nI 5 &&& 31)) 5 = P at hP ⊢
  refine iL_isTold_15 rfl ?_
  show z_J Z mL_isTold _ _ _ _ 27 (l_tl a1 la vy b ++ [.int (nI M), .int (nI P), .int (nI 0), .int (nI 30 * nI M)]) [] h
  rw [pk_mul]
  refine l_told2 (Q := z_lq Z a1 la) hP (by omega) (fun g x y I W => ?_) 30 0 h x y rfl I W (Nat.zero_le _)
  refine iL_isTold_136 rfl ?_
  refine iL_isTold_141 (R' := zR 8 128 2 12) rfl rfl (z_rmo rfl) (c_L_most W (fmo_s hP (by omega))) (fun v h' w9 => ?_) (fun E h' w9 => by cases w9.1)
  obtain ⟨w1, W⟩ := w9
  cases w1
  refine iL_isTold_144 rfl ?_
  refine iL_isTold_146 (fun cc => absurd rfl cc) (fun _ => ?_)
  refine iL_isTold_149 rfl ?_
  refine iL_isTold_153 (R' := zR 8 128 2 12) rfl rfl (z_rmo rfl) (c_L_most W (fmo_i (by decide))) (fun v h' w9 => ?_) (fun E h' w9 => by cases w9.1)
  obtain ⟨w1, W⟩ := w9
  cases w1
  refine iL_isTold_156 rfl ?_
  refine iL_isTold_158 (fun cc => absurd rfl cc) (fun _ => ?_)
  refine iL_isTold_161 rfl ?_
  refine iL_isTold_164 (R' := zR 8 128 2 12) rfl rfl (z_rmo rfl) (c_L_most W (fmo_i (l_zixm 5))) (fun v h' w9 => ?_) (fun E h' w9 => by cases w9.1)
  obtain ⟨w1, W⟩ := w9
  cases w1
  refine iL_isTold_167 rfl ?_
  refine iL_isTold_169 (fun cc => absurd rfl cc) (fun _ => ?_)
  refine iL_isTold_172 rfl ?_
  refine iL_isTold_176 (R' := zR 8 128 2 12) rfl rfl (z_rmo rfl) (c_L_most W (fmo_r (by decide) (by decide))) (fun v h' w9 => ?_) (fun E h' w9 => by cases w9.1)
  obtain ⟨w1, W⟩ := w9
  cases w1
  refine iL_isTold_179 rfl ?_
  refine iL_isTold_181 (fun cc => absurd rfl cc) (fun _ => ?_)
  refine iL_isTold_184 rfl ?_
  refine iL_isTold_187 (R' := zR 8 128 2 12) rfl rfl (z_rmo rfl) (c_L_most W (fmo_r (by decide) l_zinm)) (fun v h' w9 => ?_) (fun E h' w9 => by cases w9.1)
  obtain ⟨w1, W⟩ := w9
  cases w1
  refine iL_isTold_190 rfl ?_
  refine iL_isTold_192 (fun _ => ?_) (fun cc => absurd rfl cc)
  obtain ⟨⟨n4, -, -, i4⟩, -, -, -, -, i10, -⟩ := id I
  refine iL_isTold_197 rfl ?_
  refine iL_isTold_200 W.2.2.2 rfl (by omega) (by omega) ?_
  refine iL_isTold_201 (fun c => ?_) (fun c => ?_)
  · have c := n_ne0 c
    refine iL_isTold_214 rfl ?_
    refine iL_isTold_222 W.2.2.2 rfl (by omega) (by omega) ?_
    refine iL_isTold_223 (R' := zR 0 0 0 0) rfl rfl (z_rmo rfl) (c_L_low (v := vy >>> (nI 4 &&& 31)) (m := x_G x 3) (by omega) (by omega)) (z_qr ?_) z_qx
    have hu := l_low_lt (vy >>> (nI 4 &&& 31)) (n := x_G x 3) (by omega)
    generalize l_low (vy >>> (nI 4 &&& 31)) (x_G x 3) = k at hu ⊢
    obtain ⟨q1, q2, q3, q4⟩ := i10 k hu
    refine iL_isTold_226 W.2.1.2.2.2.2.2 rfl (by omega) (by omega) ?_
    refine iL_isTold_227 rfl ?_
    refine z_J.take 16 ?_
    show z_J Z mL_isTold _ _ _ _ 231 _ [.int (nI (x_E x k) &&& nI 1023)] _
    rw [l_an1023 (by omega)]
    exact l_told4 W I q1
  · refine iL_isTold_204 rfl ?_
    refine iL_isTold_208 (R' := zR 0 0 0 0) rfl rfl (z_rmo rfl) (c_L_low (v := vy) (m := 721) (by omega) (by omega)) (z_qr ?_) z_qx
    have hd := l_low_lt vy (n := 721) (by omega)
    refine iL_isTold_211 rfl ?_
    refine z_J.take 16 ?_
    exact l_told4 W I (by omega)
end ZTold2
