/-! ===== the law: machines ===== -/
theorem n_updo2 (f : Nat → Option Nat) (k : Nat) (o : Option Nat) : upd (fun j => n_o (f j)) k (n_o o) = fun j => n_o (nuo f k o j) := n_updo f k o
theorem z_lw.hist {Z : zZ} {h : zH} {a1 : Nat} {la : Nat → Nat} {σ : zSt} {x : zLx} {y : zLy} (W : z_lw Z h a1 la σ x y) {q : Nat} (hq : q < s_nM σ * 5) : s_HN σ q ≤ 10 ∧ ∀ k, s_HV σ q k < 1000 ∧ s_HF σ q k < 1000 ∧ s_HE σ q k < 1000 := by
  obtain ⟨⟨ad, rfl, H⟩, -⟩ := W
  have := H.1.2.2.2.1.2.2.2 q hq
  exact this.2
def l_dyo (E : Nat → Nat) (q n : Nat) : Option Nat := match l_lat E q 1000 n with
  | none => none
  | some k => some (E k % 1024)
theorem l_day_o (E : Nat → Nat) (q n : Nat) : l_day E q n = n_o (l_dyo E q n) := by
  unfold l_day l_dyo
  cases l_lat E q 1000 n <;> rfl
theorem l_dyo_le {E : Nat → Nat} {q n : Nat} (h : ∀ k, k < n → E k % 1024 ≤ 720) : ∀ d, l_dyo E q n = some d → d ≤ 720 := by
  intro d hd
  unfold l_dyo at hd
  cases hz : l_lat E q 1000 n with
  | none => rw [hz] at hd; cases hd
  | some k =>
    rw [hz] at hd
    cases hd
    exact h k (l_lat_lt hz)
abbrev l_ml (a1 : Nat) (la : Nat → Nat) (act : Nat) (vy vz : Int32) (w C : Nat) : List Value := [.ref a1, .int (nI act), .int vy, .int vz, .ref (la 702), .ref (la 703), .ref (la 704), .ref (la 705), .ref (la 709), .int (nI w), .int (nI C)]
section ZMach
variable {Z : zZ} {h : zH} {a1 : Nat} {la : Nat → Nat} {σ : zSt} {x : zLx} {y : zLy} {act w C : Nat} {vy vz : Int32}
theorem l_mach_add {O : Option Nat} (W : z_lw Z h a1 la σ x y) (I : z_li σ x) (hC : 1 ≤ C ∧ C ≤ 64) (hO : ∀ i, O = some i → i < s_nM σ) :
    z_J Z mL_machines (zR 10 176 221 1586) 0 0 (z_lb Z a1 la y) 54 (l_ml a1 la act vy vz w C) [.int (n_o O)] h := by
  have n4 := I.1.1
  have i3 := I.1.2.2.1
  have hne : nI (s_nM σ) ≠ -1 := fun e => (n_nneg (a := s_nM σ) (by rw [e]; decide)).elim
  refine iL_machines_54 rfl ?_
  refine iL_machines_62 W.2.2.2 rfl (by omega) (by omega) ?_
  rw [i3]
  refine iL_machines_63 (R' := zR 8 132 26 208) rfl rfl (z_rmo rfl) (c_L_addMachine W (fam_i hne (l_zixf (Nat.le_refl _)))) (fun v h' w9 => ?_) (fun E h' w9 => by cases w9.1)
  obtain ⟨w1, W⟩ := w9
  cases w1
  refine iL_machines_66 rfl ?_
  refine iL_machines_68 (fun cc => absurd rfl cc) (fun _ => ?_)
  refine iL_machines_71 rfl ?_
  refine iL_machines_75 (R' := zR 8 132 26 208) rfl rfl (z_rmo rfl) (c_L_addMachine W (fam_i (by decide) (by unfold zix; rw [decide_eq_false (p := (0 : Int32) ≤ -2) (by decide)]; rfl))) (fun v h' w9 => ?_) (fun E h' w9 => by cases w9.1)
  obtain ⟨w1, W⟩ := w9
  cases w1
  refine iL_machines_78 rfl ?_
  refine iL_machines_80 (fun cc => absurd rfl cc) (fun _ => ?_)
  refine iL_machines_83 rfl ?_
  refine iL_machines_87 (R' := zR 8 132 26 208) rfl rfl (z_rmo rfl) (c_L_addMachine W ((fam_o (by omega) hO).trans (fam_r (by decide)))) (fun v h' w9 => ?_) (fun E h' w9 => by cases w9.1)
  obtain ⟨w1, W⟩ := w9
  cases w1
  refine iL_machines_90 rfl ?_
  refine iL_machines_92 (fun cc => absurd rfl cc) (fun _ => ?_)
  refine iL_machines_95 rfl ?_
  refine iL_machines_100 (R' := zR 8 132 26 208) rfl rfl (z_rmo rfl) (c_L_addMachine W ((fam_o (by omega) hO).trans (fam_r (by decide)))) (fun v h' w9 => ?_) (fun E h' w9 => by cases w9.1)
  obtain ⟨w1, W⟩ := w9
  cases w1
  refine iL_machines_103 rfl ?_
  refine iL_machines_105 (fun _ => ?_) (fun cc => absurd rfl cc)
  refine iL_machines_110 rfl ?_
  refine iL_machines_113 W.2.2.2 rfl (by omega) (by omega) ?_
  rw [i3]
  refine iL_machines_114 rfl ?_
  refine iL_machines_115 (fun c => ?_) (fun c => ?_)
  rotate_left
  · have c := n_eq (b := 4) c
    refine iL_machines_118 rfl ?_
    refine iL_machines_119 (R' := zR 1 20 0 0) rfl rfl (Classical.choose_spec W.obj) (z_rmo rfl) (c_W_machines W) (fun v h' w9 => ?_) (fun E h' w9 => by cases w9.1)
    obtain ⟨w1, W⟩ := w9
    cases w1
    refine iL_machines_122 rfl ?_
    refine iL_machines_123 (fun cc => absurd (congrArg nI c) cc) (fun _ => ?_)
    refine iL_machines_126 rfl ?_
    exact iL_machines_131 (zb_nar true) (Nat.le_of_ble_eq_true rfl) (Nat.le_of_ble_eq_true rfl) ⟨rfl, σ, x, I, W⟩
  have c := n_ne (b := 4) c
  refine iL_machines_132 rfl ?_
  refine iL_machines_137 W.2.2.2 rfl (by omega) (by omega) ?_
  rw [i3]
  refine iL_machines_138 rfl ?_
  refine iL_machines_140 W.2.1.2.2.1 rfl (by omega) (by omega) ?_
  rw [n_updo2]
  have W1 := W.put (fun r hr => z_u_n (by omega)) (W.2.putH (s_nM σ) O)
  clear W
  refine iL_machines_141 rfl ?_
  refine iL_machines_146 W1.2.2.2 rfl (by omega) (by omega) ?_
  rw [show x_G (x_putH x (s_nM σ) O) 1 = s_nM σ from i3]
  refine iL_machines_147 rfl ?_
  refine iL_machines_149 W1.2.1.2.2.2.1 rfl (by omega) (by omega) ?_
  rw [n_upd]
  have W2 := W1.put (fun r hr => z_u_n (by omega)) (W1.2.putC (s_nM σ) C)
  clear W1
  refine iL_machines_150 rfl ?_
  refine iL_machines_154 W2.2.2.2 rfl (by omega) (by omega) ?_
  rw [show x_G (x_putC (x_putH x (s_nM σ) O) (s_nM σ) C) 1 = s_nM σ from i3]
  refine iL_machines_155 rfl ?_
  show z_J Z mL_machines _ _ _ _ 157 _ [.int (nI (s_nM σ) + nI 1), .int (nI 1), .ref (la 709)] _
  rw [nI_add]
  refine iL_machines_157 W2.2.2.2 rfl (by omega) (by omega) ?_
  rw [n_upd]
  have W := W2.put (fun r hr => z_u_n (by omega)) (W2.2.putG 1 (s_nM σ + 1))
  clear W2
  refine iL_machines_158 rfl ?_
  refine iL_machines_163 (R' := zR 8 132 26 208) rfl rfl (z_rmo rfl) (c_L_addMachine W ((fam_o (by omega) hO).trans (fam_s hC (by omega)))) (fun v h' w9 => ?_) (fun E h' w9 => by cases w9.1)
  obtain ⟨w1, W⟩ := w9
  cases w1
  have I' := I.mach (C := C) (O := O) (by omega)
  have g1 : x_G (x_mach x (s_nM σ) C O) 1 = s_nM σ + 1 := I'.1.2.2.1
  refine iL_machines_166 rfl ?_
  refine iL_machines_169 W.2.2.2 rfl (by omega) (by omega) ?_
  refine iL_machines_170 rfl ?_
  refine iL_machines_172 (fun cc => absurd ?_ cc) (fun _ => ?_)
  · show nI (s_nM σ) = nI (x_G (x_mach x (s_nM σ) C O) 1) - nI 1
    rw [g1, n_m1 (by omega)]
    rfl
  · refine iL_machines_175 rfl ?_
    exact iL_machines_180 (zb_nar true) (Nat.le_of_ble_eq_true rfl) (Nat.le_of_ble_eq_true rfl) ⟨rfl, _, _, I', W⟩
theorem l_mach_no (W : z_lw Z h a1 la σ x y) (I : z_li σ x) (hw : w = s_nM σ) :
    z_J Z mL_machines (zR 10 176 221 1586) 0 0 (z_lb Z a1 la y) 190 (l_ml a1 la act vy vz w C) [] h := by
  have n4 := I.1.1
  have hf : zix (nI w) (s_nM σ) = false := l_zixf (by omega)
  refine iL_machines_190 rfl ?_
  refine iL_machines_194 (R' := zR 8 128 2 12) rfl rfl (z_rmo rfl) (c_L_setCores W (fsc_i hf)) (fun v h' w9 => ?_) (fun E h' w9 => by cases w9.1)
  obtain ⟨w1, W⟩ := w9
  cases w1
  refine iL_machines_197 rfl ?_
  refine iL_machines_199 (fun cc => absurd rfl cc) (fun _ => ?_)
  refine iL_machines_202 rfl ?_
  refine iL_machines_206 (R' := zR 8 126 1 6) rfl rfl (z_rmo rfl) (c_L_tellApart (b := true) W (fta_i hf)) (fun v h' w9 => ?_) (fun E h' w9 => by cases w9.1)
  obtain ⟨w1, W⟩ := w9
  cases w1
  refine iL_machines_209 rfl ?_
  refine iL_machines_211 (fun cc => absurd rfl cc) (fun _ => ?_)
  refine iL_machines_214 rfl ?_
  refine iL_machines_220 (R' := zR 9 150 5 30) rfl rfl (z_rmo rfl) (c_L_install W (fin_i (Or.inl hf))) (fun v h' w9 => ?_) (fun E h' w9 => by cases w9.1)
  obtain ⟨w1, W⟩ := w9
  cases w1
  refine iL_machines_223 rfl ?_
  refine iL_machines_225 (fun cc => absurd rfl cc) (fun _ => ?_)
  refine iL_machines_228 rfl ?_
  refine iL_machines_236 (R' := zR 9 149 4 24) rfl rfl (z_rmo rfl) (c_L_uninstall W (fun_i (Or.inl hf))) (fun v h' w9 => ?_) (fun E h' w9 => by cases w9.1)
  obtain ⟨w1, W⟩ := w9
  cases w1
  refine iL_machines_239 rfl ?_
  refine iL_machines_241 (fun cc => absurd rfl cc) (fun _ => ?_)
  refine iL_machines_244 rfl ?_
  refine iL_machines_248 (R' := zR 9 149 3 18) rfl rfl (z_rmo rfl) (c_L_runs W (fru_i (Or.inl (l_zixm _)))) (fun v h' w9 => ?_) (fun E h' w9 => by cases w9.1)
  obtain ⟨w1, W⟩ := w9
  cases w1
  refine iL_machines_251 rfl ?_
  refine iL_machines_253 (fun cc => absurd rfl cc) (fun _ => ?_)
  refine iL_machines_256 rfl ?_
  exact iL_machines_261 (zb_nar true) (Nat.le_of_ble_eq_true rfl) (Nat.le_of_ble_eq_true rfl) ⟨rfl, σ, x, I, W⟩
theorem l_mach_cor (W : z_lw Z h a1 la σ x y) (I : z_li σ x) (hw : w < s_nM σ) (hC : 1 ≤ C ∧ C ≤ 64) :
    z_J Z mL_machines (zR 10 176 221 1586) 0 0 (z_lb Z a1 la y) 267 (l_ml a1 la act vy vz w C) [] h := by
  have n4 := I.1.1
  have ht : zix (nI w) (s_nM σ) = true := l_zix hw
  refine iL_machines_267 rfl ?_
  refine iL_machines_271 W.2.1.2.2.2.1 rfl (by omega) (by omega) ?_
  rw [(I.2.2.1 w hw).2]
  refine iL_machines_272 rfl ?_
  refine iL_machines_280 W.2.1.2.2.2.1 rfl (by omega) (by omega) ?_
  rw [n_upd]
  have W1 := W.put (fun r hr => z_u_n (by omega)) (W.2.putC w C)
  clear W
  have W := W1
  clear W1
  refine iL_machines_281 rfl ?_
  refine iL_machines_285 (R' := zR 8 128 2 12) rfl rfl (z_rmo rfl) (c_L_setCores W (fsc_r ht (by decide))) (fun v h' w9 => ?_) (fun E h' w9 => by cases w9.1)
  obtain ⟨w1, W⟩ := w9
  cases w1
  refine iL_machines_288 rfl ?_
  refine iL_machines_290 (fun cc => absurd rfl cc) (fun _ => ?_)
  refine iL_machines_293 rfl ?_
  refine iL_machines_298 (R' := zR 8 128 2 12) rfl rfl (z_rmo rfl) (c_L_setCores W (fsc_r ht (by decide))) (fun v h' w9 => ?_) (fun E h' w9 => by cases w9.1)
  obtain ⟨w1, W⟩ := w9
  cases w1
  refine iL_machines_301 rfl ?_
  refine iL_machines_303 (fun cc => absurd rfl cc) (fun _ => ?_)
  refine iL_machines_306 rfl ?_
  refine iL_machines_311 (R' := zR 8 128 2 12) rfl rfl (z_rmo rfl) (c_L_setCores W (fsc_s hw (by omega) hC)) (fun v h' w9 => ?_) (fun E h' w9 => by cases w9.1)
  obtain ⟨w1, W⟩ := w9
  cases w1
  refine iL_machines_314 rfl ?_
  refine iL_machines_316 (fun cc => absurd rfl cc) (fun _ => ?_)
  refine iL_machines_319 rfl ?_
  exact iL_machines_324 (zb_nar true) (Nat.le_of_ble_eq_true rfl) (Nat.le_of_ble_eq_true rfl) ⟨rfl, _, _, I.cor, W⟩
theorem l_mach_tel (W : z_lw Z h a1 la σ x y) (I : z_li σ x) (hw : w < s_nM σ) :
    z_J Z mL_machines (zR 10 176 221 1586) 0 0 (z_lb Z a1 la y) 330 (l_ml a1 la act vy vz w C) [] h := by
  have n4 := I.1.1
  have hwf := W.ok.2.1
  have hG := I.2.2.2.2.1.1
  have hg16 : x_G x 2 < 16 := Nat.lt_of_lt_of_le hG (Nat.pow_le_pow_right (by decide) n4)
  have hw2 : 2 ^ w < 1024 := by
    show 2 ^ w < 2 ^ 10
    exact Nat.pow_lt_pow_right (by decide) (by omega)
  have J : ∀ (b : Bool) (M : Nat), M < 2 ^ s_nM σ → (∀ j, M.testBit j = if j = w then b else (x_G x 2).testBit j) → z_J Z mL_machines (zR 10 176 221 1586) 0 0 (z_lb Z a1 la y) 376 (l_ml a1 la act vy vz w C ++ [.int (zb b)]) [.int (nI M), .int (nI 2), .ref (la 709)] h := fun b M hM hb => by
    refine iL_machines_376 W.2.2.2 rfl (by omega) (by omega) ?_
    rw [n_upd]
    have W1 := W.put (fun r hr => z_u_n (by omega)) (W.2.putG 2 M)
    clear W
    have W := W1
    clear W1
    have I' := I.tel (w := w) (M := M) (b := b) hM (fun j _ => hb j)
    refine iL_machines_377 rfl ?_
    refine iL_machines_382 (R' := zR 8 126 1 6) rfl rfl (z_rmo rfl) (c_L_tellApart (b := b) W (fta_s hw (by omega))) (fun v h' w9 => ?_) (fun E h' w9 => by cases w9.1)
    obtain ⟨w1, W⟩ := w9
    cases w1
    refine iL_machines_385 rfl ?_
    refine iL_machines_391 (R' := zR 0 0 0 0) rfl rfl (z_rmo rfl) (c_L_counts W.2 I' hwf hw) (z_qr ?_) z_qx
    refine iL_machines_394 (fun cc => absurd rfl cc) (fun _ => ?_)
    refine iL_machines_397 rfl ?_
    exact iL_machines_402 (zb_nar true) (Nat.le_of_ble_eq_true rfl) (Nat.le_of_ble_eq_true rfl) ⟨rfl, _, _, I', W⟩
  have K : ∀ (b : Bool), z_J Z mL_machines (zR 10 176 221 1586) 0 0 (z_lb Z a1 la y) 343 (l_ml a1 la act vy vz w C) [.int (zb b)] h := fun b => by
    refine iL_machines_343 rfl ?_
    cases b with
    | true =>
      refine iL_machines_350 (fun cc => absurd cc (by decide)) (fun _ => ?_)
      refine iL_machines_353 rfl ?_
      refine iL_machines_356 W.2.2.2 rfl (by omega) (by omega) ?_
      refine iL_machines_357 rfl ?_
      show z_J Z mL_machines _ _ _ _ 376 _ [.int (nI (x_G x 2) ||| (nI 1 <<< (nI w &&& 31))), .int (nI 2), .ref (la 709)] h
      rw [n_sh1 (by omega), nI_or]
      obtain ⟨q1, q2⟩ := l_mask_t hG hw
      exact J true _ q1 q2
    | false =>
      refine iL_machines_350 (fun _ => ?_) (fun cc => absurd rfl cc)
      refine iL_machines_365 rfl ?_
      refine iL_machines_368 W.2.2.2 rfl (by omega) (by omega) ?_
      refine iL_machines_369 rfl ?_
      show z_J Z mL_machines _ _ _ _ 376 _ [.int (nI (x_G x 2) &&& ((nI 1 <<< (nI w &&& 31)) ^^^ -1)), .int (nI 2), .ref (la 709)] h
      rw [n_sh1 (by omega), n_andnot (by omega) hw2]
      obtain ⟨q1, q2⟩ := l_mask_f (w := w) hG (show s_nM σ ≤ 10 by omega)
      exact J false _ q1 q2
  refine iL_machines_330 rfl ?_
  refine iL_machines_335 (fun c => ?_) (fun c => ?_)
  · refine iL_machines_342 rfl ?_
    exact K false
  · refine iL_machines_338 rfl ?_
    exact K true
theorem l_mach_cou {p : Nat} (W : z_lw Z h a1 la σ x y) (I : z_li σ x) (hp : p < 5) :
    z_J Z mL_machines (zR 10 176 221 1586) 0 0 (z_lb Z a1 la y) 428 (l_ml a1 la act vy vz w C ++ [.int (nI p)]) [] h := by
  have ht : zix (nI p) 5 = true := l_zix hp
  refine iL_machines_428 rfl ?_
  refine iL_machines_432 W.2.1.2.2.2.2.1 rfl (by omega) (by omega) ?_
  rw [I.2.2.2.1 p hp]
  refine iL_machines_433 rfl ?_
  refine iL_machines_443 (R' := zR 0 0 0 0) rfl rfl (z_rmo rfl) (c_L_low (m := 16) (by omega) (by omega)) (z_qr ?_) z_qx
  have hu := l_low_lt vz (n := 16) (by omega)
  refine iL_machines_446 rfl ?_
  show z_J Z mL_machines _ _ _ _ 447 _ [.int (nI 1 + nI (l_low vz 16)), .int (nI p), .ref (la 704)] h
  rw [nI_add]
  generalize hU2 : 1 + l_low vz 16 = U
  refine iL_machines_447 W.2.1.2.2.2.2.1 rfl (by omega) (by omega) ?_
  rw [n_upd]
  have W1 := W.put (fun r hr => z_u_n (by omega)) (W.2.putU p U)
  clear W
  have W := W1
  clear W1
  refine iL_machines_448 rfl ?_
  refine iL_machines_451 (R' := zR 8 127 2 12) rfl rfl (z_rmo rfl) (c_L_setCoresOfUnit W (fcu_i (by decide))) (fun v h' w9 => ?_) (fun E h' w9 => by cases w9.1)
  obtain ⟨w1, W⟩ := w9
  cases w1
  refine iL_machines_454 rfl ?_
  refine iL_machines_456 (fun cc => absurd rfl cc) (fun _ => ?_)
  refine iL_machines_459 rfl ?_
  refine iL_machines_463 (R' := zR 8 127 2 12) rfl rfl (z_rmo rfl) (c_L_setCoresOfUnit W (fcu_r ht (by decide))) (fun v h' w9 => ?_) (fun E h' w9 => by cases w9.1)
  obtain ⟨w1, W⟩ := w9
  cases w1
  refine iL_machines_466 rfl ?_
  refine iL_machines_468 (fun cc => absurd rfl cc) (fun _ => ?_)
  refine iL_machines_471 rfl ?_
  refine iL_machines_476 (R' := zR 8 127 2 12) rfl rfl (z_rmo rfl) (c_L_setCoresOfUnit W (fcu_r ht (by decide))) (fun v h' w9 => ?_) (fun E h' w9 => by cases w9.1)
  obtain ⟨w1, W⟩ := w9
  cases w1
  refine iL_machines_479 rfl ?_
  refine iL_machines_481 (fun cc => absurd rfl cc) (fun _ => ?_)
  refine iL_machines_484 rfl ?_
  refine iL_machines_491 W.2.1.2.2.2.2.1 rfl (by omega) (by omega) ?_
  rw [show x_U (x_putU x p U) p = U from nu_s]
  refine iL_machines_492 (R' := zR 8 127 2 12) rfl rfl (z_rmo rfl) (c_L_setCoresOfUnit W (fcu_s hp (by omega))) (fun v h' w9 => ?_) (fun E h' w9 => by cases w9.1)
  obtain ⟨w1, W⟩ := w9
  cases w1
  refine iL_machines_495 rfl ?_
  refine iL_machines_497 (fun cc => absurd rfl cc) (fun _ => ?_)
  refine iL_machines_500 rfl ?_
  exact iL_machines_505 (zb_nar true) (Nat.le_of_ble_eq_true rfl) (Nat.le_of_ble_eq_true rfl) ⟨rfl, _, _, I.cou, W⟩
theorem l_mach_many {p D : Nat} {last : Option Nat} {en : Int32} (W : z_lw Z h a1 la σ x y) (I : z_li σ x) (hw : w < s_nM σ) (hp : p < 5)
    (hq : z_J Z mL_machines (zR 10 176 221 1586) 0 0 (z_lb Z a1 la y) 697 (l_ml a1 la act vy vz w C ++ [.int (nI p), .int (n_o last), .int en, .int (nI D), .int (nI (l_cnt (x_E x) (w + 8 * p) (x_G x 3))), .int (nI (x_G x 3))]) [] h) :
    ∀ n k, k + n = x_G x 3 → z_J Z mL_machines (zR 10 176 221 1586) 0 0 (z_lb Z a1 la y) 639 (l_ml a1 la act vy vz w C ++ [.int (nI p), .int (n_o last), .int en, .int (nI D), .int (nI (l_cnt (x_E x) (w + 8 * p) k)), .int (nI k)]) [] h := by
  obtain ⟨⟨n4, -, -, i4⟩, -, -, -, -, i10, -⟩ := id I
  obtain ⟨⟨a0, a1', a2, a3, a4, a5⟩, -, a9⟩ := id W.2
  intro n
  induction n with
  | zero =>
    intro k hk
    obtain rfl : k = x_G x 3 := by omega
    refine iL_machines_639 rfl ?_
    refine iL_machines_644 a9 rfl (by omega) (by omega) ?_
    refine iL_machines_645 (fun cc => ?_) (fun cc => ?_)
    · exact hq
    · exact absurd (Int32.le_refl _) cc
  | succ n ih =>
    intro k hk
    have ih := ih (k + 1) (by omega)
    obtain ⟨q1, q2, q3, q4⟩ := i10 k (by omega)
    have e : l_cnt (x_E x) (w + 8 * p) (k + 1) = l_cnt (x_E x) (w + 8 * p) k + (if x_E x k / 16384 = w + 8 * p ∧ 0 < x_E x k / 1024 % 16 then 1 else 0) := rfl
    have K : ∀ b, b = (if x_E x k / 16384 = w + 8 * p ∧ 0 < x_E x k / 1024 % 16 then 1 else 0) → z_J Z mL_machines (zR 10 176 221 1586) 0 0 (z_lb Z a1 la y) 688 (l_ml a1 la act vy vz w C ++ [.int (nI p), .int (n_o last), .int en, .int (nI D), .int (nI (l_cnt (x_E x) (w + 8 * p) k)), .int (nI k)]) [.int (nI b), .int (nI (l_cnt (x_E x) (w + 8 * p) k))] h := fun b hb => by
      refine iL_machines_688 rfl ?_
      rw [e, ← hb, ← nI_add, ← nI_add] at ih
      exact ih
    refine iL_machines_639 rfl ?_
    refine iL_machines_644 a9 rfl (by omega) (by omega) ?_
    refine iL_machines_645 (fun cc => ?_) (fun cc => ?_)
    · have := n_le cc; omega
    refine iL_machines_648 rfl ?_
    refine iL_machines_654 a5 rfl (by omega) (by omega) ?_
    refine iL_machines_655 rfl ?_
    show z_J Z mL_machines _ _ _ _ 666 _ [.int (nI w + nI 8 * nI p), .int (nI (x_E x k) >>> (nI 14 &&& 31)), .int (nI (l_cnt (x_E x) (w + 8 * p) k))] h
    rw [l_sh14 (by omega), pk_mul, nI_add]
    refine iL_machines_666 (fun c1 => ?_) (fun c1 => ?_)
    · have c1 := n_ne c1
      refine iL_machines_687 rfl ?_
      exact K 0 (by rw [if_neg (fun z => c1 z.1)])
    have c1 := n_eq c1
    refine iL_machines_669 rfl ?_
    refine iL_machines_673 a5 rfl (by omega) (by omega) ?_
    refine iL_machines_674 rfl ?_
    show z_J Z mL_machines _ _ _ _ 680 _ [.int ((nI (x_E x k) >>> (nI 10 &&& 31)) &&& nI 15), .int (nI (l_cnt (x_E x) (w + 8 * p) k))] h
    rw [l_sh10 (by omega), l_an15 (by omega)]
    refine iL_machines_680 (fun c2 => ?_) (fun c2 => ?_)
    · have c2 : x_E x k / 1024 % 16 ≤ 0 := n_le (b := 0) c2
      refine iL_machines_687 rfl ?_
      exact K 0 (by rw [if_neg (fun z => by omega)])
    · have c2 : 0 < x_E x k / 1024 % 16 := n_nle (b := 0) c2
      refine iL_machines_683 rfl ?_
      exact K 1 (by rw [if_pos ⟨c1, c2⟩])
theorem l_mi1 {p D V : Nat} {lv en mv : Int32} {Q : zO → zH → Prop} (W : z_lw Z h a1 la σ x y) (hw : w < s_nM σ) (hn : s_nM σ ≤ 8) (hp : p < 5) (hq : ∀ g, z_lw Z g a1 la σ x y → z_J Z mL_machines (zR 10 176 221 1586) 15 90 Q 789 (l_ml a1 la act vy vz w C ++ [.int (nI p), .int lv, .int en, .int (nI D), .int mv, .int (nI V)]) [] g) :
    z_J Z mL_machines (zR 10 176 221 1586) 0 0 Q 742 (l_ml a1 la act vy vz w C ++ [.int (nI p), .int lv, .int en, .int (nI D), .int mv, .int (nI V)]) [] h := by
  have ht : zix (nI w) (s_nM σ) = true := l_zix hw
  have htp : zix (nI p) 5 = true := l_zix hp
  refine iL_machines_742 rfl ?_
  refine iL_machines_748 (R' := zR 9 150 5 30) rfl rfl (z_rmo rfl) (c_L_install W (fin_i (Or.inr (by decide)))) (fun v h' w9 => ?_) (fun E h' w9 => by cases w9.1)
  obtain ⟨w1, W⟩ := w9
  cases w1
  refine iL_machines_751 rfl ?_
  refine iL_machines_753 (fun cc => absurd rfl cc) (fun _ => ?_)
  refine iL_machines_756 rfl ?_
  refine iL_machines_764 (R' := zR 9 150 5 30) rfl rfl (z_rmo rfl) (c_L_install W (fin_r ht htp (Or.inl (by decide)))) (fun v h' w9 => ?_) (fun E h' w9 => by cases w9.1)
  obtain ⟨w1, W⟩ := w9
  cases w1
  refine iL_machines_767 rfl ?_
  refine iL_machines_769 (fun cc => absurd rfl cc) (fun _ => ?_)
  refine iL_machines_772 rfl ?_
  refine iL_machines_781 (R' := zR 9 150 5 30) rfl rfl (z_rmo rfl) (c_L_install W (fin_r ht htp (Or.inl (by decide)))) (fun v h' w9 => ?_) (fun E h' w9 => by cases w9.1)
  obtain ⟨w1, W⟩ := w9
  cases w1
  refine iL_machines_784 rfl ?_
  refine iL_machines_786 (fun cc => absurd rfl cc) (fun _ => ?_)
  exact hq _ W
theorem l_mi2 {p D V : Nat} {lv en mv : Int32} {Q : zO → zH → Prop} (W : z_lw Z h a1 la σ x y) (hw : w < s_nM σ) (hn : s_nM σ ≤ 8) (hp : p < 5) (hq : ∀ g, z_lw Z g a1 la σ x y → z_J Z mL_machines (zR 10 176 221 1586) 25 150 Q 825 (l_ml a1 la act vy vz w C ++ [.int (nI p), .int lv, .int en, .int (nI D), .int mv, .int (nI V)]) [] g) :
    z_J Z mL_machines (zR 10 176 221 1586) 15 90 Q 789 (l_ml a1 la act vy vz w C ++ [.int (nI p), .int lv, .int en, .int (nI D), .int mv, .int (nI V)]) [] h := by
  have ht : zix (nI w) (s_nM σ) = true := l_zix hw
  have htp : zix (nI p) 5 = true := l_zix hp
  refine iL_machines_789 rfl ?_
  refine iL_machines_799 (R' := zR 9 150 5 30) rfl rfl (z_rmo rfl) (c_L_install W (fin_r ht htp (Or.inr (by decide)))) (fun v h' w9 => ?_) (fun E h' w9 => by cases w9.1)
  obtain ⟨w1, W⟩ := w9
  cases w1
  refine iL_machines_802 rfl ?_
  refine iL_machines_804 (fun cc => absurd rfl cc) (fun _ => ?_)
  refine iL_machines_807 rfl ?_
  refine iL_machines_815 (R' := zR 9 150 5 30) rfl rfl (z_rmo rfl) (c_L_install W (fin_r ht htp (Or.inr l_zinm))) (fun v h' w9 => ?_) (fun E h' w9 => by cases w9.1)
  obtain ⟨w1, W⟩ := w9
  cases w1
  refine iL_machines_818 rfl ?_
  refine iL_machines_820 (fun _ => ?_) (fun cc => absurd rfl cc)
  exact hq _ W
theorem l_mu1 {p D V R : Nat} {lv en mv : Int32} {Q : zO → zH → Prop} (W : z_lw Z h a1 la σ x y) (hw : w < s_nM σ) (hn : s_nM σ ≤ 8) (hp : p < 5) (hq : ∀ g, z_lw Z g a1 la σ x y → z_J Z mL_machines (zR 10 176 221 1586) 12 72 Q 991 ((l_ml a1 la act vy vz w C ++ [.int (nI p), .int lv, .int en, .int (nI D), .int mv, .int (nI V)]) ++ [.int (nI R)]) [] g) :
    z_J Z mL_machines (zR 10 176 221 1586) 0 0 Q 944 (l_ml a1 la act vy vz w C ++ [.int (nI p), .int lv, .int en, .int (nI D), .int mv, .int (nI V)]) [.int (nI R)] h := by
  have ht : zix (nI w) (s_nM σ) = true := l_zix hw
  have htp : zix (nI p) 5 = true := l_zix hp
  refine iL_machines_944 rfl ?_
  refine iL_machines_951 (R' := zR 9 149 4 24) rfl rfl (z_rmo rfl) (c_L_uninstall W (fun_i (Or.inr (l_zixm 5)))) (fun v h' w9 => ?_) (fun E h' w9 => by cases w9.1)
  obtain ⟨w1, W⟩ := w9
  cases w1
  refine iL_machines_954 rfl ?_
  refine iL_machines_956 (fun cc => absurd rfl cc) (fun _ => ?_)
  refine iL_machines_959 rfl ?_
  refine iL_machines_967 (R' := zR 9 149 4 24) rfl rfl (z_rmo rfl) (c_L_uninstall W (fun_r ht htp (by decide))) (fun v h' w9 => ?_) (fun E h' w9 => by cases w9.1)
  obtain ⟨w1, W⟩ := w9
  cases w1
  refine iL_machines_970 rfl ?_
  refine iL_machines_972 (fun cc => absurd rfl cc) (fun _ => ?_)
  refine iL_machines_975 rfl ?_
  refine iL_machines_981 (R' := zR 9 149 4 24) rfl rfl (z_rmo rfl) (c_L_uninstall W (fun_r ht htp l_zinm)) (fun v h' w9 => ?_) (fun E h' w9 => by cases w9.1)
  obtain ⟨w1, W⟩ := w9
  cases w1
  refine iL_machines_984 rfl ?_
  refine iL_machines_986 (fun _ => ?_) (fun cc => absurd rfl cc)
  exact hq _ W
theorem l_mach_ins {p D V : Nat} {last : Option Nat} (W : z_lw Z h a1 la σ x y) (I : z_li σ x) (hw : w < s_nM σ) (hp : p < 5) (hD : D ≤ 720) (hV : 1 ≤ V ∧ V ≤ 9) (hn : x_G x 3 < 60) :
    z_J Z mL_machines (zR 10 176 221 1586) 0 0 (z_lb Z a1 la y) 742 (l_ml a1 la act vy vz w C ++ [.int (nI p), .int (n_o last), .int (l_day (x_E x) (w + 8 * p) (x_G x 3)), .int (nI D), .int (nI (l_cnt (x_E x) (w + 8 * p) (x_G x 3))), .int (nI V)]) [] h := by
  have n4 := I.1.1
  have ht : zix (nI w) (s_nM σ) = true := l_zix hw
  have htp : zix (nI p) 5 = true := l_zix hp
  have hHN := W.hist (q := w * 5 + p) (by omega)
  have hpv := I.2.2.2.2.2.2 w p hw hp
  obtain ⟨o1, o2, o3, o4, o5⟩ := id hpv
  rw [o2, o5]
  refine l_mi1 W hw (by omega) hp (fun g1 W => ?_)
  refine l_mi2 W hw (by omega) hp (fun h' W => ?_)
  have J : ¬ (s_HN σ (w * 5 + p) < 10 ∧ h_last (s_HF σ (w * 5 + p)) (s_HE σ (w * 5 + p)) (s_HN σ (w * 5 + p)) < nI D) → z_J Z mL_machines (zR 10 176 221 1586) 25 150 (z_lb Z a1 la y) 839 (l_ml a1 la act vy vz w C ++ [.int (nI p), .int (n_o last), .int (h_last (s_HF σ (w * 5 + p)) (s_HE σ (w * 5 + p)) (s_HN σ (w * 5 + p))), .int (nI D), .int (nI (s_HN σ (w * 5 + p))), .int (nI V)]) [] h' := fun hbad => by
    refine iL_machines_839 rfl ?_
    refine iL_machines_848 (R' := zR 9 150 5 30) rfl rfl (z_rmo rfl) (c_L_install W ((fin_s hw (by omega) hp hV hD).trans ((fin_1 hD).trans (if_neg hbad)))) (fun v h' w9 => ?_) (fun E h' w9 => by cases w9.1)
    obtain ⟨w1, W⟩ := w9
    cases w1
    refine iL_machines_851 rfl ?_
    refine iL_machines_853 (fun cc => absurd rfl cc) (fun _ => ?_)
    refine iL_machines_856 rfl ?_
    exact iL_machines_861 (zb_nar true) (Nat.le_of_ble_eq_true rfl) (Nat.le_of_ble_eq_true rfl) ⟨rfl, σ, x, I, W⟩
  refine iL_machines_825 rfl ?_
  refine iL_machines_829 (fun c => ?_) (fun c => ?_)
  · exact J (fun z => (i_nle.mpr z.2) c)
  have c := i_nle.mp c
  refine iL_machines_832 rfl ?_
  refine iL_machines_836 (fun c2 => ?_) (fun c2 => ?_)
  rotate_left
  · have c2 := n_eq (b := 10) c2
    exact J (fun z => by omega)
  have c2 := n_ne (b := 10) c2
  refine iL_machines_862 rfl ?_
  refine iL_machines_867 W.2.2.2 rfl (by omega) (by omega) ?_
  refine iL_machines_868 rfl ?_
  show z_J Z mL_machines _ _ _ _ 890 _ [.int (nI D + nI 1024 * nI V + nI 16384 * (nI w + nI 8 * nI p)), .int (nI (x_G x 3)), .ref (la 705)] _
  rw [pk_mul, pk_mul, nI_add, nI_add, pk_mul, nI_add]
  generalize he : D + 1024 * V + 16384 * (w + 8 * p) = e
  refine iL_machines_890 W.2.1.2.2.2.2.2 rfl (by omega) (by omega) ?_
  rw [n_upd]
  have W1 := W.put (fun r hr => z_u_n (by omega)) (W.2.putE (x_G x 3) e)
  clear W
  refine iL_machines_891 rfl ?_
  refine iL_machines_895 W1.2.2.2 rfl (by omega) (by omega) ?_
  rw [show x_G (x_putE x (x_G x 3) e) 3 = x_G x 3 from rfl]
  refine iL_machines_896 rfl ?_
  show z_J Z mL_machines _ _ _ _ 898 _ [.int (nI (x_G x 3) + nI 1), .int (nI 3), .ref (la 709)] _
  rw [nI_add]
  refine iL_machines_898 W1.2.2.2 rfl (by omega) (by omega) ?_
  rw [n_upd]
  have W := W1.put (fun r hr => z_u_n (by omega)) (W1.2.putG 3 (x_G x 3 + 1))
  clear W1
  refine iL_machines_899 rfl ?_
  refine iL_machines_908 (R' := zR 9 150 5 30) rfl rfl (z_rmo rfl) (c_L_install W ((fin_s hw (by omega) hp hV hD).trans ((fin_1 hD).trans (if_pos ⟨by omega, c⟩)))) (fun v h' w9 => ?_) (fun E h' w9 => by cases w9.1)
  obtain ⟨w1, W⟩ := w9
  cases w1
  refine iL_machines_911 rfl ?_
  refine iL_machines_915 (fun cc => absurd (nI_add _ _).symm cc) (fun _ => ?_)
  refine iL_machines_918 rfl ?_
  exact iL_machines_923 (zb_nar true) (Nat.le_of_ble_eq_true rfl) (Nat.le_of_ble_eq_true rfl) ⟨rfl, _, _, I.tell hw hp hn (by omega) (by omega) (by omega) (by omega) (fun q hq => ⟨nu_n hq, nuF_n hq, nuF_n hq, nuF_n hq⟩) (hpv.ins hV hD he.symm), W⟩
theorem l_mach_uns {p D V : Nat} (W : z_lw Z h a1 la σ x y) (I : z_li σ x) (hw : w < s_nM σ) (hp : p < 5) (hD : D ≤ 720) (hn : x_G x 3 < 60) :
    z_J Z mL_machines (zR 10 176 221 1586) 0 0 (z_lb Z a1 la y) 924 (l_ml a1 la act vy vz w C ++ [.int (nI p), .int (n_o (l_lat (x_E x) (w + 8 * p) 1000 (x_G x 3))), .int (l_day (x_E x) (w + 8 * p) (x_G x 3)), .int (nI D), .int (nI (l_cnt (x_E x) (w + 8 * p) (x_G x 3))), .int (nI V)]) [] h := by
  have n4 := I.1.1
  have i10 := I.2.2.2.2.2.1
  have ht : zix (nI w) (s_nM σ) = true := l_zix hw
  have htp : zix (nI p) 5 = true := l_zix hp
  have hHN := W.hist (q := w * 5 + p) (by omega)
  have hpv := I.2.2.2.2.2.2 w p hw hp
  obtain ⟨o1, o2, o3, o4, o5⟩ := id hpv
  rw [o2, o5]
  have J : ∀ (last : Option Nat), z_J Z mL_machines (zR 10 176 221 1586) 0 0 (z_lb Z a1 la y) 944 (l_ml a1 la act vy vz w C ++ [.int (nI p), .int (n_o last), .int (h_last (s_HF σ (w * 5 + p)) (s_HE σ (w * 5 + p)) (s_HN σ (w * 5 + p))), .int (nI D), .int (nI (s_HN σ (w * 5 + p))), .int (nI V)]) [.int (nI (l_ver (x_E x) (w + 8 * p) 1000 (x_G x 3)))] h := fun last => by
    have hle : l_ver (x_E x) (w + 8 * p) 1000 (x_G x 3) ≤ 9 := l_ver_le (fun k hk => (i10 k hk).2.1)
    refine l_mu1 W hw (by omega) hp (fun h' W => ?_)
    have K : ¬ (h_open (s_HE σ (w * 5 + p)) (s_HN σ (w * 5 + p)) = true ∧ h_last (s_HF σ (w * 5 + p)) (s_HE σ (w * 5 + p)) (s_HN σ (w * 5 + p)) < nI D) → z_J Z mL_machines (zR 10 176 221 1586) 12 72 (z_lb Z a1 la y) 1003 (l_ml a1 la act vy vz w C ++ [.int (nI p), .int (n_o last), .int (h_last (s_HF σ (w * 5 + p)) (s_HE σ (w * 5 + p)) (s_HN σ (w * 5 + p))), .int (nI D), .int (nI (s_HN σ (w * 5 + p))), .int (nI V)] ++ [.int (nI (l_ver (x_E x) (w + 8 * p) 1000 (x_G x 3)))]) [] h' := fun hbad => by
      refine iL_machines_1003 rfl ?_
      refine iL_machines_1010 (R' := zR 9 149 4 24) rfl rfl (z_rmo rfl) (c_L_uninstall W ((fun_s hw (by omega) hp hD).trans (if_neg hbad))) (fun v h' w9 => ?_) (fun E h' w9 => by cases w9.1)
      obtain ⟨w1, W⟩ := w9
      cases w1
      refine iL_machines_1013 rfl ?_
      refine iL_machines_1015 (fun cc => absurd rfl cc) (fun _ => ?_)
      refine iL_machines_1018 rfl ?_
      exact iL_machines_1023 (zb_nar true) (Nat.le_of_ble_eq_true rfl) (Nat.le_of_ble_eq_true rfl) ⟨rfl, σ, x, I, W⟩
    refine iL_machines_991 rfl ?_
    refine iL_machines_993 (fun c => ?_) (fun c => ?_)
    · have c := n_e0 c
      rw [o3] at c
      exact K (fun z => by
        rw [if_pos z.1] at c
        have := o4 z.1
        omega)
    have c := n_ne0 c
    have hop : h_open (s_HE σ (w * 5 + p)) (s_HN σ (w * 5 + p)) = true := by
      rw [o3] at c
      by_cases z : h_open (s_HE σ (w * 5 + p)) (s_HN σ (w * 5 + p)) = true
      · exact z
      · rw [if_neg z] at c
        exact absurd rfl c
    rw [if_pos hop] at o3
    refine iL_machines_996 rfl ?_
    refine iL_machines_1000 (fun c2 => ?_) (fun c2 => ?_)
    rotate_left
    · exact K (fun z => c2 z.2)
    refine iL_machines_1024 rfl ?_
    refine iL_machines_1029 W.2.2.2 rfl (by omega) (by omega) ?_
    refine iL_machines_1030 rfl ?_
    show z_J Z mL_machines _ _ _ _ 1045 _ [.int (nI D + nI 16384 * (nI w + nI 8 * nI p)), .int (nI (x_G x 3)), .ref (la 705)] _
    rw [pk_mul, nI_add, pk_mul, nI_add]
    generalize he : D + 16384 * (w + 8 * p) = e
    refine iL_machines_1045 W.2.1.2.2.2.2.2 rfl (by omega) (by omega) ?_
    rw [n_upd]
    have W1 := W.put (fun r hr => z_u_n (by omega)) (W.2.putE (x_G x 3) e)
    clear W
    refine iL_machines_1046 rfl ?_
    refine iL_machines_1050 W1.2.2.2 rfl (by omega) (by omega) ?_
    rw [show x_G (x_putE x (x_G x 3) e) 3 = x_G x 3 from rfl]
    refine iL_machines_1051 rfl ?_
    show z_J Z mL_machines _ _ _ _ 1053 _ [.int (nI (x_G x 3) + nI 1), .int (nI 3), .ref (la 709)] _
    rw [nI_add]
    refine iL_machines_1053 W1.2.2.2 rfl (by omega) (by omega) ?_
    rw [n_upd]
    have W := W1.put (fun r hr => z_u_n (by omega)) (W1.2.putG 3 (x_G x 3 + 1))
    clear W1
    refine iL_machines_1054 rfl ?_
    refine iL_machines_1061 (R' := zR 9 149 4 24) rfl rfl (z_rmo rfl) (c_L_uninstall W ((fun_s hw (by omega) hp hD).trans (if_pos ⟨hop, c2⟩))) (fun v h' w9 => ?_) (fun E h' w9 => by cases w9.1)
    obtain ⟨w1, W⟩ := w9
    cases w1
    refine iL_machines_1064 rfl ?_
    refine iL_machines_1066 (fun cc => absurd (congrArg nI o3.symm) cc) (fun _ => ?_)
    refine iL_machines_1069 rfl ?_
    exact iL_machines_1074 (zb_nar true) (Nat.le_of_ble_eq_true rfl) (Nat.le_of_ble_eq_true rfl) ⟨rfl, _, _, I.tell hw hp hn (by omega) (by omega) (by omega) (by omega) (fun q hq => ⟨rfl, rfl, rfl, nuF_n hq⟩) (hpv.uns hop c2 (fun k => (hHN.2 k).2.1) hD he.symm), W⟩
  unfold l_ver at J
  cases hz : l_lat (x_E x) (w + 8 * p) 1000 (x_G x 3) with
  | none =>
    rw [hz] at J
    refine iL_machines_924 rfl ?_
    refine iL_machines_926 (fun c => ?_) (fun c => ?_)
    · exact absurd c (by decide)
    · refine iL_machines_929 rfl ?_
      exact J none
  | some k =>
    rw [hz] at J
    have hk := l_lat_lt hz
    have hEk := i10 k hk
    refine iL_machines_924 rfl ?_
    refine iL_machines_926 (fun c => ?_) (fun c => ?_)
    · refine iL_machines_933 rfl ?_
      refine iL_machines_937 W.2.1.2.2.2.2.2 rfl (by omega) (by omega) ?_
      refine iL_machines_938 rfl ?_
      show z_J Z mL_machines _ _ _ _ 944 _ [.int ((nI (x_E x k) >>> (nI 10 &&& 31)) &&& nI 15)] h
      rw [l_sh10 (by omega), l_an15 (by omega)]
      exact J (some k)
    · exact absurd (nI_pos' (n := k) (by omega)) c
end ZMach
