/-! ===== the law: isDay ===== -/
abbrev l_dl (a1 : Nat) (la : Nat → Nat) (D : Nat) (b : Bool) (vy : Int32) : List Value := [.ref a1, .int (nI D), .int (zb b), .int vy, .ref (la 700), .ref (la 701), .ref (la 702), .ref (la 703), .ref (la 704), .ref (la 705), .ref (la 706), .ref (la 707), .ref (la 708), .ref (la 709)]
def z_lq (Z : zZ) (a1 : Nat) (la : Nat → Nat) : zO → zH → Prop := fun o g => o = .inl (some (.int 1)) ∧ ∃ σ x y, z_li σ x ∧ z_lw Z g a1 la σ x y
section ZDay
variable {Z : zZ} {h : zH} {a1 : Nat} {la : Nat → Nat} {σ : zSt} {x : zLx} {y : zLy} {D : Nat} {b : Bool} {vy : Int32} {Q : zO → zH → Prop}
theorem l_day1 (H : l_dy σ D x y) (hD : D ≤ 720) (hq : ∀ g, z_lw Z g a1 la σ x y → z_J Z mL_isDay (zR 10 183 200 1200) 87 522 Q 127 (l_dl a1 la D b vy ++ [.int (nI (s_all σ D).length)]) [] g) :
    ∀ n k g, k + n = (s_all σ D).length → z_lw Z g a1 la σ x y → z_J Z mL_isDay (zR 10 183 200 1200) (7 + 4 * k) (42 + 24 * k) Q 80 (l_dl a1 la D b vy ++ [.int (nI k)]) [] g := by
  obtain ⟨eg, hl, hr⟩ := id H
  intro n
  induction n with
  | zero =>
    intro k g hk W
    obtain rfl : k = (s_all σ D).length := by omega
    refine iL_isDay_80 rfl ?_
    refine iL_isDay_85 W.2.2.2 rfl (by omega) (by omega) ?_
    refine iL_isDay_86 (fun cc => ?_) (fun cc => ?_)
    · exact z_J.widen 87 522 (by omega) (by omega) (hq g W)
    · rw [eg] at cc
      exact absurd (Int32.le_refl _) cc
  | succ n ih =>
    intro k g hk W
    obtain ⟨r1, r2, -⟩ := hr k (by omega)
    refine iL_isDay_80 rfl ?_
    refine iL_isDay_85 W.2.2.2 rfl (by omega) (by omega) ?_
    refine iL_isDay_86 (fun cc => ?_) (fun cc => ?_)
    · rw [eg] at cc
      have := n_le cc; omega
    refine iL_isDay_89 rfl ?_
    refine iL_isDay_93 (R' := zR 9 146 2 12) rfl rfl ⟨by decide, by decide, by show 7 + 4 * k + 2 ≤ 200; omega, by show 42 + 24 * k + 12 ≤ 1200; omega⟩ (c_L_need W (fnd_s hD (k := k) (by omega) (by omega))) (fun v h' w9 => ?_) (fun E h' w9 => by cases w9.1)
    obtain ⟨w1, W⟩ := w9
    cases w1
    refine iL_isDay_96 rfl ?_
    refine iL_isDay_100 W.2.2.1.1 rfl (by omega) (by omega) ?_
    refine iL_isDay_101 (fun cc => absurd ?_ cc) (fun _ => ?_)
    · rw [r1]
      rfl
    refine iL_isDay_104 rfl ?_
    refine iL_isDay_108 (R' := zR 8 124 2 12) rfl rfl (Classical.choose_spec W.obj) ⟨by decide, by decide, by show 7 + 4 * k + 2 + 2 ≤ 200; omega, by show 42 + 24 * k + 12 + 12 ≤ 1200; omega⟩ (c_W_demand W (fdm_s hD (k := k) (by omega) (by omega))) (fun v h' w9 => ?_) (fun E h' w9 => by cases w9.1)
    obtain ⟨w1, W⟩ := w9
    cases w1
    refine iL_isDay_111 rfl ?_
    refine iL_isDay_115 W.2.2.1.2.1 rfl (by omega) (by omega) ?_
    refine iL_isDay_116 (fun _ => ?_) (fun cc => absurd ?_ cc)
    rotate_left
    · rw [r2]
      rfl
    refine iL_isDay_121 rfl ?_
    refine z_J.widen (7 + 4 * (k + 1)) (42 + 24 * (k + 1)) (by show 7 + 4 * k + 2 + 2 ≤ _; omega) (by show 42 + 24 * k + 12 + 12 ≤ _; omega) ?_
    have ih := ih (k + 1) _ (by omega) W
    rw [← nI_add k 1] at ih
    exact ih
theorem l_day2p {m : Nat} (I : z_li σ x) (hD : D ≤ 720) (hm : m < s_nM σ) (hq : ∀ g, z_lw Z g a1 la σ x y → z_J Z mL_isDay (zR 10 183 200 1200) (87 + 15 * (m + 1)) (522 + 90 * (m + 1)) Q 180 (l_dl a1 la D b vy ++ [.int (nI m), .int (nI 5)]) [] g) :
    ∀ n p g, p + n = 5 → z_lw Z g a1 la σ x y → z_J Z mL_isDay (zR 10 183 200 1200) (87 + 15 * m + 3 * p) (522 + 90 * m + 18 * p) Q 142 (l_dl a1 la D b vy ++ [.int (nI m), .int (nI p)]) [] g := by
  have n4 := I.1.1
  have i4 := I.1.2.2.2
  have i10 := I.2.2.2.2.2.1
  intro n
  induction n with
  | zero =>
    intro p g hp W
    obtain rfl : p = 5 := by omega
    refine iL_isDay_142 rfl ?_
    refine iL_isDay_145 (fun cc => ?_) (fun cc => ?_)
    · exact z_J.widen (87 + 15 * (m + 1)) (522 + 90 * (m + 1)) (by omega) (by omega) (hq g W)
    · exact absurd (Int32.le_refl _) cc
  | succ n ih =>
    intro p g hp W
    refine iL_isDay_142 rfl ?_
    refine iL_isDay_145 (fun cc => ?_) (fun cc => ?_)
    · have := n_le cc; omega
    refine iL_isDay_148 rfl ?_
    refine iL_isDay_154 (R' := zR 9 149 3 18) rfl rfl ⟨by decide, by decide, by show 87 + 15 * m + 3 * p + 3 ≤ 200; omega, by show 522 + 90 * m + 18 * p + 18 ≤ 1200; omega⟩ (c_L_runs W (fru_s hm (by omega) (show p < 5 by omega) hD)) (fun v h' w9 => ?_) (fun E h' w9 => by cases w9.1)
    obtain ⟨w1, W⟩ := w9
    cases w1
    refine iL_isDay_157 rfl ?_
    refine iL_isDay_166 (R' := zR 1 26 0 0) rfl rfl ⟨by decide, by decide, by show 87 + 15 * m + 3 * p + 3 + 0 ≤ 200; omega, by show 522 + 90 * m + 18 * p + 18 + 0 ≤ 1200; omega⟩ (c_L_version W.2 i4 (fun k hk => (i10 k hk).2.2.1) (m := m) (p := p) (d := D) (by omega) (by omega) (by omega)) (z_qr ?_) z_qx
    refine iL_isDay_169 (fun _ => ?_) (fun cc => absurd ?_ cc)
    rotate_left
    · rw [(I.2.2.2.2.2.2 m p hm (by omega)).1 D hD]
      rfl
    refine iL_isDay_174 rfl ?_
    refine z_J.widen (87 + 15 * m + 3 * (p + 1)) (522 + 90 * m + 18 * (p + 1)) (by show 87 + 15 * m + 3 * p + 3 + 0 ≤ _; omega) (by show 522 + 90 * m + 18 * p + 18 + 0 ≤ _; omega) ?_
    have ih := ih (p + 1) _ (by omega) W
    rw [← nI_add p 1] at ih
    exact ih
theorem l_day2 (I : z_li σ x) (hD : D ≤ 720) (hq : ∀ g, z_lw Z g a1 la σ x y → z_J Z mL_isDay (zR 10 183 200 1200) 147 882 Q 186 (l_dl a1 la D b vy ++ [.int (nI (s_nM σ))]) [] g) :
    ∀ n m g, m + n = s_nM σ → z_lw Z g a1 la σ x y → z_J Z mL_isDay (zR 10 183 200 1200) (87 + 15 * m) (522 + 90 * m) Q 130 (l_dl a1 la D b vy ++ [.int (nI m)]) [] g := by
  have n4 := I.1.1
  have i3 := I.1.2.2.1
  intro n
  induction n with
  | zero =>
    intro m g hm W
    obtain rfl : m = s_nM σ := by omega
    refine iL_isDay_130 rfl ?_
    refine iL_isDay_135 W.2.2.2 rfl (by omega) (by omega) ?_
    refine iL_isDay_136 (fun cc => ?_) (fun cc => ?_)
    · exact z_J.widen 147 882 (by omega) (by omega) (hq g W)
    · rw [i3] at cc
      exact absurd (Int32.le_refl _) cc
  | succ n ih =>
    intro m g hm W
    refine iL_isDay_130 rfl ?_
    refine iL_isDay_135 W.2.2.2 rfl (by omega) (by omega) ?_
    refine iL_isDay_136 (fun cc => ?_) (fun cc => ?_)
    · rw [i3] at cc
      have := n_le cc; omega
    refine iL_isDay_139 rfl ?_
    refine l_day2p (m := m) I hD (by omega) (fun g' W' => ?_) 5 0 g rfl W
    refine iL_isDay_180 rfl ?_
    refine z_J.take 15 ?_
    have ih := ih (m + 1) g' (by omega) W'
    rw [← nI_add m 1] at ih
    exact ih
theorem l_day3 (I : z_li σ x) (H : l_dy σ D x y) (hD : D ≤ 720) (h10 : (s_all σ D).length ≤ 10) (hq : ∀ g, z_lw Z g a1 la σ x y → z_J Z mL_isDay (zR 10 183 200 1200) 167 1002 Q 303 (l_dl a1 la D b vy ++ [.int (nI (l_LK σ y (s_all σ D).length)), .int (nI (s_all σ D).length)]) [] g) :
    ∀ n k g, k + n = (s_all σ D).length → z_lw Z g a1 la σ x y → z_J Z mL_isDay (zR 10 183 200 1200) (147 + 2 * k) (882 + 12 * k) Q 225 (l_dl a1 la D b vy ++ [.int (nI (l_LK σ y k)), .int (nI k)]) [] g := by
  obtain ⟨eg, hl, hr⟩ := id H
  intro n
  induction n with
  | zero =>
    intro k g hk W
    obtain rfl : k = (s_all σ D).length := by omega
    refine iL_isDay_225 rfl ?_
    refine iL_isDay_230 W.2.2.2 rfl (by omega) (by omega) ?_
    refine iL_isDay_231 (fun cc => ?_) (fun cc => ?_)
    · exact z_J.widen 167 1002 (by omega) (by omega) (hq g W)
    · rw [eg] at cc
      exact absurd (Int32.le_refl _) cc
  | succ n ih =>
    intro k g hk W
    have hok := W.ok
    have ih := fun g W => ih (k + 1) g (by omega) W
    have J : ∀ g, z_lw Z g a1 la σ x y → z_J Z mL_isDay (zR 10 183 200 1200) (147 + 2 * (k + 1)) (882 + 12 * (k + 1)) Q 293 (l_dl a1 la D b vy ++ [.int (nI (l_LK σ y k)), .int (nI k), .int (nI (l_LK σ y (k + 1)))]) [] g := fun g W => by
      refine iL_isDay_293 rfl ?_
      refine z_J.take 16 ?_
      have ih := ih g W
      rw [← nI_add k 1] at ih
      exact ih
    have K : ∀ g, z_lw Z g a1 la σ x y → z_J Z mL_isDay (zR 10 183 200 1200) (147 + 2 * k) (882 + 12 * k) Q 270 (l_dl a1 la D b vy ++ [.int (nI (l_LK σ y k)), .int (nI k), .int (nI (l_LK σ y (k + 1)))]) [] g := fun g W => by
      refine iL_isDay_270 rfl ?_
      refine iL_isDay_274 (R' := zR 9 157 2 12) rfl rfl ⟨by decide, by decide, by show 147 + 2 * k + 2 ≤ 200; omega, by show 882 + 12 * k + 12 ≤ 1200; omega⟩ (c_L_gets W (fg_s hD (k := k) (by omega) (by omega))) (fun v h' w9 => ?_) (fun E h' w9 => by cases w9.1)
      obtain ⟨w1, W⟩ := w9
      cases w1
      refine iL_isDay_277 rfl ?_
      refine iL_isDay_281 W.2.2.1.2.1 rfl (by omega) (by omega) ?_
      refine iL_isDay_282 rfl ?_
      refine iL_isDay_288 (fun _ => ?_) (fun cc => absurd (l_gets_eq H hok (by omega)) cc)
      refine z_J.widen (147 + 2 * (k + 1)) (882 + 12 * (k + 1)) (by show 147 + 2 * k + 2 ≤ _; omega) (by show 882 + 12 * k + 12 ≤ _; omega) ?_
      exact J _ W
    refine iL_isDay_225 rfl ?_
    refine iL_isDay_230 W.2.2.2 rfl (by omega) (by omega) ?_
    refine iL_isDay_231 (fun cc => ?_) (fun cc => ?_)
    · rw [eg] at cc
      have := n_le cc; omega
    refine iL_isDay_234 rfl ?_
    show z_J Z mL_isDay _ _ _ Q 248 (l_dl a1 la D b vy ++ [.int (nI (l_LK σ y k)), .int (nI k)]) [.ref (la 709), .ref (la 708), .ref (la 707), .ref (la 700), .int (nI 0), .int (nI 0), .int (nI k + nI 1)] g
    rw [nI_add]
    refine iL_isDay_248 (R' := zR 0 0 0 0) rfl rfl ⟨by decide, by decide, by show 147 + 2 * k + 0 ≤ 200; omega, by show 882 + 12 * k + 0 ≤ 1200; omega⟩ (c_L_lacks (many := k + 1) (more := 0) (mB := 0) W.2 I hok (by omega) (by omega) (by omega) (fun j hj => (hr j (by omega)).2.2.2.1) (fun j hj => (hr j (by omega)).2.2.2.2.1)) (z_qr ?_) z_qx
    refine iL_isDay_251 rfl ?_
    refine iL_isDay_254 (fun c => ?_) (fun c => ?_)
    · exact K g W
    · refine iL_isDay_257 rfl ?_
      refine iL_isDay_263 W.2.2.2 rfl (by omega) (by omega) ?_
      rw [eg]
      refine iL_isDay_264 (R' := zR 0 0 0 0) rfl rfl ⟨by decide, by decide, by show 147 + 2 * k + 0 + 0 ≤ 200; omega, by show 882 + 12 * k + 0 + 0 ≤ 1200; omega⟩ (c_L_low (v := vy) (m := (s_all σ D).length) (by omega) (by omega)) (z_qr ?_) z_qx
      refine iL_isDay_267 (fun _ => ?_) (fun _ => ?_)
      · refine z_J.widen (147 + 2 * (k + 1)) (882 + 12 * (k + 1)) (by show 147 + 2 * k + 0 + 0 ≤ _; omega) (by show 882 + 12 * k + 0 + 0 ≤ _; omega) ?_
        exact J g W
      · exact K g W
theorem l_day4 (I : z_li σ x) (H : l_dy σ D x y) (hD : D ≤ 720) (h10 : (s_all σ D).length ≤ 10) (W : z_lw Z h a1 la σ x y) : z_J Z mL_isDay (zR 10 183 200 1200) 167 1002 (z_lq Z a1 la) 303 (l_dl a1 la D b vy ++ [.int (nI (l_LK σ y (s_all σ D).length)), .int (nI (s_all σ D).length)]) [] h := by
  obtain ⟨eg, hl, hr⟩ := id H
  have hok := W.ok
  have elk := l_lack_eq H hok
  refine iL_isDay_303 rfl ?_
  refine iL_isDay_305 (R' := zR 0 0 0 0) rfl rfl (z_rmo rfl) (c_L_low (v := vy) (m := 5) (by omega) (by omega)) (z_qr ?_) z_qx
  have hP := l_low_lt vy (n := 5) (by omega)
  generalize l_low vy 5 = P at hP ⊢
  refine iL_isDay_308 rfl ?_
  show z_J Z mL_isDay _ _ _ _ 316 (l_dl a1 la D b vy ++ [.int (nI (l_LK σ y (s_all σ D).length)), .int (nI P)]) [.int (nI 9), .int (vy >>> (nI 4 &&& 31)), .int (nI 1)] h
  refine iL_isDay_316 (R' := zR 0 0 0 0) rfl rfl (z_rmo rfl) (c_L_low (v := vy >>> (nI 4 &&& 31)) (m := 9) (by omega) (by omega)) (z_qr ?_) z_qx
  have hV := l_low_lt (vy >>> (nI 4 &&& 31)) (n := 9) (by omega)
  refine iL_isDay_319 rfl ?_
  show z_J Z mL_isDay _ _ _ _ 325 (l_dl a1 la D b vy ++ [.int (nI (l_LK σ y (s_all σ D).length)), .int (nI P), .int (nI 1 + nI (l_low (vy >>> (nI 4 &&& 31)) 9))]) [.int (nI 4), .ref (la 709)] h
  rw [nI_add]
  generalize hV2 : 1 + l_low (vy >>> (nI 4 &&& 31)) 9 = V
  refine iL_isDay_325 W.2.2.2 rfl (by omega) (by omega) ?_
  rw [eg]
  refine iL_isDay_326 rfl ?_
  refine iL_isDay_340 (R' := zR 0 0 0 0) rfl rfl (z_rmo rfl) (c_L_rightsFor W.2 I hok hD (p := P) (v := V) hP (by omega)) (z_qr ?_) z_qx
  refine iL_isDay_343 rfl ?_
  refine iL_isDay_351 (R' := zR 0 0 0 0) rfl rfl (z_rmo rfl) (c_L_lacks (many := (s_all σ D).length) (more := 5000) (mB := s_giv σ P V D (s_nR σ)) W.2 I hok (by omega) (by omega) (s_giv_lt σ _ _ _ hok.1.1) (fun j hj => (hr j (by omega)).2.2.2.1) (fun j hj => (hr j (by omega)).2.2.2.2.1)) (z_qr ?_) z_qx
  refine iL_isDay_354 rfl ?_
  refine iL_isDay_358 (R' := zR 9 156 1 6) rfl rfl (z_rmo rfl) (c_L_lack W (fl_s hD)) (fun v h' w9 => ?_) (fun E h' w9 => by cases w9.1)
  obtain ⟨w1, W⟩ := w9
  cases w1
  refine iL_isDay_361 rfl ?_
  refine iL_isDay_363 (fun cc => absurd (congrArg nI elk) cc) (fun _ => ?_)
  refine iL_isDay_366 rfl ?_
  refine iL_isDay_367 (fun c => ?_) (fun c => ?_)
  · refine iL_isDay_401 rfl ?_
    exact iL_isDay_406 (zb_nar true) (Nat.le_of_ble_eq_true rfl) (Nat.le_of_ble_eq_true rfl) ⟨rfl, σ, x, y, I, W⟩
  refine iL_isDay_370 rfl ?_
  refine iL_isDay_372 (R' := zR 9 147 2 12) rfl rfl (z_rmo rfl) (c_L_lackBySets W ((fls_s hD).trans (if_neg (by omega)))) (fun v h' w9 => ?_) (fun E h' w9 => by cases w9.1)
  obtain ⟨w1, W⟩ := w9
  cases w1
  refine iL_isDay_375 rfl ?_
  refine iL_isDay_377 (fun cc => absurd (congrArg nI elk) cc) (fun _ => ?_)
  refine iL_isDay_380 rfl ?_
  refine iL_isDay_386 (R' := zR 9 158 3 18) rfl rfl (z_rmo rfl) (c_L_spare W (fsp_s hD hP (by omega))) (fun v h' w9 => ?_) (fun E h' w9 => by cases w9.1)
  obtain ⟨w1, W⟩ := w9
  cases w1
  refine iL_isDay_389 rfl ?_
  refine iL_isDay_398 (fun cc => absurd (l_spare_eq H hok) cc) (fun _ => ?_)
  refine iL_isDay_401 rfl ?_
  exact iL_isDay_406 (zb_nar true) (Nat.le_of_ble_eq_true rfl) (Nat.le_of_ble_eq_true rfl) ⟨rfl, σ, x, y, I, W⟩
theorem c_L_isDay (W : z_lw Z h a1 la σ x y) (I : z_li σ x) (hD : D ≤ 720) : z_J Z mL_isDay (zR 10 183 200 1200) 0 0 (z_lq Z a1 la) 0 (l_dl a1 la D b vy) [] h := by
  have hok := W.ok
  refine iL_isDay_0 rfl ?_
  refine iL_isDay_21 (R' := (zR 2 51 0 0)) rfl rfl (z_rmo rfl) (c_L_lay W I hD) (fun v h' w9 => ?_) (fun E h' w9 => by cases w9.1)
  obtain ⟨w1, y', W, hA⟩ := w9
  cases w1
  have I := I.g4 (s_all σ D).length
  have H := l_dy_of (x := x) (y := y') (by assumption) hok hD hA
  generalize x_putG x 4 (s_all σ D).length = x' at W I H
  obtain ⟨eg, hl, hr⟩ := id H
  have n4 := I.1.1
  have hf : zix (nI (s_all σ D).length) (s_all σ D).length = false := l_zixf (Nat.le_refl _)
  refine iL_isDay_24 rfl ?_
  refine iL_isDay_26 (R' := zR 8 124 1 6) rfl rfl (Classical.choose_spec W.obj) (z_rmo rfl) (c_W_needs W (fn_s hD)) (fun v h' w9 => ?_) (fun E h' w9 => by cases w9.1)
  obtain ⟨w1, W⟩ := w9
  cases w1
  refine iL_isDay_29 rfl ?_
  refine iL_isDay_32 W.2.2.2 rfl (by omega) (by omega) ?_
  rw [eg]
  refine iL_isDay_33 (fun cc => absurd rfl cc) (fun _ => ?_)
  refine iL_isDay_36 rfl ?_
  refine iL_isDay_41 W.2.2.2 rfl (by omega) (by omega) ?_
  rw [eg]
  refine iL_isDay_42 (R' := zR 9 146 2 12) rfl rfl (z_rmo rfl) (c_L_need W (fnd_i hD hf)) (fun v h' w9 => ?_) (fun E h' w9 => by cases w9.1)
  obtain ⟨w1, W⟩ := w9
  cases w1
  refine iL_isDay_45 rfl ?_
  refine iL_isDay_47 (fun cc => absurd rfl cc) (fun _ => ?_)
  refine iL_isDay_50 rfl ?_
  refine iL_isDay_53 (R' := zR 9 146 2 12) rfl rfl (z_rmo rfl) (c_L_need W (fnd_i hD (l_zixm _))) (fun v h' w9 => ?_) (fun E h' w9 => by cases w9.1)
  obtain ⟨w1, W⟩ := w9
  cases w1
  refine iL_isDay_56 rfl ?_
  refine iL_isDay_58 (fun cc => absurd rfl cc) (fun _ => ?_)
  refine iL_isDay_61 rfl ?_
  refine iL_isDay_66 W.2.2.2 rfl (by omega) (by omega) ?_
  rw [eg]
  refine iL_isDay_67 (R' := zR 9 157 2 12) rfl rfl (z_rmo rfl) (c_L_gets W (fg_i hD hf)) (fun v h' w9 => ?_) (fun E h' w9 => by cases w9.1)
  obtain ⟨w1, W⟩ := w9
  cases w1
  refine iL_isDay_70 rfl ?_
  refine iL_isDay_72 (fun _ => ?_) (fun cc => absurd rfl cc)
  refine iL_isDay_77 rfl ?_
  refine l_day1 (Q := z_lq Z a1 la) H hD (fun g W => ?_) (s_all σ D).length 0 _ (by omega) W
  refine iL_isDay_127 rfl ?_
  refine l_day2 (Q := z_lq Z a1 la) I hD (fun g W => ?_) (s_nM σ) 0 g (by omega) W
  refine iL_isDay_186 rfl ?_
  refine iL_isDay_189 W.2.2.2 rfl (by omega) (by omega) ?_
  rw [eg]
  refine iL_isDay_190 rfl ?_
  refine iL_isDay_192 (fun c => ?_) (fun c => ?_)
  · have c := n_le (b := 10) c
    refine iL_isDay_219 rfl ?_
    have h0 := l_LK_fl H hok (k := 0) (by omega)
    have h00 : l_LK σ y' 0 = 0 := by
      have : n_sum (t_D (s_all σ D)) 0 = 0 := rfl
      omega
    have H3 := l_day3 (Z := Z) (a1 := a1) (la := la) (b := b) (vy := vy) (Q := z_lq Z a1 la) I H hD c (fun g W => l_day4 I H hD c W) (s_all σ D).length 0 g (by omega) W
    rw [h00] at H3
    exact H3
  · have c := n_nle (b := 10) c
    have hlk : s_lk σ D < 2 ^ 31 := by
      have h1 := n_sum_leb (f := t_D (s_all σ D)) (b := 1000) (n := (s_all σ D).length) (fun k hk => by
        have := hr k hk
        rw [← this.2.1]
        exact this.2.2.2.1)
      have h2 : (s_all σ D).length * 1000 ≤ 20 * 1000 := Nat.mul_le_mul_right _ hl
      unfold s_lk
      omega
    refine iL_isDay_195 rfl ?_
    refine iL_isDay_197 (R' := zR 9 147 2 12) rfl rfl (z_rmo rfl) (c_L_lackBySets W ((fls_s hD).trans (if_pos c))) (fun v h' w9 => ?_) (fun E h' w9 => by cases w9.1)
    obtain ⟨w1, W⟩ := w9
    cases w1
    refine iL_isDay_200 rfl ?_
    refine iL_isDay_202 (fun cc => absurd rfl cc) (fun _ => ?_)
    refine iL_isDay_205 rfl ?_
    refine iL_isDay_207 (R' := zR 9 156 1 6) rfl rfl (z_rmo rfl) (c_L_lack W (fl_s hD)) (fun v h' w9 => ?_) (fun E h' w9 => by cases w9.1)
    obtain ⟨w1, W⟩ := w9
    cases w1
    refine iL_isDay_210 (fun cc => absurd cc (nI_pos hlk)) (fun _ => ?_)
    refine iL_isDay_213 rfl ?_
    exact iL_isDay_218 (zb_nar true) (Nat.le_of_ble_eq_true rfl) (Nat.le_of_ble_eq_true rfl) ⟨rfl, σ, x', y', I, W⟩
end ZDay
