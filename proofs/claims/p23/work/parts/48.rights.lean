/-! ===== the law: rights ===== -/
theorem l_zin {v lo hi : Nat} (h1 : lo ≤ v) (h2 : v ≤ hi) (hh : hi < 2 ^ 31 := by omega) : zin (nI v) lo hi = true := by
  unfold zin
  rw [decide_eq_true (nI_le h1 (by omega)), decide_eq_true (nI_le h2 hh)]
  rfl
theorem l_zinf {v lo hi : Nat} (h : v < lo ∨ hi < v) (hv : v < 2 ^ 31 := by omega) (hl : lo < 2 ^ 31 := by omega) : zin (nI v) lo hi = false := by
  unfold zin
  rcases h with h | h
  · rw [decide_eq_false (p := nI lo ≤ nI v) (nI_ge h hl)]
    rfl
  · rw [decide_eq_false (p := nI v ≤ nI hi) (nI_ge h hv), Bool.and_false]
theorem l_zix {v n : Nat} (h : v < n) (hn : n < 2 ^ 31 := by omega) : zix (nI v) n = true := by
  unfold zix
  rw [decide_eq_true (nI_pos' (n := v) (by omega)), decide_eq_true (nI_lt h hn)]
  rfl
theorem l_zixf {v n : Nat} (h : n ≤ v) (hv : v < 2 ^ 31 := by omega) : zix (nI v) n = false := by
  unfold zix
  rw [decide_eq_false (p := nI v < nI n) (nI_nlt h hv), Bool.and_false]
theorem l_zixm (n : Nat) : zix (-1) n = false := by
  unfold zix
  rw [decide_eq_false (p := (0 : Int32) ≤ -1) (by decide)]
  rfl
theorem l_zinm {lo hi : Nat} (h : lo < 2 ^ 31 := by omega) : zin (-1) lo hi = false := by
  unfold zin
  rw [decide_eq_false (p := nI lo ≤ -1) (fun z => (nI_pos (n := lo) h) (by
    rw [Int32.le_iff_toInt_le] at z
    rw [Int32.lt_iff_toInt_lt]
    have : (-1 : Int32).toInt = -1 := by decide
    have : (0 : Int32).toInt = 0 := by decide
    omega))]
  rfl
theorem fa_bad {σ : zSt} {p v u f l : Int32} (h : zin p 1 31 = false ∨ zin v 1 9 = false ∨ zin u 1 100 = false ∨ zin f 0 720 = false ∨ ¬ f ≤ l ∨ ¬ l ≤ nI 720) : f_addRight σ p v u f l = (1, 0, σ) := by
  unfold f_addRight
  rw [if_neg]
  intro c
  simp only [Bool.and_eq_true, decide_eq_true_eq] at c
  obtain ⟨⟨⟨⟨c1, c2⟩, c3⟩, c4⟩, c5, c6⟩ := c
  rcases h with h | h | h | h | h | h
  · rw [c1] at h; cases h
  · rw [c2] at h; cases h
  · rw [c3] at h; cases h
  · rw [c4] at h; cases h
  · exact h c5
  · exact h c6
def s_add (σ : zSt) (P V U F L : Nat) : zSt := ((s_nR σ + 1, nu (s_RP σ) (s_nR σ) P, nu (s_RF σ) (s_nR σ) F, nu (s_RL σ) (s_nR σ) L, nu (s_RV σ) (s_nR σ) V, nu (s_RU σ) (s_nR σ) U), σ.2)
theorem fa_ok {σ : zSt} {P V U F L : Nat} (h1 : 1 ≤ P ∧ P ≤ 31) (h2 : 1 ≤ V ∧ V ≤ 9) (h3 : 1 ≤ U ∧ U ≤ 100) (h4 : F ≤ L) (h5 : L ≤ 720) : f_addRight σ (nI P) (nI V) (nI U) (nI F) (nI L) = if 10 ≤ s_nR σ then (2, 0, σ) else (0, nI (s_nR σ), s_add σ P V U F L) := by
  unfold f_addRight s_add
  rw [if_pos, zn_nI (by omega), zn_nI (by omega), zn_nI (by omega), zn_nI (by omega), zn_nI (by omega)]
  rw [l_zin h1.1 h1.2, l_zin h2.1 h2.2, l_zin h3.1 h3.2, l_zin (Nat.zero_le F) (by omega : F ≤ 720), decide_eq_true (nI_le h4 (by omega)), decide_eq_true (nI_le h5 (by omega))]
  rfl
def x_add (x : zLx) (n P V U F L : Nat) : zLx := x_putG (x_putF (x_putR x n (P + 32 * V + 512 * U)) n (F + 1024 * L)) 0 (n + 1)
theorem z_li.add {σ : zSt} {x : zLx} (I : z_li σ x) {P V U F L : Nat} (hV : 1 ≤ V) : z_li (s_add σ P V U F L) (x_add x (s_nR σ) P V U F L) := by
  obtain ⟨⟨i1, i2, i3, i4⟩, i5, i6, i7, ⟨i8, i9⟩, i10, i11⟩ := I
  have e : ∀ k, k ≠ 0 → x_G (x_add x (s_nR σ) P V U F L) k = x_G x k := fun k hk => nu_n hk
  refine ⟨⟨i1, (show nu (x_G x) 0 (s_nR σ + 1) 0 = s_nR σ + 1 from nu_s), (e 1 (by omega)).trans i3, by rw [e 3 (by omega)]; exact i4⟩, fun k hk => ?_, i6, i7, ⟨by rw [e 2 (by omega)]; exact i8, fun j hj => by rw [e 2 (by omega)]; exact i9 j hj⟩, by rw [e 3 (by omega)]; exact i10, by rw [e 3 (by omega)]; exact i11⟩
  have hk : k < s_nR σ + 1 := hk
  show nu (x_R x) (s_nR σ) (P + 32 * V + 512 * U) k = nu (s_RP σ) (s_nR σ) P k + 32 * nu (s_RV σ) (s_nR σ) V k + 512 * nu (s_RU σ) (s_nR σ) U k ∧ nu (x_F x) (s_nR σ) (F + 1024 * L) k = nu (s_RF σ) (s_nR σ) F k + 1024 * nu (s_RL σ) (s_nR σ) L k ∧ 1 ≤ nu (s_RV σ) (s_nR σ) V k
  by_cases c : k = s_nR σ
  · subst c
    simp only [nu_s]
    exact ⟨trivial, trivial, hV⟩
  · simp only [nu_n c]
    exact i5 k (by omega)
def z_lb (Z : zZ) (a1 : Nat) (la : Nat → Nat) (y : zLy) : zO → zH → Prop := fun o g => o = .inl (some (.int 1)) ∧ ∃ σ' x', z_li σ' x' ∧ z_lw Z g a1 la σ' x' y
section ZRights
variable {Z : zZ} {h : zH} {a1 : Nat} {la : Nat → Nat} {σ : zSt} {x : zLx} {y : zLy}
theorem l_ra1 {act vy vz : Int32} {w P V U F L : Nat} {Q : zO → zH → Prop} (W : z_lw Z h a1 la σ x y) (hq : ∀ g, z_lw Z g a1 la σ x y → z_J Z mL_rights (zR 9 161 119 747) 24 153 Q 178 [.ref a1, .int act, .int vy, .int vz, .ref (la 700), .ref (la 701), .ref (la 709), .int (nI w), .int (nI V), .int (nI P), .int (nI U), .int (nI F), .int (nI L)] [] g) :
    z_J Z mL_rights (zR 9 161 119 747) 0 0 Q 133 [.ref a1, .int act, .int vy, .int vz, .ref (la 700), .ref (la 701), .ref (la 709), .int (nI w), .int (nI V), .int (nI P), .int (nI U), .int (nI F), .int (nI L)] [.int (nI L), .int (nI F), .int (nI U), .int (nI V), .int (nI 0), .ref a1] h := by
  refine iL_rights_133 (R' := zR 8 134 8 51) rfl rfl (z_rmo rfl) (c_L_addRight W (fa_bad (Or.inl (by decide)))) (fun v h' w9 => ?_) (fun E h' w9 => by cases w9.1)
  obtain ⟨w1, W⟩ := w9
  cases w1
  refine iL_rights_136 rfl ?_
  refine iL_rights_138 (fun cc => absurd rfl cc) (fun _ => ?_)
  refine iL_rights_141 rfl ?_
  refine iL_rights_152 (R' := zR 8 134 8 51) rfl rfl (z_rmo rfl) (c_L_addRight W (fa_bad (Or.inl (by decide)))) (fun v h' w9 => ?_) (fun E h' w9 => by cases w9.1)
  obtain ⟨w1, W⟩ := w9
  cases w1
  refine iL_rights_155 rfl ?_
  refine iL_rights_157 (fun cc => absurd rfl cc) (fun _ => ?_)
  refine iL_rights_160 rfl ?_
  refine iL_rights_170 (R' := zR 8 134 8 51) rfl rfl (z_rmo rfl) (c_L_addRight W (fa_bad (Or.inr (Or.inl (by decide))))) (fun v h' w9 => ?_) (fun E h' w9 => by cases w9.1)
  obtain ⟨w1, W⟩ := w9
  cases w1
  refine iL_rights_173 rfl ?_
  refine iL_rights_175 (fun cc => absurd rfl cc) (fun _ => ?_)
  exact hq _ W
theorem l_ra2 {act vy vz : Int32} {w P V U F L : Nat} {Q : zO → zH → Prop} (W : z_lw Z h a1 la σ x y) (hq : ∀ g, z_lw Z g a1 la σ x y → z_J Z mL_rights (zR 9 161 119 747) 48 306 Q 234 [.ref a1, .int act, .int vy, .int vz, .ref (la 700), .ref (la 701), .ref (la 709), .int (nI w), .int (nI V), .int (nI P), .int (nI U), .int (nI F), .int (nI L)] [] g) :
    z_J Z mL_rights (zR 9 161 119 747) 24 153 Q 178 [.ref a1, .int act, .int vy, .int vz, .ref (la 700), .ref (la 701), .ref (la 709), .int (nI w), .int (nI V), .int (nI P), .int (nI U), .int (nI F), .int (nI L)] [] h := by
  refine iL_rights_178 rfl ?_
  refine iL_rights_189 (R' := zR 8 134 8 51) rfl rfl (z_rmo rfl) (c_L_addRight W (fa_bad (Or.inr (Or.inl (by decide))))) (fun v h' w9 => ?_) (fun E h' w9 => by cases w9.1)
  obtain ⟨w1, W⟩ := w9
  cases w1
  refine iL_rights_192 rfl ?_
  refine iL_rights_194 (fun cc => absurd rfl cc) (fun _ => ?_)
  refine iL_rights_197 rfl ?_
  refine iL_rights_207 (R' := zR 8 134 8 51) rfl rfl (z_rmo rfl) (c_L_addRight W (fa_bad (Or.inr (Or.inr (Or.inl (by decide)))))) (fun v h' w9 => ?_) (fun E h' w9 => by cases w9.1)
  obtain ⟨w1, W⟩ := w9
  cases w1
  refine iL_rights_210 rfl ?_
  refine iL_rights_212 (fun cc => absurd rfl cc) (fun _ => ?_)
  refine iL_rights_215 rfl ?_
  refine iL_rights_226 (R' := zR 8 134 8 51) rfl rfl (z_rmo rfl) (c_L_addRight W (fa_bad (Or.inr (Or.inr (Or.inl (by decide)))))) (fun v h' w9 => ?_) (fun E h' w9 => by cases w9.1)
  obtain ⟨w1, W⟩ := w9
  cases w1
  refine iL_rights_229 rfl ?_
  refine iL_rights_231 (fun cc => absurd rfl cc) (fun _ => ?_)
  exact hq _ W
theorem l_ra3 {act vy vz : Int32} {w P V U F L : Nat} {Q : zO → zH → Prop} (hFF : F ≤ 720) (W : z_lw Z h a1 la σ x y) (hq : ∀ g, z_lw Z g a1 la σ x y → z_J Z mL_rights (zR 9 161 119 747) 72 459 Q 295 [.ref a1, .int act, .int vy, .int vz, .ref (la 700), .ref (la 701), .ref (la 709), .int (nI w), .int (nI V), .int (nI P), .int (nI U), .int (nI F), .int (nI L)] [] g) :
    z_J Z mL_rights (zR 9 161 119 747) 48 306 Q 234 [.ref a1, .int act, .int vy, .int vz, .ref (la 700), .ref (la 701), .ref (la 709), .int (nI w), .int (nI V), .int (nI P), .int (nI U), .int (nI F), .int (nI L)] [] h := by
  have hlt : ¬ nI F ≤ nI F - nI 1 := by
    rcases Nat.eq_zero_or_pos F with e | e
    · subst e; decide
    · rw [n_m1 e]; exact nI_ge (by omega) (by omega)
  refine iL_rights_234 rfl ?_
  refine iL_rights_247 (R' := zR 8 134 8 51) rfl rfl (z_rmo rfl) (c_L_addRight W (fa_bad (Or.inr (Or.inr (Or.inr (Or.inr (Or.inl hlt))))))) (fun v h' w9 => ?_) (fun E h' w9 => by cases w9.1)
  obtain ⟨w1, W⟩ := w9
  cases w1
  refine iL_rights_250 rfl ?_
  refine iL_rights_252 (fun cc => absurd rfl cc) (fun _ => ?_)
  refine iL_rights_255 rfl ?_
  refine iL_rights_265 (R' := zR 8 134 8 51) rfl rfl (z_rmo rfl) (c_L_addRight W (fa_bad (Or.inr (Or.inr (Or.inr (Or.inl l_zinm)))))) (fun v h' w9 => ?_) (fun E h' w9 => by cases w9.1)
  obtain ⟨w1, W⟩ := w9
  cases w1
  refine iL_rights_268 rfl ?_
  refine iL_rights_270 (fun cc => absurd rfl cc) (fun _ => ?_)
  refine iL_rights_273 rfl ?_
  refine iL_rights_285 (R' := zR 8 134 8 51) rfl rfl (z_rmo rfl) (c_L_addRight W (fa_bad (Or.inr (Or.inr (Or.inr (Or.inr (Or.inr (by decide)))))))) (fun v h' w9 => ?_) (fun E h' w9 => by cases w9.1)
  obtain ⟨w1, W⟩ := w9
  cases w1
  refine iL_rights_288 rfl ?_
  refine iL_rights_290 (fun _ => ?_) (fun cc => absurd rfl cc)
  exact hq _ W
theorem l_rights_add {act vy vz : Int32} {w P V U F L : Nat} (W : z_lw Z h a1 la σ x y) (I : z_li σ x) (h1 : 1 ≤ P ∧ P ≤ 31) (h2 : 1 ≤ V ∧ V ≤ 9) (h3 : 1 ≤ U ∧ U ≤ 100) (h4 : F ≤ L) (h5 : L ≤ 720) :
    z_J Z mL_rights (zR 9 161 119 747) 0 0 (z_lb Z a1 la y) 133 [.ref a1, .int act, .int vy, .int vz, .ref (la 700), .ref (la 701), .ref (la 709), .int (nI w), .int (nI V), .int (nI P), .int (nI U), .int (nI F), .int (nI L)] [.int (nI L), .int (nI F), .int (nI U), .int (nI V), .int (nI 0), .ref a1] h := by
  have hn := W.ok.1.1
  have i2 := I.1.2.1
  refine l_ra1 W (fun g1 W => ?_)
  refine l_ra2 W (fun g2 W => ?_)
  refine l_ra3 (by omega) W (fun g3 W => ?_)
  refine iL_rights_295 rfl ?_
  refine iL_rights_298 W.2.2.2 rfl (by omega) (by omega) ?_
  rw [i2]
  refine iL_rights_299 rfl ?_
  refine iL_rights_301 (fun c => ?_) (fun c => ?_)
  rotate_left
  · have c := n_eq (b := 10) c
    refine iL_rights_304 rfl ?_
    refine iL_rights_315 (R' := zR 8 134 8 51) rfl rfl (z_rmo rfl) (c_L_addRight W ((fa_ok h1 h2 h3 h4 h5).trans (if_pos (by omega)))) (fun v h' w9 => ?_) (fun E h' w9 => by cases w9.1)
    obtain ⟨w1, W⟩ := w9
    cases w1
    refine iL_rights_318 rfl ?_
    refine iL_rights_320 (fun cc => absurd rfl cc) (fun _ => ?_)
    refine iL_rights_323 rfl ?_
    exact iL_rights_328 (zb_nar true) (Nat.le_of_ble_eq_true rfl) (Nat.le_of_ble_eq_true rfl) ⟨rfl, σ, x, I, W⟩
  have c := n_ne (b := 10) c
  refine iL_rights_329 rfl ?_
  refine iL_rights_334 W.2.2.2 rfl (by omega) (by omega) ?_
  rw [i2]
  refine iL_rights_335 rfl ?_
  show z_J Z mL_rights _ _ _ _ 350 _ [.int (nI P + nI 32 * nI V + nI 512 * nI U), .int (nI (s_nR σ)), .ref (la 700)] _
  rw [pk_mul, pk_mul, nI_add, nI_add]
  refine iL_rights_350 W.2.1.1 rfl (by omega) (by omega) ?_
  rw [n_upd]
  have W1 := W.put (fun r hr => z_u_n (by omega)) (W.2.putR (s_nR σ) (P + 32 * V + 512 * U))
  clear W
  refine iL_rights_351 rfl ?_
  refine iL_rights_356 W1.2.2.2 rfl (by omega) (by omega) ?_
  rw [show x_G (x_putR x (s_nR σ) (P + 32 * V + 512 * U)) 0 = s_nR σ from i2]
  refine iL_rights_357 rfl ?_
  show z_J Z mL_rights _ _ _ _ 366 _ [.int (nI F + nI 1024 * nI L), .int (nI (s_nR σ)), .ref (la 701)] _
  rw [pk_mul, nI_add]
  refine iL_rights_366 W1.2.1.2.1 rfl (by omega) (by omega) ?_
  rw [n_upd]
  have W2 := W1.put (fun r hr => z_u_n (by omega)) (W1.2.putF (s_nR σ) (F + 1024 * L))
  clear W1
  refine iL_rights_367 rfl ?_
  refine iL_rights_371 W2.2.2.2 rfl (by omega) (by omega) ?_
  rw [show x_G (x_putF (x_putR x (s_nR σ) (P + 32 * V + 512 * U)) (s_nR σ) (F + 1024 * L)) 0 = s_nR σ from i2]
  refine iL_rights_372 rfl ?_
  show z_J Z mL_rights _ _ _ _ 374 _ [.int (nI (s_nR σ) + nI 1), .int (nI 0), .ref (la 709)] _
  rw [nI_add]
  refine iL_rights_374 W2.2.2.2 rfl (by omega) (by omega) ?_
  rw [n_upd]
  have W := W2.put (fun r hr => z_u_n (by omega)) (W2.2.putG 0 (s_nR σ + 1))
  clear W2
  refine iL_rights_375 rfl ?_
  refine iL_rights_386 (R' := zR 8 134 8 51) rfl rfl (z_rmo rfl) (c_L_addRight W ((fa_ok h1 h2 h3 h4 h5).trans (if_neg (by omega)))) (fun v h' w9 => ?_) (fun E h' w9 => by cases w9.1)
  obtain ⟨w1, W⟩ := w9
  cases w1
  have I' := I.add (P := P) (V := V) (U := U) (F := F) (L := L) h2.1
  have g0 : x_G (x_add x (s_nR σ) P V U F L) 0 = s_nR σ + 1 := I'.1.2.1
  refine iL_rights_389 rfl ?_
  refine iL_rights_392 W.2.2.2 rfl (by omega) (by omega) ?_
  refine iL_rights_393 rfl ?_
  refine iL_rights_395 (fun cc => absurd ?_ cc) (fun _ => ?_)
  · show nI (s_nR σ) = nI (x_G (x_add x (s_nR σ) P V U F L) 0) - nI 1
    rw [g0, n_m1 (by omega)]
    rfl
  · refine iL_rights_398 rfl ?_
    exact iL_rights_403 (zb_nar true) (Nat.le_of_ble_eq_true rfl) (Nat.le_of_ble_eq_true rfl) ⟨rfl, _, _, I', W⟩
def s_upg (σ : zSt) (w v : Nat) : zSt := ((s_nR σ, s_RP σ, s_RF σ, s_RL σ, nu (s_RV σ) w v, s_RU σ), σ.2)
def s_uni (σ : zSt) (w u : Nat) : zSt := ((s_nR σ, s_RP σ, s_RF σ, s_RL σ, s_RV σ, nu (s_RU σ) w u), σ.2)
theorem fu_i {σ : zSt} {r v : Int32} (h : zix r (s_nR σ) = false) : f_upgrade σ r v = (1, 0, σ) := by
  unfold f_upgrade
  rw [if_neg (by rw [h]; decide)]
theorem fu_r {σ : zSt} {r v : Int32} (h : zix r (s_nR σ) = true) (h2 : zin v 1 9 = false) : f_upgrade σ r v = (2, 0, σ) := by
  unfold f_upgrade
  rw [if_pos h, if_neg (by rw [h2]; decide)]
theorem fu_s {σ : zSt} {w v : Nat} (h : w < s_nR σ) (hn : s_nR σ ≤ 10) (h2 : 1 ≤ v ∧ v ≤ 9) : f_upgrade σ (nI w) (nI v) = if v ≤ s_RV σ w then (3, 0, σ) else (0, nI (s_RV σ w), s_upg σ w v) := by
  unfold f_upgrade s_upg
  rw [if_pos (l_zix h), if_pos (l_zin h2.1 h2.2), zn_nI (by omega), zn_nI (by omega)]
theorem fs_i {σ : zSt} {r v : Int32} (h : zix r (s_nR σ) = false) : f_setUnits σ r v = (1, 0, σ) := by
  unfold f_setUnits
  rw [if_neg (by rw [h]; decide)]
theorem fs_r {σ : zSt} {r v : Int32} (h : zix r (s_nR σ) = true) (h2 : zin v 0 100 = false) : f_setUnits σ r v = (2, 0, σ) := by
  unfold f_setUnits
  rw [if_pos h, if_neg (by rw [h2]; decide)]
theorem fs_s {σ : zSt} {w u : Nat} (h : w < s_nR σ) (hn : s_nR σ ≤ 10) (h2 : u ≤ 100) : f_setUnits σ (nI w) (nI u) = (0, nI (s_RU σ w), s_uni σ w u) := by
  unfold f_setUnits s_uni
  rw [if_pos (l_zix h), if_pos (l_zin (Nat.zero_le u) h2), zn_nI (by omega), zn_nI (by omega)]
theorem l_rights_no {act vy vz : Int32} {V : Nat} (W : z_lw Z h a1 la σ x y) (I : z_li σ x) :
    z_J Z mL_rights (zR 9 161 119 747) 0 0 (z_lb Z a1 la y) 413 [.ref a1, .int act, .int vy, .int vz, .ref (la 700), .ref (la 701), .ref (la 709), .int (nI (s_nR σ)), .int (nI V)] [] h := by
  have hn := W.ok.1.1
  have hf : zix (nI (s_nR σ)) (s_nR σ) = false := l_zixf (Nat.le_refl _)
  refine iL_rights_413 rfl ?_
  refine iL_rights_418 (R' := zR 8 128 3 18) rfl rfl (z_rmo rfl) (c_L_upgrade W (fu_i hf)) (fun v h' w9 => ?_) (fun E h' w9 => by cases w9.1)
  obtain ⟨w1, W⟩ := w9
  cases w1
  refine iL_rights_421 rfl ?_
  refine iL_rights_423 (fun cc => absurd rfl cc) (fun _ => ?_)
  refine iL_rights_426 rfl ?_
  refine iL_rights_430 (R' := zR 8 128 2 12) rfl rfl (z_rmo rfl) (c_L_setUnits W (fs_i (l_zixm _))) (fun v h' w9 => ?_) (fun E h' w9 => by cases w9.1)
  obtain ⟨w1, W⟩ := w9
  cases w1
  refine iL_rights_433 rfl ?_
  refine iL_rights_435 (fun cc => absurd rfl cc) (fun _ => ?_)
  refine iL_rights_438 rfl ?_
  refine iL_rights_441 (R' := zR 8 128 3 18) rfl rfl (z_rmo rfl) (c_L_upgrade W (fu_i (l_zixm _))) (fun v h' w9 => ?_) (fun E h' w9 => by cases w9.1)
  obtain ⟨w1, W⟩ := w9
  cases w1
  refine iL_rights_444 rfl ?_
  refine iL_rights_446 (fun cc => absurd rfl cc) (fun _ => ?_)
  refine iL_rights_449 rfl ?_
  refine iL_rights_453 (R' := zR 8 128 2 12) rfl rfl (z_rmo rfl) (c_L_setUnits W (fs_i hf)) (fun v h' w9 => ?_) (fun E h' w9 => by cases w9.1)
  obtain ⟨w1, W⟩ := w9
  cases w1
  refine iL_rights_456 rfl ?_
  refine iL_rights_458 (fun cc => absurd rfl cc) (fun _ => ?_)
  refine iL_rights_461 rfl ?_
  exact iL_rights_466 (zb_nar true) (Nat.le_of_ble_eq_true rfl) (Nat.le_of_ble_eq_true rfl) ⟨rfl, σ, x, I, W⟩
theorem z_li.upg {σ : zSt} {x : zLx} (I : z_li σ x) {w V : Nat} (hV : s_RV σ w < V) (hw : w < s_nR σ) : z_li (s_upg σ w V) (x_putR x w (x_R x w + 32 * (V - s_RV σ w))) := by
  obtain ⟨i1, i5, i6, i7, i8, i10, i11⟩ := I
  refine ⟨i1, fun k hk => ?_, i6, i7, i8, i10, i11⟩
  show nu (x_R x) w (x_R x w + 32 * (V - s_RV σ w)) k = s_RP σ k + 32 * nu (s_RV σ) w V k + 512 * s_RU σ k ∧ x_F x k = s_RF σ k + 1024 * s_RL σ k ∧ 1 ≤ nu (s_RV σ) w V k
  have := i5 k hk
  by_cases c : k = w
  · subst c
    simp only [nu_s]
    omega
  · simp only [nu_n c]
    exact this
theorem z_li.uni {σ : zSt} {x : zLx} (I : z_li σ x) {w u : Nat} (hw : w < s_nR σ) : z_li (s_uni σ w u) (x_putR x w (x_R x w + 512 * u - 512 * s_RU σ w)) := by
  obtain ⟨i1, i5, i6, i7, i8, i10, i11⟩ := I
  refine ⟨i1, fun k hk => ?_, i6, i7, i8, i10, i11⟩
  show nu (x_R x) w (x_R x w + 512 * u - 512 * s_RU σ w) k = s_RP σ k + 32 * s_RV σ k + 512 * nu (s_RU σ) w u k ∧ x_F x k = s_RF σ k + 1024 * s_RL σ k ∧ 1 ≤ s_RV σ k
  have := i5 k hk
  by_cases c : k = w
  · subst c
    simp only [nu_s]
    omega
  · simp only [nu_n c]
    exact this
theorem l_rights_upg {act vy vz : Int32} {w V : Nat} (W : z_lw Z h a1 la σ x y) (I : z_li σ x) (hw : w < s_nR σ) (h2 : 1 ≤ V ∧ V ≤ 9) :
    z_J Z mL_rights (zR 9 161 119 747) 0 0 (z_lb Z a1 la y) 472 [.ref a1, .int act, .int vy, .int vz, .ref (la 700), .ref (la 701), .ref (la 709), .int (nI w), .int (nI V)] [] h := by
  have hn := W.ok.1.1
  obtain ⟨b1, b2, b3, b4, b5⟩ := W.ok.1.2 w
  obtain ⟨e1, e2, e3⟩ := I.2.1 w hw
  have ht : zix (nI w) (s_nR σ) = true := l_zix hw
  refine iL_rights_472 rfl ?_
  refine iL_rights_476 W.2.1.1 rfl (by omega) (by omega) ?_
  refine iL_rights_477 rfl ?_
  show z_J Z mL_rights _ _ _ _ 488 [_, _, _, _, _, _, _, _, _, .int ((nI (x_R x w) >>> (nI 5 &&& 31)) &&& nI 15)] _ h
  rw [e1, l_sh5 (by omega), l_an15 (by omega), show (s_RP σ w + 32 * s_RV σ w + 512 * s_RU σ w) / 32 % 16 = s_RV σ w by omega]
  refine iL_rights_488 (R' := zR 8 128 3 18) rfl rfl (z_rmo rfl) (c_L_upgrade W (fu_r ht (by decide))) (fun v h' w9 => ?_) (fun E h' w9 => by cases w9.1)
  obtain ⟨w1, W⟩ := w9
  cases w1
  refine iL_rights_491 rfl ?_
  refine iL_rights_493 (fun cc => absurd rfl cc) (fun _ => ?_)
  refine iL_rights_496 rfl ?_
  refine iL_rights_501 (R' := zR 8 128 3 18) rfl rfl (z_rmo rfl) (c_L_upgrade W (fu_r ht (by decide))) (fun v h' w9 => ?_) (fun E h' w9 => by cases w9.1)
  obtain ⟨w1, W⟩ := w9
  cases w1
  refine iL_rights_504 rfl ?_
  refine iL_rights_506 (fun cc => absurd rfl cc) (fun _ => ?_)
  refine iL_rights_509 rfl ?_
  refine iL_rights_514 (R' := zR 8 128 3 18) rfl rfl (z_rmo rfl) (c_L_upgrade W ((fu_s hw hn ⟨e3, b4⟩).trans (if_pos (Nat.le_refl _)))) (fun v h' w9 => ?_) (fun E h' w9 => by cases w9.1)
  obtain ⟨w1, W⟩ := w9
  cases w1
  refine iL_rights_517 rfl ?_
  refine iL_rights_519 (fun _ => ?_) (fun cc => absurd rfl cc)
  refine iL_rights_524 rfl ?_
  refine iL_rights_528 (fun c => ?_) (fun c => ?_)
  rotate_left
  · have c := n_nlt c
    refine iL_rights_531 rfl ?_
    refine iL_rights_536 (R' := zR 8 128 3 18) rfl rfl (z_rmo rfl) (c_L_upgrade W ((fu_s hw hn h2).trans (if_pos c))) (fun v h' w9 => ?_) (fun E h' w9 => by cases w9.1)
    obtain ⟨w1, W⟩ := w9
    cases w1
    refine iL_rights_539 rfl ?_
    refine iL_rights_541 (fun cc => absurd rfl cc) (fun _ => ?_)
    refine iL_rights_544 rfl ?_
    exact iL_rights_549 (zb_nar true) (Nat.le_of_ble_eq_true rfl) (Nat.le_of_ble_eq_true rfl) ⟨rfl, σ, x, I, W⟩
  have c := n_lt c
  refine iL_rights_550 rfl ?_
  refine iL_rights_555 W.2.1.1 rfl (by omega) (by omega) ?_
  refine iL_rights_556 rfl ?_
  show z_J Z mL_rights _ _ _ _ 565 [.ref a1, .int act, .int vy, .int vz, .ref (la 700), .ref (la 701), .ref (la 709), .int (nI w), .int (nI V), .int (nI (s_RV σ w))] [.int (nI (x_R x w) + nI 32 * (nI V - nI (s_RV σ w))), .int (nI w), .ref (la 700)] _
  rw [pk_sub (by omega), pk_mul, nI_add]
  refine iL_rights_565 W.2.1.1 rfl (by omega) (by omega) ?_
  rw [n_upd]
  have W1 := W.put (fun r hr => z_u_n (by omega)) (W.2.putR w (x_R x w + 32 * (V - s_RV σ w)))
  clear W
  have W := W1
  clear W1
  refine iL_rights_566 rfl ?_
  refine iL_rights_571 (R' := zR 8 128 3 18) rfl rfl (z_rmo rfl) (c_L_upgrade W ((fu_s hw hn h2).trans (if_neg (by omega)))) (fun v h' w9 => ?_) (fun E h' w9 => by cases w9.1)
  obtain ⟨w1, W⟩ := w9
  cases w1
  refine iL_rights_574 rfl ?_
  refine iL_rights_576 (fun cc => absurd rfl cc) (fun _ => ?_)
  refine iL_rights_579 rfl ?_
  exact iL_rights_584 (zb_nar true) (Nat.le_of_ble_eq_true rfl) (Nat.le_of_ble_eq_true rfl) ⟨rfl, _, _, I.upg c hw, W⟩
theorem l_rights_uni {act vy vz : Int32} {w V : Nat} (W : z_lw Z h a1 la σ x y) (I : z_li σ x) (hw : w < s_nR σ) :
    z_J Z mL_rights (zR 9 161 119 747) 0 0 (z_lb Z a1 la y) 585 [.ref a1, .int act, .int vy, .int vz, .ref (la 700), .ref (la 701), .ref (la 709), .int (nI w), .int (nI V)] [] h := by
  have hn := W.ok.1.1
  obtain ⟨b1, b2, b3, b4, b5⟩ := W.ok.1.2 w
  obtain ⟨e1, e2, e3⟩ := I.2.1 w hw
  have ht : zix (nI w) (s_nR σ) = true := l_zix hw
  refine iL_rights_585 rfl ?_
  refine iL_rights_589 W.2.1.1 rfl (by omega) (by omega) ?_
  refine iL_rights_590 rfl ?_
  show z_J Z mL_rights _ _ _ _ 600 [_, _, _, _, _, _, _, _, _, .int (nI (x_R x w) >>> (nI 9 &&& 31))] _ h
  rw [show nI (x_R x w) >>> (nI 9 &&& 31) = nI (s_RU σ w) by rw [e1, l_sh9 (by omega), show (s_RP σ w + 32 * s_RV σ w + 512 * s_RU σ w) / 512 = s_RU σ w by omega]]
  have J : ∀ m, 0 < m → m ≤ 101 → z_J Z mL_rights (zR 9 161 119 747) 0 0 (z_lb Z a1 la y) 610 [.ref a1, .int act, .int vy, .int vz, .ref (la 700), .ref (la 701), .ref (la 709), .int (nI w), .int (nI V), .int (nI (s_RU σ w))] [.int (nI m), .int vz] h := fun m hm1 hm2 => by
    refine iL_rights_610 (R' := zR 0 0 0 0) rfl rfl (z_rmo rfl) (c_L_low (v := vz) (m := m) hm1 (by omega)) (z_qr ?_) z_qx
    have hu := l_low_lt vz hm1
    generalize l_low vz m = u at hu ⊢
    refine iL_rights_613 rfl ?_
    refine iL_rights_620 W.2.1.1 rfl (by omega) (by omega) ?_
    refine iL_rights_621 rfl ?_
    show z_J Z mL_rights _ _ _ _ 631 [.ref a1, .int act, .int vy, .int vz, .ref (la 700), .ref (la 701), .ref (la 709), .int (nI w), .int (nI V), .int (nI (s_RU σ w)), .int (nI u)] [.int (nI (x_R x w) + nI 512 * (nI u - nI (s_RU σ w))), .int (nI w), .ref (la 700)] _
    rw [Int32.mul_sub, pk_mul, pk_mul, i_addsub, nI_add, pk_sub (by omega)]
    refine iL_rights_631 W.2.1.1 rfl (by omega) (by omega) ?_
    rw [n_upd]
    have W1 := W.put (fun r hr => z_u_n (by omega)) (W.2.putR w (x_R x w + 512 * u - 512 * s_RU σ w))
    clear W
    have W := W1
    clear W1
    refine iL_rights_632 rfl ?_
    refine iL_rights_636 (R' := zR 8 128 2 12) rfl rfl (z_rmo rfl) (c_L_setUnits W (fs_r ht l_zinm)) (fun v h' w9 => ?_) (fun E h' w9 => by cases w9.1)
    obtain ⟨w1, W⟩ := w9
    cases w1
    refine iL_rights_639 rfl ?_
    refine iL_rights_641 (fun cc => absurd rfl cc) (fun _ => ?_)
    refine iL_rights_644 rfl ?_
    refine iL_rights_649 (R' := zR 8 128 2 12) rfl rfl (z_rmo rfl) (c_L_setUnits W (fs_r ht (by decide))) (fun v h' w9 => ?_) (fun E h' w9 => by cases w9.1)
    obtain ⟨w1, W⟩ := w9
    cases w1
    refine iL_rights_652 rfl ?_
    refine iL_rights_654 (fun cc => absurd rfl cc) (fun _ => ?_)
    refine iL_rights_657 rfl ?_
    refine iL_rights_662 (R' := zR 8 128 2 12) rfl rfl (z_rmo rfl) (c_L_setUnits W (fs_s hw hn (by omega))) (fun v h' w9 => ?_) (fun E h' w9 => by cases w9.1)
    obtain ⟨w1, W⟩ := w9
    cases w1
    refine iL_rights_665 rfl ?_
    refine iL_rights_667 (fun cc => absurd rfl cc) (fun _ => ?_)
    refine iL_rights_670 rfl ?_
    exact iL_rights_675 (zb_nar true) (Nat.le_of_ble_eq_true rfl) (Nat.le_of_ble_eq_true rfl) ⟨rfl, _, _, I.uni hw, W⟩
  refine iL_rights_600 (fun c => ?_) (fun c => ?_)
  · refine iL_rights_608 rfl ?_
    exact J 10 (by omega) (by omega)
  · refine iL_rights_603 rfl ?_
    exact J 101 (by omega) (by omega)
theorem c_L_rights {act : Nat} {vy vz : Int32} (W : z_lw Z h a1 la σ x y) (I : z_li σ x) (ha : act < 1000) : z_J Z mL_rights (zR 9 161 119 747) 0 0 (z_lb Z a1 la y) 0 [.ref a1, .int (nI act), .int vy, .int vz, .ref (la 700), .ref (la 701), .ref (la 709)] [] h := by
  have hn := W.ok.1.1
  have i2 := I.1.2.1
  refine iL_rights_0 rfl ?_
  refine iL_rights_4 W.2.2.2 rfl (by omega) (by omega) ?_
  rw [i2]
  refine iL_rights_5 rfl ?_
  show z_J Z mL_rights _ _ _ _ 7 _ [.int (nI (s_nR σ) + nI 1), .int vy] h
  rw [nI_add]
  refine iL_rights_7 (R' := zR 0 0 0 0) rfl rfl (z_rmo rfl) (c_L_low (v := vy) (m := s_nR σ + 1) (by omega) (by omega)) (z_qr ?_) z_qx
  refine iL_rights_10 rfl ?_
  refine iL_rights_16 (R' := zR 0 0 0 0) rfl rfl (z_rmo rfl) (c_L_low (v := vz) (m := 9) (by omega) (by omega)) (z_qr ?_) z_qx
  have hw := l_low_lt vy (n := s_nR σ + 1) (by omega)
  generalize l_low vy (s_nR σ + 1) = w at hw ⊢
  have hV := l_low_lt vz (n := 9) (by omega)
  refine iL_rights_19 rfl ?_
  show z_J Z mL_rights _ _ _ _ 24 [.ref a1, .int (nI act), .int vy, .int vz, .ref (la 700), .ref (la 701), .ref (la 709), .int (nI w), .int (nI 1 + nI (l_low vz 9))] _ h
  rw [nI_add]
  generalize hV2 : 1 + l_low vz 9 = V
  refine iL_rights_24 (fun c => ?_) (fun c => ?_)
  · refine iL_rights_404 rfl ?_
    refine iL_rights_409 W.2.2.2 rfl (by omega) (by omega) ?_
    rw [i2]
    refine iL_rights_410 (fun c1 => ?_) (fun c1 => ?_)
    · have c1 := n_ne c1
      refine iL_rights_467 rfl ?_
      refine iL_rights_469 (fun c2 => ?_) (fun c2 => ?_)
      · exact l_rights_uni W I (by omega)
      · exact l_rights_upg W I (by omega) ⟨by omega, by omega⟩
    · have c1 := n_eq c1
      subst c1
      exact l_rights_no W I
  · refine iL_rights_27 rfl ?_
    refine iL_rights_31 (R' := zR 0 0 0 0) rfl rfl (z_rmo rfl) (c_L_low (v := vy) (m := 31) (by omega) (by omega)) (z_qr ?_) z_qx
    have hP := l_low_lt vy (n := 31) (by omega)
    refine iL_rights_34 rfl ?_
    show z_J Z mL_rights _ _ _ _ 46 [.ref a1, .int (nI act), .int vy, .int vz, .ref (la 700), .ref (la 701), .ref (la 709), .int (nI w), .int (nI V), .int (nI 1 + nI (l_low vy 31))] [.int (vy &&& nI 12288), .int (vy >>> (nI 5 &&& 31)), .int (nI 1)] h
    rw [nI_add]
    generalize hP2 : 1 + l_low vy 31 = P
    have J : ∀ m, 0 < m → m ≤ 100 → z_J Z mL_rights (zR 9 161 119 747) 0 0 (z_lb Z a1 la y) 56 [.ref a1, .int (nI act), .int vy, .int vz, .ref (la 700), .ref (la 701), .ref (la 709), .int (nI w), .int (nI V), .int (nI P)] [.int (nI m), .int (vy >>> (nI 5 &&& 31)), .int (nI 1)] h := fun m hm1 hm2 => by
      refine iL_rights_56 (R' := zR 0 0 0 0) rfl rfl (z_rmo rfl) (c_L_low (m := m) hm1 (by omega)) (z_qr ?_) z_qx
      have hu := l_low_lt (vy >>> (nI 5 &&& 31)) hm1
      refine iL_rights_59 rfl ?_
      show z_J Z mL_rights _ _ _ _ 66 [.ref a1, .int (nI act), .int vy, .int vz, .ref (la 700), .ref (la 701), .ref (la 709), .int (nI w), .int (nI V), .int (nI P), .int (nI 1 + nI (l_low (vy >>> (nI 5 &&& 31)) m))] [.int (vz &&& nI 96)] h
      rw [nI_add]
      generalize hU : 1 + l_low (vy >>> (nI 5 &&& 31)) m = U
      have K : ∀ F L, F ≤ L → L ≤ 720 → z_J Z mL_rights (zR 9 161 119 747) 0 0 (z_lb Z a1 la y) 133 [.ref a1, .int (nI act), .int vy, .int vz, .ref (la 700), .ref (la 701), .ref (la 709), .int (nI w), .int (nI V), .int (nI P), .int (nI U), .int (nI F), .int (nI L)] [.int (nI L), .int (nI F), .int (nI U), .int (nI V), .int (nI 0), .ref a1] h := fun F L h4 h5 => l_rights_add W I (by omega) (by omega) (by omega) h4 h5
      have K2 : ∀ F m2, 0 < m2 → m2 < 1000 → F + m2 ≤ 721 → z_J Z mL_rights (zR 9 161 119 747) 0 0 (z_lb Z a1 la y) 117 [.ref a1, .int (nI act), .int vy, .int vz, .ref (la 700), .ref (la 701), .ref (la 709), .int (nI w), .int (nI V), .int (nI P), .int (nI U), .int (nI F)] [.int (nI m2), .int (vy >>> (nI 14 &&& 31)), .int (nI F)] h := fun F m2 q1 q2 q3 => by
        refine iL_rights_117 (R' := zR 0 0 0 0) rfl rfl (z_rmo rfl) (c_L_low (m := m2) q1 (by omega)) (z_qr ?_) z_qx
        have hl := l_low_lt (vy >>> (nI 14 &&& 31)) q1
        refine iL_rights_120 rfl ?_
        show z_J Z mL_rights _ _ _ _ 133 [.ref a1, .int (nI act), .int vy, .int vz, .ref (la 700), .ref (la 701), .ref (la 709), .int (nI w), .int (nI V), .int (nI P), .int (nI U), .int (nI F), .int (nI F + nI (l_low (vy >>> (nI 14 &&& 31)) m2))] [.int (nI F + nI (l_low (vy >>> (nI 14 &&& 31)) m2)), .int (nI F), .int (nI U), .int (nI V), .int (nI 0), .ref a1] h
        rw [nI_add]
        exact K F (F + l_low (vy >>> (nI 14 &&& 31)) m2) (by omega) (by omega)
      refine iL_rights_66 (fun c5 => ?_) (fun c5 => ?_)
      · refine iL_rights_82 rfl ?_
        refine iL_rights_88 (R' := zR 0 0 0 0) rfl rfl (z_rmo rfl) (c_L_low (m := 60) (by omega) (by omega)) (z_qr ?_) z_qx
        have hF := l_low_lt (vz >>> (nI 7 &&& 31)) (n := 60) (by omega)
        generalize l_low (vz >>> (nI 7 &&& 31)) 60 = F at hF ⊢
        refine iL_rights_91 rfl ?_
        refine iL_rights_103 (fun c6 => ?_) (fun c6 => ?_)
        · refine iL_rights_115 rfl ?_
          exact K2 F 90 (by omega) (by omega) (by omega)
        · exact absurd c6 c5
      · refine iL_rights_69 rfl ?_
        refine iL_rights_76 (R' := zR 0 0 0 0) rfl rfl (z_rmo rfl) (c_L_low (m := 721) (by omega) (by omega)) (z_qr ?_) z_qx
        have hF := l_low_lt (vz >>> (nI 7 &&& 31)) (n := 721) (by omega)
        generalize l_low (vz >>> (nI 7 &&& 31)) 721 = F at hF ⊢
        refine iL_rights_79 rfl ?_
        refine iL_rights_91 rfl ?_
        refine iL_rights_103 (fun c6 => ?_) (fun c6 => ?_)
        · exact absurd c5 c6
        · refine iL_rights_106 rfl ?_
          show z_J Z mL_rights _ _ _ _ 117 _ [.int (nI 721 - nI F), .int (vy >>> (nI 14 &&& 31)), .int (nI F)] h
          rw [pk_sub (by omega)]
          exact K2 F (721 - F) (by omega) (by omega) (by omega)
    refine iL_rights_46 (fun c3 => ?_) (fun c3 => ?_)
    · refine iL_rights_54 rfl ?_
      exact J 12 (by omega) (by omega)
    · refine iL_rights_49 rfl ?_
      exact J 100 (by omega) (by omega)
end ZRights
