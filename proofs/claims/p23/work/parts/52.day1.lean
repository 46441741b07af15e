/-! ===== what a day's calls answer ===== -/
theorem s_sp_mono (σ : zSt) (d p v w : Nat) : s_fl σ d (s_all σ d).length ≤ s_flow σ (nu (t_GS σ d (s_all σ d)) (s_all σ d).length (s_giv σ p v d (s_nR σ))) (nu (t_D (s_all σ d)) (s_all σ d).length w) ((s_all σ d).length + 1) := by
  refine Nat.le_trans ?_ (s_flow_mono _ _ _ _)
  rw [s_flow_cong (σ := σ) (GS := nu (t_GS σ d (s_all σ d)) (s_all σ d).length (s_giv σ p v d (s_nR σ))) (GS' := t_GS σ d (s_all σ d)) (D' := t_D (s_all σ d)) (fun i hi => nu_n (by omega)) (fun i hi => nu_n (by omega))]
  exact Nat.le_refl _
theorem fn_s {σ : zSt} {D : Nat} (hD : D ≤ 720) : f_needs σ (nI D) = (0, nI (s_all σ D).length, σ) := by
  unfold f_needs
  rw [if_pos (l_zin (Nat.zero_le D) hD), zn_nI (by omega)]
theorem fnd_r {σ : zSt} {d k : Int32} (h : zin d 0 720 = false) : f_need σ d k = (1, 0, σ) := by
  unfold f_need
  rw [if_neg (by rw [h]; decide)]
theorem fnd_i {σ : zSt} {D : Nat} {k : Int32} (hD : D ≤ 720) (h : zix k (s_all σ D).length = false) : f_need σ (nI D) k = (2, 0, σ) := by
  unfold f_need
  rw [if_pos (l_zin (Nat.zero_le D) hD), zn_nI (by omega), if_neg (by rw [h]; decide)]
theorem fnd_s {σ : zSt} {D k : Nat} (hD : D ≤ 720) (hk : k < (s_all σ D).length) (hl : (s_all σ D).length ≤ 40) : f_need σ (nI D) (nI k) = (0, nI (100 * (t_q (s_all σ D) k).1 + 10 * (t_q (s_all σ D) k).2.1 + (t_q (s_all σ D) k).2.2.1), σ) := by
  unfold f_need
  rw [if_pos (l_zin (Nat.zero_le D) hD), zn_nI (by omega), if_pos (l_zix hk), zn_nI (by omega)]
theorem fdm_s {σ : zSt} {D k : Nat} (hD : D ≤ 720) (hk : k < (s_all σ D).length) (hl : (s_all σ D).length ≤ 40) : f_demand σ (nI D) (nI k) = (0, nI (t_D (s_all σ D) k), σ) := by
  unfold f_demand
  rw [if_pos (l_zin (Nat.zero_le D) hD), zn_nI (by omega), if_pos (l_zix hk), zn_nI (by omega)]
theorem fg_r {σ : zSt} {d k : Int32} (h : zin d 0 720 = false) : f_gets σ d k = (1, 0, σ) := by
  unfold f_gets
  rw [if_neg (by rw [h]; decide)]
theorem fg_i {σ : zSt} {D : Nat} {k : Int32} (hD : D ≤ 720) (h : zix k (s_all σ D).length = false) : f_gets σ (nI D) k = (2, 0, σ) := by
  unfold f_gets
  rw [if_pos (l_zin (Nat.zero_le D) hD), zn_nI (by omega), if_neg (by rw [h]; decide)]
theorem fg_s {σ : zSt} {D k : Nat} (hD : D ≤ 720) (hk : k < (s_all σ D).length) (hl : (s_all σ D).length ≤ 40) : f_gets σ (nI D) (nI k) = (0, nI (s_fl σ D (k + 1) - s_fl σ D k), σ) := by
  unfold f_gets
  rw [if_pos (l_zin (Nat.zero_le D) hD), zn_nI (by omega), if_pos (l_zix hk), zn_nI (by omega)]
theorem fl_r {σ : zSt} {d : Int32} (h : zin d 0 720 = false) : f_lack σ d = (1, 0, σ) := by
  unfold f_lack
  rw [if_neg (by rw [h]; decide)]
theorem fl_s {σ : zSt} {D : Nat} (hD : D ≤ 720) : f_lack σ (nI D) = (0, nI (s_lk σ D), σ) := by
  unfold f_lack
  rw [if_pos (l_zin (Nat.zero_le D) hD), zn_nI (by omega)]
theorem fls_r {σ : zSt} {d : Int32} (h : zin d 0 720 = false) : f_lackBySets σ d = (1, 0, σ) := by
  unfold f_lackBySets
  rw [if_neg (by rw [h]; decide)]
theorem fls_s {σ : zSt} {D : Nat} (hD : D ≤ 720) : f_lackBySets σ (nI D) = if 10 < (s_all σ D).length then (2, 0, σ) else (0, nI (s_lk σ D), σ) := by
  unfold f_lackBySets
  rw [if_pos (l_zin (Nat.zero_le D) hD), zn_nI (by omega)]
theorem fsp_r {σ : zSt} {d p v : Int32} (h : zin d 0 720 = false ∨ zin v 1 9 = false) : f_spare σ d p v = (1, 0, σ) := by
  unfold f_spare
  rw [if_neg]
  rintro ⟨c1, c2⟩
  rcases h with h | h
  · rw [c1] at h; cases h
  · rw [c2] at h; cases h
theorem fsp_i {σ : zSt} {d p v : Int32} (h1 : zin d 0 720 = true) (h2 : zin v 1 9 = true) (h : zix p 5 = false) : f_spare σ d p v = (2, 0, σ) := by
  unfold f_spare
  rw [if_pos ⟨h1, h2⟩, if_neg (by rw [h]; decide)]
theorem fsp_s {σ : zSt} {D P V : Nat} (hD : D ≤ 720) (hP : P < 5) (hV : 1 ≤ V ∧ V ≤ 9) : f_spare σ (nI D) (nI P) (nI V) = (0, nI (s_sp σ D P V 1000), σ) := by
  unfold f_spare
  rw [if_pos ⟨l_zin (Nat.zero_le D) hD, l_zin hV.1 hV.2⟩, if_pos (l_zix hP), zn_nI (by omega), zn_nI (by omega), zn_nI (by omega)]
theorem fmo_i {σ : zSt} {p m : Int32} (h : zix p 5 = false) : f_most σ p m = (1, 0, σ) := by
  unfold f_most
  rw [if_neg (by rw [h]; decide)]
theorem fmo_r {σ : zSt} {p m : Int32} (h : zix p 5 = true) (h2 : zin m 0 23 = false) : f_most σ p m = (2, 0, σ) := by
  unfold f_most
  rw [if_pos h, if_neg (by rw [h2]; decide)]
theorem fmo_s {σ : zSt} {P M : Nat} (hP : P < 5) (hM : M ≤ 23) : f_most σ (nI P) (nI M) = (0, nI (n_mx (fun k => t_dp P (s_all σ (30 * M + k))) 30), σ) := by
  unfold f_most
  rw [if_pos (l_zix hP), if_pos (l_zin (Nat.zero_le M) hM), zn_nI (by omega), zn_nI (by omega)]
/-- the law's rows are those of a day -/
def l_dy (σ : zSt) (D : Nat) (x : zLx) (y : zLy) : Prop := x_G x 4 = (s_all σ D).length ∧ (s_all σ D).length ≤ 20 ∧ ∀ k, k < (s_all σ D).length → y.1 k = 100 * (t_q (s_all σ D) k).1 + 10 * (t_q (s_all σ D) k).2.1 + (t_q (s_all σ D) k).2.2.1 ∧ y.2.1 k = t_D (s_all σ D) k ∧ y.2.2 k = t_GS σ D (s_all σ D) k ∧ y.2.1 k ≤ 1000 ∧ y.2.2 k < 1024 ∧ (t_q (s_all σ D) k).2.1 < 5 ∧ (t_q (s_all σ D) k).2.2.1 < 10
theorem l_dy_of {σ : zSt} {D : Nat} {x : zLx} {y : zLy} (I : z_li σ x) (hok : s_ok σ) (hD : D ≤ 720) (hA : l_ag σ D (s_nM σ * 5) (s_all σ D).length y) : l_dy σ D (x_putG x 4 (s_all σ D).length) y := by
  have n4 := I.1.1
  have hl := s_needs_len σ D (s_nM σ * 5)
  have hl2 : (s_all σ D).length ≤ s_nM σ * 5 := hl
  refine ⟨(show nu (x_G x) 4 _ 4 = _ from nu_s), by omega, fun k hk => ?_⟩
  obtain ⟨q1, q2, q3⟩ := hA.2 k _ (t_q_of hk)
  obtain ⟨pl, p1, p2, p3⟩ := s_need_in (t_q_of hk)
  have hun : s_un σ (pl / 5) (pl % 5) ≤ 1000 := by
    unfold s_un
    have h1 := hok.2.2.1 (pl / 5)
    have h2 := hok.2.2.2 (pl % 5) (Nat.mod_lt _ (by decide))
    have := Nat.div_le_self (s_MC σ (pl / 5) + s_CU σ (pl % 5) - 1) (s_CU σ (pl % 5))
    omega
  have h9 : s_gr σ D (pl / 5) (pl % 5) ≤ 9 := n_gr_le (fun j hj => I.on hD hj (Nat.mod_lt _ (by decide)))
  refine ⟨q1, q2, q3, ?_, ?_, ?_, ?_⟩
  · rw [q2, p2]
    exact hun
  · rw [q3]
    exact s_giv_lt σ _ _ _ hok.1.1
  · rw [p2]
    exact Nat.mod_lt _ (by decide)
  · rw [p2]
    show s_gr σ D (pl / 5) (pl % 5) < 10
    omega
def l_LK (σ : zSt) (y : zLy) (k : Nat) : Nat := n_mx (l_v σ 0 0 y.2.1 y.2.2 k) (2 ^ k)
theorem l_LK_fl {σ : zSt} {D : Nat} {x : zLx} {y : zLy} (H : l_dy σ D x y) (hok : s_ok σ) {k : Nat} (hk : k ≤ (s_all σ D).length) : l_LK σ y k + s_fl σ D k = n_sum (t_D (s_all σ D)) k :=
  l_lk hok.1.1 (fun i _ => t_GS_lt σ D _ i) (fun i hi => (H.2.2 i (by omega)).2.2.1) (fun i hi => (H.2.2 i (by omega)).2.1)
theorem s_fl_mono (σ : zSt) (D k : Nat) : s_fl σ D k ≤ s_fl σ D (k + 1) := s_flow_mono _ _ _ _
theorem l_gets_eq {σ : zSt} {D : Nat} {x : zLx} {y : zLy} (H : l_dy σ D x y) (hok : s_ok σ) {k : Nat} (hk : k < (s_all σ D).length) : nI (s_fl σ D (k + 1) - s_fl σ D k) = nI (y.2.1 k) - nI (l_LK σ y (k + 1)) + nI (l_LK σ y k) := by
  have h1 := l_LK_fl H hok (k := k) (by omega)
  have h2 := l_LK_fl H hok (k := k + 1) (by omega)
  have h3 := s_fl_mono σ D k
  have e : n_sum (t_D (s_all σ D)) (k + 1) = n_sum (t_D (s_all σ D)) k + t_D (s_all σ D) k := rfl
  rw [(H.2.2 k hk).2.1, l_msub (by omega)]
  congr 1
  omega
theorem l_lack_eq {σ : zSt} {D : Nat} {x : zLx} {y : zLy} (H : l_dy σ D x y) (hok : s_ok σ) : s_lk σ D = l_LK σ y (s_all σ D).length := by
  have h1 := l_LK_fl H hok (Nat.le_refl _)
  unfold s_lk
  omega
theorem l_spare_eq {σ : zSt} {D P V : Nat} {x : zLx} {y : zLy} (H : l_dy σ D x y) (hok : s_ok σ) : nI (s_sp σ D P V 1000) = nI 5000 - nI (n_mx (l_v σ 5000 (s_giv σ P V D (s_nR σ)) y.2.1 y.2.2 (s_all σ D).length) (2 ^ (s_all σ D).length)) + nI (l_LK σ y (s_all σ D).length) := by
  have h1 := l_LK_fl H hok (Nat.le_refl _)
  have h2 := l_sp hok (w := 5000) (m := (s_all σ D).length) (G := s_giv σ P V D (s_nR σ)) (B := t_GS σ D (s_all σ D)) (D := t_D (s_all σ D)) (B' := y.2.2) (D' := y.2.1) (by omega) (s_giv_lt2 σ P V D _) (fun i _ => t_GS_lt σ D _ i) (fun i hi => (H.2.2 i hi).2.2.1) (fun i hi => (H.2.2 i hi).2.1)
  have h3 := s_sp_mono σ D P V 5000
  have h4 : s_sp σ D P V 1000 = s_sp σ D P V 5000 := by
    unfold s_sp
    rw [Nat.le_antisymm (s_flow_big hok (GS := t_GS σ D (s_all σ D)) (D := t_D (s_all σ D)) (s := (s_all σ D).length) (w := 1000) (w' := 5000) (s_giv_lt2 σ P V D _) (by omega) (by omega)) (s_flow_big hok (s_giv_lt2 σ P V D _) (by omega) (by omega))]
  rw [h4, l_msub (by omega)]
  congr 1
  unfold s_sp
  omega
