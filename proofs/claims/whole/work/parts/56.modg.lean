/-! ===== the model: most ===== -/
section ZModG
variable {Z : zZ} {h : zH} {am : Nat → Nat} {th : Nat} {σ : zSt} {HO : Nat → Int32} {E : zMs} {S : zMn} {Q : zO → zH → Prop}
theorem l_X6_mostx {c : Nat} {p m : Int32} (HM : z_mo h am c σ HO E S) (hc : c = 1 ∨ c = 2) (hq : Q (.inl (some (.int 0))) h) : z_J Z mX6_most (zR 2 50 0 0) 0 0 Q 30 [.ref (am 600), .int p, .int m] [] h := by
  refine iX6_most_30 rfl ?_
  refine iX6_most_38 rfl ?_
  refine iX6_most_47 (fun c1 => ?_) (fun c1 => ?_)
  · refine iX6_most_130 rfl ?_
    exact iX6_most_131 (Nat.le_of_ble_eq_true rfl) (Nat.le_of_ble_eq_true rfl) hq
  · refine iX6_most_50 rfl ?_
    refine iX6_most_51 HM.1 rfl ?_
    refine iX6_most_54 (fun c2 => ?_) (fun c2 => ?_)
    · refine iX6_most_130 rfl ?_
      exact iX6_most_131 (Nat.le_of_ble_eq_true rfl) (Nat.le_of_ble_eq_true rfl) hq
    · have := n_e0 c2 (by omega)
      omega
theorem l_X6_most1 {P D M : Nat} {mo : Int32} {h0 : zH} (HM : z_mo h am th σ HO E S) (HI : z_mi σ HO E) (hA : z_ag σ D (s_nM σ * 5) S) (hP : P < 5) (hq : z_J Z mX6_most (zR 2 50 0 0) 0 0 Q 111 [.ref (am 600), .int (nI P), .int (nI M), .int mo, .int (nI D), .int (nI (t_dp P (s_all σ D))), .int (nI (s_all σ D).length)] [] h) :
    ∀ n k, k + n = (s_all σ D).length → z_J Z mX6_most (zR 2 50 0 0) 0 0 Q 69 [.ref (am 600), .int (nI P), .int (nI M), .int mo, .int (nI D), .int (nI (n_sum (fun k => if (t_q (s_all σ D) k).2.1 = P then t_D (s_all σ D) k else 0) k)), .int (nI k)] [] h := by
  obtain ⟨l1, l2⟩ := z_ag_len HI hA
  have f5 := HM.2.2.2.2.1.2.1
  have f7 := HM.2.2.2.2.1.2.2.2.1
  unfold z_arr at f5 f7
  intro n
  induction n with
  | zero =>
    intro k hk
    obtain rfl : k = (s_all σ D).length := by omega
    refine iX6_most_69 rfl ?_
    refine iX6_most_72 HM.1 rfl ?_
    refine iX6_most_75 (fun cc => ?_) (fun cc => ?_)
    · exact hq
    · exact absurd (by show nI S.1 ≤ _; rw [l1]; exact Int32.le_refl _) cc
  | succ n ih =>
    intro k hk
    have hkl : k < (s_all σ D).length := by omega
    have ih := ih (k + 1) (by omega)
    obtain ⟨q1, q2, q3, q4⟩ := hA.2.at hkl
    have q4' : S.2.2.2.2.1 k = t_D (s_all σ D) k := q4
    have q2' : S.2.2.1 k = (t_q (s_all σ D) k).2.1 := q2
    obtain ⟨m, p, w1, w2, w3⟩ := t_q_in hkl
    have hp5 : (t_q (s_all σ D) k).2.1 < 5 := by rw [w3]; exact w2
    have e : n_sum (fun k => if (t_q (s_all σ D) k).2.1 = P then t_D (s_all σ D) k else 0) (k + 1) = n_sum (fun k => if (t_q (s_all σ D) k).2.1 = P then t_D (s_all σ D) k else 0) k + (if (t_q (s_all σ D) k).2.1 = P then t_D (s_all σ D) k else 0) := rfl
    refine iX6_most_69 rfl ?_
    refine iX6_most_72 HM.1 rfl ?_
    refine iX6_most_75 (fun cc => ?_) (fun cc => ?_)
    · have h1 : nI S.1 ≤ nI k := cc
      rw [l1] at h1
      have := n_le h1
      omega
    refine iX6_most_78 rfl ?_
    refine iX6_most_81 HM.1 rfl ?_
    refine iX6_most_84 rfl ?_
    refine iX6_most_86 f5 rfl (by omega) (by omega) ?_
    refine iX6_most_87 rfl ?_
    refine iX6_most_88 (fun c => ?_) (fun c => ?_)
    · have c' : ¬ nI (S.2.2.1 k) = nI P := c
      rw [q2'] at c'
      rw [if_neg (n_ne c')] at e
      rw [e] at ih
      refine iX6_most_101 rfl ?_
      refine iX6_most_102 rfl ?_
      show z_J Z mX6_most _ _ _ Q 69 [_, _, _, _, _, .int (nI (n_sum (fun k => if (t_q (s_all σ D) k).2.1 = P then t_D (s_all σ D) k else 0) k) + nI 0), .int (nI k + nI 1)] [] h
      rw [nI_add, nI_add]
      exact ih
    · have c' : nI (S.2.2.1 k) = nI P := c
      rw [q2'] at c'
      rw [if_pos (n_eq c')] at e
      rw [e] at ih
      refine iX6_most_91 rfl ?_
      refine iX6_most_92 HM.1 rfl ?_
      refine iX6_most_95 rfl ?_
      refine iX6_most_97 f7 rfl (by omega) (by omega) ?_
      rw [q4']
      refine iX6_most_98 rfl ?_
      refine iX6_most_102 rfl ?_
      show z_J Z mX6_most _ _ _ Q 69 [_, _, _, _, _, .int (nI (n_sum (fun k => if (t_q (s_all σ D) k).2.1 = P then t_D (s_all σ D) k else 0) k) + nI (t_D (s_all σ D) k)), .int (nI k + nI 1)] [] h
      rw [nI_add, nI_add]
      exact ih
theorem l_X6_most {P M : Nat} {h0 : zH} (HI : z_mi σ HO E) (hP : P < 5) (hM : M ≤ 23) (hq : ∀ (g : zH) (S : zMn), z_same 600 619 h0 g → z_mo g am 0 σ HO E S → S.1 ≤ 40 → Q (.inl (some (.int (nI (n_mx (fun k => t_dp P (s_all σ (30 * M + k))) 30))))) g) :
    ∀ n k (g : zH) (S : zMn), k + n = 30 → z_same 600 619 h0 g → z_mo g am 0 σ HO E S → S.1 ≤ 40 → z_J Z mX6_most (zR 2 50 0 0) 0 0 Q 38 [.ref (am 600), .int (nI P), .int (nI M), .int (nI (n_mx (fun k => t_dp P (s_all σ (30 * M + k))) k)), .int (nI (30 * M + k))] [] g := by
  have hdp : ∀ d, t_dp P (s_all σ d) ≤ 4000 := fun d => by
    have hn8 := HI.1.2.1.1
    have hlen : (s_all σ d).length ≤ s_nM σ * 5 := s_needs_len σ d (s_nM σ * 5)
    have h1 := n_sum_leb (f := fun k => if (t_q (s_all σ d) k).2.1 = P then t_D (s_all σ d) k else 0) (b := 80) (n := (s_all σ d).length) (fun k hk => by
      split
      · exact t_D_le HI.1 hk
      · exact Nat.zero_le _)
    unfold t_dp
    omega
  have hmx : ∀ k, n_mx (fun k => t_dp P (s_all σ (30 * M + k))) k < 4001 := fun k => n_mx_lt (by omega) (fun k => by have := hdp (30 * M + k); omega) k
  intro n
  induction n with
  | zero =>
    intro k g S hk hs HM hS
    obtain rfl : k = 30 := by omega
    refine iX6_most_38 rfl ?_
    show z_J Z mX6_most _ _ _ Q 47 _ [.int (nI 30 * nI M + nI 30), .int (nI (30 * M + 30))] g
    rw [pk_mul, nI_add]
    refine iX6_most_47 (fun cc => ?_) (fun cc => ?_)
    · refine iX6_most_130 rfl ?_
      exact iX6_most_131 (Nat.le_of_ble_eq_true rfl) (Nat.le_of_ble_eq_true rfl) (hq g S hs HM hS)
    · exact absurd (Int32.le_refl _) cc
  | succ n ih =>
    intro k g S hk hs HM hS
    refine iX6_most_38 rfl ?_
    show z_J Z mX6_most _ _ _ Q 47 _ [.int (nI 30 * nI M + nI 30), .int (nI (30 * M + k))] g
    rw [pk_mul, nI_add]
    refine iX6_most_47 (fun cc => ?_) (fun cc => ?_)
    · have := n_le cc; omega
    refine iX6_most_50 rfl ?_
    refine iX6_most_51 HM.1 rfl ?_
    refine iX6_most_54 (fun c2 => ?_) (fun c2 => ?_)
    · exact absurd rfl c2
    refine iX6_most_57 rfl ?_
    refine iX6_most_60 (R' := zR 1 24 0 0) rfl rfl HM.1 (z_rmo rfl) (c_X6_laysNeeds HM HI (d := 30 * M + k) (by omega)) (fun v h' w => ?_) (fun E h' w => ?_)
    rotate_left
    · cases w.1
    obtain ⟨w1, w2, S', w3, w4⟩ := w
    cases w1
    obtain ⟨l1, l2⟩ := z_ag_len HI w4
    refine iX6_most_63 rfl ?_
    refine l_X6_most1 (h0 := h0) w3 HI w4 hP ?_ (s_all σ (30 * M + k)).length 0 (by omega)
    have h1 := hdp (30 * M + k)
    have h2 := hmx k
    have e : n_mx (fun k => t_dp P (s_all σ (30 * M + k))) (k + 1) = max (n_mx (fun k => t_dp P (s_all σ (30 * M + k))) k) (t_dp P (s_all σ (30 * M + k))) := rfl
    have ih := ih (k + 1) h' S' (by omega) (hs.trans w2) w3 l2
    refine iX6_most_111 rfl ?_
    refine iX6_most_114 (fun c => ?_) (fun c => ?_)
    · rw [Nat.max_eq_left (n_le c)] at e
      rw [e] at ih
      refine iX6_most_122 rfl ?_
      refine iX6_most_123 rfl ?_
      refine z_J.take 5 ?_
      show z_J Z mX6_most _ _ _ Q 38 [_, _, _, _, .int (nI (30 * M + k) + nI 1)] [] h'
      rw [nI_add]
      exact ih
    · rw [Nat.max_eq_right (Nat.le_of_lt (n_nle c))] at e
      rw [e] at ih
      refine iX6_most_117 rfl ?_
      refine iX6_most_123 rfl ?_
      refine z_J.take 5 ?_
      show z_J Z mX6_most _ _ _ Q 38 [_, _, _, _, .int (nI (30 * M + k) + nI 1)] [] h'
      rw [nI_add]
      exact ih
theorem c_X6_most {p m : Int32} (H : z_mod h am th σ) : z_J Z mX6_most (zR 2 50 0 0) 0 0 (z_resm h am (f_most σ p m)) 0 [.ref (am 600), .int p, .int m] [] h := by
  obtain ⟨HO, E, S, HM, HI, hS⟩ := H
  have hs1 : ∀ c, z_same 600 619 h (z_u h 600 (am 600, .inr (7, z_mfs am c (s_nR σ) (s_nM σ) S.1))) := fun c => z_same.rf.u (by omega) (by omega)
  unfold f_most
  by_cases c1 : zix p 5 = true
  rotate_left
  · rw [if_neg c1]
    refine iX6_most_0 rfl ?_
    refine iX6_most_2 (R' := zR 1 22 0 0) rfl rfl (z_rmo rfl) (c_X6_isProduct) (z_qr ?_) z_qx
    refine iX6_most_5 (fun c => ?_) (fun c => ?_)
    · exact absurd (zb_n0 c) c1
    · refine iX6_most_8 rfl ?_
      refine iX6_most_27 HM.1 rfl ?_
      exact l_X6_mostx (HM.thr 1) (Or.inl rfl) (z_resm_x HM HI hS 1 0)
  have hip := c_X6_isProduct (Z := Z) (h := h) (p := p)
  rw [c1] at hip
  rw [if_pos c1]
  by_cases c2 : zin m 0 23 = true
  rotate_left
  · rw [if_neg c2]
    refine iX6_most_0 rfl ?_
    refine iX6_most_2 (R' := zR 1 22 0 0) rfl rfl (z_rmo rfl) (hip) (z_qr ?_) z_qx
    refine iX6_most_5 (fun c => ?_) (fun c => ?_)
    rotate_left
    · exact absurd c (by decide)
    refine iX6_most_12 rfl ?_
    refine iX6_most_16 (R' := zR 0 0 0 0) rfl rfl (z_rmo rfl) (c_X6_in) (z_qr ?_) z_qx
    refine iX6_most_19 (fun c => ?_) (fun c => ?_)
    · refine iX6_most_26 rfl ?_
      refine iX6_most_27 HM.1 rfl ?_
      exact l_X6_mostx (HM.thr 2) (Or.inr rfl) (z_resm_x HM HI hS 2 0)
    · exact absurd (zb_n0 c) c2
  have hin := c_X6_in (Z := Z) (h := h) (v := m) (lo := nI 0) (hi := nI 23)
  rw [zin_n, c2] at hin
  rw [if_pos c2]
  obtain ⟨P, rfl, p1⟩ := zix_e c1
  obtain ⟨M, rfl, m1, m2⟩ := zin_e c2
  rw [zn_nI (d := P) (by omega), zn_nI (d := M) (by omega)]
  refine iX6_most_0 rfl ?_
  refine iX6_most_2 (R' := zR 1 22 0 0) rfl rfl (z_rmo rfl) (hip) (z_qr ?_) z_qx
  refine iX6_most_5 (fun c => ?_) (fun c => ?_)
  rotate_left
  · exact absurd c (by decide)
  refine iX6_most_12 rfl ?_
  refine iX6_most_16 (R' := zR 0 0 0 0) rfl rfl (z_rmo rfl) (hin) (z_qr ?_) z_qx
  refine iX6_most_19 (fun c => ?_) (fun c => ?_)
  · exact absurd c (by decide)
  refine iX6_most_22 rfl ?_
  refine iX6_most_27 HM.1 rfl ?_
  refine iX6_most_30 rfl ?_
  show z_J Z mX6_most _ _ _ _ 38 [.ref (am 600), .int (nI P), .int (nI M), .int (nI 0), .int (nI 30 * nI M)] [] (z_u h 600 (am 600, .inr (7, z_mfs am 0 (s_nR σ) (s_nM σ) S.1)))
  rw [pk_mul]
  exact l_X6_most (h0 := h) HI p1 m2 (fun g S' hs HM' hS' => ⟨rfl, hs, HO, E, S', HM', HI, hS'⟩) 30 0 _ S rfl (hs1 0) (HM.thr 0) hS
end ZModG
