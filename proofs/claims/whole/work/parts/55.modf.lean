/-! ===== the model: spare, most ===== -/
theorem gw_all : Cond.constant "RightsCounterModel" 144 (1000000 : Int32) ∈ z_G := z_g 940 (by decide +kernel) (by decide +kernel)
theorem z_ldcI {M : zM} {Z : zZ} {R : Room} {k n : Nat} {Q : zO → zH → Prop} {pc nx : Nat} {ls st : List Value} {h : zH} {idx : Nat} {v : Int32} (hd : decode M.2.1 pc = .ok (.ldc idx, 2)) (hn : pc + 2 = nx) (hw : Cond.constant M.1.cls idx v ∈ z_G) (g : z_J Z M R k n Q nx ls (.int v :: st) h) : z_J Z M R k n Q pc ls st h := by
  intro D cA p l e s m args below meth c A H locs ws lsA X O L
  obtain ⟨hx, hb, hr, hml, hown, hts, -⟩ := id X
  subst hn
  intro T hT XX
  obtain ⟨t, a, b⟩ := g D cA p l e s m args below meth c A H locs ws lsA X O L T hT XX
  exact ⟨t, XX.ldcInt hx hown (hts _ hw) (g := F0 m pc lsA st) rfl (by rw [hb]; exact hd) t a, b⟩
section ZModF
variable {Z : zZ} {h : zH} {am : Nat → Nat} {th : Nat} {σ : zSt} {HO : Nat → Int32} {E : zMs} {S : zMn} {Q : zO → zH → Prop}
theorem s_flow_big {σ : zSt} (hok : s_ok σ) {GS D : Nat → Nat} {s G w w' : Nat} (hg : G < 2 ^ s_nR σ) (hw : 1000 ≤ w) (hw' : 1000 ≤ w') : s_flow σ (nu GS s G) (nu D s w) (s + 1) ≤ s_flow σ (nu GS s G) (nu D s w') (s + 1) := by
  have hp := Nat.two_pow_pos (s_nR σ)
  have hle : 2 ^ s_nR σ ≤ 2 ^ 10 := Nat.pow_le_pow_right (by decide) hok.1.1
  obtain ⟨T, hT, e⟩ := n_mn_at (s_cut σ (nu GS s G) (nu D s w') (s + 1)) (2 ^ s_nR σ - 1)
  have e : s_flow σ (nu GS s G) (nu D s w') (s + 1) = s_cut σ (nu GS s G) (nu D s w') (s + 1) T := e
  rw [e, s_cut_succ, nu_s, nu_s]
  have ecut : ∀ w'' T', s_cut σ (nu GS s G) (nu D s w'') s T' = s_cut σ GS D s T' := fun w'' T' => s_cut_cong (fun i hi => nu_n (by omega)) (fun i hi => nu_n (by omega)) T'
  by_cases hc : G &&& (T ^^^ 1023) = 0
  · refine Nat.le_trans (n_mn_le (S := T) hT) ?_
    rw [s_cut_succ, nu_s, nu_s, if_pos hc, if_pos hc, ecut, ecut]
    exact Nat.le_refl _
  · rw [if_neg hc]
    -- the set of all rights
    refine Nat.le_trans (n_mn_le (S := 2 ^ s_nR σ - 1) (Nat.le_refl _)) ?_
    rw [s_cut_succ, nu_s, nu_s, ecut, ecut]
    have hbit : ∀ c, c < s_nR σ → (2 ^ s_nR σ - 1).testBit c = true := fun c hc => by
      rw [Nat.testBit_two_pow_sub_one]; exact decide_eq_true hc
    have hsub : ∀ a, a < 2 ^ s_nR σ → a &&& ((2 ^ s_nR σ - 1) ^^^ 1023) = 0 := fun a ha => (g_sub_iff (by omega)).mpr (fun x hx hbx => by
      by_cases hxn : x < s_nR σ
      · exact hbit x hxn
      · rw [n_bit_ge ha (by omega)] at hbx
        cases hbx)
    rw [if_pos (hsub G hg)]
    -- its cut is at most the units with what the others cannot get
    have h1 := s_ru_le hok (2 ^ s_nR σ - 1)
    have h2 : n_sum (fun i => if GS i &&& ((2 ^ s_nR σ - 1) ^^^ 1023) = 0 then 0 else D i) s ≤ n_sum (fun i => if GS i &&& (T ^^^ 1023) = 0 then 0 else D i) s := n_sum_mono (fun i hi => by
      by_cases hz : GS i &&& (T ^^^ 1023) = 0
      · rw [if_pos hz, if_pos]
        · exact Nat.le_refl _
        · have hz1 : GS i &&& ((2 ^ s_nR σ - 1) ^^^ 1023) = 0 := by
            apply Nat.eq_of_testBit_eq
            intro x
            have hx0 : (GS i &&& (T ^^^ 1023)).testBit x = false := by rw [hz]; exact Nat.zero_testBit x
            rw [Nat.testBit_and, Nat.testBit_xor] at hx0
            rw [Nat.zero_testBit, Nat.testBit_and, Nat.testBit_xor]
            by_cases hxn : x < s_nR σ
            · rw [hbit x hxn, n_tb1023 (by have := hok.1.1; omega)]
              simp
            · have hT9 : T.testBit x = false := n_bit_ge (n := s_nR σ) (by omega) (by omega)
              have hA9 : (2 ^ s_nR σ - 1).testBit x = false := n_bit_ge (n := s_nR σ) (by omega) (by omega)
              rw [hT9] at hx0
              rw [hA9]
              exact hx0
          exact hz1
      · rw [if_neg hz]
        split
        · exact Nat.zero_le _
        · exact Nat.le_refl _)
    unfold s_cut
    omega
theorem s_sp_big {σ : zSt} (hok : s_ok σ) (d p v : Nat) : s_sp σ d p v 1000000 = s_sp σ d p v 1000 := by
  unfold s_sp
  rw [Nat.le_antisymm (s_flow_big hok (GS := t_GS σ d (s_all σ d)) (D := t_D (s_all σ d)) (s := (s_all σ d).length) (w := 1000000) (w' := 1000) (s_giv_lt2 σ p v d _) (by omega) (by omega)) (s_flow_big hok (s_giv_lt2 σ p v d _) (by omega) (by omega))]
theorem s_sp_mono (σ : zSt) (d p v w : Nat) : s_fl σ d (s_all σ d).length ≤ s_flow σ (nu (t_GS σ d (s_all σ d)) (s_all σ d).length (s_giv σ p v d (s_nR σ))) (nu (t_D (s_all σ d)) (s_all σ d).length w) ((s_all σ d).length + 1) := by
  refine Nat.le_trans ?_ (s_flow_mono _ _ _ _)
  rw [s_flow_cong (σ := σ) (GS := nu (t_GS σ d (s_all σ d)) (s_all σ d).length (s_giv σ p v d (s_nR σ))) (GS' := t_GS σ d (s_all σ d)) (D' := t_D (s_all σ d)) (fun i hi => nu_n (by omega)) (fun i hi => nu_n (by omega))]
  exact Nat.le_refl _
theorem c_X6_spare {d p v : Int32} (H : z_mod h am th σ) : z_J Z mX6_spare (zR 3 74 0 0) 0 0 (z_resm h am (f_spare σ d p v)) 0 [.ref (am 600), .int d, .int p, .int v] [] h := by
  obtain ⟨HO, E, S, HM, HI, hS⟩ := H
  unfold f_spare
  by_cases c1 : zin d 0 720 = true
  rotate_left
  · rw [if_neg (fun z => c1 z.1)]
    refine iX6_spare_0 rfl ?_
    refine iX6_spare_2 (R' := zR 1 22 0 0) rfl rfl (z_rmo rfl) (c_X6_isDay) (z_qr ?_) z_qx
    refine iX6_spare_5 (fun c => ?_) (fun c => ?_)
    · refine iX6_spare_18 rfl ?_
      refine iX6_spare_34 HM.1 rfl ?_
      refine iX6_spare_37 rfl ?_
      refine iX6_spare_38 z_u_s rfl ?_
      refine iX6_spare_41 (fun c2 => ?_) (fun c2 => ?_)
      · exact absurd c2 (by decide)
      · refine iX6_spare_44 rfl ?_
        exact iX6_spare_45 (Nat.le_of_ble_eq_true rfl) (Nat.le_of_ble_eq_true rfl) (z_resm_x HM HI hS 1 0)
    · exact absurd (zb_n0 c) c1
  have hid := c_X6_isDay (Z := Z) (h := h) (d := d)
  rw [c1] at hid
  by_cases c2 : zin v 1 9 = true
  rotate_left
  · rw [if_neg (fun z => c2 z.2)]
    refine iX6_spare_0 rfl ?_
    refine iX6_spare_2 (R' := zR 1 22 0 0) rfl rfl (z_rmo rfl) (hid) (z_qr ?_) z_qx
    refine iX6_spare_5 (fun c => ?_) (fun c => ?_)
    · exact absurd c (by decide)
    refine iX6_spare_8 rfl ?_
    refine iX6_spare_12 (R' := zR 0 0 0 0) rfl rfl (z_rmo rfl) (c_X6_in) (z_qr ?_) z_qx
    refine iX6_spare_15 (fun c => ?_) (fun c => ?_)
    · exact absurd (zb_n0 c) c2
    · refine iX6_spare_18 rfl ?_
      refine iX6_spare_34 HM.1 rfl ?_
      refine iX6_spare_37 rfl ?_
      refine iX6_spare_38 z_u_s rfl ?_
      refine iX6_spare_41 (fun c2 => ?_) (fun c2 => ?_)
      · exact absurd c2 (by decide)
      · refine iX6_spare_44 rfl ?_
        exact iX6_spare_45 (Nat.le_of_ble_eq_true rfl) (Nat.le_of_ble_eq_true rfl) (z_resm_x HM HI hS 1 0)
  have hiv := c_X6_in (Z := Z) (h := h) (v := v) (lo := nI 1) (hi := nI 9)
  rw [zin_n, c2] at hiv
  rw [if_pos ⟨c1, c2⟩]
  by_cases c3 : zix p 5 = true
  rotate_left
  · rw [if_neg c3]
    refine iX6_spare_0 rfl ?_
    refine iX6_spare_2 (R' := zR 1 22 0 0) rfl rfl (z_rmo rfl) (hid) (z_qr ?_) z_qx
    refine iX6_spare_5 (fun c => ?_) (fun c => ?_)
    · exact absurd c (by decide)
    refine iX6_spare_8 rfl ?_
    refine iX6_spare_12 (R' := zR 0 0 0 0) rfl rfl (z_rmo rfl) (hiv) (z_qr ?_) z_qx
    refine iX6_spare_15 (fun c => ?_) (fun c => ?_)
    rotate_left
    · exact absurd c (by decide)
    refine iX6_spare_22 rfl ?_
    refine iX6_spare_23 (R' := zR 1 22 0 0) rfl rfl (z_rmo rfl) (c_X6_isProduct) (z_qr ?_) z_qx
    refine iX6_spare_26 (fun c => ?_) (fun c => ?_)
    · refine iX6_spare_33 rfl ?_
      refine iX6_spare_34 HM.1 rfl ?_
      refine iX6_spare_37 rfl ?_
      refine iX6_spare_38 z_u_s rfl ?_
      refine iX6_spare_41 (fun c2 => ?_) (fun c2 => ?_)
      · exact absurd c2 (by decide)
      · refine iX6_spare_44 rfl ?_
        exact iX6_spare_45 (Nat.le_of_ble_eq_true rfl) (Nat.le_of_ble_eq_true rfl) (z_resm_x HM HI hS 2 0)
    · exact absurd (zb_n0 c) c3
  have hip := c_X6_isProduct (Z := Z) (h := h) (p := p)
  rw [c3] at hip
  rw [if_pos c3]
  refine iX6_spare_0 rfl ?_
  refine iX6_spare_2 (R' := zR 1 22 0 0) rfl rfl (z_rmo rfl) (hid) (z_qr ?_) z_qx
  refine iX6_spare_5 (fun c => ?_) (fun c => ?_)
  · exact absurd c (by decide)
  refine iX6_spare_8 rfl ?_
  refine iX6_spare_12 (R' := zR 0 0 0 0) rfl rfl (z_rmo rfl) (hiv) (z_qr ?_) z_qx
  refine iX6_spare_15 (fun c => ?_) (fun c => ?_)
  rotate_left
  · exact absurd c (by decide)
  refine iX6_spare_22 rfl ?_
  refine iX6_spare_23 (R' := zR 1 22 0 0) rfl rfl (z_rmo rfl) (hip) (z_qr ?_) z_qx
  refine iX6_spare_26 (fun c => ?_) (fun c => ?_)
  · exact absurd c (by decide)
  obtain ⟨D, rfl, d1, d2⟩ := zin_e c1
  obtain ⟨V, rfl, v1, v2⟩ := zin_e c2
  obtain ⟨P, rfl, p1⟩ := zix_e c3
  rw [zn_nI (d := D) (by omega), zn_nI (d := V) (by omega), zn_nI (d := P) (by omega)]
  refine iX6_spare_29 rfl ?_
  refine iX6_spare_34 HM.1 rfl ?_
  show z_J Z mX6_spare _ _ _ _ 37 _ _ (z_u h 600 (am 600, .inr (7, z_mfs am 0 (s_nR σ) (s_nM σ) S.1)))
  have HM1 := HM.thr 0
  have hs1 : z_same 600 619 h (z_u h 600 (am 600, .inr (7, z_mfs am 0 (s_nR σ) (s_nM σ) S.1))) := z_same.rf.u (by omega) (by omega)
  generalize z_u h 600 (am 600, .inr (7, z_mfs am 0 (s_nR σ) (s_nM σ) S.1)) = h1 at HM1 hs1 ⊢
  refine iX6_spare_37 rfl ?_
  refine iX6_spare_38 HM1.1 rfl ?_
  refine iX6_spare_41 (fun c2 => ?_) (fun c2 => ?_)
  rotate_left
  · exact absurd (Int32.le_refl _) c2
  refine iX6_spare_46 rfl ?_
  refine iX6_spare_48 (R' := zR 2 50 0 0) rfl rfl HM1.1 (z_rmo rfl) (c_X6_laysGets HM1 HI d2) (fun v h' y => ?_) (fun E h' y => ?_)
  rotate_left
  · cases y.1
  obtain ⟨y1, y2, S2, y3, y4, y5, y6⟩ := y
  cases y1
  obtain ⟨g2, rfl⟩ : ∃ g, g = h' := ⟨_, rfl⟩
  obtain ⟨l1, l2⟩ := z_ag_len HI y4
  have hn10 := HI.1.1.1
  have hBl : s_giv σ P V D (s_nR σ) < 1024 := s_giv_lt σ P V D hn10
  have hCTb : ∀ T, T < 2 ^ s_nR σ → z_ct S2 T + 1000000 < 2 ^ 30 := fun T hT => by
    have := s_cut_le HI.1 (GS := t_GS σ D (s_all σ D)) (D := t_D (s_all σ D)) (s := (s_all σ D).length) (b := 80) (fun i hi => t_D_le HI.1 hi) T
    rw [← y6 T hT] at this
    omega
  have y3c : z_mo g2 am 0 σ HO E (z_sc S2 (z_ct S2)) := y3
  refine iX6_spare_51 rfl ?_
  refine iX6_spare_58 (R' := zR 1 22 0 0) rfl rfl y3.1 (z_rmo rfl) (c_X6_rightsFor y3 HI d2 (p := P) (v := V) (by omega) (by omega)) (z_qr ?_) z_qx
  refine z_ldcI dX6_spare_61 rfl gw_all ?_
  refine iX6_spare_63 (R' := (zR 1 22 0 0)) rfl rfl y3.1 (z_rmo rfl) (c_X6_serves (B := s_giv σ P V D (s_nR σ)) (W := 1000000) y3c HI hBl hCTb) (fun v h' u => ?_) (fun E h' u => ?_)
  rotate_left
  · obtain ⟨CT', u1, -⟩ := u
    cases u1
  obtain ⟨CT', u1, u2, u3, u4⟩ := u
  cases u1
  have hp := Nat.two_pow_pos (s_nR σ)
  have hfl : n_mn CT' (2 ^ s_nR σ - 1) = s_flow σ (nu (t_GS σ D (s_all σ D)) (s_all σ D).length (s_giv σ P V D (s_nR σ))) (nu (t_D (s_all σ D)) (s_all σ D).length 1000000) ((s_all σ D).length + 1) := n_mn_cong2 (fun T hT => by
    rw [u4 T (by omega), y6 T (by omega), s_cut_succ, nu_s, nu_s, s_cut_cong (GS := nu (t_GS σ D (s_all σ D)) (s_all σ D).length (s_giv σ P V D (s_nR σ))) (GS' := t_GS σ D (s_all σ D)) (D' := t_D (s_all σ D)) (fun i hi => nu_n (by omega)) (fun i hi => nu_n (by omega))])
  rw [hfl]
  refine iX6_spare_66 rfl ?_
  show z_J Z mX6_spare _ _ _ _ 69 _ [.int (nI (s_flow σ (nu (t_GS σ D (s_all σ D)) (s_all σ D).length (s_giv σ P V D (s_nR σ))) (nu (t_D (s_all σ D)) (s_all σ D).length 1000000) ((s_all σ D).length + 1)) - nI (s_fl σ D (s_all σ D).length))] _
  rw [pk_sub (s_sp_mono σ D P V 1000000)]
  rw [← s_sp_big HI.1]
  exact iX6_spare_69 (Nat.le_of_ble_eq_true rfl) (Nat.le_of_ble_eq_true rfl) ⟨rfl, (hs1.trans y2).trans u2, HO, E, _, u3, HI, l2⟩
end ZModF
