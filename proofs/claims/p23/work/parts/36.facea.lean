/-! ===== gets, lack, lackBySets, spare: the calls ===== -/
section ZFaceA
variable {Z : zZ} {h : zH} {ad : Nat → Nat} {σ : zSt} {Q : zO → zH → Prop}
theorem z_world.give {g g' : zH} {m s : Nat} {NM NP NV ND NG GR GS UL U : Nat → Nat} {GV : Nat → Nat → Nat} {G : Nat → Nat} {q : gS} (H : z_world Z g ad σ) (hs : z_same 14 199 g g') (hN : z_needs g 7 (ad 7) m NM NP NV ND NG GR) (h2 : z_give0 g' ad s GS UL GV q) (hf : g_flow s GS UL U GV G) : z_world Z g' ad σ :=
  ⟨H.1.kept hs, ⟨_, NM, NP, NV, ND, NG, GR, hN.kept (fun x _ _ => hs x (by omega))⟩, s, GS, UL, GV, q, h2, fun c hc => by
    have h4 := hf.2.2.1 c hc
    have h5 := hf.2.2.2.2 c hc
    omega⟩
theorem c_X5_gets {d k : Int32} (H : z_world Z h ad σ) : z_J Z mX5_gets (zR 8 135 2 12) 0 0 (z_res Z h ad [eA, eI] (f_gets σ d k)) 0 [.ref (ad 1), .int d, .int k] [] h := by
  have k1 := H.1.2.1
  unfold f_gets
  by_cases c1 : zin d 0 720 = true
  rotate_left
  · rw [if_neg c1]
    refine iX5_gets_0 rfl ?_
    refine iX5_gets_1 (R' := zR 7 104 1 6) rfl rfl (z_rmo rfl) (c_X5_checkDay_x c1) z_er (z_ex ?_)
    exact z_out rfl (Nat.le_of_ble_eq_true rfl) (Nat.le_of_ble_eq_true rfl) (z_res_x H _ 1 0)
  rw [if_pos c1]
  obtain ⟨D, rfl, d1, d2⟩ := zin_e c1
  rw [zn_nI (d := D) (by omega)]
  refine iX5_gets_0 rfl ?_
  refine iX5_gets_1 (R' := zR 7 104 1 6) rfl rfl (z_rmo rfl) (c_X5_checkDay c1) (z_qr ?_) z_qx
  refine iX5_gets_4 rfl ?_
  refine iX5_gets_6 (R' := zR 3 64 0 0) rfl rfl k1 (z_rmo rfl) (c_X5_find H (d := D) (by omega)) (fun v h' w => ?_) (fun E h' w => ?_)
  · obtain ⟨w1, ⟨NG, w2⟩, w3⟩ := w
    cases w1
    have W := H.found w2 w3
    obtain ⟨NM, NP, NV, ND, GR, hN, hA⟩ := id w2
    by_cases c2 : zix k (s_all σ D).length = true
    rotate_left
    · rw [if_neg c2]
      refine iX5_gets_9 rfl ?_
      refine iX5_gets_11 (R' := zR 6 82 1 6) rfl rfl W.1.2.1 (z_rmo rfl) (c_X5_checkNeed_x W.1 w2 c2) z_er (z_ex ?_)
      exact z_out rfl (Nat.le_of_ble_eq_true rfl) (Nat.le_of_ble_eq_true rfl) ⟨rfl, w3.wide (by omega) (by omega), ad, rfl, W⟩
    rw [if_pos c2]
    have hch := c_X5_checkNeed W.1 w2 c2
    have hc40 := hN.2.1
    obtain ⟨K, rfl, b1⟩ := zix_e c2
    rw [zn_nI (d := K) (by omega)]
    refine iX5_gets_9 rfl ?_
    refine iX5_gets_11 (R' := zR 6 82 1 6) rfl rfl W.1.2.1 (z_rmo rfl) (hch) (z_qr ?_) z_qx
    refine iX5_gets_14 rfl ?_
    refine iX5_gets_17 (R' := zR 5 111 0 0) rfl rfl W.1.2.1 (z_rmo rfl) (c_X5_serve0 (hm := K) (d := D) W hN hA (by omega) (by omega)) (fun v h' y => ?_) (fun E h' y => ?_)
    · obtain ⟨NG', GS, UL, U, GV, G, q, y1, y2, y3, y4, y5, y6, y7, y8, y9⟩ := y
      cases y1
      obtain ⟨⟨a1, a2, a3, a4, a5, a6, k0, k7, k8, k9, k10, k11, k12⟩, hc, hB⟩ := id y3
      unfold z_arr at k10 k11
      have hgK : NG' K = t_GS σ D (s_all σ D) K := y4 K _ (t_q_of b1)
      have hdK : ND K = t_D (s_all σ D) K := (hA.at b1).2.2.2
      have hBK := hB K
      have y50 := y5.1
      have hgx : NG' K < 1024 := hBK.2.2.2.2.1
      refine iX5_gets_20 rfl ?_
      refine iX5_gets_22 y9.1.2.1 rfl ?_
      refine iX5_gets_25 rfl ?_
      refine iX5_gets_26 y9.1.2.1 rfl ?_
      refine iX5_gets_29 k0 rfl ?_
      refine iX5_gets_32 rfl ?_
      refine iX5_gets_33 k11 rfl (by omega) (by omega) ?_
      refine iX5_gets_34 rfl ?_
      refine iX5_gets_35 y9.1.2.1 rfl ?_
      refine iX5_gets_38 k0 rfl ?_
      refine iX5_gets_41 rfl ?_
      refine iX5_gets_42 k10 rfl (by omega) (by omega) ?_
      refine iX5_gets_43 (R' := zR 3 67 0 0) rfl rfl y50 (z_rmo rfl) (c_X0_serve (wanted := ND K) (gn := NG' K) (U := U) (G := G) (by omega) hgx (by omega) y5 y6.1) (fun v h' u => ?_) (fun E h' u => ?_)
      · obtain ⟨UN, GN, q', got, u1, u2, u3, u4, u5⟩ := u
        cases u1
        have ev := serve_flow (w := ND K) y9.1.1.1.1 u4 u5 y6.2.2.1 y6.2.2.2.1 y6.2.2.2.2 (fun i hi => by rw [(y8 i hi).1]; exact t_GS_lt _ _ _ _) (by rw [hgK]; exact t_GS_lt _ _ _ _)
        rw [s_flow_cong (GS' := t_GS σ D (s_all σ D)) (D' := t_D (s_all σ D)) (fun i hi => by
          by_cases e : i = K
          · subst e; rw [nu_s]; exact hgK
          · rw [nu_n e]; exact (y8 i (by omega)).1) (fun i hi => by
          by_cases e : i = K
          · subst e; rw [nu_s]; exact hdK
          · rw [nu_n e]; exact (y8 i (by omega)).2)] at ev
        have ev2 : s_fl σ D (K + 1) - s_fl σ D K = got := by
          have : s_fl σ D (K + 1) = n_sum G K + got := ev.symm
          omega
        refine iX5_gets_46 (Nat.le_of_ble_eq_true rfl) (Nat.le_of_ble_eq_true rfl) ⟨by rw [ev2]; rfl, ((w3.wide (by omega) (by omega)).trans (y2.wide (by omega) (by omega))).trans (u2.wide (by omega) (by omega)), ad, rfl, y9.give u2 y3 u3 u4⟩
      · obtain ⟨UN, GN, q', got, u1, -⟩ := u
        cases u1
    · obtain ⟨NG', GS, UL, U, GV, G, q, y1, -⟩ := y
      cases y1
  · cases w.1
theorem c_X5_lack {d : Int32} (H : z_world Z h ad σ) : z_J Z mX5_lack (zR 8 135 1 6) 0 0 (z_res Z h ad [eA] (f_lack σ d)) 0 [.ref (ad 1), .int d] [] h := by
  have k1 := H.1.2.1
  unfold f_lack
  by_cases c1 : zin d 0 720 = true
  rotate_left
  · rw [if_neg c1]
    refine iX5_lack_0 rfl ?_
    refine iX5_lack_1 (R' := zR 7 104 1 6) rfl rfl (z_rmo rfl) (c_X5_checkDay_x c1) z_er (z_ex ?_)
    exact z_out rfl (Nat.le_of_ble_eq_true rfl) (Nat.le_of_ble_eq_true rfl) (z_res_x H _ 1 0)
  rw [if_pos c1]
  obtain ⟨D, rfl, d1, d2⟩ := zin_e c1
  rw [zn_nI (d := D) (by omega)]
  refine iX5_lack_0 rfl ?_
  refine iX5_lack_1 (R' := zR 7 104 1 6) rfl rfl (z_rmo rfl) (c_X5_checkDay c1) (z_qr ?_) z_qx
  refine iX5_lack_4 rfl ?_
  refine iX5_lack_6 (R' := zR 3 64 0 0) rfl rfl k1 (z_rmo rfl) (c_X5_find H (d := D) (by omega)) (fun v h' w => ?_) (fun E h' w => ?_)
  · obtain ⟨w1, ⟨NG, w2⟩, w3⟩ := w
    cases w1
    have W := H.found w2 w3
    obtain ⟨NM, NP, NV, ND, GR, hN, hA⟩ := id w2
    obtain ⟨⟨a1, a2, a3, a4, a5, a6, k0, -⟩, hc, hB⟩ := id hN
    refine iX5_lack_9 rfl ?_
    refine iX5_lack_10 W.1.2.1 rfl ?_
    refine iX5_lack_13 (R' := zR 0 0 0 0) rfl rfl k0 (z_rmo rfl) (c_X3_demandOfAll hN) (z_qr ?_) z_qx
    refine iX5_lack_16 rfl ?_
    refine iX5_lack_18 W.1.2.1 rfl ?_
    refine iX5_lack_21 k0 rfl ?_
    refine iX5_lack_24 rfl ?_
    refine iX5_lack_25 (R' := zR 5 111 0 0) rfl rfl W.1.2.1 (z_rmo rfl) (c_X5_serve0 (hm := (s_all σ D).length) (d := D) W hN hA (by omega) (by omega)) (fun v h' y => ?_) (fun E h' y => ?_)
    · obtain ⟨NG', GS, UL, U, GV, G, q, y1, y2, y3, y4, y5, y6, y7, y8, y9⟩ := y
      cases y1
      refine iX5_lack_28 rfl ?_
      show z_J Z mX5_lack _ _ _ _ 29 _ [.int (nI (n_sum ND (s_all σ D).length) - nI (n_sum G (s_all σ D).length))] _
      have hle : n_sum G (s_all σ D).length ≤ n_sum ND (s_all σ D).length := n_sum_mono y6.2.2.1
      rw [pk_sub hle, y7, n_sum_cong (fun i hi => (y8 i hi).2)]
      exact iX5_lack_29 (Nat.le_of_ble_eq_true rfl) (Nat.le_of_ble_eq_true rfl) ⟨rfl, (w3.wide (by omega) (by omega)).trans (y2.wide (by omega) (by omega)), ad, rfl, y9⟩
    · obtain ⟨NG', GS, UL, U, GV, G, q, y1, -⟩ := y
      cases y1
  · cases w.1
theorem c_X5_spare {d p v : Int32} (H : z_world Z h ad σ) : z_J Z mX5_spare (zR 8 135 3 18) 0 0 (z_res Z h ad [eA, eI] (f_spare σ d p v)) 0 [.ref (ad 1), .int d, .int p, .int v] [] h := by
  have k1 := H.1.2.1
  unfold f_spare
  by_cases c1 : zin d 0 720 = true
  rotate_left
  · rw [if_neg (fun z => c1 z.1)]
    refine iX5_spare_0 rfl ?_
    refine iX5_spare_1 (R' := zR 7 104 1 6) rfl rfl (z_rmo rfl) (c_X5_checkDay_x c1) z_er (z_ex ?_)
    exact z_out rfl (Nat.le_of_ble_eq_true rfl) (Nat.le_of_ble_eq_true rfl) (z_res_x H _ 1 0)
  by_cases c2 : zin v 1 9 = true
  rotate_left
  · rw [if_neg (fun z => c2 z.2)]
    refine iX5_spare_0 rfl ?_
    refine iX5_spare_1 (R' := zR 7 104 1 6) rfl rfl (z_rmo rfl) (c_X5_checkDay c1) (z_qr ?_) z_qx
    refine iX5_spare_4 rfl ?_
    refine iX5_spare_8 (R' := zR 6 82 1 6) rfl rfl (z_rmo rfl) (c_X5_checkArgument_x (zin_no c2)) z_er (z_ex ?_)
    exact z_out rfl (Nat.le_of_ble_eq_true rfl) (Nat.le_of_ble_eq_true rfl) (z_res_x H _ 1 0)
  rw [if_pos ⟨c1, c2⟩]
  by_cases c3 : zix p 5 = true
  rotate_left
  · rw [if_neg c3]
    refine iX5_spare_0 rfl ?_
    refine iX5_spare_1 (R' := zR 7 104 1 6) rfl rfl (z_rmo rfl) (c_X5_checkDay c1) (z_qr ?_) z_qx
    refine iX5_spare_4 rfl ?_
    refine iX5_spare_8 (R' := zR 6 82 1 6) rfl rfl (z_rmo rfl) (c_X5_checkArgument (zin_ok c2).1 (zin_ok c2).2) (z_qr ?_) z_qx
    refine iX5_spare_11 rfl ?_
    refine iX5_spare_12 (R' := zR 6 82 1 6) rfl rfl (z_rmo rfl) (c_X5_checkProduct_x c3) z_er (z_ex ?_)
    exact z_out rfl (Nat.le_of_ble_eq_true rfl) (Nat.le_of_ble_eq_true rfl) (z_res_x H _ 2 0)
  rw [if_pos c3]
  obtain ⟨D, rfl, d1, d2⟩ := zin_e c1
  obtain ⟨V, rfl, v1, v2⟩ := zin_e c2
  obtain ⟨P, rfl, p1⟩ := zix_e c3
  rw [zn_nI (d := D) (by omega), zn_nI (d := V) (by omega), zn_nI (d := P) (by omega)]
  refine iX5_spare_0 rfl ?_
  refine iX5_spare_1 (R' := zR 7 104 1 6) rfl rfl (z_rmo rfl) (c_X5_checkDay c1) (z_qr ?_) z_qx
  refine iX5_spare_4 rfl ?_
  refine iX5_spare_8 (R' := zR 6 82 1 6) rfl rfl (z_rmo rfl) (c_X5_checkArgument (zin_ok c2).1 (zin_ok c2).2) (z_qr ?_) z_qx
  refine iX5_spare_11 rfl ?_
  refine iX5_spare_12 (R' := zR 6 82 1 6) rfl rfl (z_rmo rfl) (c_X5_checkProduct c3) (z_qr ?_) z_qx
  refine iX5_spare_15 rfl ?_
  refine iX5_spare_17 (R' := zR 3 64 0 0) rfl rfl k1 (z_rmo rfl) (c_X5_find H (d := D) (by omega)) (fun v h' w => ?_) (fun E h' w => ?_)
  · obtain ⟨w1, ⟨NG, w2⟩, w3⟩ := w
    cases w1
    have W := H.found w2 w3
    obtain ⟨NM, NP, NV, ND, GR, hN, hA⟩ := id w2
    obtain ⟨⟨a1, a2, a3, a4, a5, a6, k0, -⟩, hc, hB⟩ := id hN
    refine iX5_spare_20 rfl ?_
    refine iX5_spare_22 W.1.2.1 rfl ?_
    refine iX5_spare_25 k0 rfl ?_
    refine iX5_spare_28 rfl ?_
    refine iX5_spare_29 (R' := zR 5 111 0 0) rfl rfl W.1.2.1 (z_rmo rfl) (c_X5_serve0 (hm := (s_all σ D).length) (d := D) W hN hA (by omega) (by omega)) (fun v h' y => ?_) (fun E h' y => ?_)
    · obtain ⟨NG', GS, UL, U, GV, G, q, y1, y2, y3, y4, y5, y6, y7, y8, y9⟩ := y
      cases y1
      have y50 := y5.1
      have hgx : s_giv σ P V D (s_nR σ) < 1024 := s_giv_lt σ P V D y9.1.1.1.1
      refine iX5_spare_32 rfl ?_
      refine iX5_spare_34 y9.1.2.1 rfl ?_
      refine iX5_spare_37 rfl ?_
      refine iX5_spare_41 (R' := zR 3 64 0 0) rfl rfl y9.1.2.1 (z_rmo rfl) (c_X5_giversFor (p := P) (v := V) (d := D) y9.1 (by omega) (by omega) (by omega)) (z_qr ?_) z_qx
      refine iX5_spare_44 rfl ?_
      refine iX5_spare_47 (R' := zR 3 67 0 0) rfl rfl y50 (z_rmo rfl) (c_X0_serve (wanted := 1000) (gn := s_giv σ P V D (s_nR σ)) (U := U) (G := G) (by omega) hgx (by omega) y5 y6.1) (fun v h' u => ?_) (fun E h' u => ?_)
      · obtain ⟨UN, GN, q', got, u1, u2, u3, u4, u5⟩ := u
        cases u1
        have ev := serve_flow (D := ND) (w := 1000) y9.1.1.1.1 u4 u5 y6.2.2.1 y6.2.2.2.1 y6.2.2.2.2 (fun i hi => by rw [(y8 i hi).1]; exact t_GS_lt _ _ _ _) (s_giv_lt2 _ _ _ _ _)
        rw [s_flow_cong (GS' := nu (t_GS σ D (s_all σ D)) (s_all σ D).length (s_giv σ P V D (s_nR σ))) (D' := nu (t_D (s_all σ D)) (s_all σ D).length 1000) (fun i hi => by
          by_cases e : i = (s_all σ D).length
          · rw [e, nu_s, nu_s]
          · rw [nu_n e, nu_n e]; exact (y8 i (by omega)).1) (fun i hi => by
          by_cases e : i = (s_all σ D).length
          · rw [e, nu_s, nu_s]
          · rw [nu_n e, nu_n e]; exact (y8 i (by omega)).2)] at ev
        have ev2 : s_sp σ D P V 1000 = got := by
          unfold s_sp
          omega
        refine iX5_spare_50 (Nat.le_of_ble_eq_true rfl) (Nat.le_of_ble_eq_true rfl) ⟨by rw [ev2]; rfl, ((w3.wide (by omega) (by omega)).trans (y2.wide (by omega) (by omega))).trans (u2.wide (by omega) (by omega)), ad, rfl, y9.give u2 y3 u3 u4⟩
      · obtain ⟨UN, GN, q', got, u1, -⟩ := u
        cases u1
    · obtain ⟨NG', GS, UL, U, GV, G, q, y1, -⟩ := y
      cases y1
  · cases w.1
end ZFaceA
