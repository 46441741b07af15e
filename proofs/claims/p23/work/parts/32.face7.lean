/-! ===== needs, need, demand ===== -/
def t_q (L : List (Nat × Nat × Nat × Nat)) (k : Nat) : Nat × Nat × Nat × Nat := L.getD k (0, 0, 0, 0)
def t_D (L : List (Nat × Nat × Nat × Nat)) (k : Nat) : Nat := (t_q L k).2.2.2
def t_GS (σ : zSt) (d : Nat) (L : List (Nat × Nat × Nat × Nat)) (k : Nat) : Nat := s_giv σ (t_q L k).2.1 (t_q L k).2.2.1 d (s_nR σ)
theorem t_q_of {L : List (Nat × Nat × Nat × Nat)} {k : Nat} (h : k < L.length) : L[k]? = some (t_q L k) := by
  unfold t_q
  rw [List.getD_eq_getElem?_getD, List.getElem?_eq_getElem h]
  rfl
theorem n_agree.at {L : List (Nat × Nat × Nat × Nat)} {NM NP NV ND : Nat → Nat} (H : n_agree L NM NP NV ND) {k : Nat} (h : k < L.length) : NM k = (t_q L k).1 ∧ NP k = (t_q L k).2.1 ∧ NV k = (t_q L k).2.2.1 ∧ ND k = t_D L k := H k _ (t_q_of h)
def f_needs (σ : zSt) (d : Int32) : zAn :=
  if zin d 0 720 = true then (0, nI (s_all σ (zn d)).length, σ) else (1, 0, σ)
def f_need (σ : zSt) (d k : Int32) : zAn :=
  if zin d 0 720 = true then
    if zix k (s_all σ (zn d)).length = true then (0, nI (100 * (t_q (s_all σ (zn d)) (zn k)).1 + 10 * (t_q (s_all σ (zn d)) (zn k)).2.1 + (t_q (s_all σ (zn d)) (zn k)).2.2.1), σ)
    else (2, 0, σ)
  else (1, 0, σ)
def f_demand (σ : zSt) (d k : Int32) : zAn :=
  if zin d 0 720 = true then
    if zix k (s_all σ (zn d)).length = true then (0, nI (t_D (s_all σ (zn d)) (zn k)), σ)
    else (2, 0, σ)
  else (1, 0, σ)
section ZFace7
variable {Z : zZ} {h : zH} {ad : Nat → Nat} {σ : zSt} {Q : zO → zH → Prop}
/-- after findNeeds -/
theorem z_world.found {h' : zH} {NG : Nat → Nat} {L : List (Nat × Nat × Nat × Nat)} (H : z_world Z h ad σ) (hf : z_found h' ad L NG) (hs : z_same 7 13 h h') : z_world Z h' ad σ := by
  obtain ⟨hC, -, s, GS, UL, GV, q, h2, h3⟩ := H
  obtain ⟨NM, NP, NV, ND, GR, h1, -⟩ := hf
  exact ⟨hC.kept hs, ⟨_, NM, NP, NV, ND, NG, GR, h1⟩, s, GS, UL, GV, q, h2.kept (fun x _ _ => hs x (by omega)), h3⟩
theorem c_X5_find {d : Nat} (H : z_world Z h ad σ) (hd : d < 1000) : z_J Z mX5_findNeeds (zR 3 64 0 0) 0 0 (fun o h' => o = .inl none ∧ (∃ NG', z_found h' ad (s_all σ d) NG') ∧ z_same 7 13 h h') 0 [.ref (ad 1), .int (nI d)] [] h := by
  obtain ⟨hC, ⟨c, NM, NP, NV, ND, NG, GR, h1⟩, -⟩ := H
  exact c_X5_findNeeds hC h1 hd
theorem c_X5_needs {d : Int32} (H : z_world Z h ad σ) : z_J Z mX5_needs (zR 8 124 1 6) 0 0 (z_res Z h ad [eA] (f_needs σ d)) 0 [.ref (ad 1), .int d] [] h := by
  have k1 := H.1.2.1
  unfold f_needs
  by_cases c1 : zin d 0 720 = true
  rotate_left
  · rw [if_neg c1]
    refine iX5_needs_0 rfl ?_
    refine iX5_needs_1 (R' := zR 7 104 1 6) rfl rfl (z_rmo rfl) (c_X5_checkDay_x c1) z_er (z_ex ?_)
    exact z_out rfl (Nat.le_of_ble_eq_true rfl) (Nat.le_of_ble_eq_true rfl) (z_res_x H _ 1 0)
  rw [if_pos c1]
  obtain ⟨D, rfl, d1, d2⟩ := zin_e c1
  rw [zn_nI (d := D) (by omega)]
  refine iX5_needs_0 rfl ?_
  refine iX5_needs_1 (R' := zR 7 104 1 6) rfl rfl (z_rmo rfl) (c_X5_checkDay c1) (z_qr ?_) z_qx
  refine iX5_needs_4 rfl ?_
  refine iX5_needs_6 (R' := zR 3 64 0 0) rfl rfl k1 (z_rmo rfl) (c_X5_find H (d := D) (by omega)) (fun v h' w => ?_) (fun E h' w => ?_)
  · obtain ⟨w1, ⟨NG, w2⟩, w3⟩ := w
    cases w1
    have W := H.found w2 w3
    obtain ⟨NM, NP, NV, ND, GR, ⟨⟨a1, a2, a3, a4, a5, a6, k0, -⟩, -⟩, -⟩ := id w2
    refine iX5_needs_9 rfl ?_
    refine iX5_needs_10 W.1.2.1 rfl ?_
    refine iX5_needs_13 k0 rfl ?_
    exact iX5_needs_16 (Nat.le_of_ble_eq_true rfl) (Nat.le_of_ble_eq_true rfl) ⟨rfl, w3.wide (by omega) (by omega), ad, rfl, W⟩
  · cases w.1
theorem c_X5_checkNeed {x : Int32} {NG : Nat → Nat} {L : List (Nat × Nat × Nat × Nat)} (hC : z_cls Z h ad σ) (hf : z_found h ad L NG) (h1 : zix x L.length = true) : z_J Z mX5_checkNeed (zR 6 82 1 6) 0 0 (z_eq (.inl none) h) 0 [.ref (ad 1), .int x] [] h := by
  obtain ⟨a1, a2⟩ := zix_ok h1
  obtain ⟨NM, NP, NV, ND, GR, ⟨⟨b1, b2, b3, b4, b5, b6, k0, -⟩, -⟩, -⟩ := id hf
  refine iX5_checkNeed_0 rfl ?_
  refine iX5_checkNeed_1 (fun c => ?_) (fun c => ?_)
  · exact absurd a1 (i_nle.mpr c)
  · refine iX5_checkNeed_4 rfl ?_
    refine iX5_checkNeed_6 hC.2.1 rfl ?_
    refine iX5_checkNeed_9 k0 rfl ?_
    refine iX5_checkNeed_12 (fun c => ?_) (fun c => ?_)
    · exact iX5_checkNeed_25 (Nat.le_of_ble_eq_true rfl) (Nat.le_of_ble_eq_true rfl) ⟨rfl, rfl⟩
    · exact absurd a2 c
theorem c_X5_checkNeed_x {x : Int32} {NG : Nat → Nat} {L : List (Nat × Nat × Nat × Nat)} (hC : z_cls Z h ad σ) (hf : z_found h ad L NG) (h1 : ¬ zix x L.length = true) : z_J Z mX5_checkNeed (zR 6 82 1 6) 0 0 (z_eq (.inr eI) h) 0 [.ref (ad 1), .int x] [] h := by
  have a := zix_no h1
  obtain ⟨NM, NP, NV, ND, GR, ⟨⟨b1, b2, b3, b4, b5, b6, k0, -⟩, -⟩, -⟩ := id hf
  refine iX5_checkNeed_0 rfl ?_
  refine iX5_checkNeed_1 (fun c => ?_) (fun c => ?_)
  · exact iX5_checkNeed_15 (Nat.le_of_ble_eq_true rfl) (Nat.le_of_ble_eq_true rfl) (Nat.le_of_ble_eq_true rfl) (Nat.le_of_ble_eq_true rfl) ⟨rfl, rfl⟩
  · have c1 := i_nlt.mp c
    refine iX5_checkNeed_4 rfl ?_
    refine iX5_checkNeed_6 hC.2.1 rfl ?_
    refine iX5_checkNeed_9 k0 rfl ?_
    refine iX5_checkNeed_12 (fun c => ?_) (fun c => ?_)
    · exact absurd ⟨c1, c⟩ a
    · exact iX5_checkNeed_15 (Nat.le_of_ble_eq_true rfl) (Nat.le_of_ble_eq_true rfl) (Nat.le_of_ble_eq_true rfl) (Nat.le_of_ble_eq_true rfl) ⟨rfl, rfl⟩
theorem c_X5_need {d k : Int32} (H : z_world Z h ad σ) : z_J Z mX5_need (zR 8 124 2 12) 0 0 (z_res Z h ad [eA, eI] (f_need σ d k)) 0 [.ref (ad 1), .int d, .int k] [] h := by
  have k1 := H.1.2.1
  unfold f_need
  by_cases c1 : zin d 0 720 = true
  rotate_left
  · rw [if_neg c1]
    refine iX5_need_0 rfl ?_
    refine iX5_need_1 (R' := zR 7 104 1 6) rfl rfl (z_rmo rfl) (c_X5_checkDay_x c1) z_er (z_ex ?_)
    exact z_out rfl (Nat.le_of_ble_eq_true rfl) (Nat.le_of_ble_eq_true rfl) (z_res_x H _ 1 0)
  rw [if_pos c1]
  obtain ⟨D, rfl, d1, d2⟩ := zin_e c1
  rw [zn_nI (d := D) (by omega)]
  refine iX5_need_0 rfl ?_
  refine iX5_need_1 (R' := zR 7 104 1 6) rfl rfl (z_rmo rfl) (c_X5_checkDay c1) (z_qr ?_) z_qx
  refine iX5_need_4 rfl ?_
  refine iX5_need_6 (R' := zR 3 64 0 0) rfl rfl k1 (z_rmo rfl) (c_X5_find H (d := D) (by omega)) (fun v h' w => ?_) (fun E h' w => ?_)
  · obtain ⟨w1, ⟨NG, w2⟩, w3⟩ := w
    cases w1
    have W := H.found w2 w3
    obtain ⟨NM, NP, NV, ND, GR, ⟨⟨a1, a2, a3, a4, a5, a6, k0, k7, k8, k9, k10, k11, k12⟩, hc, hB⟩, hA⟩ := id w2
    unfold z_arr at k7 k8 k9 k10
    by_cases c2 : zix k (s_all σ D).length = true
    rotate_left
    · rw [if_neg c2]
      refine iX5_need_9 rfl ?_
      refine iX5_need_11 (R' := zR 6 82 1 6) rfl rfl W.1.2.1 (z_rmo rfl) (c_X5_checkNeed_x W.1 w2 c2) z_er (z_ex ?_)
      exact z_out rfl (Nat.le_of_ble_eq_true rfl) (Nat.le_of_ble_eq_true rfl) ⟨rfl, w3.wide (by omega) (by omega), ad, rfl, W⟩
    rw [if_pos c2]
    have hch := c_X5_checkNeed W.1 w2 c2
    obtain ⟨K, rfl, b1⟩ := zix_e c2
    rw [zn_nI (d := K) (by omega)]
    obtain ⟨e1, e2, e3, e4⟩ := hA.at b1
    have hBK := hB K
    refine iX5_need_9 rfl ?_
    refine iX5_need_11 (R' := zR 6 82 1 6) rfl rfl W.1.2.1 (z_rmo rfl) (hch) (z_qr ?_) z_qx
    refine iX5_need_14 rfl ?_
    refine iX5_need_17 W.1.2.1 rfl ?_
    refine iX5_need_20 k0 rfl ?_
    refine iX5_need_23 rfl ?_
    refine iX5_need_24 k7 rfl (by omega) (by omega) ?_
    refine iX5_need_25 rfl ?_
    refine iX5_need_29 W.1.2.1 rfl ?_
    refine iX5_need_32 k0 rfl ?_
    refine iX5_need_35 rfl ?_
    refine iX5_need_36 k8 rfl (by omega) (by omega) ?_
    refine iX5_need_37 rfl ?_
    refine iX5_need_40 W.1.2.1 rfl ?_
    refine iX5_need_43 k0 rfl ?_
    refine iX5_need_46 rfl ?_
    refine iX5_need_47 k9 rfl (by omega) (by omega) ?_
    refine iX5_need_48 rfl ?_
    refine iX5_need_49 (Nat.le_of_ble_eq_true rfl) (Nat.le_of_ble_eq_true rfl) ⟨?_, w3.wide (by omega) (by omega), ad, rfl, W⟩
    show Sum.inl (some (Value.int (nI 100 * nI (NM K) + nI 10 * nI (NP K) + nI (NV K)))) = Sum.inl (some (Value.int (nI (100 * (t_q (s_all σ D) K).1 + 10 * (t_q (s_all σ D) K).2.1 + (t_q (s_all σ D) K).2.2.1))))
    rw [pk_mul, pk_mul, nI_add, nI_add, e1, e2, e3]
  · cases w.1
theorem c_X5_demand {d k : Int32} (H : z_world Z h ad σ) : z_J Z mX5_demand (zR 8 124 2 12) 0 0 (z_res Z h ad [eA, eI] (f_demand σ d k)) 0 [.ref (ad 1), .int d, .int k] [] h := by
  have k1 := H.1.2.1
  unfold f_demand
  by_cases c1 : zin d 0 720 = true
  rotate_left
  · rw [if_neg c1]
    refine iX5_demand_0 rfl ?_
    refine iX5_demand_1 (R' := zR 7 104 1 6) rfl rfl (z_rmo rfl) (c_X5_checkDay_x c1) z_er (z_ex ?_)
    exact z_out rfl (Nat.le_of_ble_eq_true rfl) (Nat.le_of_ble_eq_true rfl) (z_res_x H _ 1 0)
  rw [if_pos c1]
  obtain ⟨D, rfl, d1, d2⟩ := zin_e c1
  rw [zn_nI (d := D) (by omega)]
  refine iX5_demand_0 rfl ?_
  refine iX5_demand_1 (R' := zR 7 104 1 6) rfl rfl (z_rmo rfl) (c_X5_checkDay c1) (z_qr ?_) z_qx
  refine iX5_demand_4 rfl ?_
  refine iX5_demand_6 (R' := zR 3 64 0 0) rfl rfl k1 (z_rmo rfl) (c_X5_find H (d := D) (by omega)) (fun v h' w => ?_) (fun E h' w => ?_)
  · obtain ⟨w1, ⟨NG, w2⟩, w3⟩ := w
    cases w1
    have W := H.found w2 w3
    obtain ⟨NM, NP, NV, ND, GR, ⟨⟨a1, a2, a3, a4, a5, a6, k0, k7, k8, k9, k10, k11, k12⟩, hc, hB⟩, hA⟩ := id w2
    unfold z_arr at k7 k8 k9 k10
    by_cases c2 : zix k (s_all σ D).length = true
    rotate_left
    · rw [if_neg c2]
      refine iX5_demand_9 rfl ?_
      refine iX5_demand_11 (R' := zR 6 82 1 6) rfl rfl W.1.2.1 (z_rmo rfl) (c_X5_checkNeed_x W.1 w2 c2) z_er (z_ex ?_)
      exact z_out rfl (Nat.le_of_ble_eq_true rfl) (Nat.le_of_ble_eq_true rfl) ⟨rfl, w3.wide (by omega) (by omega), ad, rfl, W⟩
    rw [if_pos c2]
    have hch := c_X5_checkNeed W.1 w2 c2
    obtain ⟨K, rfl, b1⟩ := zix_e c2
    rw [zn_nI (d := K) (by omega)]
    obtain ⟨e1, e2, e3, e4⟩ := hA.at b1
    refine iX5_demand_9 rfl ?_
    refine iX5_demand_11 (R' := zR 6 82 1 6) rfl rfl W.1.2.1 (z_rmo rfl) (hch) (z_qr ?_) z_qx
    refine iX5_demand_14 rfl ?_
    refine iX5_demand_15 W.1.2.1 rfl ?_
    refine iX5_demand_18 k0 rfl ?_
    refine iX5_demand_21 rfl ?_
    refine iX5_demand_22 k10 rfl (by omega) (by omega) ?_
    exact iX5_demand_23 (Nat.le_of_ble_eq_true rfl) (Nat.le_of_ble_eq_true rfl) ⟨by rw [e4]; rfl, w3.wide (by omega) (by omega), ad, rfl, W⟩
  · cases w.1
end ZFace7
