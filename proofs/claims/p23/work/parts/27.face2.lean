/-! ===== rights ===== -/
def f_addRight (σ : zSt) (p v u f l : Int32) : zAn :=
  if (zin p 1 31 && zin v 1 9 && zin u 1 100 && zin f 0 720 && (decide (f ≤ l) && decide (l ≤ nI 720))) = true then
    if 10 ≤ s_nR σ then (2, 0, σ)
    else (0, nI (s_nR σ), ((s_nR σ + 1, nu (s_RP σ) (s_nR σ) (zn p), nu (s_RF σ) (s_nR σ) (zn f), nu (s_RL σ) (s_nR σ) (zn l), nu (s_RV σ) (s_nR σ) (zn v), nu (s_RU σ) (s_nR σ) (zn u)), σ.2))
  else (1, 0, σ)
def f_upgrade (σ : zSt) (r v : Int32) : zAn :=
  if zix r (s_nR σ) = true then
    if zin v 1 9 = true then
      if zn v ≤ s_RV σ (zn r) then (3, 0, σ)
      else (0, nI (s_RV σ (zn r)), ((s_nR σ, s_RP σ, s_RF σ, s_RL σ, nu (s_RV σ) (zn r) (zn v), s_RU σ), σ.2))
    else (2, 0, σ)
  else (1, 0, σ)
def f_setUnits (σ : zSt) (r u : Int32) : zAn :=
  if zix r (s_nR σ) = true then
    if zin u 0 100 = true then (0, nI (s_RU σ (zn r)), ((s_nR σ, s_RP σ, s_RF σ, s_RL σ, s_RV σ, nu (s_RU σ) (zn r) (zn u)), σ.2))
    else (2, 0, σ)
  else (1, 0, σ)
section ZFace2
variable {Z : zZ} {h : zH} {ad : Nat → Nat} {σ : zSt} {Q : zO → zH → Prop}
/-- only the rights' own cells have changed, and where they are -/
theorem z_cls_rights {h' : zH} {ad' : Nat → Nat} {R : Nat × (Nat → Nat) × (Nat → Nat) × (Nat → Nat) × (Nat → Nat) × (Nat → Nat)} (H : z_cls Z h ad σ) (hk : ∀ x, (x ≤ 1 ∨ (4 ≤ x ∧ x < 200) ∨ 300 ≤ x) → h' x = h x) (had : ∀ x, (x < 200 ∨ 300 ≤ x) → ad' x = ad x)
    (hR : (R.1 ≤ 10 ∧ ∀ i, R.2.1 i < 32 ∧ R.2.2.1 i ≤ 720 ∧ R.2.2.2.1 i ≤ 720 ∧ R.2.2.2.2.1 i ≤ 9 ∧ R.2.2.2.2.2 i ≤ 100)) (h2 : z_list Z h' 2 (ad' 2) R.1 (fun i => ad' (200 + i))) (h3 : ∀ i, i < R.1 → z_right h' (200 + i) (ad' (200 + i)) (R.2.1 i) (R.2.2.1 i) (R.2.2.2.1 i) (R.2.2.2.2.1 i) (R.2.2.2.2.2 i)) : z_cls Z h' ad' (R, σ.2) := by
  obtain ⟨⟨-, ho2⟩, k1, -, ⟨k4, k5, k6, k7⟩, k8⟩ := H
  refine ⟨⟨hR, ho2⟩, ?_, ⟨h2, h3⟩, ⟨?_, fun j hj => ?_, fun j hj => ?_, fun q hq => ?_⟩, ?_⟩
  · rw [hk _ (by omega), had _ (by omega), had _ (by omega), had _ (by omega), had _ (by omega), had _ (by omega), had _ (by omega)]; exact k1
  · have e : (fun j => ad' (300 + j)) = (fun j => ad (300 + j)) := by funext j; rw [had _ (by omega)]
    rw [had _ (by omega), e]
    exact k4.kept (hk _ (by omega)) (hk _ (by omega))
  · have := k5 j hj
    unfold z_mach at this ⊢
    have e : m_hv ad' (s_MH σ j) = m_hv ad (s_MH σ j) := by
      unfold m_hv
      split
      · rfl
      · rw [had _ (by omega)]
    rw [hk _ (by omega), had _ (by omega), had _ (by omega)]
    show _ = some (ad (300 + j), Sum.inr (3, [_, m_hv ad' (s_MH σ j), _, _, _]))
    rw [e]
    exact this
  · obtain ⟨e, e1, e2⟩ := k6 j hj
    exact ⟨e, by rw [hk _ (by omega), had _ (by omega)]; exact e1, fun p hp => by rw [had _ (by omega)]; exact e2 p hp⟩
  · rw [had _ (by omega)]
    exact (k7 q hq).kept (fun x _ _ => hk x (by omega))
  · rw [hk _ (by omega), had _ (by omega)]; exact k8
theorem z_scr_ad {ad' : Nat → Nat} (H : z_scr h ad) (had : ∀ x, x < 200 → ad' x = ad x) : z_scr h ad' := by
  obtain ⟨⟨c, NM, NP, NV, ND, NG, GR, h1⟩, s, GS, UL, GV, q, ⟨k0, ⟨eo, ko, ko2⟩, k16, k17, k18, k19, k20, kr⟩, h3⟩ := H
  refine ⟨⟨c, NM, NP, NV, ND, NG, GR, by rw [had _ (by omega)]; exact h1⟩, s, GS, UL, GV, q, ⟨?_, ⟨eo, by rw [had _ (by omega)]; exact ko, fun i hi => by rw [had _ (by omega)]; exact ko2 i hi⟩, by rw [had _ (by omega)]; exact k16, by rw [had _ (by omega)]; exact k17, by rw [had _ (by omega)]; exact k18, by rw [had _ (by omega)]; exact k19, by rw [had _ (by omega)]; exact k20, fun i hi => by rw [had _ (by omega)]; exact kr i hi⟩, h3⟩
  rw [had _ (by omega), had _ (by omega), had _ (by omega), had _ (by omega), had _ (by omega), had _ (by omega), had _ (by omega)]; exact k0
theorem c_X5_rights (H : z_world Z h ad σ) : z_J Z mX5_rights (zR 1 20 0 0) 0 0 (z_res Z h ad [] (0, nI (s_nR σ), σ)) 0 [.ref (ad 1)] [] h := by
  obtain ⟨hok, k1, ⟨h2, h3⟩, -, -⟩ := id H.1
  obtain ⟨x1, x2, hl⟩ := h2.obj
  refine iX5_rights_0 rfl ?_
  refine iX5_rights_1 k1 rfl ?_
  refine iX5_rights_4 (R' := zR 0 0 0 0) rfl rfl hl (z_rmo rfl) (c_Jx4a65c_size h2) (z_qr ?_) z_qx
  exact iX5_rights_7 (Nat.le_of_ble_eq_true rfl) (Nat.le_of_ble_eq_true rfl) (z_res_x H [] 0 _)
theorem c_X5_machines (H : z_world Z h ad σ) : z_J Z mX5_machines (zR 1 20 0 0) 0 0 (z_res Z h ad [] (0, nI (s_nM σ), σ)) 0 [.ref (ad 1)] [] h := by
  obtain ⟨hok, k1, -, ⟨h2, -⟩, -⟩ := id H.1
  obtain ⟨x1, x2, hl⟩ := h2.obj
  refine iX5_machines_0 rfl ?_
  refine iX5_machines_1 k1 rfl ?_
  refine iX5_machines_4 (R' := zR 0 0 0 0) rfl rfl hl (z_rmo rfl) (c_Jx4a65c_size h2) (z_qr ?_) z_qx
  exact iX5_machines_7 (Nat.le_of_ble_eq_true rfl) (Nat.le_of_ble_eq_true rfl) (z_res_x H [] 0 _)
theorem c_X5_upgrade {r v : Int32} (H : z_world Z h ad σ) : z_J Z mX5_upgrade (zR 7 104 3 18) 0 0 (z_res Z h ad [eI, eA, eS] (f_upgrade σ r v)) 0 [.ref (ad 1), .int r, .int v] [] h := by
  obtain ⟨hok, k1, ⟨h2, h3⟩, -, -⟩ := id H.1
  have hn10 := hok.1.1
  unfold f_upgrade
  by_cases c1 : zix r (s_nR σ) = true
  · rw [if_pos c1]
    obtain ⟨b1, b2⟩ := zix_t c1 (by have := hok.1.1; omega)
    have hr := h3 (zn r) b1
    have hb := hok.1.2 (zn r)
    unfold z_right at hr
    by_cases c2 : zin v 1 9 = true
    · rw [if_pos c2]
      obtain ⟨d1, d2, d3⟩ := zin_t c2
      refine iX5_upgrade_0 rfl ?_
      refine iX5_upgrade_2 (R' := zR 6 82 1 6) rfl rfl k1 (z_rmo rfl) (c_X5_rightOf H.1 c1) (z_qr ?_) z_qx
      refine iX5_upgrade_5 rfl ?_
      refine iX5_upgrade_10 (R' := zR 6 82 1 6) rfl rfl (z_rmo rfl) (c_X5_checkArgument (zin_ok c2).1 (zin_ok c2).2) (z_qr ?_) z_qx
      refine iX5_upgrade_13 rfl ?_
      refine iX5_upgrade_14 hr rfl ?_
      refine iX5_upgrade_17 rfl ?_
      refine iX5_upgrade_22 (fun c => ?_) (fun c => ?_)
      · rw [d3] at c
        have c3 := n_lt c
        rw [if_neg (by omega)]
        refine iX5_upgrade_35 rfl ?_
        rw [d3]
        have d4 : zn (nI (zn v)) = zn v := by rw [← d3]
        refine iX5_upgrade_37 hr rfl ?_
        refine iX5_upgrade_40 rfl ?_
        refine iX5_upgrade_42 (Nat.le_of_ble_eq_true rfl) (Nat.le_of_ble_eq_true rfl) ⟨rfl, z_same.rf.u (by omega) (by omega), ad, rfl, z_cls_rights H.1 (fun x hx => z_u_n (by omega)) (fun _ _ => rfl) ⟨hok.1.1, fun i => ?_⟩ (h2.kept (z_u_n (by omega)) (z_u_n (by omega))) (fun i hi => ?_), H.2.kept (fun x _ _ => z_u_n (by omega))⟩
        · have hi := hok.1.2 i
          refine ⟨hi.1, hi.2.1, hi.2.2.1, ?_, hi.2.2.2.2⟩
          show nu (s_RV σ) (zn r) (zn (nI (zn v))) i ≤ 9
          rw [d4]
          unfold nu
          split
          · exact d2
          · exact hi.2.2.2.1
        · show z_right _ _ _ _ _ _ (nu (s_RV σ) (zn r) (zn (nI (zn v))) i) _
          rw [d4]
          by_cases e : i = zn r
          · subst e
            rw [nu_s]
            exact z_u_s
          · rw [nu_n e]
            have := h3 i hi
            unfold z_right at this ⊢
            rw [z_u_n (by omega)]
            exact this
      · rw [d3] at c
        have c3 := n_nlt c
        rw [if_pos (by omega)]
        exact iX5_upgrade_25 (Nat.le_of_ble_eq_true rfl) (Nat.le_of_ble_eq_true rfl) (Nat.le_of_ble_eq_true rfl) (Nat.le_of_ble_eq_true rfl) (z_res_x H _ 3 0)
    · rw [if_neg c2]
      refine iX5_upgrade_0 rfl ?_
      refine iX5_upgrade_2 (R' := zR 6 82 1 6) rfl rfl k1 (z_rmo rfl) (c_X5_rightOf H.1 c1) (z_qr ?_) z_qx
      refine iX5_upgrade_5 rfl ?_
      refine iX5_upgrade_10 (R' := zR 6 82 1 6) rfl rfl (z_rmo rfl) (c_X5_checkArgument_x (zin_no c2)) z_er (z_ex ?_)
      exact z_out rfl (Nat.le_of_ble_eq_true rfl) (Nat.le_of_ble_eq_true rfl) (z_res_x H _ 2 0)
  · rw [if_neg c1]
    refine iX5_upgrade_0 rfl ?_
    refine iX5_upgrade_2 (R' := zR 6 82 1 6) rfl rfl k1 (z_rmo rfl) (c_X5_rightOf_x H.1 c1) z_er (z_ex ?_)
    exact z_out rfl (Nat.le_of_ble_eq_true rfl) (Nat.le_of_ble_eq_true rfl) (z_res_x H _ 1 0)
theorem c_X5_setUnits {r v : Int32} (H : z_world Z h ad σ) : z_J Z mX5_setUnits (zR 7 104 2 12) 0 0 (z_res Z h ad [eI, eA] (f_setUnits σ r v)) 0 [.ref (ad 1), .int r, .int v] [] h := by
  obtain ⟨hok, k1, ⟨h2, h3⟩, -, -⟩ := id H.1
  have hn10 := hok.1.1
  unfold f_setUnits
  by_cases c1 : zix r (s_nR σ) = true
  · rw [if_pos c1]
    obtain ⟨b1, b2⟩ := zix_t c1 (by have := hok.1.1; omega)
    have hr := h3 (zn r) b1
    unfold z_right at hr
    by_cases c2 : zin v 0 100 = true
    · rw [if_pos c2]
      obtain ⟨d1, d2, d3⟩ := zin_t c2
      refine iX5_setUnits_0 rfl ?_
      refine iX5_setUnits_2 (R' := zR 6 82 1 6) rfl rfl k1 (z_rmo rfl) (c_X5_rightOf H.1 c1) (z_qr ?_) z_qx
      refine iX5_setUnits_5 rfl ?_
      refine iX5_setUnits_10 (R' := zR 6 82 1 6) rfl rfl (z_rmo rfl) (c_X5_checkArgument (zin_ok c2).1 (zin_ok c2).2) (z_qr ?_) z_qx
      refine iX5_setUnits_13 rfl ?_
      refine iX5_setUnits_14 hr rfl ?_
      refine iX5_setUnits_17 rfl ?_
      rw [d3]
      have d4 : zn (nI (zn v)) = zn v := by rw [← d3]
      refine iX5_setUnits_21 hr rfl ?_
      refine iX5_setUnits_24 rfl ?_
      refine iX5_setUnits_26 (Nat.le_of_ble_eq_true rfl) (Nat.le_of_ble_eq_true rfl) ⟨rfl, z_same.rf.u (by omega) (by omega), ad, rfl, z_cls_rights H.1 (fun x hx => z_u_n (by omega)) (fun _ _ => rfl) ⟨hok.1.1, fun i => ?_⟩ (h2.kept (z_u_n (by omega)) (z_u_n (by omega))) (fun i hi => ?_), H.2.kept (fun x _ _ => z_u_n (by omega))⟩
      · have hi := hok.1.2 i
        refine ⟨hi.1, hi.2.1, hi.2.2.1, hi.2.2.2.1, ?_⟩
        show nu (s_RU σ) (zn r) (zn (nI (zn v))) i ≤ 100
        rw [d4]
        unfold nu
        split
        · exact d2
        · exact hi.2.2.2.2
      · show z_right _ _ _ _ _ _ _ (nu (s_RU σ) (zn r) (zn (nI (zn v))) i)
        rw [d4]
        by_cases e : i = zn r
        · subst e
          rw [nu_s]
          exact z_u_s
        · rw [nu_n e]
          have := h3 i hi
          unfold z_right at this ⊢
          rw [z_u_n (by omega)]
          exact this
    · rw [if_neg c2]
      refine iX5_setUnits_0 rfl ?_
      refine iX5_setUnits_2 (R' := zR 6 82 1 6) rfl rfl k1 (z_rmo rfl) (c_X5_rightOf H.1 c1) (z_qr ?_) z_qx
      refine iX5_setUnits_5 rfl ?_
      refine iX5_setUnits_10 (R' := zR 6 82 1 6) rfl rfl (z_rmo rfl) (c_X5_checkArgument_x (zin_no c2)) z_er (z_ex ?_)
      exact z_out rfl (Nat.le_of_ble_eq_true rfl) (Nat.le_of_ble_eq_true rfl) (z_res_x H _ 2 0)
  · rw [if_neg c1]
    refine iX5_setUnits_0 rfl ?_
    refine iX5_setUnits_2 (R' := zR 6 82 1 6) rfl rfl k1 (z_rmo rfl) (c_X5_rightOf_x H.1 c1) z_er (z_ex ?_)
    exact z_out rfl (Nat.le_of_ble_eq_true rfl) (Nat.le_of_ble_eq_true rfl) (z_res_x H _ 1 0)
end ZFace2
