/-! ===== setCores, tellApart, setCoresOfUnit ===== -/
def f_setCores (σ : zSt) (m c : Int32) : zAn :=
  if zix m (s_nM σ) = true then
    if zin c 1 64 = true then (0, nI (s_MC σ (zn m)), (σ.1, (s_nM σ, nu (s_MC σ) (zn m) (zn c), s_MH σ, s_MA σ), σ.2.2))
    else (2, 0, σ)
  else (1, 0, σ)
def nub (f : Nat → Bool) (n : Nat) (b : Bool) : Nat → Bool := fun i => if i = n then b else f i
theorem nub_s {f : Nat → Bool} {k : Nat} {x : Bool} : nub f k x k = x := if_pos rfl
theorem nub_n {f : Nat → Bool} {k j : Nat} {x : Bool} (h : j ≠ k) : nub f k x j = f j := if_neg h
def f_tellApart (σ : zSt) (m : Int32) (b : Bool) : zAn :=
  if zix m (s_nM σ) = true then (0, nI (m_by (s_MH σ) (nub (s_MA σ) (zn m) b) 8 (zn m)), (σ.1, (s_nM σ, s_MC σ, s_MH σ, nub (s_MA σ) (zn m) b), σ.2.2))
  else (1, 0, σ)
def f_setCoresOfUnit (σ : zSt) (p c : Int32) : zAn :=
  if zix p 5 = true then
    if zin c 1 16 = true then (0, nI (s_CU σ (zn p)), (σ.1, σ.2.1, σ.2.2.1, nu (s_CU σ) (zn p) (zn c)))
    else (2, 0, σ)
  else (1, 0, σ)
section ZFace4
variable {Z : zZ} {h : zH} {ad : Nat → Nat} {σ : zSt} {Q : zO → zH → Prop}
/-- only the machines' own cells have changed -/
theorem z_cls_machs {h' : zH} {MC : Nat → Nat} {MA : Nat → Bool} (H : z_cls Z h ad σ) (hk : ∀ x, (x < 300 ∨ 308 ≤ x) → h' x = h x) (hc : ∀ j, MC j ≤ 64) (hm : z_machs h' ad (s_nM σ) MC (s_MH σ) MA) : z_cls Z h' ad (σ.1, (s_nM σ, MC, s_MH σ, MA), σ.2.2) := by
  obtain ⟨⟨ho1, ho2, -, ho3⟩, k1, ⟨k2, k3⟩, ⟨k4, k5, k6, k7⟩, k8⟩ := H
  have hn : s_nM σ ≤ 8 := ho2.1
  have hn10 : s_nR σ ≤ 10 := ho1.1
  refine ⟨⟨ho1, ho2, hc, ho3⟩, ?_, ⟨k2.kept (hk _ (by omega)) (hk _ (by omega)), fun i hi => ?_⟩, ⟨k4.kept (hk _ (by omega)) (hk _ (by omega)), hm, fun j hj => ?_, fun q hq => (k7 q hq).kept (fun x _ _ => hk x (by omega))⟩, ?_⟩
  · rw [hk _ (by omega)]; exact k1
  · have hi : i < s_nR σ := hi
    have := k3 i hi
    unfold z_right at this ⊢
    rw [hk _ (by omega)]; exact this
  · obtain ⟨e, e1, e2⟩ := k6 j hj
    exact ⟨e, by rw [hk _ (by omega)]; exact e1, e2⟩
  · rw [hk _ (by omega)]; exact k8
theorem c_X5_setCores {m v : Int32} (H : z_world Z h ad σ) : z_J Z mX5_setCores (zR 7 104 2 12) 0 0 (z_res Z h ad [eI, eA] (f_setCores σ m v)) 0 [.ref (ad 1), .int m, .int v] [] h := by
  obtain ⟨hok, k1, -, ⟨h2, h3, -⟩, -⟩ := id H.1
  have hn8 := hok.2.1.1
  unfold f_setCores
  by_cases c1 : zix m (s_nM σ) = true
  · rw [if_pos c1]
    obtain ⟨M, rfl, b1⟩ := zix_e c1
    have b2 : zn (nI M) = M := zn_nI (by omega)
    have hr := h3 M b1
    unfold z_mach at hr
    have hc := c_X5_machineOf H.1 c1
    rw [b2] at hc ⊢
    by_cases c2 : zin v 1 64 = true
    · rw [if_pos c2]
      obtain ⟨V, rfl, d1, d2⟩ := zin_e c2
      rw [zn_nI (d := V) (by omega)]
      refine iX5_setCores_0 rfl ?_
      refine iX5_setCores_2 (R' := zR 6 82 1 6) rfl rfl k1 (z_rmo rfl) (hc) (z_qr ?_) z_qx
      refine iX5_setCores_5 rfl ?_
      refine iX5_setCores_10 (R' := zR 6 82 1 6) rfl rfl (z_rmo rfl) (c_X5_checkArgument (zin_ok c2).1 (zin_ok c2).2) (z_qr ?_) z_qx
      refine iX5_setCores_13 rfl ?_
      refine iX5_setCores_14 hr rfl ?_
      refine iX5_setCores_17 rfl ?_
      refine iX5_setCores_21 hr rfl ?_
      refine iX5_setCores_24 rfl ?_
      refine iX5_setCores_26 (Nat.le_of_ble_eq_true rfl) (Nat.le_of_ble_eq_true rfl) ⟨rfl, z_same.rf.u (by omega) (by omega), ad, rfl, z_cls_machs H.1 (fun x hx => z_u_n (by omega)) (fun j => ?_) (fun j hj => ?_), H.2.kept (fun x _ _ => z_u_n (by omega))⟩
      · unfold nu
        have := hok.2.2.1 j
        split <;> omega
      · by_cases e : j = M
        · subst e
          rw [nu_s]
          exact z_u_s
        · rw [nu_n e]
          have := h3 j hj
          unfold z_mach at this ⊢
          rw [z_u_n (by omega)]
          exact this
    · rw [if_neg c2]
      refine iX5_setCores_0 rfl ?_
      refine iX5_setCores_2 (R' := zR 6 82 1 6) rfl rfl k1 (z_rmo rfl) (hc) (z_qr ?_) z_qx
      refine iX5_setCores_5 rfl ?_
      refine iX5_setCores_10 (R' := zR 6 82 1 6) rfl rfl (z_rmo rfl) (c_X5_checkArgument_x (zin_no c2)) z_er (z_ex ?_)
      exact z_out rfl (Nat.le_of_ble_eq_true rfl) (Nat.le_of_ble_eq_true rfl) (z_res_x H _ 2 0)
  · rw [if_neg c1]
    refine iX5_setCores_0 rfl ?_
    refine iX5_setCores_2 (R' := zR 6 82 1 6) rfl rfl k1 (z_rmo rfl) (c_X5_machineOf_x H.1 c1) z_er (z_ex ?_)
    exact z_out rfl (Nat.le_of_ble_eq_true rfl) (Nat.le_of_ble_eq_true rfl) (z_res_x H _ 1 0)
theorem c_X5_tellApart {m : Int32} {b : Bool} (H : z_world Z h ad σ) : z_J Z mX5_tellApart (zR 7 103 1 6) 0 0 (z_res Z h ad [eI] (f_tellApart σ m b)) 0 [.ref (ad 1), .int m, .int (zb b)] [] h := by
  obtain ⟨hok, k1, -, ⟨h2, h3, -⟩, -⟩ := id H.1
  have hn8 := hok.2.1.1
  unfold f_tellApart
  by_cases c1 : zix m (s_nM σ) = true
  · rw [if_pos c1]
    obtain ⟨M, rfl, b1⟩ := zix_e c1
    have b2 : zn (nI M) = M := zn_nI (by omega)
    have hr := h3 M b1
    unfold z_mach at hr
    have hc := c_X5_machineOf H.1 c1
    rw [b2] at hc ⊢
    have hm : z_machs (z_u h (300 + M) (ad (300 + M), .inr (3, [.int (nI M), m_hv ad (s_MH σ M), .ref (ad (310 + M)), .int (nI (s_MC σ M)), .int (zb b)]))) ad (s_nM σ) (s_MC σ) (s_MH σ) (nub (s_MA σ) M b) := fun j hj => by
      by_cases e : j = M
      · subst e
        rw [nub_s]
        exact z_u_s
      · rw [nub_n e]
        have := h3 j hj
        unfold z_mach at this ⊢
        rw [z_u_n (by omega)]
        exact this
    refine iX5_tellApart_0 rfl ?_
    refine iX5_tellApart_2 (R' := zR 6 82 1 6) rfl rfl k1 (z_rmo rfl) (hc) (z_qr ?_) z_qx
    refine iX5_tellApart_5 rfl ?_
    refine iX5_tellApart_8 hr (zb_nar b) (by cases b <;> rfl) rfl ?_
    refine iX5_tellApart_11 rfl ?_
    refine iX5_tellApart_12 (R' := zR 0 0 0 0) rfl rfl z_u_s (z_rmo rfl) (c_X2_countsBy hm hok.2.1 b1) (z_qr ?_) z_qx
    refine iX5_tellApart_15 (Nat.le_of_ble_eq_true rfl) (Nat.le_of_ble_eq_true rfl) ⟨rfl, z_same.rf.u (by omega) (by omega), ad, rfl, z_cls_machs H.1 (fun x hx => z_u_n (by omega)) hok.2.2.1 hm, H.2.kept (fun x _ _ => z_u_n (by omega))⟩
  · rw [if_neg c1]
    refine iX5_tellApart_0 rfl ?_
    refine iX5_tellApart_2 (R' := zR 6 82 1 6) rfl rfl k1 (z_rmo rfl) (c_X5_machineOf_x H.1 c1) z_er (z_ex ?_)
    exact z_out rfl (Nat.le_of_ble_eq_true rfl) (Nat.le_of_ble_eq_true rfl) (z_res_x H _ 1 0)
theorem c_X5_setCoresOfUnit {p v : Int32} (H : z_world Z h ad σ) : z_J Z mX5_setCoresOfUnit (zR 7 104 2 12) 0 0 (z_res Z h ad [eI, eA] (f_setCoresOfUnit σ p v)) 0 [.ref (ad 1), .int p, .int v] [] h := by
  obtain ⟨hok, k1, k23, k4, k6⟩ := id H.1
  unfold f_setCoresOfUnit
  by_cases c1 : zix p 5 = true
  · rw [if_pos c1]
    obtain ⟨P, rfl, b1⟩ := zix_e c1
    have b2 : zn (nI P) = P := zn_nI (by omega)
    rw [b2]
    by_cases c2 : zin v 1 16 = true
    · rw [if_pos c2]
      obtain ⟨V, rfl, d1, d2⟩ := zin_e c2
      rw [zn_nI (d := V) (by omega)]
      unfold z_arr at k6
      refine iX5_setCoresOfUnit_0 rfl ?_
      refine iX5_setCoresOfUnit_1 (R' := zR 6 82 1 6) rfl rfl (z_rmo rfl) (c_X5_checkProduct c1) (z_qr ?_) z_qx
      refine iX5_setCoresOfUnit_4 rfl ?_
      refine iX5_setCoresOfUnit_8 (R' := zR 6 82 1 6) rfl rfl (z_rmo rfl) (c_X5_checkArgument (zin_ok c2).1 (zin_ok c2).2) (z_qr ?_) z_qx
      refine iX5_setCoresOfUnit_11 rfl ?_
      refine iX5_setCoresOfUnit_12 k1 rfl ?_
      refine iX5_setCoresOfUnit_15 rfl ?_
      refine iX5_setCoresOfUnit_16 k6 rfl (by omega) (by omega) ?_
      refine iX5_setCoresOfUnit_17 rfl ?_
      refine iX5_setCoresOfUnit_19 k1 rfl ?_
      refine iX5_setCoresOfUnit_22 rfl ?_
      refine iX5_setCoresOfUnit_24 k6 rfl (by omega) (by omega) ?_
      refine iX5_setCoresOfUnit_25 rfl ?_
      rw [n_upd]
      refine iX5_setCoresOfUnit_26 (Nat.le_of_ble_eq_true rfl) (Nat.le_of_ble_eq_true rfl) ⟨rfl, z_same.rf.u (by omega) (by omega), ad, rfl, ?_, H.2.kept (fun x _ _ => z_u_n (by omega))⟩
      obtain ⟨h4, h5, h6, h7⟩ := k4
      obtain ⟨h2, h3⟩ := k23
      refine ⟨⟨hok.1, hok.2.1, hok.2.2.1, fun q hq5 => ?_⟩, by rw [z_u_n (by omega)]; exact k1, ⟨h2.kept (z_u_n (by omega)) (z_u_n (by omega)), fun i hi => ?_⟩, ⟨h4.kept (z_u_n (by omega)) (z_u_n (by omega)), fun j hj => ?_, fun j hj => ?_, fun q hq => (h7 q hq).kept (fun x _ _ => z_u_n (by omega))⟩, z_u_s⟩
      · have := hok.2.2.2 q hq5
        show 1 ≤ nu (s_CU σ) P V q ∧ nu (s_CU σ) P V q ≤ 16
        unfold nu
        split <;> omega
      · have := h3 i hi
        unfold z_right at this ⊢
        rw [z_u_n (by omega)]; exact this
      · have := h5 j hj
        unfold z_mach at this ⊢
        rw [z_u_n (by omega)]; exact this
      · obtain ⟨e, e1, e2⟩ := h6 j hj
        exact ⟨e, by rw [z_u_n (by omega)]; exact e1, e2⟩
    · rw [if_neg c2]
      refine iX5_setCoresOfUnit_0 rfl ?_
      refine iX5_setCoresOfUnit_1 (R' := zR 6 82 1 6) rfl rfl (z_rmo rfl) (c_X5_checkProduct c1) (z_qr ?_) z_qx
      refine iX5_setCoresOfUnit_4 rfl ?_
      refine iX5_setCoresOfUnit_8 (R' := zR 6 82 1 6) rfl rfl (z_rmo rfl) (c_X5_checkArgument_x (zin_no c2)) z_er (z_ex ?_)
      exact z_out rfl (Nat.le_of_ble_eq_true rfl) (Nat.le_of_ble_eq_true rfl) (z_res_x H _ 2 0)
  · rw [if_neg c1]
    refine iX5_setCoresOfUnit_0 rfl ?_
    refine iX5_setCoresOfUnit_1 (R' := zR 6 82 1 6) rfl rfl (z_rmo rfl) (c_X5_checkProduct_x c1) z_er (z_ex ?_)
    exact z_out rfl (Nat.le_of_ble_eq_true rfl) (Nat.le_of_ble_eq_true rfl) (z_res_x H _ 1 0)
end ZFace4
