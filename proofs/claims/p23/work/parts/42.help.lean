/-! ===== the law's helpers ===== -/
theorem gl14 : Cond.classLink "RightsCounterLaw" 14 "java/lang/IllegalArgumentException" ∈ z_G := z_g 176 (by decide +kernel) (by decide +kernel)
theorem gl16 : Cond.classLink "RightsCounterLaw" 16 "java/lang/IllegalStateException" ∈ z_G := z_g 177 (by decide +kernel) (by decide +kernel)
theorem gl22 : Cond.classLink "RightsCounterLaw" 22 "java/lang/IndexOutOfBoundsException" ∈ z_G := z_g 357 (by decide +kernel) (by decide +kernel)
section ZHelp
variable {Z : zZ} {h : zH} {a1 : Nat} {la : Nat → Nat} {σ : zSt} {x : zLx} {y : zLy} {c0 : Nat} {v0 : Int32} {σ0 : zSt}
theorem fb_addRight (σ : zSt) (p : Int32) (v : Int32) (u : Int32) (f : Int32) (l : Int32) : (f_addRight σ p v u f l).1 ≤ 2 := by
  unfold f_addRight
  repeat' split
  all_goals first | exact Nat.zero_le _ | exact Nat.le_of_ble_eq_true rfl
theorem c_L_addRight {p v u f l : Int32} (W : z_lw Z h a1 la σ x y) (e : f_addRight σ p v u f l = (c0, v0, σ0)) : z_J Z mL_addRight (zR 8 134 8 51) 0 0 (z_lr Z a1 la [-72, -73] c0 v0 σ0 x y) 0 [.ref a1, .int p, .int v, .int u, .int f, .int l] [] h := by
  obtain ⟨⟨ad, rfl, H⟩, LH⟩ := W
  have hb := fb_addRight σ p v u f l
  have hc := c_X5_addRight (Z := Z) (p := p) (v := v) (u := u) (f := f) (l := l) H
  rw [e] at hb hc
  refine iL_addRight_0 rfl ?_
  refine iL_addRight_8 (R' := zR 7 109 8 51) rfl rfl H.1.2.1 (z_rmo rfl) hc (fun v h' w => ?_) (fun e h' w => ?_)
  · obtain ⟨w1, w2, w3⟩ := w
    obtain ⟨a0, rfl⟩ := z_o_inl w1
    refine iL_addRight_11 rfl ?_
    refine iL_addRight_26 rfl ?_
    exact iL_addRight_28 (Nat.le_of_ble_eq_true rfl) (Nat.le_of_ble_eq_true rfl) ⟨by rw [l_cd, if_pos (show c0 = 0 from a0)], z_lw.next LH w2 w3⟩
  · obtain ⟨w1, w2, w3⟩ := w
    obtain ⟨a0, rfl⟩ := z_o_inr w1
    have hb : c0 ≤ 2 := hb
    have a0 : c0 ≠ 0 := a0
    rcases (show c0 = 1 ∨ c0 = 2 by omega) with rfl | rfl
    · have hE : z_JX Z mL_addRight (zR 8 134 8 51) (0 + 8) (0 + 51) (z_lr Z (ad 1) la [-72, -73] 1 v0 σ0 x y) 8 [.ref (ad 1), .int p, .int v, .int u, .int f, .int l] eA h' := z_catch (pre := []) (suf := [(0, 13, 21, 16)]) (x := (0, 13, 16, 14)) rfl (fun z hz => by cases hz) ⟨by decide, by decide⟩ (by decide) gl14 (by decide) (fun q => by
        refine z_astX (pc := 16) (nx := 18) (kk := 7) (by decide +kernel) rfl (Nat.le_of_ble_eq_true rfl) (Nat.le_of_ble_eq_true rfl) ?_
        refine z_jr (pc := 18) (e := 20) [(18, .bipush (-72), 20, -72)] (by decide +kernel) rfl ?_
        exact iL_addRight_20 (Nat.le_of_ble_eq_true rfl) (Nat.le_of_ble_eq_true rfl) ⟨rfl, z_lw.next LH w2 w3⟩)
      exact hE
    · have hE : z_JX Z mL_addRight (zR 8 134 8 51) (0 + 8) (0 + 51) (z_lr Z (ad 1) la [-72, -73] 2 v0 σ0 x y) 8 [.ref (ad 1), .int p, .int v, .int u, .int f, .int l] eS h' := z_catch (pre := [(0, 13, 16, 14)]) (suf := []) (x := (0, 13, 21, 16)) rfl (fun z hz => by
        simp only [List.mem_cons, List.mem_nil_iff, or_false] at hz
        rcases hz with rfl
        · exact ⟨by decide, _, gl14, by decide⟩) ⟨by decide, by decide⟩ (by decide) gl16 (by decide) (fun q => by
        refine z_astX (pc := 21) (nx := 23) (kk := 7) (by decide +kernel) rfl (Nat.le_of_ble_eq_true rfl) (Nat.le_of_ble_eq_true rfl) ?_
        refine z_jr (pc := 23) (e := 25) [(23, .bipush (-73), 25, -73)] (by decide +kernel) rfl ?_
        exact iL_addRight_25 (Nat.le_of_ble_eq_true rfl) (Nat.le_of_ble_eq_true rfl) ⟨rfl, z_lw.next LH w2 w3⟩)
      exact hE
theorem fb_upgrade (σ : zSt) (r : Int32) (v : Int32) : (f_upgrade σ r v).1 ≤ 3 := by
  unfold f_upgrade
  repeat' split
  all_goals first | exact Nat.zero_le _ | exact Nat.le_of_ble_eq_true rfl
theorem c_L_upgrade {r v : Int32} (W : z_lw Z h a1 la σ x y) (e : f_upgrade σ r v = (c0, v0, σ0)) : z_J Z mL_upgrade (zR 8 128 3 18) 0 0 (z_lr Z a1 la [-71, -72, -73] c0 v0 σ0 x y) 0 [.ref a1, .int r, .int v] [] h := by
  obtain ⟨⟨ad, rfl, H⟩, LH⟩ := W
  have hb := fb_upgrade σ r v
  have hc := c_X5_upgrade (Z := Z) (r := r) (v := v) H
  rw [e] at hb hc
  refine iL_upgrade_0 rfl ?_
  refine iL_upgrade_3 (R' := zR 7 104 3 18) rfl rfl H.1.2.1 (z_rmo rfl) hc (fun v h' w => ?_) (fun e h' w => ?_)
  · obtain ⟨w1, w2, w3⟩ := w
    obtain ⟨a0, rfl⟩ := z_o_inl w1
    refine iL_upgrade_6 rfl ?_
    refine iL_upgrade_25 rfl ?_
    exact iL_upgrade_26 (Nat.le_of_ble_eq_true rfl) (Nat.le_of_ble_eq_true rfl) ⟨by rw [l_cd, if_pos (show c0 = 0 from a0)], z_lw.next LH w2 w3⟩
  · obtain ⟨w1, w2, w3⟩ := w
    obtain ⟨a0, rfl⟩ := z_o_inr w1
    have hb : c0 ≤ 3 := hb
    have a0 : c0 ≠ 0 := a0
    rcases (show c0 = 1 ∨ c0 = 2 ∨ c0 = 3 by omega) with rfl | rfl | rfl
    · have hE : z_JX Z mL_upgrade (zR 8 128 3 18) (0 + 3) (0 + 18) (z_lr Z (ad 1) la [-71, -72, -73] 1 v0 σ0 x y) 3 [.ref (ad 1), .int r, .int v] eI h' := z_catch (pre := []) (suf := [(0, 7, 15, 14), (0, 7, 20, 16)]) (x := (0, 7, 10, 22)) rfl (fun z hz => by cases hz) ⟨by decide, by decide⟩ (by decide) gl22 (by decide) (fun q => by
        refine z_astX (pc := 10) (nx := 12) (kk := 4) (by decide +kernel) rfl (Nat.le_of_ble_eq_true rfl) (Nat.le_of_ble_eq_true rfl) ?_
        refine z_jr (pc := 12) (e := 14) [(12, .bipush (-71), 14, -71)] (by decide +kernel) rfl ?_
        exact iL_upgrade_14 (Nat.le_of_ble_eq_true rfl) (Nat.le_of_ble_eq_true rfl) ⟨rfl, z_lw.next LH w2 w3⟩)
      exact hE
    · have hE : z_JX Z mL_upgrade (zR 8 128 3 18) (0 + 3) (0 + 18) (z_lr Z (ad 1) la [-71, -72, -73] 2 v0 σ0 x y) 3 [.ref (ad 1), .int r, .int v] eA h' := z_catch (pre := [(0, 7, 10, 22)]) (suf := [(0, 7, 20, 16)]) (x := (0, 7, 15, 14)) rfl (fun z hz => by
        simp only [List.mem_cons, List.mem_nil_iff, or_false] at hz
        rcases hz with rfl
        · exact ⟨by decide, _, gl22, by decide⟩) ⟨by decide, by decide⟩ (by decide) gl14 (by decide) (fun q => by
        refine z_astX (pc := 15) (nx := 17) (kk := 4) (by decide +kernel) rfl (Nat.le_of_ble_eq_true rfl) (Nat.le_of_ble_eq_true rfl) ?_
        refine z_jr (pc := 17) (e := 19) [(17, .bipush (-72), 19, -72)] (by decide +kernel) rfl ?_
        exact iL_upgrade_19 (Nat.le_of_ble_eq_true rfl) (Nat.le_of_ble_eq_true rfl) ⟨rfl, z_lw.next LH w2 w3⟩)
      exact hE
    · have hE : z_JX Z mL_upgrade (zR 8 128 3 18) (0 + 3) (0 + 18) (z_lr Z (ad 1) la [-71, -72, -73] 3 v0 σ0 x y) 3 [.ref (ad 1), .int r, .int v] eS h' := z_catch (pre := [(0, 7, 10, 22), (0, 7, 15, 14)]) (suf := []) (x := (0, 7, 20, 16)) rfl (fun z hz => by
        simp only [List.mem_cons, List.mem_nil_iff, or_false] at hz
        rcases hz with rfl | rfl
        · exact ⟨by decide, _, gl22, by decide⟩
        · exact ⟨by decide, _, gl14, by decide⟩) ⟨by decide, by decide⟩ (by decide) gl16 (by decide) (fun q => by
        refine z_astX (pc := 20) (nx := 22) (kk := 4) (by decide +kernel) rfl (Nat.le_of_ble_eq_true rfl) (Nat.le_of_ble_eq_true rfl) ?_
        refine z_jr (pc := 22) (e := 24) [(22, .bipush (-73), 24, -73)] (by decide +kernel) rfl ?_
        exact iL_upgrade_24 (Nat.le_of_ble_eq_true rfl) (Nat.le_of_ble_eq_true rfl) ⟨rfl, z_lw.next LH w2 w3⟩)
      exact hE
theorem fb_setUnits (σ : zSt) (r : Int32) (v : Int32) : (f_setUnits σ r v).1 ≤ 2 := by
  unfold f_setUnits
  repeat' split
  all_goals first | exact Nat.zero_le _ | exact Nat.le_of_ble_eq_true rfl
theorem c_L_setUnits {r v : Int32} (W : z_lw Z h a1 la σ x y) (e : f_setUnits σ r v = (c0, v0, σ0)) : z_J Z mL_setUnits (zR 8 128 2 12) 0 0 (z_lr Z a1 la [-71, -72] c0 v0 σ0 x y) 0 [.ref a1, .int r, .int v] [] h := by
  obtain ⟨⟨ad, rfl, H⟩, LH⟩ := W
  have hb := fb_setUnits σ r v
  have hc := c_X5_setUnits (Z := Z) (r := r) (v := v) H
  rw [e] at hb hc
  refine iL_setUnits_0 rfl ?_
  refine iL_setUnits_3 (R' := zR 7 104 2 12) rfl rfl H.1.2.1 (z_rmo rfl) hc (fun v h' w => ?_) (fun e h' w => ?_)
  · obtain ⟨w1, w2, w3⟩ := w
    obtain ⟨a0, rfl⟩ := z_o_inl w1
    refine iL_setUnits_6 rfl ?_
    refine iL_setUnits_20 rfl ?_
    exact iL_setUnits_21 (Nat.le_of_ble_eq_true rfl) (Nat.le_of_ble_eq_true rfl) ⟨by rw [l_cd, if_pos (show c0 = 0 from a0)], z_lw.next LH w2 w3⟩
  · obtain ⟨w1, w2, w3⟩ := w
    obtain ⟨a0, rfl⟩ := z_o_inr w1
    have hb : c0 ≤ 2 := hb
    have a0 : c0 ≠ 0 := a0
    rcases (show c0 = 1 ∨ c0 = 2 by omega) with rfl | rfl
    · have hE : z_JX Z mL_setUnits (zR 8 128 2 12) (0 + 2) (0 + 12) (z_lr Z (ad 1) la [-71, -72] 1 v0 σ0 x y) 3 [.ref (ad 1), .int r, .int v] eI h' := z_catch (pre := []) (suf := [(0, 7, 15, 14)]) (x := (0, 7, 10, 22)) rfl (fun z hz => by cases hz) ⟨by decide, by decide⟩ (by decide) gl22 (by decide) (fun q => by
        refine z_astX (pc := 10) (nx := 12) (kk := 4) (by decide +kernel) rfl (Nat.le_of_ble_eq_true rfl) (Nat.le_of_ble_eq_true rfl) ?_
        refine z_jr (pc := 12) (e := 14) [(12, .bipush (-71), 14, -71)] (by decide +kernel) rfl ?_
        exact iL_setUnits_14 (Nat.le_of_ble_eq_true rfl) (Nat.le_of_ble_eq_true rfl) ⟨rfl, z_lw.next LH w2 w3⟩)
      exact hE
    · have hE : z_JX Z mL_setUnits (zR 8 128 2 12) (0 + 2) (0 + 12) (z_lr Z (ad 1) la [-71, -72] 2 v0 σ0 x y) 3 [.ref (ad 1), .int r, .int v] eA h' := z_catch (pre := [(0, 7, 10, 22)]) (suf := []) (x := (0, 7, 15, 14)) rfl (fun z hz => by
        simp only [List.mem_cons, List.mem_nil_iff, or_false] at hz
        rcases hz with rfl
        · exact ⟨by decide, _, gl22, by decide⟩) ⟨by decide, by decide⟩ (by decide) gl14 (by decide) (fun q => by
        refine z_astX (pc := 15) (nx := 17) (kk := 4) (by decide +kernel) rfl (Nat.le_of_ble_eq_true rfl) (Nat.le_of_ble_eq_true rfl) ?_
        refine z_jr (pc := 17) (e := 19) [(17, .bipush (-72), 19, -72)] (by decide +kernel) rfl ?_
        exact iL_setUnits_19 (Nat.le_of_ble_eq_true rfl) (Nat.le_of_ble_eq_true rfl) ⟨rfl, z_lw.next LH w2 w3⟩)
      exact hE
theorem fb_addMachine (σ : zSt) (c : Int32) (t : Int32) : (f_addMachine σ c t).1 ≤ 3 := by
  unfold f_addMachine f_addMachine1
  repeat' split
  all_goals first | exact Nat.zero_le _ | exact Nat.le_of_ble_eq_true rfl
theorem c_L_addMachine {c t : Int32} (W : z_lw Z h a1 la σ x y) (e : f_addMachine σ c t = (c0, v0, σ0)) : z_J Z mL_addMachine (zR 8 132 26 208) 0 0 (z_lr Z a1 la [-71, -72, -73] c0 v0 σ0 x y) 0 [.ref a1, .int c, .int t] [] h := by
  obtain ⟨⟨ad, rfl, H⟩, LH⟩ := W
  have hb := fb_addMachine σ c t
  have hc := c_X5_addMachine (Z := Z) (c := c) (t := t) H
  rw [e] at hb hc
  refine iL_addMachine_0 rfl ?_
  refine iL_addMachine_3 (R' := zR 7 109 26 208) rfl rfl H.1.2.1 (z_rmo rfl) hc (fun v h' w => ?_) (fun e h' w => ?_)
  · obtain ⟨w1, w2, w3⟩ := w
    obtain ⟨a0, rfl⟩ := z_o_inl w1
    refine iL_addMachine_6 rfl ?_
    refine iL_addMachine_25 rfl ?_
    exact iL_addMachine_26 (Nat.le_of_ble_eq_true rfl) (Nat.le_of_ble_eq_true rfl) ⟨by rw [l_cd, if_pos (show c0 = 0 from a0)], z_lw.next LH w2 w3⟩
  · obtain ⟨w1, w2, w3⟩ := w
    obtain ⟨a0, rfl⟩ := z_o_inr w1
    have hb : c0 ≤ 3 := hb
    have a0 : c0 ≠ 0 := a0
    rcases (show c0 = 1 ∨ c0 = 2 ∨ c0 = 3 by omega) with rfl | rfl | rfl
    · have hE : z_JX Z mL_addMachine (zR 8 132 26 208) (0 + 26) (0 + 208) (z_lr Z (ad 1) la [-71, -72, -73] 1 v0 σ0 x y) 3 [.ref (ad 1), .int c, .int t] eI h' := z_catch (pre := []) (suf := [(0, 7, 15, 14), (0, 7, 20, 16)]) (x := (0, 7, 10, 22)) rfl (fun z hz => by cases hz) ⟨by decide, by decide⟩ (by decide) gl22 (by decide) (fun q => by
        refine z_astX (pc := 10) (nx := 12) (kk := 4) (by decide +kernel) rfl (Nat.le_of_ble_eq_true rfl) (Nat.le_of_ble_eq_true rfl) ?_
        refine z_jr (pc := 12) (e := 14) [(12, .bipush (-71), 14, -71)] (by decide +kernel) rfl ?_
        exact iL_addMachine_14 (Nat.le_of_ble_eq_true rfl) (Nat.le_of_ble_eq_true rfl) ⟨rfl, z_lw.next LH w2 w3⟩)
      exact hE
    · have hE : z_JX Z mL_addMachine (zR 8 132 26 208) (0 + 26) (0 + 208) (z_lr Z (ad 1) la [-71, -72, -73] 2 v0 σ0 x y) 3 [.ref (ad 1), .int c, .int t] eA h' := z_catch (pre := [(0, 7, 10, 22)]) (suf := [(0, 7, 20, 16)]) (x := (0, 7, 15, 14)) rfl (fun z hz => by
        simp only [List.mem_cons, List.mem_nil_iff, or_false] at hz
        rcases hz with rfl
        · exact ⟨by decide, _, gl22, by decide⟩) ⟨by decide, by decide⟩ (by decide) gl14 (by decide) (fun q => by
        refine z_astX (pc := 15) (nx := 17) (kk := 4) (by decide +kernel) rfl (Nat.le_of_ble_eq_true rfl) (Nat.le_of_ble_eq_true rfl) ?_
        refine z_jr (pc := 17) (e := 19) [(17, .bipush (-72), 19, -72)] (by decide +kernel) rfl ?_
        exact iL_addMachine_19 (Nat.le_of_ble_eq_true rfl) (Nat.le_of_ble_eq_true rfl) ⟨rfl, z_lw.next LH w2 w3⟩)
      exact hE
    · have hE : z_JX Z mL_addMachine (zR 8 132 26 208) (0 + 26) (0 + 208) (z_lr Z (ad 1) la [-71, -72, -73] 3 v0 σ0 x y) 3 [.ref (ad 1), .int c, .int t] eS h' := z_catch (pre := [(0, 7, 10, 22), (0, 7, 15, 14)]) (suf := []) (x := (0, 7, 20, 16)) rfl (fun z hz => by
        simp only [List.mem_cons, List.mem_nil_iff, or_false] at hz
        rcases hz with rfl | rfl
        · exact ⟨by decide, _, gl22, by decide⟩
        · exact ⟨by decide, _, gl14, by decide⟩) ⟨by decide, by decide⟩ (by decide) gl16 (by decide) (fun q => by
        refine z_astX (pc := 20) (nx := 22) (kk := 4) (by decide +kernel) rfl (Nat.le_of_ble_eq_true rfl) (Nat.le_of_ble_eq_true rfl) ?_
        refine z_jr (pc := 22) (e := 24) [(22, .bipush (-73), 24, -73)] (by decide +kernel) rfl ?_
        exact iL_addMachine_24 (Nat.le_of_ble_eq_true rfl) (Nat.le_of_ble_eq_true rfl) ⟨rfl, z_lw.next LH w2 w3⟩)
      exact hE
theorem fb_setCores (σ : zSt) (m : Int32) (v : Int32) : (f_setCores σ m v).1 ≤ 2 := by
  unfold f_setCores
  repeat' split
  all_goals first | exact Nat.zero_le _ | exact Nat.le_of_ble_eq_true rfl
theorem c_L_setCores {m v : Int32} (W : z_lw Z h a1 la σ x y) (e : f_setCores σ m v = (c0, v0, σ0)) : z_J Z mL_setCores (zR 8 128 2 12) 0 0 (z_lr Z a1 la [-71, -72] c0 v0 σ0 x y) 0 [.ref a1, .int m, .int v] [] h := by
  obtain ⟨⟨ad, rfl, H⟩, LH⟩ := W
  have hb := fb_setCores σ m v
  have hc := c_X5_setCores (Z := Z) (m := m) (v := v) H
  rw [e] at hb hc
  refine iL_setCores_0 rfl ?_
  refine iL_setCores_3 (R' := zR 7 104 2 12) rfl rfl H.1.2.1 (z_rmo rfl) hc (fun v h' w => ?_) (fun e h' w => ?_)
  · obtain ⟨w1, w2, w3⟩ := w
    obtain ⟨a0, rfl⟩ := z_o_inl w1
    refine iL_setCores_6 rfl ?_
    refine iL_setCores_20 rfl ?_
    exact iL_setCores_21 (Nat.le_of_ble_eq_true rfl) (Nat.le_of_ble_eq_true rfl) ⟨by rw [l_cd, if_pos (show c0 = 0 from a0)], z_lw.next LH w2 w3⟩
  · obtain ⟨w1, w2, w3⟩ := w
    obtain ⟨a0, rfl⟩ := z_o_inr w1
    have hb : c0 ≤ 2 := hb
    have a0 : c0 ≠ 0 := a0
    rcases (show c0 = 1 ∨ c0 = 2 by omega) with rfl | rfl
    · have hE : z_JX Z mL_setCores (zR 8 128 2 12) (0 + 2) (0 + 12) (z_lr Z (ad 1) la [-71, -72] 1 v0 σ0 x y) 3 [.ref (ad 1), .int m, .int v] eI h' := z_catch (pre := []) (suf := [(0, 7, 15, 14)]) (x := (0, 7, 10, 22)) rfl (fun z hz => by cases hz) ⟨by decide, by decide⟩ (by decide) gl22 (by decide) (fun q => by
        refine z_astX (pc := 10) (nx := 12) (kk := 4) (by decide +kernel) rfl (Nat.le_of_ble_eq_true rfl) (Nat.le_of_ble_eq_true rfl) ?_
        refine z_jr (pc := 12) (e := 14) [(12, .bipush (-71), 14, -71)] (by decide +kernel) rfl ?_
        exact iL_setCores_14 (Nat.le_of_ble_eq_true rfl) (Nat.le_of_ble_eq_true rfl) ⟨rfl, z_lw.next LH w2 w3⟩)
      exact hE
    · have hE : z_JX Z mL_setCores (zR 8 128 2 12) (0 + 2) (0 + 12) (z_lr Z (ad 1) la [-71, -72] 2 v0 σ0 x y) 3 [.ref (ad 1), .int m, .int v] eA h' := z_catch (pre := [(0, 7, 10, 22)]) (suf := []) (x := (0, 7, 15, 14)) rfl (fun z hz => by
        simp only [List.mem_cons, List.mem_nil_iff, or_false] at hz
        rcases hz with rfl
        · exact ⟨by decide, _, gl22, by decide⟩) ⟨by decide, by decide⟩ (by decide) gl14 (by decide) (fun q => by
        refine z_astX (pc := 15) (nx := 17) (kk := 4) (by decide +kernel) rfl (Nat.le_of_ble_eq_true rfl) (Nat.le_of_ble_eq_true rfl) ?_
        refine z_jr (pc := 17) (e := 19) [(17, .bipush (-72), 19, -72)] (by decide +kernel) rfl ?_
        exact iL_setCores_19 (Nat.le_of_ble_eq_true rfl) (Nat.le_of_ble_eq_true rfl) ⟨rfl, z_lw.next LH w2 w3⟩)
      exact hE
theorem fb_tellApart (σ : zSt) (m : Int32) (b : Bool) : (f_tellApart σ m b).1 ≤ 1 := by
  unfold f_tellApart
  repeat' split
  all_goals first | exact Nat.zero_le _ | exact Nat.le_of_ble_eq_true rfl
theorem c_L_tellApart {m : Int32} {b : Bool} (W : z_lw Z h a1 la σ x y) (e : f_tellApart σ m b = (c0, v0, σ0)) : z_J Z mL_tellApart (zR 8 126 1 6) 0 0 (z_lr Z a1 la [-71] c0 v0 σ0 x y) 0 [.ref a1, .int m, .int (zb b)] [] h := by
  obtain ⟨⟨ad, rfl, H⟩, LH⟩ := W
  have hb := fb_tellApart σ m b
  have hc := c_X5_tellApart (Z := Z) (m := m) (b := b) H
  rw [e] at hb hc
  refine iL_tellApart_0 rfl ?_
  refine iL_tellApart_3 (R' := zR 7 103 1 6) rfl rfl H.1.2.1 (z_rmo rfl) hc (fun v h' w => ?_) (fun e h' w => ?_)
  · obtain ⟨w1, w2, w3⟩ := w
    obtain ⟨a0, rfl⟩ := z_o_inl w1
    refine iL_tellApart_6 rfl ?_
    refine iL_tellApart_15 rfl ?_
    exact iL_tellApart_16 (Nat.le_of_ble_eq_true rfl) (Nat.le_of_ble_eq_true rfl) ⟨by rw [l_cd, if_pos (show c0 = 0 from a0)], z_lw.next LH w2 w3⟩
  · obtain ⟨w1, w2, w3⟩ := w
    obtain ⟨a0, rfl⟩ := z_o_inr w1
    have hb : c0 ≤ 1 := hb
    have a0 : c0 ≠ 0 := a0
    rcases (show c0 = 1 by omega) with rfl
    · have hE : z_JX Z mL_tellApart (zR 8 126 1 6) (0 + 1) (0 + 6) (z_lr Z (ad 1) la [-71] 1 v0 σ0 x y) 3 [.ref (ad 1), .int m, .int (zb b)] eI h' := z_catch (pre := []) (suf := []) (x := (0, 7, 10, 22)) rfl (fun z hz => by cases hz) ⟨by decide, by decide⟩ (by decide) gl22 (by decide) (fun q => by
        refine z_astX (pc := 10) (nx := 12) (kk := 4) (by decide +kernel) rfl (Nat.le_of_ble_eq_true rfl) (Nat.le_of_ble_eq_true rfl) ?_
        refine z_jr (pc := 12) (e := 14) [(12, .bipush (-71), 14, -71)] (by decide +kernel) rfl ?_
        exact iL_tellApart_14 (Nat.le_of_ble_eq_true rfl) (Nat.le_of_ble_eq_true rfl) ⟨rfl, z_lw.next LH w2 w3⟩)
      exact hE
theorem fb_setCoresOfUnit (σ : zSt) (p : Int32) (v : Int32) : (f_setCoresOfUnit σ p v).1 ≤ 2 := by
  unfold f_setCoresOfUnit
  repeat' split
  all_goals first | exact Nat.zero_le _ | exact Nat.le_of_ble_eq_true rfl
theorem c_L_setCoresOfUnit {p v : Int32} (W : z_lw Z h a1 la σ x y) (e : f_setCoresOfUnit σ p v = (c0, v0, σ0)) : z_J Z mL_setCoresOfUnit (zR 8 127 2 12) 0 0 (z_lr Z a1 la [-71, -72] c0 v0 σ0 x y) 0 [.ref a1, .int p, .int v] [] h := by
  obtain ⟨⟨ad, rfl, H⟩, LH⟩ := W
  have hb := fb_setCoresOfUnit σ p v
  have hc := c_X5_setCoresOfUnit (Z := Z) (p := p) (v := v) H
  rw [e] at hb hc
  refine iL_setCoresOfUnit_0 rfl ?_
  refine iL_setCoresOfUnit_3 (R' := zR 7 104 2 12) rfl rfl H.1.2.1 (z_rmo rfl) hc (fun v h' w => ?_) (fun e h' w => ?_)
  · obtain ⟨w1, w2, w3⟩ := w
    obtain ⟨a0, rfl⟩ := z_o_inl w1
    refine iL_setCoresOfUnit_6 rfl ?_
    refine iL_setCoresOfUnit_20 rfl ?_
    exact iL_setCoresOfUnit_21 (Nat.le_of_ble_eq_true rfl) (Nat.le_of_ble_eq_true rfl) ⟨by rw [l_cd, if_pos (show c0 = 0 from a0)], z_lw.next LH w2 w3⟩
  · obtain ⟨w1, w2, w3⟩ := w
    obtain ⟨a0, rfl⟩ := z_o_inr w1
    have hb : c0 ≤ 2 := hb
    have a0 : c0 ≠ 0 := a0
    rcases (show c0 = 1 ∨ c0 = 2 by omega) with rfl | rfl
    · have hE : z_JX Z mL_setCoresOfUnit (zR 8 127 2 12) (0 + 2) (0 + 12) (z_lr Z (ad 1) la [-71, -72] 1 v0 σ0 x y) 3 [.ref (ad 1), .int p, .int v] eI h' := z_catch (pre := []) (suf := [(0, 7, 15, 14)]) (x := (0, 7, 10, 22)) rfl (fun z hz => by cases hz) ⟨by decide, by decide⟩ (by decide) gl22 (by decide) (fun q => by
        refine z_astX (pc := 10) (nx := 12) (kk := 4) (by decide +kernel) rfl (Nat.le_of_ble_eq_true rfl) (Nat.le_of_ble_eq_true rfl) ?_
        refine z_jr (pc := 12) (e := 14) [(12, .bipush (-71), 14, -71)] (by decide +kernel) rfl ?_
        exact iL_setCoresOfUnit_14 (Nat.le_of_ble_eq_true rfl) (Nat.le_of_ble_eq_true rfl) ⟨rfl, z_lw.next LH w2 w3⟩)
      exact hE
    · have hE : z_JX Z mL_setCoresOfUnit (zR 8 127 2 12) (0 + 2) (0 + 12) (z_lr Z (ad 1) la [-71, -72] 2 v0 σ0 x y) 3 [.ref (ad 1), .int p, .int v] eA h' := z_catch (pre := [(0, 7, 10, 22)]) (suf := []) (x := (0, 7, 15, 14)) rfl (fun z hz => by
        simp only [List.mem_cons, List.mem_nil_iff, or_false] at hz
        rcases hz with rfl
        · exact ⟨by decide, _, gl22, by decide⟩) ⟨by decide, by decide⟩ (by decide) gl14 (by decide) (fun q => by
        refine z_astX (pc := 15) (nx := 17) (kk := 4) (by decide +kernel) rfl (Nat.le_of_ble_eq_true rfl) (Nat.le_of_ble_eq_true rfl) ?_
        refine z_jr (pc := 17) (e := 19) [(17, .bipush (-72), 19, -72)] (by decide +kernel) rfl ?_
        exact iL_setCoresOfUnit_19 (Nat.le_of_ble_eq_true rfl) (Nat.le_of_ble_eq_true rfl) ⟨rfl, z_lw.next LH w2 w3⟩)
      exact hE
theorem fb_install (σ : zSt) (m : Int32) (p : Int32) (v : Int32) (d : Int32) : (f_install σ m p v d).1 ≤ 3 := by
  unfold f_install f_install1
  repeat' split
  all_goals first | exact Nat.zero_le _ | exact Nat.le_of_ble_eq_true rfl
theorem c_L_install {m p v d : Int32} (W : z_lw Z h a1 la σ x y) (e : f_install σ m p v d = (c0, v0, σ0)) : z_J Z mL_install (zR 9 150 5 30) 0 0 (z_lr Z a1 la [-71, -72, -73] c0 v0 σ0 x y) 0 [.ref a1, .int m, .int p, .int v, .int d] [] h := by
  obtain ⟨⟨ad, rfl, H⟩, LH⟩ := W
  have hb := fb_install σ m p v d
  have hc := c_X5_install (Z := Z) (m := m) (p := p) (v := v) (d := d) H
  rw [e] at hb hc
  refine iL_install_0 rfl ?_
  refine iL_install_6 (R' := zR 8 125 5 30) rfl rfl H.1.2.1 (z_rmo rfl) hc (fun v h' w => ?_) (fun e h' w => ?_)
  · obtain ⟨w1, w2, w3⟩ := w
    obtain ⟨a0, rfl⟩ := z_o_inl w1
    refine iL_install_9 rfl ?_
    refine iL_install_29 rfl ?_
    exact iL_install_31 (Nat.le_of_ble_eq_true rfl) (Nat.le_of_ble_eq_true rfl) ⟨by rw [l_cd, if_pos (show c0 = 0 from a0)], z_lw.next LH w2 w3⟩
  · obtain ⟨w1, w2, w3⟩ := w
    obtain ⟨a0, rfl⟩ := z_o_inr w1
    have hb : c0 ≤ 3 := hb
    have a0 : c0 ≠ 0 := a0
    rcases (show c0 = 1 ∨ c0 = 2 ∨ c0 = 3 by omega) with rfl | rfl | rfl
    · have hE : z_JX Z mL_install (zR 9 150 5 30) (0 + 5) (0 + 30) (z_lr Z (ad 1) la [-71, -72, -73] 1 v0 σ0 x y) 6 [.ref (ad 1), .int m, .int p, .int v, .int d] eI h' := z_catch (pre := []) (suf := [(0, 11, 19, 14), (0, 11, 24, 16)]) (x := (0, 11, 14, 22)) rfl (fun z hz => by cases hz) ⟨by decide, by decide⟩ (by decide) gl22 (by decide) (fun q => by
        refine z_astX (pc := 14) (nx := 16) (kk := 6) (by decide +kernel) rfl (Nat.le_of_ble_eq_true rfl) (Nat.le_of_ble_eq_true rfl) ?_
        refine z_jr (pc := 16) (e := 18) [(16, .bipush (-71), 18, -71)] (by decide +kernel) rfl ?_
        exact iL_install_18 (Nat.le_of_ble_eq_true rfl) (Nat.le_of_ble_eq_true rfl) ⟨rfl, z_lw.next LH w2 w3⟩)
      exact hE
    · have hE : z_JX Z mL_install (zR 9 150 5 30) (0 + 5) (0 + 30) (z_lr Z (ad 1) la [-71, -72, -73] 2 v0 σ0 x y) 6 [.ref (ad 1), .int m, .int p, .int v, .int d] eA h' := z_catch (pre := [(0, 11, 14, 22)]) (suf := [(0, 11, 24, 16)]) (x := (0, 11, 19, 14)) rfl (fun z hz => by
        simp only [List.mem_cons, List.mem_nil_iff, or_false] at hz
        rcases hz with rfl
        · exact ⟨by decide, _, gl22, by decide⟩) ⟨by decide, by decide⟩ (by decide) gl14 (by decide) (fun q => by
        refine z_astX (pc := 19) (nx := 21) (kk := 6) (by decide +kernel) rfl (Nat.le_of_ble_eq_true rfl) (Nat.le_of_ble_eq_true rfl) ?_
        refine z_jr (pc := 21) (e := 23) [(21, .bipush (-72), 23, -72)] (by decide +kernel) rfl ?_
        exact iL_install_23 (Nat.le_of_ble_eq_true rfl) (Nat.le_of_ble_eq_true rfl) ⟨rfl, z_lw.next LH w2 w3⟩)
      exact hE
    · have hE : z_JX Z mL_install (zR 9 150 5 30) (0 + 5) (0 + 30) (z_lr Z (ad 1) la [-71, -72, -73] 3 v0 σ0 x y) 6 [.ref (ad 1), .int m, .int p, .int v, .int d] eS h' := z_catch (pre := [(0, 11, 14, 22), (0, 11, 19, 14)]) (suf := []) (x := (0, 11, 24, 16)) rfl (fun z hz => by
        simp only [List.mem_cons, List.mem_nil_iff, or_false] at hz
        rcases hz with rfl | rfl
        · exact ⟨by decide, _, gl22, by decide⟩
        · exact ⟨by decide, _, gl14, by decide⟩) ⟨by decide, by decide⟩ (by decide) gl16 (by decide) (fun q => by
        refine z_astX (pc := 24) (nx := 26) (kk := 6) (by decide +kernel) rfl (Nat.le_of_ble_eq_true rfl) (Nat.le_of_ble_eq_true rfl) ?_
        refine z_jr (pc := 26) (e := 28) [(26, .bipush (-73), 28, -73)] (by decide +kernel) rfl ?_
        exact iL_install_28 (Nat.le_of_ble_eq_true rfl) (Nat.le_of_ble_eq_true rfl) ⟨rfl, z_lw.next LH w2 w3⟩)
      exact hE
theorem fb_uninstall (σ : zSt) (m : Int32) (p : Int32) (d : Int32) : (f_uninstall σ m p d).1 ≤ 3 := by
  unfold f_uninstall f_uninstall1
  repeat' split
  all_goals first | exact Nat.zero_le _ | exact Nat.le_of_ble_eq_true rfl
theorem c_L_uninstall {m p d : Int32} (W : z_lw Z h a1 la σ x y) (e : f_uninstall σ m p d = (c0, v0, σ0)) : z_J Z mL_uninstall (zR 9 149 4 24) 0 0 (z_lr Z a1 la [-71, -72, -73] c0 v0 σ0 x y) 0 [.ref a1, .int m, .int p, .int d] [] h := by
  obtain ⟨⟨ad, rfl, H⟩, LH⟩ := W
  have hb := fb_uninstall σ m p d
  have hc := c_X5_uninstall (Z := Z) (m := m) (p := p) (d := d) H
  rw [e] at hb hc
  refine iL_uninstall_0 rfl ?_
  refine iL_uninstall_4 (R' := zR 8 125 4 24) rfl rfl H.1.2.1 (z_rmo rfl) hc (fun v h' w => ?_) (fun e h' w => ?_)
  · obtain ⟨w1, w2, w3⟩ := w
    obtain ⟨a0, rfl⟩ := z_o_inl w1
    refine iL_uninstall_7 rfl ?_
    refine iL_uninstall_27 rfl ?_
    exact iL_uninstall_29 (Nat.le_of_ble_eq_true rfl) (Nat.le_of_ble_eq_true rfl) ⟨by rw [l_cd, if_pos (show c0 = 0 from a0)], z_lw.next LH w2 w3⟩
  · obtain ⟨w1, w2, w3⟩ := w
    obtain ⟨a0, rfl⟩ := z_o_inr w1
    have hb : c0 ≤ 3 := hb
    have a0 : c0 ≠ 0 := a0
    rcases (show c0 = 1 ∨ c0 = 2 ∨ c0 = 3 by omega) with rfl | rfl | rfl
    · have hE : z_JX Z mL_uninstall (zR 9 149 4 24) (0 + 4) (0 + 24) (z_lr Z (ad 1) la [-71, -72, -73] 1 v0 σ0 x y) 4 [.ref (ad 1), .int m, .int p, .int d] eI h' := z_catch (pre := []) (suf := [(0, 9, 17, 14), (0, 9, 22, 16)]) (x := (0, 9, 12, 22)) rfl (fun z hz => by cases hz) ⟨by decide, by decide⟩ (by decide) gl22 (by decide) (fun q => by
        refine z_astX (pc := 12) (nx := 14) (kk := 5) (by decide +kernel) rfl (Nat.le_of_ble_eq_true rfl) (Nat.le_of_ble_eq_true rfl) ?_
        refine z_jr (pc := 14) (e := 16) [(14, .bipush (-71), 16, -71)] (by decide +kernel) rfl ?_
        exact iL_uninstall_16 (Nat.le_of_ble_eq_true rfl) (Nat.le_of_ble_eq_true rfl) ⟨rfl, z_lw.next LH w2 w3⟩)
      exact hE
    · have hE : z_JX Z mL_uninstall (zR 9 149 4 24) (0 + 4) (0 + 24) (z_lr Z (ad 1) la [-71, -72, -73] 2 v0 σ0 x y) 4 [.ref (ad 1), .int m, .int p, .int d] eA h' := z_catch (pre := [(0, 9, 12, 22)]) (suf := [(0, 9, 22, 16)]) (x := (0, 9, 17, 14)) rfl (fun z hz => by
        simp only [List.mem_cons, List.mem_nil_iff, or_false] at hz
        rcases hz with rfl
        · exact ⟨by decide, _, gl22, by decide⟩) ⟨by decide, by decide⟩ (by decide) gl14 (by decide) (fun q => by
        refine z_astX (pc := 17) (nx := 19) (kk := 5) (by decide +kernel) rfl (Nat.le_of_ble_eq_true rfl) (Nat.le_of_ble_eq_true rfl) ?_
        refine z_jr (pc := 19) (e := 21) [(19, .bipush (-72), 21, -72)] (by decide +kernel) rfl ?_
        exact iL_uninstall_21 (Nat.le_of_ble_eq_true rfl) (Nat.le_of_ble_eq_true rfl) ⟨rfl, z_lw.next LH w2 w3⟩)
      exact hE
    · have hE : z_JX Z mL_uninstall (zR 9 149 4 24) (0 + 4) (0 + 24) (z_lr Z (ad 1) la [-71, -72, -73] 3 v0 σ0 x y) 4 [.ref (ad 1), .int m, .int p, .int d] eS h' := z_catch (pre := [(0, 9, 12, 22), (0, 9, 17, 14)]) (suf := []) (x := (0, 9, 22, 16)) rfl (fun z hz => by
        simp only [List.mem_cons, List.mem_nil_iff, or_false] at hz
        rcases hz with rfl | rfl
        · exact ⟨by decide, _, gl22, by decide⟩
        · exact ⟨by decide, _, gl14, by decide⟩) ⟨by decide, by decide⟩ (by decide) gl16 (by decide) (fun q => by
        refine z_astX (pc := 22) (nx := 24) (kk := 5) (by decide +kernel) rfl (Nat.le_of_ble_eq_true rfl) (Nat.le_of_ble_eq_true rfl) ?_
        refine z_jr (pc := 24) (e := 26) [(24, .bipush (-73), 26, -73)] (by decide +kernel) rfl ?_
        exact iL_uninstall_26 (Nat.le_of_ble_eq_true rfl) (Nat.le_of_ble_eq_true rfl) ⟨rfl, z_lw.next LH w2 w3⟩)
      exact hE
theorem fb_runs (σ : zSt) (m : Int32) (p : Int32) (d : Int32) : (f_runs σ m p d).1 ≤ 2 := by
  unfold f_runs
  repeat' split
  all_goals first | exact Nat.zero_le _ | exact Nat.le_of_ble_eq_true rfl
theorem c_L_runs {m p d : Int32} (W : z_lw Z h a1 la σ x y) (e : f_runs σ m p d = (c0, v0, σ0)) : z_J Z mL_runs (zR 9 149 3 18) 0 0 (z_lr Z a1 la [-71, -72] c0 v0 σ0 x y) 0 [.ref a1, .int m, .int p, .int d] [] h := by
  obtain ⟨⟨ad, rfl, H⟩, LH⟩ := W
  have hb := fb_runs σ m p d
  have hc := c_X5_runs (Z := Z) (m := m) (p := p) (d := d) H
  rw [e] at hb hc
  refine iL_runs_0 rfl ?_
  refine iL_runs_4 (R' := zR 8 125 3 18) rfl rfl H.1.2.1 (z_rmo rfl) hc (fun v h' w => ?_) (fun e h' w => ?_)
  · obtain ⟨w1, w2, w3⟩ := w
    obtain ⟨a0, rfl⟩ := z_o_inl w1
    refine iL_runs_7 rfl ?_
    refine iL_runs_22 rfl ?_
    exact iL_runs_24 (Nat.le_of_ble_eq_true rfl) (Nat.le_of_ble_eq_true rfl) ⟨by rw [l_cd, if_pos (show c0 = 0 from a0)], z_lw.next LH w2 w3⟩
  · obtain ⟨w1, w2, w3⟩ := w
    obtain ⟨a0, rfl⟩ := z_o_inr w1
    have hb : c0 ≤ 2 := hb
    have a0 : c0 ≠ 0 := a0
    rcases (show c0 = 1 ∨ c0 = 2 by omega) with rfl | rfl
    · have hE : z_JX Z mL_runs (zR 9 149 3 18) (0 + 3) (0 + 18) (z_lr Z (ad 1) la [-71, -72] 1 v0 σ0 x y) 4 [.ref (ad 1), .int m, .int p, .int d] eI h' := z_catch (pre := []) (suf := [(0, 9, 17, 14)]) (x := (0, 9, 12, 22)) rfl (fun z hz => by cases hz) ⟨by decide, by decide⟩ (by decide) gl22 (by decide) (fun q => by
        refine z_astX (pc := 12) (nx := 14) (kk := 5) (by decide +kernel) rfl (Nat.le_of_ble_eq_true rfl) (Nat.le_of_ble_eq_true rfl) ?_
        refine z_jr (pc := 14) (e := 16) [(14, .bipush (-71), 16, -71)] (by decide +kernel) rfl ?_
        exact iL_runs_16 (Nat.le_of_ble_eq_true rfl) (Nat.le_of_ble_eq_true rfl) ⟨rfl, z_lw.next LH w2 w3⟩)
      exact hE
    · have hE : z_JX Z mL_runs (zR 9 149 3 18) (0 + 3) (0 + 18) (z_lr Z (ad 1) la [-71, -72] 2 v0 σ0 x y) 4 [.ref (ad 1), .int m, .int p, .int d] eA h' := z_catch (pre := [(0, 9, 12, 22)]) (suf := []) (x := (0, 9, 17, 14)) rfl (fun z hz => by
        simp only [List.mem_cons, List.mem_nil_iff, or_false] at hz
        rcases hz with rfl
        · exact ⟨by decide, _, gl22, by decide⟩) ⟨by decide, by decide⟩ (by decide) gl14 (by decide) (fun q => by
        refine z_astX (pc := 17) (nx := 19) (kk := 5) (by decide +kernel) rfl (Nat.le_of_ble_eq_true rfl) (Nat.le_of_ble_eq_true rfl) ?_
        refine z_jr (pc := 19) (e := 21) [(19, .bipush (-72), 21, -72)] (by decide +kernel) rfl ?_
        exact iL_runs_21 (Nat.le_of_ble_eq_true rfl) (Nat.le_of_ble_eq_true rfl) ⟨rfl, z_lw.next LH w2 w3⟩)
      exact hE
theorem fb_need (σ : zSt) (d : Int32) (k : Int32) : (f_need σ d k).1 ≤ 2 := by
  unfold f_need
  repeat' split
  all_goals first | exact Nat.zero_le _ | exact Nat.le_of_ble_eq_true rfl
theorem c_L_need {d k : Int32} (W : z_lw Z h a1 la σ x y) (e : f_need σ d k = (c0, v0, σ0)) : z_J Z mL_need (zR 9 146 2 12) 0 0 (z_lr Z a1 la [-72, -71] c0 v0 σ0 x y) 0 [.ref a1, .int d, .int k] [] h := by
  obtain ⟨⟨ad, rfl, H⟩, LH⟩ := W
  have hb := fb_need σ d k
  have hc := c_X5_need (Z := Z) (d := d) (k := k) H
  rw [e] at hb hc
  refine iL_need_0 rfl ?_
  refine iL_need_3 (R' := zR 8 124 2 12) rfl rfl H.1.2.1 (z_rmo rfl) hc (fun v h' w => ?_) (fun e h' w => ?_)
  · obtain ⟨w1, w2, w3⟩ := w
    obtain ⟨a0, rfl⟩ := z_o_inl w1
    refine iL_need_6 rfl ?_
    refine iL_need_20 rfl ?_
    exact iL_need_21 (Nat.le_of_ble_eq_true rfl) (Nat.le_of_ble_eq_true rfl) ⟨by rw [l_cd, if_pos (show c0 = 0 from a0)], z_lw.next LH w2 w3⟩
  · obtain ⟨w1, w2, w3⟩ := w
    obtain ⟨a0, rfl⟩ := z_o_inr w1
    have hb : c0 ≤ 2 := hb
    have a0 : c0 ≠ 0 := a0
    rcases (show c0 = 1 ∨ c0 = 2 by omega) with rfl | rfl
    · have hE : z_JX Z mL_need (zR 9 146 2 12) (0 + 2) (0 + 12) (z_lr Z (ad 1) la [-72, -71] 1 v0 σ0 x y) 3 [.ref (ad 1), .int d, .int k] eA h' := z_catch (pre := []) (suf := [(0, 7, 15, 22)]) (x := (0, 7, 10, 14)) rfl (fun z hz => by cases hz) ⟨by decide, by decide⟩ (by decide) gl14 (by decide) (fun q => by
        refine z_astX (pc := 10) (nx := 12) (kk := 4) (by decide +kernel) rfl (Nat.le_of_ble_eq_true rfl) (Nat.le_of_ble_eq_true rfl) ?_
        refine z_jr (pc := 12) (e := 14) [(12, .bipush (-72), 14, -72)] (by decide +kernel) rfl ?_
        exact iL_need_14 (Nat.le_of_ble_eq_true rfl) (Nat.le_of_ble_eq_true rfl) ⟨rfl, z_lw.next LH w2 w3⟩)
      exact hE
    · have hE : z_JX Z mL_need (zR 9 146 2 12) (0 + 2) (0 + 12) (z_lr Z (ad 1) la [-72, -71] 2 v0 σ0 x y) 3 [.ref (ad 1), .int d, .int k] eI h' := z_catch (pre := [(0, 7, 10, 14)]) (suf := []) (x := (0, 7, 15, 22)) rfl (fun z hz => by
        simp only [List.mem_cons, List.mem_nil_iff, or_false] at hz
        rcases hz with rfl
        · exact ⟨by decide, _, gl14, by decide⟩) ⟨by decide, by decide⟩ (by decide) gl22 (by decide) (fun q => by
        refine z_astX (pc := 15) (nx := 17) (kk := 4) (by decide +kernel) rfl (Nat.le_of_ble_eq_true rfl) (Nat.le_of_ble_eq_true rfl) ?_
        refine z_jr (pc := 17) (e := 19) [(17, .bipush (-71), 19, -71)] (by decide +kernel) rfl ?_
        exact iL_need_19 (Nat.le_of_ble_eq_true rfl) (Nat.le_of_ble_eq_true rfl) ⟨rfl, z_lw.next LH w2 w3⟩)
      exact hE
theorem fb_gets (σ : zSt) (d : Int32) (k : Int32) : (f_gets σ d k).1 ≤ 2 := by
  unfold f_gets
  repeat' split
  all_goals first | exact Nat.zero_le _ | exact Nat.le_of_ble_eq_true rfl
theorem c_L_gets {d k : Int32} (W : z_lw Z h a1 la σ x y) (e : f_gets σ d k = (c0, v0, σ0)) : z_J Z mL_gets (zR 9 157 2 12) 0 0 (z_lr Z a1 la [-72, -71] c0 v0 σ0 x y) 0 [.ref a1, .int d, .int k] [] h := by
  obtain ⟨⟨ad, rfl, H⟩, LH⟩ := W
  have hb := fb_gets σ d k
  have hc := c_X5_gets (Z := Z) (d := d) (k := k) H
  rw [e] at hb hc
  refine iL_gets_0 rfl ?_
  refine iL_gets_3 (R' := zR 8 135 2 12) rfl rfl H.1.2.1 (z_rmo rfl) hc (fun v h' w => ?_) (fun e h' w => ?_)
  · obtain ⟨w1, w2, w3⟩ := w
    obtain ⟨a0, rfl⟩ := z_o_inl w1
    refine iL_gets_6 rfl ?_
    refine iL_gets_20 rfl ?_
    exact iL_gets_21 (Nat.le_of_ble_eq_true rfl) (Nat.le_of_ble_eq_true rfl) ⟨by rw [l_cd, if_pos (show c0 = 0 from a0)], z_lw.next LH w2 w3⟩
  · obtain ⟨w1, w2, w3⟩ := w
    obtain ⟨a0, rfl⟩ := z_o_inr w1
    have hb : c0 ≤ 2 := hb
    have a0 : c0 ≠ 0 := a0
    rcases (show c0 = 1 ∨ c0 = 2 by omega) with rfl | rfl
    · have hE : z_JX Z mL_gets (zR 9 157 2 12) (0 + 2) (0 + 12) (z_lr Z (ad 1) la [-72, -71] 1 v0 σ0 x y) 3 [.ref (ad 1), .int d, .int k] eA h' := z_catch (pre := []) (suf := [(0, 7, 15, 22)]) (x := (0, 7, 10, 14)) rfl (fun z hz => by cases hz) ⟨by decide, by decide⟩ (by decide) gl14 (by decide) (fun q => by
        refine z_astX (pc := 10) (nx := 12) (kk := 4) (by decide +kernel) rfl (Nat.le_of_ble_eq_true rfl) (Nat.le_of_ble_eq_true rfl) ?_
        refine z_jr (pc := 12) (e := 14) [(12, .bipush (-72), 14, -72)] (by decide +kernel) rfl ?_
        exact iL_gets_14 (Nat.le_of_ble_eq_true rfl) (Nat.le_of_ble_eq_true rfl) ⟨rfl, z_lw.next LH w2 w3⟩)
      exact hE
    · have hE : z_JX Z mL_gets (zR 9 157 2 12) (0 + 2) (0 + 12) (z_lr Z (ad 1) la [-72, -71] 2 v0 σ0 x y) 3 [.ref (ad 1), .int d, .int k] eI h' := z_catch (pre := [(0, 7, 10, 14)]) (suf := []) (x := (0, 7, 15, 22)) rfl (fun z hz => by
        simp only [List.mem_cons, List.mem_nil_iff, or_false] at hz
        rcases hz with rfl
        · exact ⟨by decide, _, gl14, by decide⟩) ⟨by decide, by decide⟩ (by decide) gl22 (by decide) (fun q => by
        refine z_astX (pc := 15) (nx := 17) (kk := 4) (by decide +kernel) rfl (Nat.le_of_ble_eq_true rfl) (Nat.le_of_ble_eq_true rfl) ?_
        refine z_jr (pc := 17) (e := 19) [(17, .bipush (-71), 19, -71)] (by decide +kernel) rfl ?_
        exact iL_gets_19 (Nat.le_of_ble_eq_true rfl) (Nat.le_of_ble_eq_true rfl) ⟨rfl, z_lw.next LH w2 w3⟩)
      exact hE
theorem fb_lack (σ : zSt) (d : Int32) : (f_lack σ d).1 ≤ 1 := by
  unfold f_lack
  repeat' split
  all_goals first | exact Nat.zero_le _ | exact Nat.le_of_ble_eq_true rfl
theorem c_L_lack {d : Int32} (W : z_lw Z h a1 la σ x y) (e : f_lack σ d = (c0, v0, σ0)) : z_J Z mL_lack (zR 9 156 1 6) 0 0 (z_lr Z a1 la [-72] c0 v0 σ0 x y) 0 [.ref a1, .int d] [] h := by
  obtain ⟨⟨ad, rfl, H⟩, LH⟩ := W
  have hb := fb_lack σ d
  have hc := c_X5_lack (Z := Z) (d := d) H
  rw [e] at hb hc
  refine iL_lack_0 rfl ?_
  refine iL_lack_2 (R' := zR 8 135 1 6) rfl rfl H.1.2.1 (z_rmo rfl) hc (fun v h' w => ?_) (fun e h' w => ?_)
  · obtain ⟨w1, w2, w3⟩ := w
    obtain ⟨a0, rfl⟩ := z_o_inl w1
    refine iL_lack_5 rfl ?_
    refine iL_lack_13 rfl ?_
    exact iL_lack_14 (Nat.le_of_ble_eq_true rfl) (Nat.le_of_ble_eq_true rfl) ⟨by rw [l_cd, if_pos (show c0 = 0 from a0)], z_lw.next LH w2 w3⟩
  · obtain ⟨w1, w2, w3⟩ := w
    obtain ⟨a0, rfl⟩ := z_o_inr w1
    have hb : c0 ≤ 1 := hb
    have a0 : c0 ≠ 0 := a0
    rcases (show c0 = 1 by omega) with rfl
    · have hE : z_JX Z mL_lack (zR 9 156 1 6) (0 + 1) (0 + 6) (z_lr Z (ad 1) la [-72] 1 v0 σ0 x y) 2 [.ref (ad 1), .int d] eA h' := z_catch (pre := []) (suf := []) (x := (0, 6, 9, 14)) rfl (fun z hz => by cases hz) ⟨by decide, by decide⟩ (by decide) gl14 (by decide) (fun q => by
        refine z_astXn (pc := 9) (nx := 10) (kk := 3) (by decide +kernel) rfl (Nat.le_of_ble_eq_true rfl) (Nat.le_of_ble_eq_true rfl) ?_
        refine z_jr (pc := 10) (e := 12) [(10, .bipush (-72), 12, -72)] (by decide +kernel) rfl ?_
        exact iL_lack_12 (Nat.le_of_ble_eq_true rfl) (Nat.le_of_ble_eq_true rfl) ⟨rfl, z_lw.next LH w2 w3⟩)
      exact hE
theorem fb_lackBySets (σ : zSt) (d : Int32) : (f_lackBySets σ d).1 ≤ 2 := by
  unfold f_lackBySets
  repeat' split
  all_goals first | exact Nat.zero_le _ | exact Nat.le_of_ble_eq_true rfl
theorem c_L_lackBySets {d : Int32} (W : z_lw Z h a1 la σ x y) (e : f_lackBySets σ d = (c0, v0, σ0)) : z_J Z mL_lackBySets (zR 9 147 2 12) 0 0 (z_lr Z a1 la [-72, -73] c0 v0 σ0 x y) 0 [.ref a1, .int d] [] h := by
  obtain ⟨⟨ad, rfl, H⟩, LH⟩ := W
  have hb := fb_lackBySets σ d
  have hc := c_X5_lackBySets (Z := Z) (d := d) H
  rw [e] at hb hc
  refine iL_lackBySets_0 rfl ?_
  refine iL_lackBySets_2 (R' := zR 8 124 2 12) rfl rfl H.1.2.1 (z_rmo rfl) hc (fun v h' w => ?_) (fun e h' w => ?_)
  · obtain ⟨w1, w2, w3⟩ := w
    obtain ⟨a0, rfl⟩ := z_o_inl w1
    refine iL_lackBySets_5 rfl ?_
    refine iL_lackBySets_17 rfl ?_
    exact iL_lackBySets_18 (Nat.le_of_ble_eq_true rfl) (Nat.le_of_ble_eq_true rfl) ⟨by rw [l_cd, if_pos (show c0 = 0 from a0)], z_lw.next LH w2 w3⟩
  · obtain ⟨w1, w2, w3⟩ := w
    obtain ⟨a0, rfl⟩ := z_o_inr w1
    have hb : c0 ≤ 2 := hb
    have a0 : c0 ≠ 0 := a0
    rcases (show c0 = 1 ∨ c0 = 2 by omega) with rfl | rfl
    · have hE : z_JX Z mL_lackBySets (zR 9 147 2 12) (0 + 2) (0 + 12) (z_lr Z (ad 1) la [-72, -73] 1 v0 σ0 x y) 2 [.ref (ad 1), .int d] eA h' := z_catch (pre := []) (suf := [(0, 6, 13, 16)]) (x := (0, 6, 9, 14)) rfl (fun z hz => by cases hz) ⟨by decide, by decide⟩ (by decide) gl14 (by decide) (fun q => by
        refine z_astXn (pc := 9) (nx := 10) (kk := 3) (by decide +kernel) rfl (Nat.le_of_ble_eq_true rfl) (Nat.le_of_ble_eq_true rfl) ?_
        refine z_jr (pc := 10) (e := 12) [(10, .bipush (-72), 12, -72)] (by decide +kernel) rfl ?_
        exact iL_lackBySets_12 (Nat.le_of_ble_eq_true rfl) (Nat.le_of_ble_eq_true rfl) ⟨rfl, z_lw.next LH w2 w3⟩)
      exact hE
    · have hE : z_JX Z mL_lackBySets (zR 9 147 2 12) (0 + 2) (0 + 12) (z_lr Z (ad 1) la [-72, -73] 2 v0 σ0 x y) 2 [.ref (ad 1), .int d] eS h' := z_catch (pre := [(0, 6, 9, 14)]) (suf := []) (x := (0, 6, 13, 16)) rfl (fun z hz => by
        simp only [List.mem_cons, List.mem_nil_iff, or_false] at hz
        rcases hz with rfl
        · exact ⟨by decide, _, gl14, by decide⟩) ⟨by decide, by decide⟩ (by decide) gl16 (by decide) (fun q => by
        refine z_astXn (pc := 13) (nx := 14) (kk := 3) (by decide +kernel) rfl (Nat.le_of_ble_eq_true rfl) (Nat.le_of_ble_eq_true rfl) ?_
        refine z_jr (pc := 14) (e := 16) [(14, .bipush (-73), 16, -73)] (by decide +kernel) rfl ?_
        exact iL_lackBySets_16 (Nat.le_of_ble_eq_true rfl) (Nat.le_of_ble_eq_true rfl) ⟨rfl, z_lw.next LH w2 w3⟩)
      exact hE
theorem fb_spare (σ : zSt) (d : Int32) (p : Int32) (v : Int32) : (f_spare σ d p v).1 ≤ 2 := by
  unfold f_spare
  repeat' split
  all_goals first | exact Nat.zero_le _ | exact Nat.le_of_ble_eq_true rfl
theorem c_L_spare {d p v : Int32} (W : z_lw Z h a1 la σ x y) (e : f_spare σ d p v = (c0, v0, σ0)) : z_J Z mL_spare (zR 9 158 3 18) 0 0 (z_lr Z a1 la [-72, -71] c0 v0 σ0 x y) 0 [.ref a1, .int d, .int p, .int v] [] h := by
  obtain ⟨⟨ad, rfl, H⟩, LH⟩ := W
  have hb := fb_spare σ d p v
  have hc := c_X5_spare (Z := Z) (d := d) (p := p) (v := v) H
  rw [e] at hb hc
  refine iL_spare_0 rfl ?_
  refine iL_spare_4 (R' := zR 8 135 3 18) rfl rfl H.1.2.1 (z_rmo rfl) hc (fun v h' w => ?_) (fun e h' w => ?_)
  · obtain ⟨w1, w2, w3⟩ := w
    obtain ⟨a0, rfl⟩ := z_o_inl w1
    refine iL_spare_7 rfl ?_
    refine iL_spare_22 rfl ?_
    exact iL_spare_24 (Nat.le_of_ble_eq_true rfl) (Nat.le_of_ble_eq_true rfl) ⟨by rw [l_cd, if_pos (show c0 = 0 from a0)], z_lw.next LH w2 w3⟩
  · obtain ⟨w1, w2, w3⟩ := w
    obtain ⟨a0, rfl⟩ := z_o_inr w1
    have hb : c0 ≤ 2 := hb
    have a0 : c0 ≠ 0 := a0
    rcases (show c0 = 1 ∨ c0 = 2 by omega) with rfl | rfl
    · have hE : z_JX Z mL_spare (zR 9 158 3 18) (0 + 3) (0 + 18) (z_lr Z (ad 1) la [-72, -71] 1 v0 σ0 x y) 4 [.ref (ad 1), .int d, .int p, .int v] eA h' := z_catch (pre := []) (suf := [(0, 9, 17, 22)]) (x := (0, 9, 12, 14)) rfl (fun z hz => by cases hz) ⟨by decide, by decide⟩ (by decide) gl14 (by decide) (fun q => by
        refine z_astX (pc := 12) (nx := 14) (kk := 5) (by decide +kernel) rfl (Nat.le_of_ble_eq_true rfl) (Nat.le_of_ble_eq_true rfl) ?_
        refine z_jr (pc := 14) (e := 16) [(14, .bipush (-72), 16, -72)] (by decide +kernel) rfl ?_
        exact iL_spare_16 (Nat.le_of_ble_eq_true rfl) (Nat.le_of_ble_eq_true rfl) ⟨rfl, z_lw.next LH w2 w3⟩)
      exact hE
    · have hE : z_JX Z mL_spare (zR 9 158 3 18) (0 + 3) (0 + 18) (z_lr Z (ad 1) la [-72, -71] 2 v0 σ0 x y) 4 [.ref (ad 1), .int d, .int p, .int v] eI h' := z_catch (pre := [(0, 9, 12, 14)]) (suf := []) (x := (0, 9, 17, 22)) rfl (fun z hz => by
        simp only [List.mem_cons, List.mem_nil_iff, or_false] at hz
        rcases hz with rfl
        · exact ⟨by decide, _, gl14, by decide⟩) ⟨by decide, by decide⟩ (by decide) gl22 (by decide) (fun q => by
        refine z_astX (pc := 17) (nx := 19) (kk := 5) (by decide +kernel) rfl (Nat.le_of_ble_eq_true rfl) (Nat.le_of_ble_eq_true rfl) ?_
        refine z_jr (pc := 19) (e := 21) [(19, .bipush (-71), 21, -71)] (by decide +kernel) rfl ?_
        exact iL_spare_21 (Nat.le_of_ble_eq_true rfl) (Nat.le_of_ble_eq_true rfl) ⟨rfl, z_lw.next LH w2 w3⟩)
      exact hE
theorem fb_most (σ : zSt) (p : Int32) (m : Int32) : (f_most σ p m).1 ≤ 2 := by
  unfold f_most
  repeat' split
  all_goals first | exact Nat.zero_le _ | exact Nat.le_of_ble_eq_true rfl
theorem c_L_most {p m : Int32} (W : z_lw Z h a1 la σ x y) (e : f_most σ p m = (c0, v0, σ0)) : z_J Z mL_most (zR 8 128 2 12) 0 0 (z_lr Z a1 la [-71, -72] c0 v0 σ0 x y) 0 [.ref a1, .int p, .int m] [] h := by
  obtain ⟨⟨ad, rfl, H⟩, LH⟩ := W
  have hb := fb_most σ p m
  have hc := c_X5_most (Z := Z) (p := p) (m := m) H
  rw [e] at hb hc
  refine iL_most_0 rfl ?_
  refine iL_most_3 (R' := zR 7 104 2 12) rfl rfl H.1.2.1 (z_rmo rfl) hc (fun v h' w => ?_) (fun e h' w => ?_)
  · obtain ⟨w1, w2, w3⟩ := w
    obtain ⟨a0, rfl⟩ := z_o_inl w1
    refine iL_most_6 rfl ?_
    refine iL_most_20 rfl ?_
    exact iL_most_21 (Nat.le_of_ble_eq_true rfl) (Nat.le_of_ble_eq_true rfl) ⟨by rw [l_cd, if_pos (show c0 = 0 from a0)], z_lw.next LH w2 w3⟩
  · obtain ⟨w1, w2, w3⟩ := w
    obtain ⟨a0, rfl⟩ := z_o_inr w1
    have hb : c0 ≤ 2 := hb
    have a0 : c0 ≠ 0 := a0
    rcases (show c0 = 1 ∨ c0 = 2 by omega) with rfl | rfl
    · have hE : z_JX Z mL_most (zR 8 128 2 12) (0 + 2) (0 + 12) (z_lr Z (ad 1) la [-71, -72] 1 v0 σ0 x y) 3 [.ref (ad 1), .int p, .int m] eI h' := z_catch (pre := []) (suf := [(0, 7, 15, 14)]) (x := (0, 7, 10, 22)) rfl (fun z hz => by cases hz) ⟨by decide, by decide⟩ (by decide) gl22 (by decide) (fun q => by
        refine z_astX (pc := 10) (nx := 12) (kk := 4) (by decide +kernel) rfl (Nat.le_of_ble_eq_true rfl) (Nat.le_of_ble_eq_true rfl) ?_
        refine z_jr (pc := 12) (e := 14) [(12, .bipush (-71), 14, -71)] (by decide +kernel) rfl ?_
        exact iL_most_14 (Nat.le_of_ble_eq_true rfl) (Nat.le_of_ble_eq_true rfl) ⟨rfl, z_lw.next LH w2 w3⟩)
      exact hE
    · have hE : z_JX Z mL_most (zR 8 128 2 12) (0 + 2) (0 + 12) (z_lr Z (ad 1) la [-71, -72] 2 v0 σ0 x y) 3 [.ref (ad 1), .int p, .int m] eA h' := z_catch (pre := [(0, 7, 10, 22)]) (suf := []) (x := (0, 7, 15, 14)) rfl (fun z hz => by
        simp only [List.mem_cons, List.mem_nil_iff, or_false] at hz
        rcases hz with rfl
        · exact ⟨by decide, _, gl22, by decide⟩) ⟨by decide, by decide⟩ (by decide) gl14 (by decide) (fun q => by
        refine z_astX (pc := 15) (nx := 17) (kk := 4) (by decide +kernel) rfl (Nat.le_of_ble_eq_true rfl) (Nat.le_of_ble_eq_true rfl) ?_
        refine z_jr (pc := 17) (e := 19) [(17, .bipush (-72), 19, -72)] (by decide +kernel) rfl ?_
        exact iL_most_19 (Nat.le_of_ble_eq_true rfl) (Nat.le_of_ble_eq_true rfl) ⟨rfl, z_lw.next LH w2 w3⟩)
      exact hE
end ZHelp
