/-! ===== the law's helpers ===== -/
theorem gl13 : Cond.classLink "RightsCounterLaw" 13 "java/lang/IllegalArgumentException" ∈ z_G := z_g 193 (by decide +kernel) (by decide +kernel)
theorem gl15 : Cond.classLink "RightsCounterLaw" 15 "java/lang/IllegalStateException" ∈ z_G := z_g 194 (by decide +kernel) (by decide +kernel)
theorem gl21 : Cond.classLink "RightsCounterLaw" 21 "java/lang/IndexOutOfBoundsException" ∈ z_G := z_g 371 (by decide +kernel) (by decide +kernel)
theorem z_cls.hi {Z : zZ} {h h' : zH} {ad : Nat → Nat} {σ : zSt} (H : z_cls Z h ad σ) (hk : ∀ x, x ≤ 599 → h' x = h x) : z_cls Z h' ad σ := by
  obtain ⟨h0, h1, ⟨h2, h3⟩, ⟨h4, h5, h6, h7⟩, h8⟩ := H
  have hn8 : s_nM σ ≤ 8 := h0.2.1.1
  have hn10 : s_nR σ ≤ 10 := h0.1.1
  refine ⟨h0, by rw [hk _ (by omega)]; exact h1, ⟨h2.kept (hk _ (by omega)) (hk _ (by omega)), fun i hi => ?_⟩, ⟨h4.kept (hk _ (by omega)) (hk _ (by omega)), fun j hj => ?_, fun j hj => ?_, fun q hq => (h7 q hq).kept (fun x _ _ => hk _ (by omega))⟩, by rw [hk _ (by omega)]; exact h8⟩
  · have := h3 i hi
    unfold z_right at this ⊢
    rw [hk _ (by omega)]; exact this
  · have := h5 j hj
    unfold z_mach at this ⊢
    rw [hk _ (by omega)]; exact this
  · obtain ⟨e, e1, e2⟩ := h6 j hj
    exact ⟨e, by rw [hk _ (by omega)]; exact e1, e2⟩
theorem z_world.hi {Z : zZ} {h h' : zH} {ad : Nat → Nat} {σ : zSt} (H : z_world Z h ad σ) (hk : ∀ x, x ≤ 599 → h' x = h x) : z_world Z h' ad σ := ⟨H.1.hi hk, H.2.kept (fun x _ _ => hk x (by omega))⟩
def z_lr (Z : zZ) (h : zH) (ad : Nat → Nat) (ao : Nat) (a : zAn) : zO → zH → Prop := fun o g => o = .inl (some (.int (nI a.1))) ∧ (∀ x, (x < 1 ∨ 599 < x) → x ≠ 700 → g x = h x) ∧ (∃ ad', ad' 1 = ad 1 ∧ z_world Z g ad' a.2.2) ∧ ∃ f : Nat → Int64, g 700 = some (ao, .inl (2, 1, .inr (.inl f))) ∧ (a.1 = 0 → f 0 = a.2.1.toInt64)
theorem z_o_inl {E : List String} {a : zAn} {v : Option Value} (h : (.inl v : zO) = z_o E a) : a.1 = 0 ∧ v = some (.int a.2.1) := by
  unfold z_o at h
  split at h
  · rename_i c; exact ⟨c, Sum.inl.inj h⟩
  · cases h
theorem z_o_inr {E : List String} {a : zAn} {e : String} (h : (.inr e : zO) = z_o E a) : a.1 ≠ 0 ∧ e = E.getD (a.1 - 1) "" := by
  unfold z_o at h
  split at h
  · cases h
  · rename_i c; exact ⟨c, Sum.inr.inj h⟩
section ZLaw1
variable {Z : zZ} {h : zH} {ad : Nat → Nat} {σ : zSt} {ao : Nat} {f0 : Nat → Int64}
theorem fb_addRight (σ : zSt) (p : Int32) (v : Int32) (u : Int32) (f : Int32) (l : Int32) : (f_addRight σ p v u f l).1 ≤ 2 := by
  unfold f_addRight
  repeat' split
  all_goals first | exact Nat.zero_le _ | exact Nat.le_of_ble_eq_true rfl
theorem c_L_addRight {p v u f l : Int32} (H : z_world Z h ad σ) (ho : h 700 = some (ao, .inl (2, 1, .inr (.inl f0)))) : z_J Z mL_addRight (zR 8 134 8 51) 0 0 (z_lr Z h ad ao (f_addRight σ p v u f l)) 0 [.ref (ad 1), .int p, .int v, .int u, .int f, .int l, .ref ao] [] h := by
  have hb := fb_addRight σ p v u f l
  have hc := c_X5_addRight (Z := Z) (p := p) (v := v) (u := u) (f := f) (l := l) H
  generalize f_addRight σ p v u f l = a at hb hc ⊢
  refine iL_addRight_0 rfl ?_
  refine iL_addRight_11 (R' := zR 7 109 8 51) rfl rfl H.1.2.1 (z_rmo rfl) hc (fun v h' w => ?_) (fun e h' w => ?_)
  · obtain ⟨w1, w2, ad', w3, w4⟩ := w
    obtain ⟨a0, rfl⟩ := z_o_inl w1
    refine iL_addRight_14 rfl ?_
    refine iL_addRight_15 (r := 700) (j := 0) (N := 1) ((w2 700 (by omega)).trans ho) rfl (by omega) (by omega) ?_
    refine iL_addRight_16 rfl ?_
    refine iL_addRight_27 rfl ?_
    exact iL_addRight_28 (Nat.le_of_ble_eq_true rfl) (Nat.le_of_ble_eq_true rfl) ⟨by rw [a0], fun x hx hx7 => by rw [z_u_n hx7]; exact w2 x hx, ⟨ad', w3, w4.hi (fun x hx => z_u_n (by omega))⟩, _, z_u_s, fun _ => rfl⟩
  · obtain ⟨w1, w2, ad', w3, w4⟩ := w
    obtain ⟨a0, rfl⟩ := z_o_inr w1
    rcases (show a.1 = 1 ∨ a.1 = 2 by omega) with e1 | e1
    · have hE : z_JX Z mL_addRight (zR 8 134 8 51) (0 + 8) (0 + 51) (z_lr Z h ad ao a) 11 [.ref (ad 1), .int p, .int v, .int u, .int f, .int l, .ref ao] eA h' := z_catch (pre := []) (suf := [(0, 16, 23, 15)]) (x := (0, 16, 19, 13)) rfl (fun z hz => by cases hz) ⟨by decide, by decide⟩ (by decide) gl13 (by decide) (fun q => by
        refine iL_addRight_19 rfl ?_
        exact iL_addRight_22 (Nat.le_of_ble_eq_true rfl) (Nat.le_of_ble_eq_true rfl) ⟨by rw [e1], fun x hx _ => w2 x hx, ⟨ad', w3, w4⟩, f0, (w2 700 (by omega)).trans ho, fun z => by omega⟩)
      rw [e1]
      exact hE
    · have hE : z_JX Z mL_addRight (zR 8 134 8 51) (0 + 8) (0 + 51) (z_lr Z h ad ao a) 11 [.ref (ad 1), .int p, .int v, .int u, .int f, .int l, .ref ao] eS h' := z_catch (pre := [(0, 16, 19, 13)]) (suf := []) (x := (0, 16, 23, 15)) rfl (fun z hz => by
        simp only [List.mem_cons, List.mem_nil_iff, or_false] at hz
        rcases hz with rfl
        · exact ⟨by decide, _, gl13, by decide⟩) ⟨by decide, by decide⟩ (by decide) gl15 (by decide) (fun q => by
        refine iL_addRight_23 rfl ?_
        exact iL_addRight_26 (Nat.le_of_ble_eq_true rfl) (Nat.le_of_ble_eq_true rfl) ⟨by rw [e1], fun x hx _ => w2 x hx, ⟨ad', w3, w4⟩, f0, (w2 700 (by omega)).trans ho, fun z => by omega⟩)
      rw [e1]
      exact hE
theorem fb_upgrade (σ : zSt) (r : Int32) (v : Int32) : (f_upgrade σ r v).1 ≤ 3 := by
  unfold f_upgrade
  repeat' split
  all_goals first | exact Nat.zero_le _ | exact Nat.le_of_ble_eq_true rfl
theorem c_L_upgrade {r v : Int32} (H : z_world Z h ad σ) (ho : h 700 = some (ao, .inl (2, 1, .inr (.inl f0)))) : z_J Z mL_upgrade (zR 8 128 3 18) 0 0 (z_lr Z h ad ao (f_upgrade σ r v)) 0 [.ref (ad 1), .int r, .int v, .ref ao] [] h := by
  have hb := fb_upgrade σ r v
  have hc := c_X5_upgrade (Z := Z) (r := r) (v := v) H
  generalize f_upgrade σ r v = a at hb hc ⊢
  refine iL_upgrade_0 rfl ?_
  refine iL_upgrade_5 (R' := zR 7 104 3 18) rfl rfl H.1.2.1 (z_rmo rfl) hc (fun v h' w => ?_) (fun e h' w => ?_)
  · obtain ⟨w1, w2, ad', w3, w4⟩ := w
    obtain ⟨a0, rfl⟩ := z_o_inl w1
    refine iL_upgrade_8 rfl ?_
    refine iL_upgrade_9 (r := 700) (j := 0) (N := 1) ((w2 700 (by omega)).trans ho) rfl (by omega) (by omega) ?_
    refine iL_upgrade_10 rfl ?_
    refine iL_upgrade_25 rfl ?_
    exact iL_upgrade_26 (Nat.le_of_ble_eq_true rfl) (Nat.le_of_ble_eq_true rfl) ⟨by rw [a0], fun x hx hx7 => by rw [z_u_n hx7]; exact w2 x hx, ⟨ad', w3, w4.hi (fun x hx => z_u_n (by omega))⟩, _, z_u_s, fun _ => rfl⟩
  · obtain ⟨w1, w2, ad', w3, w4⟩ := w
    obtain ⟨a0, rfl⟩ := z_o_inr w1
    rcases (show a.1 = 1 ∨ a.1 = 2 ∨ a.1 = 3 by omega) with e1 | e1 | e1
    · have hE : z_JX Z mL_upgrade (zR 8 128 3 18) (0 + 3) (0 + 18) (z_lr Z h ad ao a) 5 [.ref (ad 1), .int r, .int v, .ref ao] eI h' := z_catch (pre := []) (suf := [(0, 10, 17, 13), (0, 10, 21, 15)]) (x := (0, 10, 13, 21)) rfl (fun z hz => by cases hz) ⟨by decide, by decide⟩ (by decide) gl21 (by decide) (fun q => by
        refine iL_upgrade_13 rfl ?_
        exact iL_upgrade_16 (Nat.le_of_ble_eq_true rfl) (Nat.le_of_ble_eq_true rfl) ⟨by rw [e1], fun x hx _ => w2 x hx, ⟨ad', w3, w4⟩, f0, (w2 700 (by omega)).trans ho, fun z => by omega⟩)
      rw [e1]
      exact hE
    · have hE : z_JX Z mL_upgrade (zR 8 128 3 18) (0 + 3) (0 + 18) (z_lr Z h ad ao a) 5 [.ref (ad 1), .int r, .int v, .ref ao] eA h' := z_catch (pre := [(0, 10, 13, 21)]) (suf := [(0, 10, 21, 15)]) (x := (0, 10, 17, 13)) rfl (fun z hz => by
        simp only [List.mem_cons, List.mem_nil_iff, or_false] at hz
        rcases hz with rfl
        · exact ⟨by decide, _, gl21, by decide⟩) ⟨by decide, by decide⟩ (by decide) gl13 (by decide) (fun q => by
        refine iL_upgrade_17 rfl ?_
        exact iL_upgrade_20 (Nat.le_of_ble_eq_true rfl) (Nat.le_of_ble_eq_true rfl) ⟨by rw [e1], fun x hx _ => w2 x hx, ⟨ad', w3, w4⟩, f0, (w2 700 (by omega)).trans ho, fun z => by omega⟩)
      rw [e1]
      exact hE
    · have hE : z_JX Z mL_upgrade (zR 8 128 3 18) (0 + 3) (0 + 18) (z_lr Z h ad ao a) 5 [.ref (ad 1), .int r, .int v, .ref ao] eS h' := z_catch (pre := [(0, 10, 13, 21), (0, 10, 17, 13)]) (suf := []) (x := (0, 10, 21, 15)) rfl (fun z hz => by
        simp only [List.mem_cons, List.mem_nil_iff, or_false] at hz
        rcases hz with rfl | rfl
        · exact ⟨by decide, _, gl21, by decide⟩
        · exact ⟨by decide, _, gl13, by decide⟩) ⟨by decide, by decide⟩ (by decide) gl15 (by decide) (fun q => by
        refine iL_upgrade_21 rfl ?_
        exact iL_upgrade_24 (Nat.le_of_ble_eq_true rfl) (Nat.le_of_ble_eq_true rfl) ⟨by rw [e1], fun x hx _ => w2 x hx, ⟨ad', w3, w4⟩, f0, (w2 700 (by omega)).trans ho, fun z => by omega⟩)
      rw [e1]
      exact hE
theorem fb_setUnits (σ : zSt) (r : Int32) (v : Int32) : (f_setUnits σ r v).1 ≤ 2 := by
  unfold f_setUnits
  repeat' split
  all_goals first | exact Nat.zero_le _ | exact Nat.le_of_ble_eq_true rfl
theorem c_L_setUnits {r v : Int32} (H : z_world Z h ad σ) (ho : h 700 = some (ao, .inl (2, 1, .inr (.inl f0)))) : z_J Z mL_setUnits (zR 8 128 2 12) 0 0 (z_lr Z h ad ao (f_setUnits σ r v)) 0 [.ref (ad 1), .int r, .int v, .ref ao] [] h := by
  have hb := fb_setUnits σ r v
  have hc := c_X5_setUnits (Z := Z) (r := r) (v := v) H
  generalize f_setUnits σ r v = a at hb hc ⊢
  refine iL_setUnits_0 rfl ?_
  refine iL_setUnits_5 (R' := zR 7 104 2 12) rfl rfl H.1.2.1 (z_rmo rfl) hc (fun v h' w => ?_) (fun e h' w => ?_)
  · obtain ⟨w1, w2, ad', w3, w4⟩ := w
    obtain ⟨a0, rfl⟩ := z_o_inl w1
    refine iL_setUnits_8 rfl ?_
    refine iL_setUnits_9 (r := 700) (j := 0) (N := 1) ((w2 700 (by omega)).trans ho) rfl (by omega) (by omega) ?_
    refine iL_setUnits_10 rfl ?_
    refine iL_setUnits_21 rfl ?_
    exact iL_setUnits_22 (Nat.le_of_ble_eq_true rfl) (Nat.le_of_ble_eq_true rfl) ⟨by rw [a0], fun x hx hx7 => by rw [z_u_n hx7]; exact w2 x hx, ⟨ad', w3, w4.hi (fun x hx => z_u_n (by omega))⟩, _, z_u_s, fun _ => rfl⟩
  · obtain ⟨w1, w2, ad', w3, w4⟩ := w
    obtain ⟨a0, rfl⟩ := z_o_inr w1
    rcases (show a.1 = 1 ∨ a.1 = 2 by omega) with e1 | e1
    · have hE : z_JX Z mL_setUnits (zR 8 128 2 12) (0 + 2) (0 + 12) (z_lr Z h ad ao a) 5 [.ref (ad 1), .int r, .int v, .ref ao] eI h' := z_catch (pre := []) (suf := [(0, 10, 17, 13)]) (x := (0, 10, 13, 21)) rfl (fun z hz => by cases hz) ⟨by decide, by decide⟩ (by decide) gl21 (by decide) (fun q => by
        refine iL_setUnits_13 rfl ?_
        exact iL_setUnits_16 (Nat.le_of_ble_eq_true rfl) (Nat.le_of_ble_eq_true rfl) ⟨by rw [e1], fun x hx _ => w2 x hx, ⟨ad', w3, w4⟩, f0, (w2 700 (by omega)).trans ho, fun z => by omega⟩)
      rw [e1]
      exact hE
    · have hE : z_JX Z mL_setUnits (zR 8 128 2 12) (0 + 2) (0 + 12) (z_lr Z h ad ao a) 5 [.ref (ad 1), .int r, .int v, .ref ao] eA h' := z_catch (pre := [(0, 10, 13, 21)]) (suf := []) (x := (0, 10, 17, 13)) rfl (fun z hz => by
        simp only [List.mem_cons, List.mem_nil_iff, or_false] at hz
        rcases hz with rfl
        · exact ⟨by decide, _, gl21, by decide⟩) ⟨by decide, by decide⟩ (by decide) gl13 (by decide) (fun q => by
        refine iL_setUnits_17 rfl ?_
        exact iL_setUnits_20 (Nat.le_of_ble_eq_true rfl) (Nat.le_of_ble_eq_true rfl) ⟨by rw [e1], fun x hx _ => w2 x hx, ⟨ad', w3, w4⟩, f0, (w2 700 (by omega)).trans ho, fun z => by omega⟩)
      rw [e1]
      exact hE
theorem fb_addMachine (σ : zSt) (c : Int32) (t : Int32) : (f_addMachine σ c t).1 ≤ 3 := by
  unfold f_addMachine f_addMachine1
  repeat' split
  all_goals first | exact Nat.zero_le _ | exact Nat.le_of_ble_eq_true rfl
theorem c_L_addMachine {c t : Int32} (H : z_world Z h ad σ) (ho : h 700 = some (ao, .inl (2, 1, .inr (.inl f0)))) : z_J Z mL_addMachine (zR 8 132 26 208) 0 0 (z_lr Z h ad ao (f_addMachine σ c t)) 0 [.ref (ad 1), .int c, .int t, .ref ao] [] h := by
  have hb := fb_addMachine σ c t
  have hc := c_X5_addMachine (Z := Z) (c := c) (t := t) H
  generalize f_addMachine σ c t = a at hb hc ⊢
  refine iL_addMachine_0 rfl ?_
  refine iL_addMachine_5 (R' := zR 7 109 26 208) rfl rfl H.1.2.1 (z_rmo rfl) hc (fun v h' w => ?_) (fun e h' w => ?_)
  · obtain ⟨w1, w2, ad', w3, w4⟩ := w
    obtain ⟨a0, rfl⟩ := z_o_inl w1
    refine iL_addMachine_8 rfl ?_
    refine iL_addMachine_9 (r := 700) (j := 0) (N := 1) ((w2 700 (by omega)).trans ho) rfl (by omega) (by omega) ?_
    refine iL_addMachine_10 rfl ?_
    refine iL_addMachine_25 rfl ?_
    exact iL_addMachine_26 (Nat.le_of_ble_eq_true rfl) (Nat.le_of_ble_eq_true rfl) ⟨by rw [a0], fun x hx hx7 => by rw [z_u_n hx7]; exact w2 x hx, ⟨ad', w3, w4.hi (fun x hx => z_u_n (by omega))⟩, _, z_u_s, fun _ => rfl⟩
  · obtain ⟨w1, w2, ad', w3, w4⟩ := w
    obtain ⟨a0, rfl⟩ := z_o_inr w1
    rcases (show a.1 = 1 ∨ a.1 = 2 ∨ a.1 = 3 by omega) with e1 | e1 | e1
    · have hE : z_JX Z mL_addMachine (zR 8 132 26 208) (0 + 26) (0 + 208) (z_lr Z h ad ao a) 5 [.ref (ad 1), .int c, .int t, .ref ao] eI h' := z_catch (pre := []) (suf := [(0, 10, 17, 13), (0, 10, 21, 15)]) (x := (0, 10, 13, 21)) rfl (fun z hz => by cases hz) ⟨by decide, by decide⟩ (by decide) gl21 (by decide) (fun q => by
        refine iL_addMachine_13 rfl ?_
        exact iL_addMachine_16 (Nat.le_of_ble_eq_true rfl) (Nat.le_of_ble_eq_true rfl) ⟨by rw [e1], fun x hx _ => w2 x hx, ⟨ad', w3, w4⟩, f0, (w2 700 (by omega)).trans ho, fun z => by omega⟩)
      rw [e1]
      exact hE
    · have hE : z_JX Z mL_addMachine (zR 8 132 26 208) (0 + 26) (0 + 208) (z_lr Z h ad ao a) 5 [.ref (ad 1), .int c, .int t, .ref ao] eA h' := z_catch (pre := [(0, 10, 13, 21)]) (suf := [(0, 10, 21, 15)]) (x := (0, 10, 17, 13)) rfl (fun z hz => by
        simp only [List.mem_cons, List.mem_nil_iff, or_false] at hz
        rcases hz with rfl
        · exact ⟨by decide, _, gl21, by decide⟩) ⟨by decide, by decide⟩ (by decide) gl13 (by decide) (fun q => by
        refine iL_addMachine_17 rfl ?_
        exact iL_addMachine_20 (Nat.le_of_ble_eq_true rfl) (Nat.le_of_ble_eq_true rfl) ⟨by rw [e1], fun x hx _ => w2 x hx, ⟨ad', w3, w4⟩, f0, (w2 700 (by omega)).trans ho, fun z => by omega⟩)
      rw [e1]
      exact hE
    · have hE : z_JX Z mL_addMachine (zR 8 132 26 208) (0 + 26) (0 + 208) (z_lr Z h ad ao a) 5 [.ref (ad 1), .int c, .int t, .ref ao] eS h' := z_catch (pre := [(0, 10, 13, 21), (0, 10, 17, 13)]) (suf := []) (x := (0, 10, 21, 15)) rfl (fun z hz => by
        simp only [List.mem_cons, List.mem_nil_iff, or_false] at hz
        rcases hz with rfl | rfl
        · exact ⟨by decide, _, gl21, by decide⟩
        · exact ⟨by decide, _, gl13, by decide⟩) ⟨by decide, by decide⟩ (by decide) gl15 (by decide) (fun q => by
        refine iL_addMachine_21 rfl ?_
        exact iL_addMachine_24 (Nat.le_of_ble_eq_true rfl) (Nat.le_of_ble_eq_true rfl) ⟨by rw [e1], fun x hx _ => w2 x hx, ⟨ad', w3, w4⟩, f0, (w2 700 (by omega)).trans ho, fun z => by omega⟩)
      rw [e1]
      exact hE
theorem fb_setCores (σ : zSt) (m : Int32) (v : Int32) : (f_setCores σ m v).1 ≤ 2 := by
  unfold f_setCores
  repeat' split
  all_goals first | exact Nat.zero_le _ | exact Nat.le_of_ble_eq_true rfl
theorem c_L_setCores {m v : Int32} (H : z_world Z h ad σ) (ho : h 700 = some (ao, .inl (2, 1, .inr (.inl f0)))) : z_J Z mL_setCores (zR 8 128 2 12) 0 0 (z_lr Z h ad ao (f_setCores σ m v)) 0 [.ref (ad 1), .int m, .int v, .ref ao] [] h := by
  have hb := fb_setCores σ m v
  have hc := c_X5_setCores (Z := Z) (m := m) (v := v) H
  generalize f_setCores σ m v = a at hb hc ⊢
  refine iL_setCores_0 rfl ?_
  refine iL_setCores_5 (R' := zR 7 104 2 12) rfl rfl H.1.2.1 (z_rmo rfl) hc (fun v h' w => ?_) (fun e h' w => ?_)
  · obtain ⟨w1, w2, ad', w3, w4⟩ := w
    obtain ⟨a0, rfl⟩ := z_o_inl w1
    refine iL_setCores_8 rfl ?_
    refine iL_setCores_9 (r := 700) (j := 0) (N := 1) ((w2 700 (by omega)).trans ho) rfl (by omega) (by omega) ?_
    refine iL_setCores_10 rfl ?_
    refine iL_setCores_21 rfl ?_
    exact iL_setCores_22 (Nat.le_of_ble_eq_true rfl) (Nat.le_of_ble_eq_true rfl) ⟨by rw [a0], fun x hx hx7 => by rw [z_u_n hx7]; exact w2 x hx, ⟨ad', w3, w4.hi (fun x hx => z_u_n (by omega))⟩, _, z_u_s, fun _ => rfl⟩
  · obtain ⟨w1, w2, ad', w3, w4⟩ := w
    obtain ⟨a0, rfl⟩ := z_o_inr w1
    rcases (show a.1 = 1 ∨ a.1 = 2 by omega) with e1 | e1
    · have hE : z_JX Z mL_setCores (zR 8 128 2 12) (0 + 2) (0 + 12) (z_lr Z h ad ao a) 5 [.ref (ad 1), .int m, .int v, .ref ao] eI h' := z_catch (pre := []) (suf := [(0, 10, 17, 13)]) (x := (0, 10, 13, 21)) rfl (fun z hz => by cases hz) ⟨by decide, by decide⟩ (by decide) gl21 (by decide) (fun q => by
        refine iL_setCores_13 rfl ?_
        exact iL_setCores_16 (Nat.le_of_ble_eq_true rfl) (Nat.le_of_ble_eq_true rfl) ⟨by rw [e1], fun x hx _ => w2 x hx, ⟨ad', w3, w4⟩, f0, (w2 700 (by omega)).trans ho, fun z => by omega⟩)
      rw [e1]
      exact hE
    · have hE : z_JX Z mL_setCores (zR 8 128 2 12) (0 + 2) (0 + 12) (z_lr Z h ad ao a) 5 [.ref (ad 1), .int m, .int v, .ref ao] eA h' := z_catch (pre := [(0, 10, 13, 21)]) (suf := []) (x := (0, 10, 17, 13)) rfl (fun z hz => by
        simp only [List.mem_cons, List.mem_nil_iff, or_false] at hz
        rcases hz with rfl
        · exact ⟨by decide, _, gl21, by decide⟩) ⟨by decide, by decide⟩ (by decide) gl13 (by decide) (fun q => by
        refine iL_setCores_17 rfl ?_
        exact iL_setCores_20 (Nat.le_of_ble_eq_true rfl) (Nat.le_of_ble_eq_true rfl) ⟨by rw [e1], fun x hx _ => w2 x hx, ⟨ad', w3, w4⟩, f0, (w2 700 (by omega)).trans ho, fun z => by omega⟩)
      rw [e1]
      exact hE
theorem fb_tellApart (σ : zSt) (m : Int32) (b : Bool) : (f_tellApart σ m b).1 ≤ 1 := by
  unfold f_tellApart
  repeat' split
  all_goals first | exact Nat.zero_le _ | exact Nat.le_of_ble_eq_true rfl
theorem c_L_tellApart {m : Int32} {b : Bool} (H : z_world Z h ad σ) (ho : h 700 = some (ao, .inl (2, 1, .inr (.inl f0)))) : z_J Z mL_tellApart (zR 8 126 1 6) 0 0 (z_lr Z h ad ao (f_tellApart σ m b)) 0 [.ref (ad 1), .int m, .int (zb b), .ref ao] [] h := by
  have hb := fb_tellApart σ m b
  have hc := c_X5_tellApart (Z := Z) (m := m) (b := b) H
  generalize f_tellApart σ m b = a at hb hc ⊢
  refine iL_tellApart_0 rfl ?_
  refine iL_tellApart_5 (R' := zR 7 103 1 6) rfl rfl H.1.2.1 (z_rmo rfl) hc (fun v h' w => ?_) (fun e h' w => ?_)
  · obtain ⟨w1, w2, ad', w3, w4⟩ := w
    obtain ⟨a0, rfl⟩ := z_o_inl w1
    refine iL_tellApart_8 rfl ?_
    refine iL_tellApart_9 (r := 700) (j := 0) (N := 1) ((w2 700 (by omega)).trans ho) rfl (by omega) (by omega) ?_
    refine iL_tellApart_10 rfl ?_
    refine iL_tellApart_17 rfl ?_
    exact iL_tellApart_18 (Nat.le_of_ble_eq_true rfl) (Nat.le_of_ble_eq_true rfl) ⟨by rw [a0], fun x hx hx7 => by rw [z_u_n hx7]; exact w2 x hx, ⟨ad', w3, w4.hi (fun x hx => z_u_n (by omega))⟩, _, z_u_s, fun _ => rfl⟩
  · obtain ⟨w1, w2, ad', w3, w4⟩ := w
    obtain ⟨a0, rfl⟩ := z_o_inr w1
    rcases (show a.1 = 1 by omega) with e1
    · have hE : z_JX Z mL_tellApart (zR 8 126 1 6) (0 + 1) (0 + 6) (z_lr Z h ad ao a) 5 [.ref (ad 1), .int m, .int (zb b), .ref ao] eI h' := z_catch (pre := []) (suf := []) (x := (0, 10, 13, 21)) rfl (fun z hz => by cases hz) ⟨by decide, by decide⟩ (by decide) gl21 (by decide) (fun q => by
        refine iL_tellApart_13 rfl ?_
        exact iL_tellApart_16 (Nat.le_of_ble_eq_true rfl) (Nat.le_of_ble_eq_true rfl) ⟨by rw [e1], fun x hx _ => w2 x hx, ⟨ad', w3, w4⟩, f0, (w2 700 (by omega)).trans ho, fun z => by omega⟩)
      rw [e1]
      exact hE
theorem fb_setCoresOfUnit (σ : zSt) (p : Int32) (v : Int32) : (f_setCoresOfUnit σ p v).1 ≤ 2 := by
  unfold f_setCoresOfUnit
  repeat' split
  all_goals first | exact Nat.zero_le _ | exact Nat.le_of_ble_eq_true rfl
theorem c_L_setCoresOfUnit {p v : Int32} (H : z_world Z h ad σ) (ho : h 700 = some (ao, .inl (2, 1, .inr (.inl f0)))) : z_J Z mL_setCoresOfUnit (zR 8 127 2 12) 0 0 (z_lr Z h ad ao (f_setCoresOfUnit σ p v)) 0 [.ref (ad 1), .int p, .int v, .ref ao] [] h := by
  have hb := fb_setCoresOfUnit σ p v
  have hc := c_X5_setCoresOfUnit (Z := Z) (p := p) (v := v) H
  generalize f_setCoresOfUnit σ p v = a at hb hc ⊢
  refine iL_setCoresOfUnit_0 rfl ?_
  refine iL_setCoresOfUnit_5 (R' := zR 7 104 2 12) rfl rfl H.1.2.1 (z_rmo rfl) hc (fun v h' w => ?_) (fun e h' w => ?_)
  · obtain ⟨w1, w2, ad', w3, w4⟩ := w
    obtain ⟨a0, rfl⟩ := z_o_inl w1
    refine iL_setCoresOfUnit_8 rfl ?_
    refine iL_setCoresOfUnit_9 (r := 700) (j := 0) (N := 1) ((w2 700 (by omega)).trans ho) rfl (by omega) (by omega) ?_
    refine iL_setCoresOfUnit_10 rfl ?_
    refine iL_setCoresOfUnit_21 rfl ?_
    exact iL_setCoresOfUnit_22 (Nat.le_of_ble_eq_true rfl) (Nat.le_of_ble_eq_true rfl) ⟨by rw [a0], fun x hx hx7 => by rw [z_u_n hx7]; exact w2 x hx, ⟨ad', w3, w4.hi (fun x hx => z_u_n (by omega))⟩, _, z_u_s, fun _ => rfl⟩
  · obtain ⟨w1, w2, ad', w3, w4⟩ := w
    obtain ⟨a0, rfl⟩ := z_o_inr w1
    rcases (show a.1 = 1 ∨ a.1 = 2 by omega) with e1 | e1
    · have hE : z_JX Z mL_setCoresOfUnit (zR 8 127 2 12) (0 + 2) (0 + 12) (z_lr Z h ad ao a) 5 [.ref (ad 1), .int p, .int v, .ref ao] eI h' := z_catch (pre := []) (suf := [(0, 10, 17, 13)]) (x := (0, 10, 13, 21)) rfl (fun z hz => by cases hz) ⟨by decide, by decide⟩ (by decide) gl21 (by decide) (fun q => by
        refine iL_setCoresOfUnit_13 rfl ?_
        exact iL_setCoresOfUnit_16 (Nat.le_of_ble_eq_true rfl) (Nat.le_of_ble_eq_true rfl) ⟨by rw [e1], fun x hx _ => w2 x hx, ⟨ad', w3, w4⟩, f0, (w2 700 (by omega)).trans ho, fun z => by omega⟩)
      rw [e1]
      exact hE
    · have hE : z_JX Z mL_setCoresOfUnit (zR 8 127 2 12) (0 + 2) (0 + 12) (z_lr Z h ad ao a) 5 [.ref (ad 1), .int p, .int v, .ref ao] eA h' := z_catch (pre := [(0, 10, 13, 21)]) (suf := []) (x := (0, 10, 17, 13)) rfl (fun z hz => by
        simp only [List.mem_cons, List.mem_nil_iff, or_false] at hz
        rcases hz with rfl
        · exact ⟨by decide, _, gl21, by decide⟩) ⟨by decide, by decide⟩ (by decide) gl13 (by decide) (fun q => by
        refine iL_setCoresOfUnit_17 rfl ?_
        exact iL_setCoresOfUnit_20 (Nat.le_of_ble_eq_true rfl) (Nat.le_of_ble_eq_true rfl) ⟨by rw [e1], fun x hx _ => w2 x hx, ⟨ad', w3, w4⟩, f0, (w2 700 (by omega)).trans ho, fun z => by omega⟩)
      rw [e1]
      exact hE
theorem fb_install (σ : zSt) (m : Int32) (p : Int32) (v : Int32) (d : Int32) : (f_install σ m p v d).1 ≤ 3 := by
  unfold f_install f_install1
  repeat' split
  all_goals first | exact Nat.zero_le _ | exact Nat.le_of_ble_eq_true rfl
theorem c_L_install {m p v d : Int32} (H : z_world Z h ad σ) (ho : h 700 = some (ao, .inl (2, 1, .inr (.inl f0)))) : z_J Z mL_install (zR 9 150 5 30) 0 0 (z_lr Z h ad ao (f_install σ m p v d)) 0 [.ref (ad 1), .int m, .int p, .int v, .int d, .ref ao] [] h := by
  have hb := fb_install σ m p v d
  have hc := c_X5_install (Z := Z) (m := m) (p := p) (v := v) (d := d) H
  generalize f_install σ m p v d = a at hb hc ⊢
  refine iL_install_0 rfl ?_
  refine iL_install_9 (R' := zR 8 125 5 30) rfl rfl H.1.2.1 (z_rmo rfl) hc (fun v h' w => ?_) (fun e h' w => ?_)
  · obtain ⟨w1, w2, ad', w3, w4⟩ := w
    obtain ⟨a0, rfl⟩ := z_o_inl w1
    refine iL_install_12 rfl ?_
    refine iL_install_13 (r := 700) (j := 0) (N := 1) ((w2 700 (by omega)).trans ho) rfl (by omega) (by omega) ?_
    refine iL_install_14 rfl ?_
    refine iL_install_29 rfl ?_
    exact iL_install_30 (Nat.le_of_ble_eq_true rfl) (Nat.le_of_ble_eq_true rfl) ⟨by rw [a0], fun x hx hx7 => by rw [z_u_n hx7]; exact w2 x hx, ⟨ad', w3, w4.hi (fun x hx => z_u_n (by omega))⟩, _, z_u_s, fun _ => rfl⟩
  · obtain ⟨w1, w2, ad', w3, w4⟩ := w
    obtain ⟨a0, rfl⟩ := z_o_inr w1
    rcases (show a.1 = 1 ∨ a.1 = 2 ∨ a.1 = 3 by omega) with e1 | e1 | e1
    · have hE : z_JX Z mL_install (zR 9 150 5 30) (0 + 5) (0 + 30) (z_lr Z h ad ao a) 9 [.ref (ad 1), .int m, .int p, .int v, .int d, .ref ao] eI h' := z_catch (pre := []) (suf := [(0, 14, 21, 13), (0, 14, 25, 15)]) (x := (0, 14, 17, 21)) rfl (fun z hz => by cases hz) ⟨by decide, by decide⟩ (by decide) gl21 (by decide) (fun q => by
        refine iL_install_17 rfl ?_
        exact iL_install_20 (Nat.le_of_ble_eq_true rfl) (Nat.le_of_ble_eq_true rfl) ⟨by rw [e1], fun x hx _ => w2 x hx, ⟨ad', w3, w4⟩, f0, (w2 700 (by omega)).trans ho, fun z => by omega⟩)
      rw [e1]
      exact hE
    · have hE : z_JX Z mL_install (zR 9 150 5 30) (0 + 5) (0 + 30) (z_lr Z h ad ao a) 9 [.ref (ad 1), .int m, .int p, .int v, .int d, .ref ao] eA h' := z_catch (pre := [(0, 14, 17, 21)]) (suf := [(0, 14, 25, 15)]) (x := (0, 14, 21, 13)) rfl (fun z hz => by
        simp only [List.mem_cons, List.mem_nil_iff, or_false] at hz
        rcases hz with rfl
        · exact ⟨by decide, _, gl21, by decide⟩) ⟨by decide, by decide⟩ (by decide) gl13 (by decide) (fun q => by
        refine iL_install_21 rfl ?_
        exact iL_install_24 (Nat.le_of_ble_eq_true rfl) (Nat.le_of_ble_eq_true rfl) ⟨by rw [e1], fun x hx _ => w2 x hx, ⟨ad', w3, w4⟩, f0, (w2 700 (by omega)).trans ho, fun z => by omega⟩)
      rw [e1]
      exact hE
    · have hE : z_JX Z mL_install (zR 9 150 5 30) (0 + 5) (0 + 30) (z_lr Z h ad ao a) 9 [.ref (ad 1), .int m, .int p, .int v, .int d, .ref ao] eS h' := z_catch (pre := [(0, 14, 17, 21), (0, 14, 21, 13)]) (suf := []) (x := (0, 14, 25, 15)) rfl (fun z hz => by
        simp only [List.mem_cons, List.mem_nil_iff, or_false] at hz
        rcases hz with rfl | rfl
        · exact ⟨by decide, _, gl21, by decide⟩
        · exact ⟨by decide, _, gl13, by decide⟩) ⟨by decide, by decide⟩ (by decide) gl15 (by decide) (fun q => by
        refine iL_install_25 rfl ?_
        exact iL_install_28 (Nat.le_of_ble_eq_true rfl) (Nat.le_of_ble_eq_true rfl) ⟨by rw [e1], fun x hx _ => w2 x hx, ⟨ad', w3, w4⟩, f0, (w2 700 (by omega)).trans ho, fun z => by omega⟩)
      rw [e1]
      exact hE
theorem fb_uninstall (σ : zSt) (m : Int32) (p : Int32) (d : Int32) : (f_uninstall σ m p d).1 ≤ 3 := by
  unfold f_uninstall f_uninstall1
  repeat' split
  all_goals first | exact Nat.zero_le _ | exact Nat.le_of_ble_eq_true rfl
theorem c_L_uninstall {m p d : Int32} (H : z_world Z h ad σ) (ho : h 700 = some (ao, .inl (2, 1, .inr (.inl f0)))) : z_J Z mL_uninstall (zR 9 149 4 24) 0 0 (z_lr Z h ad ao (f_uninstall σ m p d)) 0 [.ref (ad 1), .int m, .int p, .int d, .ref ao] [] h := by
  have hb := fb_uninstall σ m p d
  have hc := c_X5_uninstall (Z := Z) (m := m) (p := p) (d := d) H
  generalize f_uninstall σ m p d = a at hb hc ⊢
  refine iL_uninstall_0 rfl ?_
  refine iL_uninstall_7 (R' := zR 8 125 4 24) rfl rfl H.1.2.1 (z_rmo rfl) hc (fun v h' w => ?_) (fun e h' w => ?_)
  · obtain ⟨w1, w2, ad', w3, w4⟩ := w
    obtain ⟨a0, rfl⟩ := z_o_inl w1
    refine iL_uninstall_10 rfl ?_
    refine iL_uninstall_11 (r := 700) (j := 0) (N := 1) ((w2 700 (by omega)).trans ho) rfl (by omega) (by omega) ?_
    refine iL_uninstall_12 rfl ?_
    refine iL_uninstall_27 rfl ?_
    exact iL_uninstall_28 (Nat.le_of_ble_eq_true rfl) (Nat.le_of_ble_eq_true rfl) ⟨by rw [a0], fun x hx hx7 => by rw [z_u_n hx7]; exact w2 x hx, ⟨ad', w3, w4.hi (fun x hx => z_u_n (by omega))⟩, _, z_u_s, fun _ => rfl⟩
  · obtain ⟨w1, w2, ad', w3, w4⟩ := w
    obtain ⟨a0, rfl⟩ := z_o_inr w1
    rcases (show a.1 = 1 ∨ a.1 = 2 ∨ a.1 = 3 by omega) with e1 | e1 | e1
    · have hE : z_JX Z mL_uninstall (zR 9 149 4 24) (0 + 4) (0 + 24) (z_lr Z h ad ao a) 7 [.ref (ad 1), .int m, .int p, .int d, .ref ao] eI h' := z_catch (pre := []) (suf := [(0, 12, 19, 13), (0, 12, 23, 15)]) (x := (0, 12, 15, 21)) rfl (fun z hz => by cases hz) ⟨by decide, by decide⟩ (by decide) gl21 (by decide) (fun q => by
        refine iL_uninstall_15 rfl ?_
        exact iL_uninstall_18 (Nat.le_of_ble_eq_true rfl) (Nat.le_of_ble_eq_true rfl) ⟨by rw [e1], fun x hx _ => w2 x hx, ⟨ad', w3, w4⟩, f0, (w2 700 (by omega)).trans ho, fun z => by omega⟩)
      rw [e1]
      exact hE
    · have hE : z_JX Z mL_uninstall (zR 9 149 4 24) (0 + 4) (0 + 24) (z_lr Z h ad ao a) 7 [.ref (ad 1), .int m, .int p, .int d, .ref ao] eA h' := z_catch (pre := [(0, 12, 15, 21)]) (suf := [(0, 12, 23, 15)]) (x := (0, 12, 19, 13)) rfl (fun z hz => by
        simp only [List.mem_cons, List.mem_nil_iff, or_false] at hz
        rcases hz with rfl
        · exact ⟨by decide, _, gl21, by decide⟩) ⟨by decide, by decide⟩ (by decide) gl13 (by decide) (fun q => by
        refine iL_uninstall_19 rfl ?_
        exact iL_uninstall_22 (Nat.le_of_ble_eq_true rfl) (Nat.le_of_ble_eq_true rfl) ⟨by rw [e1], fun x hx _ => w2 x hx, ⟨ad', w3, w4⟩, f0, (w2 700 (by omega)).trans ho, fun z => by omega⟩)
      rw [e1]
      exact hE
    · have hE : z_JX Z mL_uninstall (zR 9 149 4 24) (0 + 4) (0 + 24) (z_lr Z h ad ao a) 7 [.ref (ad 1), .int m, .int p, .int d, .ref ao] eS h' := z_catch (pre := [(0, 12, 15, 21), (0, 12, 19, 13)]) (suf := []) (x := (0, 12, 23, 15)) rfl (fun z hz => by
        simp only [List.mem_cons, List.mem_nil_iff, or_false] at hz
        rcases hz with rfl | rfl
        · exact ⟨by decide, _, gl21, by decide⟩
        · exact ⟨by decide, _, gl13, by decide⟩) ⟨by decide, by decide⟩ (by decide) gl15 (by decide) (fun q => by
        refine iL_uninstall_23 rfl ?_
        exact iL_uninstall_26 (Nat.le_of_ble_eq_true rfl) (Nat.le_of_ble_eq_true rfl) ⟨by rw [e1], fun x hx _ => w2 x hx, ⟨ad', w3, w4⟩, f0, (w2 700 (by omega)).trans ho, fun z => by omega⟩)
      rw [e1]
      exact hE
theorem fb_runs (σ : zSt) (m : Int32) (p : Int32) (d : Int32) : (f_runs σ m p d).1 ≤ 2 := by
  unfold f_runs
  repeat' split
  all_goals first | exact Nat.zero_le _ | exact Nat.le_of_ble_eq_true rfl
theorem c_L_runs {m p d : Int32} (H : z_world Z h ad σ) (ho : h 700 = some (ao, .inl (2, 1, .inr (.inl f0)))) : z_J Z mL_runs (zR 9 149 3 18) 0 0 (z_lr Z h ad ao (f_runs σ m p d)) 0 [.ref (ad 1), .int m, .int p, .int d, .ref ao] [] h := by
  have hb := fb_runs σ m p d
  have hc := c_X5_runs (Z := Z) (m := m) (p := p) (d := d) H
  generalize f_runs σ m p d = a at hb hc ⊢
  refine iL_runs_0 rfl ?_
  refine iL_runs_7 (R' := zR 8 125 3 18) rfl rfl H.1.2.1 (z_rmo rfl) hc (fun v h' w => ?_) (fun e h' w => ?_)
  · obtain ⟨w1, w2, ad', w3, w4⟩ := w
    obtain ⟨a0, rfl⟩ := z_o_inl w1
    refine iL_runs_10 rfl ?_
    refine iL_runs_11 (r := 700) (j := 0) (N := 1) ((w2 700 (by omega)).trans ho) rfl (by omega) (by omega) ?_
    refine iL_runs_12 rfl ?_
    refine iL_runs_23 rfl ?_
    exact iL_runs_24 (Nat.le_of_ble_eq_true rfl) (Nat.le_of_ble_eq_true rfl) ⟨by rw [a0], fun x hx hx7 => by rw [z_u_n hx7]; exact w2 x hx, ⟨ad', w3, w4.hi (fun x hx => z_u_n (by omega))⟩, _, z_u_s, fun _ => rfl⟩
  · obtain ⟨w1, w2, ad', w3, w4⟩ := w
    obtain ⟨a0, rfl⟩ := z_o_inr w1
    rcases (show a.1 = 1 ∨ a.1 = 2 by omega) with e1 | e1
    · have hE : z_JX Z mL_runs (zR 9 149 3 18) (0 + 3) (0 + 18) (z_lr Z h ad ao a) 7 [.ref (ad 1), .int m, .int p, .int d, .ref ao] eI h' := z_catch (pre := []) (suf := [(0, 12, 19, 13)]) (x := (0, 12, 15, 21)) rfl (fun z hz => by cases hz) ⟨by decide, by decide⟩ (by decide) gl21 (by decide) (fun q => by
        refine iL_runs_15 rfl ?_
        exact iL_runs_18 (Nat.le_of_ble_eq_true rfl) (Nat.le_of_ble_eq_true rfl) ⟨by rw [e1], fun x hx _ => w2 x hx, ⟨ad', w3, w4⟩, f0, (w2 700 (by omega)).trans ho, fun z => by omega⟩)
      rw [e1]
      exact hE
    · have hE : z_JX Z mL_runs (zR 9 149 3 18) (0 + 3) (0 + 18) (z_lr Z h ad ao a) 7 [.ref (ad 1), .int m, .int p, .int d, .ref ao] eA h' := z_catch (pre := [(0, 12, 15, 21)]) (suf := []) (x := (0, 12, 19, 13)) rfl (fun z hz => by
        simp only [List.mem_cons, List.mem_nil_iff, or_false] at hz
        rcases hz with rfl
        · exact ⟨by decide, _, gl21, by decide⟩) ⟨by decide, by decide⟩ (by decide) gl13 (by decide) (fun q => by
        refine iL_runs_19 rfl ?_
        exact iL_runs_22 (Nat.le_of_ble_eq_true rfl) (Nat.le_of_ble_eq_true rfl) ⟨by rw [e1], fun x hx _ => w2 x hx, ⟨ad', w3, w4⟩, f0, (w2 700 (by omega)).trans ho, fun z => by omega⟩)
      rw [e1]
      exact hE
theorem fb_needs (σ : zSt) (d : Int32) : (f_needs σ d).1 ≤ 1 := by
  unfold f_needs
  repeat' split
  all_goals first | exact Nat.zero_le _ | exact Nat.le_of_ble_eq_true rfl
theorem c_L_needs {d : Int32} (H : z_world Z h ad σ) (ho : h 700 = some (ao, .inl (2, 1, .inr (.inl f0)))) : z_J Z mL_needs (zR 9 145 1 6) 0 0 (z_lr Z h ad ao (f_needs σ d)) 0 [.ref (ad 1), .int d, .ref ao] [] h := by
  have hb := fb_needs σ d
  have hc := c_X5_needs (Z := Z) (d := d) H
  generalize f_needs σ d = a at hb hc ⊢
  refine iL_needs_0 rfl ?_
  refine iL_needs_4 (R' := zR 8 124 1 6) rfl rfl H.1.2.1 (z_rmo rfl) hc (fun v h' w => ?_) (fun e h' w => ?_)
  · obtain ⟨w1, w2, ad', w3, w4⟩ := w
    obtain ⟨a0, rfl⟩ := z_o_inl w1
    refine iL_needs_7 rfl ?_
    refine iL_needs_8 (r := 700) (j := 0) (N := 1) ((w2 700 (by omega)).trans ho) rfl (by omega) (by omega) ?_
    refine iL_needs_9 rfl ?_
    refine iL_needs_15 rfl ?_
    exact iL_needs_16 (Nat.le_of_ble_eq_true rfl) (Nat.le_of_ble_eq_true rfl) ⟨by rw [a0], fun x hx hx7 => by rw [z_u_n hx7]; exact w2 x hx, ⟨ad', w3, w4.hi (fun x hx => z_u_n (by omega))⟩, _, z_u_s, fun _ => rfl⟩
  · obtain ⟨w1, w2, ad', w3, w4⟩ := w
    obtain ⟨a0, rfl⟩ := z_o_inr w1
    rcases (show a.1 = 1 by omega) with e1
    · have hE : z_JX Z mL_needs (zR 9 145 1 6) (0 + 1) (0 + 6) (z_lr Z h ad ao a) 4 [.ref (ad 1), .int d, .ref ao] eA h' := z_catch (pre := []) (suf := []) (x := (0, 9, 12, 13)) rfl (fun z hz => by cases hz) ⟨by decide, by decide⟩ (by decide) gl13 (by decide) (fun q => by
        refine iL_needs_12 rfl ?_
        exact iL_needs_14 (Nat.le_of_ble_eq_true rfl) (Nat.le_of_ble_eq_true rfl) ⟨by rw [e1], fun x hx _ => w2 x hx, ⟨ad', w3, w4⟩, f0, (w2 700 (by omega)).trans ho, fun z => by omega⟩)
      rw [e1]
      exact hE
theorem fb_need (σ : zSt) (d : Int32) (k : Int32) : (f_need σ d k).1 ≤ 2 := by
  unfold f_need
  repeat' split
  all_goals first | exact Nat.zero_le _ | exact Nat.le_of_ble_eq_true rfl
theorem c_L_need {d k : Int32} (H : z_world Z h ad σ) (ho : h 700 = some (ao, .inl (2, 1, .inr (.inl f0)))) : z_J Z mL_need (zR 9 146 2 12) 0 0 (z_lr Z h ad ao (f_need σ d k)) 0 [.ref (ad 1), .int d, .int k, .ref ao] [] h := by
  have hb := fb_need σ d k
  have hc := c_X5_need (Z := Z) (d := d) (k := k) H
  generalize f_need σ d k = a at hb hc ⊢
  refine iL_need_0 rfl ?_
  refine iL_need_5 (R' := zR 8 124 2 12) rfl rfl H.1.2.1 (z_rmo rfl) hc (fun v h' w => ?_) (fun e h' w => ?_)
  · obtain ⟨w1, w2, ad', w3, w4⟩ := w
    obtain ⟨a0, rfl⟩ := z_o_inl w1
    refine iL_need_8 rfl ?_
    refine iL_need_9 (r := 700) (j := 0) (N := 1) ((w2 700 (by omega)).trans ho) rfl (by omega) (by omega) ?_
    refine iL_need_10 rfl ?_
    refine iL_need_21 rfl ?_
    exact iL_need_22 (Nat.le_of_ble_eq_true rfl) (Nat.le_of_ble_eq_true rfl) ⟨by rw [a0], fun x hx hx7 => by rw [z_u_n hx7]; exact w2 x hx, ⟨ad', w3, w4.hi (fun x hx => z_u_n (by omega))⟩, _, z_u_s, fun _ => rfl⟩
  · obtain ⟨w1, w2, ad', w3, w4⟩ := w
    obtain ⟨a0, rfl⟩ := z_o_inr w1
    rcases (show a.1 = 1 ∨ a.1 = 2 by omega) with e1 | e1
    · have hE : z_JX Z mL_need (zR 9 146 2 12) (0 + 2) (0 + 12) (z_lr Z h ad ao a) 5 [.ref (ad 1), .int d, .int k, .ref ao] eA h' := z_catch (pre := []) (suf := [(0, 10, 17, 21)]) (x := (0, 10, 13, 13)) rfl (fun z hz => by cases hz) ⟨by decide, by decide⟩ (by decide) gl13 (by decide) (fun q => by
        refine iL_need_13 rfl ?_
        exact iL_need_16 (Nat.le_of_ble_eq_true rfl) (Nat.le_of_ble_eq_true rfl) ⟨by rw [e1], fun x hx _ => w2 x hx, ⟨ad', w3, w4⟩, f0, (w2 700 (by omega)).trans ho, fun z => by omega⟩)
      rw [e1]
      exact hE
    · have hE : z_JX Z mL_need (zR 9 146 2 12) (0 + 2) (0 + 12) (z_lr Z h ad ao a) 5 [.ref (ad 1), .int d, .int k, .ref ao] eI h' := z_catch (pre := [(0, 10, 13, 13)]) (suf := []) (x := (0, 10, 17, 21)) rfl (fun z hz => by
        simp only [List.mem_cons, List.mem_nil_iff, or_false] at hz
        rcases hz with rfl
        · exact ⟨by decide, _, gl13, by decide⟩) ⟨by decide, by decide⟩ (by decide) gl21 (by decide) (fun q => by
        refine iL_need_17 rfl ?_
        exact iL_need_20 (Nat.le_of_ble_eq_true rfl) (Nat.le_of_ble_eq_true rfl) ⟨by rw [e1], fun x hx _ => w2 x hx, ⟨ad', w3, w4⟩, f0, (w2 700 (by omega)).trans ho, fun z => by omega⟩)
      rw [e1]
      exact hE
theorem fb_demand (σ : zSt) (d : Int32) (k : Int32) : (f_demand σ d k).1 ≤ 2 := by
  unfold f_demand
  repeat' split
  all_goals first | exact Nat.zero_le _ | exact Nat.le_of_ble_eq_true rfl
theorem c_L_demand {d k : Int32} (H : z_world Z h ad σ) (ho : h 700 = some (ao, .inl (2, 1, .inr (.inl f0)))) : z_J Z mL_demand (zR 9 146 2 12) 0 0 (z_lr Z h ad ao (f_demand σ d k)) 0 [.ref (ad 1), .int d, .int k, .ref ao] [] h := by
  have hb := fb_demand σ d k
  have hc := c_X5_demand (Z := Z) (d := d) (k := k) H
  generalize f_demand σ d k = a at hb hc ⊢
  refine iL_demand_0 rfl ?_
  refine iL_demand_5 (R' := zR 8 124 2 12) rfl rfl H.1.2.1 (z_rmo rfl) hc (fun v h' w => ?_) (fun e h' w => ?_)
  · obtain ⟨w1, w2, ad', w3, w4⟩ := w
    obtain ⟨a0, rfl⟩ := z_o_inl w1
    refine iL_demand_8 rfl ?_
    refine iL_demand_9 (r := 700) (j := 0) (N := 1) ((w2 700 (by omega)).trans ho) rfl (by omega) (by omega) ?_
    refine iL_demand_10 rfl ?_
    refine iL_demand_21 rfl ?_
    exact iL_demand_22 (Nat.le_of_ble_eq_true rfl) (Nat.le_of_ble_eq_true rfl) ⟨by rw [a0], fun x hx hx7 => by rw [z_u_n hx7]; exact w2 x hx, ⟨ad', w3, w4.hi (fun x hx => z_u_n (by omega))⟩, _, z_u_s, fun _ => rfl⟩
  · obtain ⟨w1, w2, ad', w3, w4⟩ := w
    obtain ⟨a0, rfl⟩ := z_o_inr w1
    rcases (show a.1 = 1 ∨ a.1 = 2 by omega) with e1 | e1
    · have hE : z_JX Z mL_demand (zR 9 146 2 12) (0 + 2) (0 + 12) (z_lr Z h ad ao a) 5 [.ref (ad 1), .int d, .int k, .ref ao] eA h' := z_catch (pre := []) (suf := [(0, 10, 17, 21)]) (x := (0, 10, 13, 13)) rfl (fun z hz => by cases hz) ⟨by decide, by decide⟩ (by decide) gl13 (by decide) (fun q => by
        refine iL_demand_13 rfl ?_
        exact iL_demand_16 (Nat.le_of_ble_eq_true rfl) (Nat.le_of_ble_eq_true rfl) ⟨by rw [e1], fun x hx _ => w2 x hx, ⟨ad', w3, w4⟩, f0, (w2 700 (by omega)).trans ho, fun z => by omega⟩)
      rw [e1]
      exact hE
    · have hE : z_JX Z mL_demand (zR 9 146 2 12) (0 + 2) (0 + 12) (z_lr Z h ad ao a) 5 [.ref (ad 1), .int d, .int k, .ref ao] eI h' := z_catch (pre := [(0, 10, 13, 13)]) (suf := []) (x := (0, 10, 17, 21)) rfl (fun z hz => by
        simp only [List.mem_cons, List.mem_nil_iff, or_false] at hz
        rcases hz with rfl
        · exact ⟨by decide, _, gl13, by decide⟩) ⟨by decide, by decide⟩ (by decide) gl21 (by decide) (fun q => by
        refine iL_demand_17 rfl ?_
        exact iL_demand_20 (Nat.le_of_ble_eq_true rfl) (Nat.le_of_ble_eq_true rfl) ⟨by rw [e1], fun x hx _ => w2 x hx, ⟨ad', w3, w4⟩, f0, (w2 700 (by omega)).trans ho, fun z => by omega⟩)
      rw [e1]
      exact hE
theorem fb_gets (σ : zSt) (d : Int32) (k : Int32) : (f_gets σ d k).1 ≤ 2 := by
  unfold f_gets
  repeat' split
  all_goals first | exact Nat.zero_le _ | exact Nat.le_of_ble_eq_true rfl
theorem c_L_gets {d k : Int32} (H : z_world Z h ad σ) (ho : h 700 = some (ao, .inl (2, 1, .inr (.inl f0)))) : z_J Z mL_gets (zR 9 157 2 12) 0 0 (z_lr Z h ad ao (f_gets σ d k)) 0 [.ref (ad 1), .int d, .int k, .ref ao] [] h := by
  have hb := fb_gets σ d k
  have hc := c_X5_gets (Z := Z) (d := d) (k := k) H
  generalize f_gets σ d k = a at hb hc ⊢
  refine iL_gets_0 rfl ?_
  refine iL_gets_5 (R' := zR 8 135 2 12) rfl rfl H.1.2.1 (z_rmo rfl) hc (fun v h' w => ?_) (fun e h' w => ?_)
  · obtain ⟨w1, w2, ad', w3, w4⟩ := w
    obtain ⟨a0, rfl⟩ := z_o_inl w1
    refine iL_gets_8 rfl ?_
    refine iL_gets_9 (r := 700) (j := 0) (N := 1) ((w2 700 (by omega)).trans ho) rfl (by omega) (by omega) ?_
    refine iL_gets_10 rfl ?_
    refine iL_gets_21 rfl ?_
    exact iL_gets_22 (Nat.le_of_ble_eq_true rfl) (Nat.le_of_ble_eq_true rfl) ⟨by rw [a0], fun x hx hx7 => by rw [z_u_n hx7]; exact w2 x hx, ⟨ad', w3, w4.hi (fun x hx => z_u_n (by omega))⟩, _, z_u_s, fun _ => rfl⟩
  · obtain ⟨w1, w2, ad', w3, w4⟩ := w
    obtain ⟨a0, rfl⟩ := z_o_inr w1
    rcases (show a.1 = 1 ∨ a.1 = 2 by omega) with e1 | e1
    · have hE : z_JX Z mL_gets (zR 9 157 2 12) (0 + 2) (0 + 12) (z_lr Z h ad ao a) 5 [.ref (ad 1), .int d, .int k, .ref ao] eA h' := z_catch (pre := []) (suf := [(0, 10, 17, 21)]) (x := (0, 10, 13, 13)) rfl (fun z hz => by cases hz) ⟨by decide, by decide⟩ (by decide) gl13 (by decide) (fun q => by
        refine iL_gets_13 rfl ?_
        exact iL_gets_16 (Nat.le_of_ble_eq_true rfl) (Nat.le_of_ble_eq_true rfl) ⟨by rw [e1], fun x hx _ => w2 x hx, ⟨ad', w3, w4⟩, f0, (w2 700 (by omega)).trans ho, fun z => by omega⟩)
      rw [e1]
      exact hE
    · have hE : z_JX Z mL_gets (zR 9 157 2 12) (0 + 2) (0 + 12) (z_lr Z h ad ao a) 5 [.ref (ad 1), .int d, .int k, .ref ao] eI h' := z_catch (pre := [(0, 10, 13, 13)]) (suf := []) (x := (0, 10, 17, 21)) rfl (fun z hz => by
        simp only [List.mem_cons, List.mem_nil_iff, or_false] at hz
        rcases hz with rfl
        · exact ⟨by decide, _, gl13, by decide⟩) ⟨by decide, by decide⟩ (by decide) gl21 (by decide) (fun q => by
        refine iL_gets_17 rfl ?_
        exact iL_gets_20 (Nat.le_of_ble_eq_true rfl) (Nat.le_of_ble_eq_true rfl) ⟨by rw [e1], fun x hx _ => w2 x hx, ⟨ad', w3, w4⟩, f0, (w2 700 (by omega)).trans ho, fun z => by omega⟩)
      rw [e1]
      exact hE
theorem fb_lack (σ : zSt) (d : Int32) : (f_lack σ d).1 ≤ 1 := by
  unfold f_lack
  repeat' split
  all_goals first | exact Nat.zero_le _ | exact Nat.le_of_ble_eq_true rfl
theorem c_L_lack {d : Int32} (H : z_world Z h ad σ) (ho : h 700 = some (ao, .inl (2, 1, .inr (.inl f0)))) : z_J Z mL_lack (zR 9 156 1 6) 0 0 (z_lr Z h ad ao (f_lack σ d)) 0 [.ref (ad 1), .int d, .ref ao] [] h := by
  have hb := fb_lack σ d
  have hc := c_X5_lack (Z := Z) (d := d) H
  generalize f_lack σ d = a at hb hc ⊢
  refine iL_lack_0 rfl ?_
  refine iL_lack_4 (R' := zR 8 135 1 6) rfl rfl H.1.2.1 (z_rmo rfl) hc (fun v h' w => ?_) (fun e h' w => ?_)
  · obtain ⟨w1, w2, ad', w3, w4⟩ := w
    obtain ⟨a0, rfl⟩ := z_o_inl w1
    refine iL_lack_7 rfl ?_
    refine iL_lack_8 (r := 700) (j := 0) (N := 1) ((w2 700 (by omega)).trans ho) rfl (by omega) (by omega) ?_
    refine iL_lack_9 rfl ?_
    refine iL_lack_15 rfl ?_
    exact iL_lack_16 (Nat.le_of_ble_eq_true rfl) (Nat.le_of_ble_eq_true rfl) ⟨by rw [a0], fun x hx hx7 => by rw [z_u_n hx7]; exact w2 x hx, ⟨ad', w3, w4.hi (fun x hx => z_u_n (by omega))⟩, _, z_u_s, fun _ => rfl⟩
  · obtain ⟨w1, w2, ad', w3, w4⟩ := w
    obtain ⟨a0, rfl⟩ := z_o_inr w1
    rcases (show a.1 = 1 by omega) with e1
    · have hE : z_JX Z mL_lack (zR 9 156 1 6) (0 + 1) (0 + 6) (z_lr Z h ad ao a) 4 [.ref (ad 1), .int d, .ref ao] eA h' := z_catch (pre := []) (suf := []) (x := (0, 9, 12, 13)) rfl (fun z hz => by cases hz) ⟨by decide, by decide⟩ (by decide) gl13 (by decide) (fun q => by
        refine iL_lack_12 rfl ?_
        exact iL_lack_14 (Nat.le_of_ble_eq_true rfl) (Nat.le_of_ble_eq_true rfl) ⟨by rw [e1], fun x hx _ => w2 x hx, ⟨ad', w3, w4⟩, f0, (w2 700 (by omega)).trans ho, fun z => by omega⟩)
      rw [e1]
      exact hE
theorem fb_lackBySets (σ : zSt) (d : Int32) : (f_lackBySets σ d).1 ≤ 2 := by
  unfold f_lackBySets
  repeat' split
  all_goals first | exact Nat.zero_le _ | exact Nat.le_of_ble_eq_true rfl
theorem c_L_lackBySets {d : Int32} (H : z_world Z h ad σ) (ho : h 700 = some (ao, .inl (2, 1, .inr (.inl f0)))) : z_J Z mL_lackBySets (zR 9 147 2 12) 0 0 (z_lr Z h ad ao (f_lackBySets σ d)) 0 [.ref (ad 1), .int d, .ref ao] [] h := by
  have hb := fb_lackBySets σ d
  have hc := c_X5_lackBySets (Z := Z) (d := d) H
  generalize f_lackBySets σ d = a at hb hc ⊢
  refine iL_lackBySets_0 rfl ?_
  refine iL_lackBySets_4 (R' := zR 8 124 2 12) rfl rfl H.1.2.1 (z_rmo rfl) hc (fun v h' w => ?_) (fun e h' w => ?_)
  · obtain ⟨w1, w2, ad', w3, w4⟩ := w
    obtain ⟨a0, rfl⟩ := z_o_inl w1
    refine iL_lackBySets_7 rfl ?_
    refine iL_lackBySets_8 (r := 700) (j := 0) (N := 1) ((w2 700 (by omega)).trans ho) rfl (by omega) (by omega) ?_
    refine iL_lackBySets_9 rfl ?_
    refine iL_lackBySets_18 rfl ?_
    exact iL_lackBySets_19 (Nat.le_of_ble_eq_true rfl) (Nat.le_of_ble_eq_true rfl) ⟨by rw [a0], fun x hx hx7 => by rw [z_u_n hx7]; exact w2 x hx, ⟨ad', w3, w4.hi (fun x hx => z_u_n (by omega))⟩, _, z_u_s, fun _ => rfl⟩
  · obtain ⟨w1, w2, ad', w3, w4⟩ := w
    obtain ⟨a0, rfl⟩ := z_o_inr w1
    rcases (show a.1 = 1 ∨ a.1 = 2 by omega) with e1 | e1
    · have hE : z_JX Z mL_lackBySets (zR 9 147 2 12) (0 + 2) (0 + 12) (z_lr Z h ad ao a) 4 [.ref (ad 1), .int d, .ref ao] eA h' := z_catch (pre := []) (suf := [(0, 9, 15, 15)]) (x := (0, 9, 12, 13)) rfl (fun z hz => by cases hz) ⟨by decide, by decide⟩ (by decide) gl13 (by decide) (fun q => by
        refine iL_lackBySets_12 rfl ?_
        exact iL_lackBySets_14 (Nat.le_of_ble_eq_true rfl) (Nat.le_of_ble_eq_true rfl) ⟨by rw [e1], fun x hx _ => w2 x hx, ⟨ad', w3, w4⟩, f0, (w2 700 (by omega)).trans ho, fun z => by omega⟩)
      rw [e1]
      exact hE
    · have hE : z_JX Z mL_lackBySets (zR 9 147 2 12) (0 + 2) (0 + 12) (z_lr Z h ad ao a) 4 [.ref (ad 1), .int d, .ref ao] eS h' := z_catch (pre := [(0, 9, 12, 13)]) (suf := []) (x := (0, 9, 15, 15)) rfl (fun z hz => by
        simp only [List.mem_cons, List.mem_nil_iff, or_false] at hz
        rcases hz with rfl
        · exact ⟨by decide, _, gl13, by decide⟩) ⟨by decide, by decide⟩ (by decide) gl15 (by decide) (fun q => by
        refine iL_lackBySets_15 rfl ?_
        exact iL_lackBySets_17 (Nat.le_of_ble_eq_true rfl) (Nat.le_of_ble_eq_true rfl) ⟨by rw [e1], fun x hx _ => w2 x hx, ⟨ad', w3, w4⟩, f0, (w2 700 (by omega)).trans ho, fun z => by omega⟩)
      rw [e1]
      exact hE
theorem fb_spare (σ : zSt) (d : Int32) (p : Int32) (v : Int32) : (f_spare σ d p v).1 ≤ 2 := by
  unfold f_spare
  repeat' split
  all_goals first | exact Nat.zero_le _ | exact Nat.le_of_ble_eq_true rfl
theorem c_L_spare {d p v : Int32} (H : z_world Z h ad σ) (ho : h 700 = some (ao, .inl (2, 1, .inr (.inl f0)))) : z_J Z mL_spare (zR 9 158 3 18) 0 0 (z_lr Z h ad ao (f_spare σ d p v)) 0 [.ref (ad 1), .int d, .int p, .int v, .ref ao] [] h := by
  have hb := fb_spare σ d p v
  have hc := c_X5_spare (Z := Z) (d := d) (p := p) (v := v) H
  generalize f_spare σ d p v = a at hb hc ⊢
  refine iL_spare_0 rfl ?_
  refine iL_spare_7 (R' := zR 8 135 3 18) rfl rfl H.1.2.1 (z_rmo rfl) hc (fun v h' w => ?_) (fun e h' w => ?_)
  · obtain ⟨w1, w2, ad', w3, w4⟩ := w
    obtain ⟨a0, rfl⟩ := z_o_inl w1
    refine iL_spare_10 rfl ?_
    refine iL_spare_11 (r := 700) (j := 0) (N := 1) ((w2 700 (by omega)).trans ho) rfl (by omega) (by omega) ?_
    refine iL_spare_12 rfl ?_
    refine iL_spare_23 rfl ?_
    exact iL_spare_24 (Nat.le_of_ble_eq_true rfl) (Nat.le_of_ble_eq_true rfl) ⟨by rw [a0], fun x hx hx7 => by rw [z_u_n hx7]; exact w2 x hx, ⟨ad', w3, w4.hi (fun x hx => z_u_n (by omega))⟩, _, z_u_s, fun _ => rfl⟩
  · obtain ⟨w1, w2, ad', w3, w4⟩ := w
    obtain ⟨a0, rfl⟩ := z_o_inr w1
    rcases (show a.1 = 1 ∨ a.1 = 2 by omega) with e1 | e1
    · have hE : z_JX Z mL_spare (zR 9 158 3 18) (0 + 3) (0 + 18) (z_lr Z h ad ao a) 7 [.ref (ad 1), .int d, .int p, .int v, .ref ao] eA h' := z_catch (pre := []) (suf := [(0, 12, 19, 21)]) (x := (0, 12, 15, 13)) rfl (fun z hz => by cases hz) ⟨by decide, by decide⟩ (by decide) gl13 (by decide) (fun q => by
        refine iL_spare_15 rfl ?_
        exact iL_spare_18 (Nat.le_of_ble_eq_true rfl) (Nat.le_of_ble_eq_true rfl) ⟨by rw [e1], fun x hx _ => w2 x hx, ⟨ad', w3, w4⟩, f0, (w2 700 (by omega)).trans ho, fun z => by omega⟩)
      rw [e1]
      exact hE
    · have hE : z_JX Z mL_spare (zR 9 158 3 18) (0 + 3) (0 + 18) (z_lr Z h ad ao a) 7 [.ref (ad 1), .int d, .int p, .int v, .ref ao] eI h' := z_catch (pre := [(0, 12, 15, 13)]) (suf := []) (x := (0, 12, 19, 21)) rfl (fun z hz => by
        simp only [List.mem_cons, List.mem_nil_iff, or_false] at hz
        rcases hz with rfl
        · exact ⟨by decide, _, gl13, by decide⟩) ⟨by decide, by decide⟩ (by decide) gl21 (by decide) (fun q => by
        refine iL_spare_19 rfl ?_
        exact iL_spare_22 (Nat.le_of_ble_eq_true rfl) (Nat.le_of_ble_eq_true rfl) ⟨by rw [e1], fun x hx _ => w2 x hx, ⟨ad', w3, w4⟩, f0, (w2 700 (by omega)).trans ho, fun z => by omega⟩)
      rw [e1]
      exact hE
theorem fb_most (σ : zSt) (p : Int32) (m : Int32) : (f_most σ p m).1 ≤ 2 := by
  unfold f_most
  repeat' split
  all_goals first | exact Nat.zero_le _ | exact Nat.le_of_ble_eq_true rfl
theorem c_L_most {p m : Int32} (H : z_world Z h ad σ) (ho : h 700 = some (ao, .inl (2, 1, .inr (.inl f0)))) : z_J Z mL_most (zR 8 128 2 12) 0 0 (z_lr Z h ad ao (f_most σ p m)) 0 [.ref (ad 1), .int p, .int m, .ref ao] [] h := by
  have hb := fb_most σ p m
  have hc := c_X5_most (Z := Z) (p := p) (m := m) H
  generalize f_most σ p m = a at hb hc ⊢
  refine iL_most_0 rfl ?_
  refine iL_most_5 (R' := zR 7 104 2 12) rfl rfl H.1.2.1 (z_rmo rfl) hc (fun v h' w => ?_) (fun e h' w => ?_)
  · obtain ⟨w1, w2, ad', w3, w4⟩ := w
    obtain ⟨a0, rfl⟩ := z_o_inl w1
    refine iL_most_8 rfl ?_
    refine iL_most_9 (r := 700) (j := 0) (N := 1) ((w2 700 (by omega)).trans ho) rfl (by omega) (by omega) ?_
    refine iL_most_10 rfl ?_
    refine iL_most_21 rfl ?_
    exact iL_most_22 (Nat.le_of_ble_eq_true rfl) (Nat.le_of_ble_eq_true rfl) ⟨by rw [a0], fun x hx hx7 => by rw [z_u_n hx7]; exact w2 x hx, ⟨ad', w3, w4.hi (fun x hx => z_u_n (by omega))⟩, _, z_u_s, fun _ => rfl⟩
  · obtain ⟨w1, w2, ad', w3, w4⟩ := w
    obtain ⟨a0, rfl⟩ := z_o_inr w1
    rcases (show a.1 = 1 ∨ a.1 = 2 by omega) with e1 | e1
    · have hE : z_JX Z mL_most (zR 8 128 2 12) (0 + 2) (0 + 12) (z_lr Z h ad ao a) 5 [.ref (ad 1), .int p, .int m, .ref ao] eI h' := z_catch (pre := []) (suf := [(0, 10, 17, 13)]) (x := (0, 10, 13, 21)) rfl (fun z hz => by cases hz) ⟨by decide, by decide⟩ (by decide) gl21 (by decide) (fun q => by
        refine iL_most_13 rfl ?_
        exact iL_most_16 (Nat.le_of_ble_eq_true rfl) (Nat.le_of_ble_eq_true rfl) ⟨by rw [e1], fun x hx _ => w2 x hx, ⟨ad', w3, w4⟩, f0, (w2 700 (by omega)).trans ho, fun z => by omega⟩)
      rw [e1]
      exact hE
    · have hE : z_JX Z mL_most (zR 8 128 2 12) (0 + 2) (0 + 12) (z_lr Z h ad ao a) 5 [.ref (ad 1), .int p, .int m, .ref ao] eA h' := z_catch (pre := [(0, 10, 13, 21)]) (suf := []) (x := (0, 10, 17, 13)) rfl (fun z hz => by
        simp only [List.mem_cons, List.mem_nil_iff, or_false] at hz
        rcases hz with rfl
        · exact ⟨by decide, _, gl21, by decide⟩) ⟨by decide, by decide⟩ (by decide) gl13 (by decide) (fun q => by
        refine iL_most_17 rfl ?_
        exact iL_most_20 (Nat.le_of_ble_eq_true rfl) (Nat.le_of_ble_eq_true rfl) ⟨by rw [e1], fun x hx _ => w2 x hx, ⟨ad', w3, w4⟩, f0, (w2 700 (by omega)).trans ho, fun z => by omega⟩)
      rw [e1]
      exact hE
end ZLaw1
