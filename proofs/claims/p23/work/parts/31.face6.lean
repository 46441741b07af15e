/-! ===== install, uninstall, runs ===== -/
def nuF (f : Nat → Nat → Nat) (n : Nat) (g : Nat → Nat) : Nat → Nat → Nat := fun i => if i = n then g else f i
theorem nuF_s {f : Nat → Nat → Nat} {k : Nat} {x : Nat → Nat} : nuF f k x k = x := if_pos rfl
theorem nuF_n {f : Nat → Nat → Nat} {k j : Nat} {x : Nat → Nat} (h : j ≠ k) : nuF f k x j = f j := if_neg h
def f_install1 (σ : zSt) (q v : Nat) (d : Int32) : zAn :=
  if s_HN σ q < 10 ∧ h_last (s_HF σ q) (s_HE σ q) (s_HN σ q) < d then
    (0, nI (s_HN σ q + 1), (σ.1, σ.2.1, (nu (s_HN σ) q (s_HN σ q + 1), nuF (s_HV σ) q (nu (s_HV σ q) (s_HN σ q) v), nuF (s_HF σ) q (nu (s_HF σ q) (s_HN σ q) (zn d)), nuF (s_HE σ) q (nu (s_HE σ q) (s_HN σ q) 721)), s_CU σ))
  else (3, 0, σ)
def f_install (σ : zSt) (m p v d : Int32) : zAn :=
  if zix m (s_nM σ) = true ∧ zix p 5 = true then
    if zin v 1 9 = true ∧ zin d 0 720 = true then f_install1 σ (zn m * 5 + zn p) (zn v) d
    else (2, 0, σ)
  else (1, 0, σ)
def f_uninstall1 (σ : zSt) (q : Nat) (d : Int32) : zAn :=
  if h_open (s_HE σ q) (s_HN σ q) = true ∧ h_last (s_HF σ q) (s_HE σ q) (s_HN σ q) < d then
    (0, nI (s_HV σ q (s_HN σ q - 1)), (σ.1, σ.2.1, (s_HN σ, s_HV σ, s_HF σ, nuF (s_HE σ) q (nu (s_HE σ q) (s_HN σ q - 1) (zn d))), s_CU σ))
  else (3, 0, σ)
def f_uninstall (σ : zSt) (m p d : Int32) : zAn :=
  if zix m (s_nM σ) = true ∧ zix p 5 = true then
    if zin d 0 720 = true then f_uninstall1 σ (zn m * 5 + zn p) d
    else (2, 0, σ)
  else (1, 0, σ)
def f_runs (σ : zSt) (m p d : Int32) : zAn :=
  if zix m (s_nM σ) = true ∧ zix p 5 = true then
    if zin d 0 720 = true then (0, nI (s_on σ (zn d) (zn m) (zn p)), σ)
    else (2, 0, σ)
  else (1, 0, σ)
section ZFace6
variable {Z : zZ} {h : zH} {ad : Nat → Nat} {σ : zSt} {Q : zO → zH → Prop}
/-- only one history's own cells have changed -/
theorem z_cls_hist {h' : zH} {q N' : Nat} {V' F' E' : Nat → Nat} (H : z_cls Z h ad σ) (hs : z_same (400 + 4 * q) (400 + 4 * q + 3) h h') (hh : z_hist h' (400 + 4 * q) (ad (400 + 4 * q)) N' V' F' E') : z_cls Z h' ad (σ.1, σ.2.1, (nu (s_HN σ) q N', nuF (s_HV σ) q V', nuF (s_HF σ) q F', nuF (s_HE σ) q E'), s_CU σ) := by
  obtain ⟨h0, h1, ⟨h2, h3⟩, ⟨h4, h5, h6, h7⟩, h8⟩ := H
  have hn8 : s_nM σ ≤ 8 := h0.2.1.1
  have hn10 : s_nR σ ≤ 10 := h0.1.1
  refine ⟨h0, by rw [hs _ (by omega)]; exact h1, ⟨h2.kept (hs _ (by omega)) (hs _ (by omega)), fun i hi => ?_⟩, ⟨h4.kept (hs _ (by omega)) (hs _ (by omega)), fun j hj => ?_, fun j hj => ?_, fun r hr => ?_⟩, by rw [hs _ (by omega)]; exact h8⟩
  · have hi : i < s_nR σ := hi
    have := h3 i hi
    unfold z_right at this ⊢
    rw [hs _ (by omega)]; exact this
  · have hj : j < s_nM σ := hj
    have := h5 j hj
    unfold z_mach at this ⊢
    rw [hs _ (by omega)]; exact this
  · have hj : j < s_nM σ := hj
    obtain ⟨e, e1, e2⟩ := h6 j hj
    exact ⟨e, by rw [hs _ (by omega)]; exact e1, e2⟩
  · show z_hist h' _ _ (nu (s_HN σ) q N' r) (nuF (s_HV σ) q V' r) (nuF (s_HF σ) q F' r) (nuF (s_HE σ) q E' r)
    by_cases e : r = q
    · subst e
      rw [nu_s, nuF_s, nuF_s, nuF_s]
      exact hh
    · rw [nu_n e, nuF_n e, nuF_n e, nuF_n e]
      exact (h7 r hr).kept (fun x _ _ => hs x (by omega))
theorem c_X5_install {m p v d : Int32} (H : z_world Z h ad σ) : z_J Z mX5_install (zR 8 125 5 30) 0 0 (z_res Z h ad [eI, eA, eS] (f_install σ m p v d)) 0 [.ref (ad 1), .int m, .int p, .int v, .int d] [] h := by
  obtain ⟨hok, k1, hr2, ⟨h2, h3, h4, h5⟩, h6⟩ := id H.1
  have hn8 := hok.2.1.1
  unfold f_install
  by_cases c1 : zix m (s_nM σ) = true ∧ zix p 5 = true
  rotate_left
  · rw [if_neg c1]
    refine iX5_install_0 rfl ?_
    refine iX5_install_3 (R' := zR 7 103 2 12) rfl rfl k1 (z_rmo rfl) (c_X5_historyOf_x H.1 c1) z_er (z_ex ?_)
    exact z_out rfl (Nat.le_of_ble_eq_true rfl) (Nat.le_of_ble_eq_true rfl) (z_res_x H _ 1 0)
  rw [if_pos c1]
  have hc := c_X5_historyOf H.1 c1.1 c1.2
  obtain ⟨M, rfl, m1⟩ := zix_e c1.1
  obtain ⟨P, rfl, p1⟩ := zix_e c1.2
  rw [zn_nI (d := M) (by omega), zn_nI (d := P) (by omega)] at hc ⊢
  have hh := h5 (M * 5 + P) (by omega)
  by_cases c2 : zin v 1 9 = true
  rotate_left
  · rw [if_neg (fun z => c2 z.1)]
    refine iX5_install_0 rfl ?_
    refine iX5_install_3 (R' := zR 7 103 2 12) rfl rfl k1 (z_rmo rfl) (hc) (z_qr ?_) z_qx
    refine iX5_install_6 rfl ?_
    refine iX5_install_12 (R' := zR 6 82 1 6) rfl rfl (z_rmo rfl) (c_X5_checkArgument_x (zin_no c2)) z_er (z_ex ?_)
    exact z_out rfl (Nat.le_of_ble_eq_true rfl) (Nat.le_of_ble_eq_true rfl) (z_res_x H _ 2 0)
  by_cases c3 : zin d 0 720 = true
  rotate_left
  · rw [if_neg (fun z => c3 z.2)]
    refine iX5_install_0 rfl ?_
    refine iX5_install_3 (R' := zR 7 103 2 12) rfl rfl k1 (z_rmo rfl) (hc) (z_qr ?_) z_qx
    refine iX5_install_6 rfl ?_
    refine iX5_install_12 (R' := zR 6 82 1 6) rfl rfl (z_rmo rfl) (c_X5_checkArgument (zin_ok c2).1 (zin_ok c2).2) (z_qr ?_) z_qx
    refine iX5_install_15 rfl ?_
    refine iX5_install_17 (R' := zR 7 104 1 6) rfl rfl (z_rmo rfl) (c_X5_checkDay_x c3) z_er (z_ex ?_)
    exact z_out rfl (Nat.le_of_ble_eq_true rfl) (Nat.le_of_ble_eq_true rfl) (z_res_x H _ 2 0)
  rw [if_pos ⟨c2, c3⟩]
  generalize hq : M * 5 + P = q at hc hh ⊢
  have hq40 : q < 40 := by omega
  obtain ⟨y1, y2, y3, y0, -⟩ := id hh.1
  unfold f_install1
  refine iX5_install_0 rfl ?_
  refine iX5_install_3 (R' := zR 7 103 2 12) rfl rfl k1 (z_rmo rfl) (hc) (z_qr ?_) z_qx
  refine iX5_install_6 rfl ?_
  refine iX5_install_12 (R' := zR 6 82 1 6) rfl rfl (z_rmo rfl) (c_X5_checkArgument (zin_ok c2).1 (zin_ok c2).2) (z_qr ?_) z_qx
  refine iX5_install_15 rfl ?_
  refine iX5_install_17 (R' := zR 7 104 1 6) rfl rfl (z_rmo rfl) (c_X5_checkDay c3) (z_qr ?_) z_qx
  refine iX5_install_20 rfl ?_
  refine iX5_install_22 (R' := zR 0 0 0 0) rfl rfl y0 (z_rmo rfl) (c_X1_isFull hh) (z_qr ?_) z_qx
  refine iX5_install_25 (fun cc => ?_) (fun cc => ?_)
  · have := zb_n0 cc
    rw [if_neg (fun z => by simp only [decide_eq_true_eq] at this; omega)]
    exact iX5_install_38 (Nat.le_of_ble_eq_true rfl) (Nat.le_of_ble_eq_true rfl) (Nat.le_of_ble_eq_true rfl) (Nat.le_of_ble_eq_true rfl) (z_res_x H _ 3 0)
  have hlt : s_HN σ q < 10 := by
    have := zb_0 cc
    simp only [decide_eq_false_iff_not] at this
    omega
  refine iX5_install_28 rfl ?_
  refine iX5_install_30 (R' := zR 1 20 0 0) rfl rfl y0 (z_rmo rfl) (c_X1_lastChange hh) (z_qr ?_) z_qx
  refine iX5_install_33 rfl ?_
  refine iX5_install_35 (fun c9 => ?_) (fun c9 => ?_)
  rotate_left
  · rw [if_neg (fun z => c9 z.2)]
    exact iX5_install_38 (Nat.le_of_ble_eq_true rfl) (Nat.le_of_ble_eq_true rfl) (Nat.le_of_ble_eq_true rfl) (Nat.le_of_ble_eq_true rfl) (z_res_x H _ 3 0)
  rw [if_pos ⟨hlt, c9⟩]
  obtain ⟨V, rfl, v1, v2⟩ := zin_e c2
  obtain ⟨D, rfl, d1, d2⟩ := zin_e c3
  rw [zn_nI (d := V) (by omega), zn_nI (d := D) (by omega)]
  refine iX5_install_48 rfl ?_
  refine iX5_install_53 (R' := zR 1 20 0 0) rfl rfl y0 (z_rmo rfl) (c_X1_begin (v := V) (d := D) hh hlt (by omega) (by omega)) (fun v h' w => ?_) (fun E h' w => ?_)
  · obtain ⟨w1, w2, w3⟩ := w
    cases w1
    obtain ⟨y1', y2', y3', y0', -⟩ := id w2.1
    refine iX5_install_56 rfl ?_
    refine iX5_install_58 y0' rfl ?_
    exact iX5_install_61 (Nat.le_of_ble_eq_true rfl) (Nat.le_of_ble_eq_true rfl) ⟨rfl, w3.wide (by omega) (by omega), ad, rfl, z_cls_hist H.1 w3 w2, H.2.kept (fun x _ _ => w3 x (by omega))⟩
  · cases w.1
theorem c_X5_uninstall {m p d : Int32} (H : z_world Z h ad σ) : z_J Z mX5_uninstall (zR 8 125 4 24) 0 0 (z_res Z h ad [eI, eA, eS] (f_uninstall σ m p d)) 0 [.ref (ad 1), .int m, .int p, .int d] [] h := by
  obtain ⟨hok, k1, hr2, ⟨h2, h3, h4, h5⟩, h6⟩ := id H.1
  have hn8 := hok.2.1.1
  unfold f_uninstall
  by_cases c1 : zix m (s_nM σ) = true ∧ zix p 5 = true
  rotate_left
  · rw [if_neg c1]
    refine iX5_uninstall_0 rfl ?_
    refine iX5_uninstall_3 (R' := zR 7 103 2 12) rfl rfl k1 (z_rmo rfl) (c_X5_historyOf_x H.1 c1) z_er (z_ex ?_)
    exact z_out rfl (Nat.le_of_ble_eq_true rfl) (Nat.le_of_ble_eq_true rfl) (z_res_x H _ 1 0)
  rw [if_pos c1]
  have hc := c_X5_historyOf H.1 c1.1 c1.2
  obtain ⟨M, rfl, m1⟩ := zix_e c1.1
  obtain ⟨P, rfl, p1⟩ := zix_e c1.2
  rw [zn_nI (d := M) (by omega), zn_nI (d := P) (by omega)] at hc ⊢
  have hh := h5 (M * 5 + P) (by omega)
  by_cases c3 : zin d 0 720 = true
  rotate_left
  · rw [if_neg c3]
    refine iX5_uninstall_0 rfl ?_
    refine iX5_uninstall_3 (R' := zR 7 103 2 12) rfl rfl k1 (z_rmo rfl) (hc) (z_qr ?_) z_qx
    refine iX5_uninstall_6 rfl ?_
    refine iX5_uninstall_9 (R' := zR 7 104 1 6) rfl rfl (z_rmo rfl) (c_X5_checkDay_x c3) z_er (z_ex ?_)
    exact z_out rfl (Nat.le_of_ble_eq_true rfl) (Nat.le_of_ble_eq_true rfl) (z_res_x H _ 2 0)
  rw [if_pos c3]
  generalize hq : M * 5 + P = q at hc hh ⊢
  have hq40 : q < 40 := by omega
  obtain ⟨y1, y2, y3, y0, -⟩ := id hh.1
  unfold f_uninstall1
  refine iX5_uninstall_0 rfl ?_
  refine iX5_uninstall_3 (R' := zR 7 103 2 12) rfl rfl k1 (z_rmo rfl) (hc) (z_qr ?_) z_qx
  refine iX5_uninstall_6 rfl ?_
  refine iX5_uninstall_9 (R' := zR 7 104 1 6) rfl rfl (z_rmo rfl) (c_X5_checkDay c3) (z_qr ?_) z_qx
  refine iX5_uninstall_12 rfl ?_
  refine iX5_uninstall_14 (R' := zR 0 0 0 0) rfl rfl y0 (z_rmo rfl) (c_X1_isOpen hh) (z_qr ?_) z_qx
  refine iX5_uninstall_17 (fun cc => ?_) (fun cc => ?_)
  · have := zb_0 cc
    rw [if_neg (fun z => by rw [this] at z; exact absurd z.1 (by decide))]
    exact iX5_uninstall_29 (Nat.le_of_ble_eq_true rfl) (Nat.le_of_ble_eq_true rfl) (Nat.le_of_ble_eq_true rfl) (Nat.le_of_ble_eq_true rfl) (z_res_x H _ 3 0)
  have hopen := zb_n0 cc
  refine iX5_uninstall_20 rfl ?_
  refine iX5_uninstall_22 (R' := zR 1 20 0 0) rfl rfl y0 (z_rmo rfl) (c_X1_lastChange hh) (z_qr ?_) z_qx
  refine iX5_uninstall_25 rfl ?_
  refine iX5_uninstall_26 (fun c9 => ?_) (fun c9 => ?_)
  rotate_left
  · rw [if_neg (fun z => c9 z.2)]
    exact iX5_uninstall_29 (Nat.le_of_ble_eq_true rfl) (Nat.le_of_ble_eq_true rfl) (Nat.le_of_ble_eq_true rfl) (Nat.le_of_ble_eq_true rfl) (z_res_x H _ 3 0)
  rw [if_pos ⟨hopen, c9⟩]
  obtain ⟨D, rfl, d1, d2⟩ := zin_e c3
  rw [zn_nI (d := D) (by omega)]
  refine iX5_uninstall_39 rfl ?_
  refine iX5_uninstall_42 (R' := zR 1 20 0 0) rfl rfl y0 (z_rmo rfl) (c_X1_end (d := D) hh hopen (by omega)) (fun v h' w => ?_) (fun E h' w => ?_)
  · obtain ⟨w1, w2, w3⟩ := w
    cases w1
    refine iX5_uninstall_45 (Nat.le_of_ble_eq_true rfl) (Nat.le_of_ble_eq_true rfl) ⟨rfl, w3.wide (by omega) (by omega), ad, rfl, ?_, H.2.kept (fun x _ _ => w3 x (by omega))⟩
    have g := z_cls_hist H.1 w3 w2
    have e1 : nu (s_HN σ) q (s_HN σ q) = s_HN σ := by
      funext i; unfold nu; split
      · rename_i e; rw [e]
      · rfl
    have e2 : ∀ f : Nat → Nat → Nat, nuF f q (f q) = f := fun f => by
      funext i; unfold nuF; split
      · rename_i e; rw [e]
      · rfl
    rw [e1, e2, e2] at g
    exact g
  · cases w.1
theorem c_X5_runs {m p d : Int32} (H : z_world Z h ad σ) : z_J Z mX5_runs (zR 8 125 3 18) 0 0 (z_res Z h ad [eI, eA] (f_runs σ m p d)) 0 [.ref (ad 1), .int m, .int p, .int d] [] h := by
  obtain ⟨hok, k1, hr2, ⟨h2, h3, h4, h5⟩, h6⟩ := id H.1
  have hn8 := hok.2.1.1
  unfold f_runs
  by_cases c1 : zix m (s_nM σ) = true ∧ zix p 5 = true
  rotate_left
  · rw [if_neg c1]
    refine iX5_runs_0 rfl ?_
    refine iX5_runs_3 (R' := zR 7 103 2 12) rfl rfl k1 (z_rmo rfl) (c_X5_historyOf_x H.1 c1) z_er (z_ex ?_)
    exact z_out rfl (Nat.le_of_ble_eq_true rfl) (Nat.le_of_ble_eq_true rfl) (z_res_x H _ 1 0)
  rw [if_pos c1]
  have hc := c_X5_historyOf H.1 c1.1 c1.2
  obtain ⟨M, rfl, m1⟩ := zix_e c1.1
  obtain ⟨P, rfl, p1⟩ := zix_e c1.2
  rw [zn_nI (d := M) (by omega), zn_nI (d := P) (by omega)] at hc ⊢
  have hh := h5 (M * 5 + P) (by omega)
  by_cases c3 : zin d 0 720 = true
  rotate_left
  · rw [if_neg c3]
    refine iX5_runs_0 rfl ?_
    refine iX5_runs_3 (R' := zR 7 103 2 12) rfl rfl k1 (z_rmo rfl) (hc) (z_qr ?_) z_qx
    refine iX5_runs_6 rfl ?_
    refine iX5_runs_9 (R' := zR 7 104 1 6) rfl rfl (z_rmo rfl) (c_X5_checkDay_x c3) z_er (z_ex ?_)
    exact z_out rfl (Nat.le_of_ble_eq_true rfl) (Nat.le_of_ble_eq_true rfl) (z_res_x H _ 2 0)
  rw [if_pos c3]
  obtain ⟨y1, y2, y3, y0, -⟩ := id hh.1
  obtain ⟨D, rfl, d1, d2⟩ := zin_e c3
  rw [zn_nI (d := D) (by omega)]
  refine iX5_runs_0 rfl ?_
  refine iX5_runs_3 (R' := zR 7 103 2 12) rfl rfl k1 (z_rmo rfl) (hc) (z_qr ?_) z_qx
  refine iX5_runs_6 rfl ?_
  refine iX5_runs_9 (R' := zR 7 104 1 6) rfl rfl (z_rmo rfl) (c_X5_checkDay c3) (z_qr ?_) z_qx
  refine iX5_runs_12 rfl ?_
  refine iX5_runs_15 (R' := zR 0 0 0 0) rfl rfl y0 (z_rmo rfl) (c_X1_versionOn hh (by omega)) (z_qr ?_) z_qx
  exact iX5_runs_18 (Nat.le_of_ble_eq_true rfl) (Nat.le_of_ble_eq_true rfl) (z_res_x H _ 0 _)
end ZFace6
