/-! ===== addRight ===== -/
theorem zin_e {x : Int32} {lo hi : Nat} (h : zin x lo hi = true) (hh : hi < 2 ^ 31 := by omega) (hlo : lo < 2 ^ 31 := by omega) : ∃ d, x = nI d ∧ lo ≤ d ∧ d ≤ hi := by
  obtain ⟨a, b, c⟩ := zin_t h hh hlo
  exact ⟨_, c, a, b⟩
theorem zix_e {x : Int32} {n : Nat} (h : zix x n = true) (hh : n < 2 ^ 31 := by omega) : ∃ d, x = nI d ∧ d < n := by
  obtain ⟨a, b⟩ := zix_t h hh
  exact ⟨_, b, a⟩
theorem nu_sh (ad : Nat → Nat) (b n q : Nat) : nu (fun i => ad (b + i)) n q = fun i => nu ad (b + n) q (b + i) := by
  funext i
  unfold nu
  by_cases h : i = n
  · subst h; rw [if_pos rfl, if_pos rfl]
  · rw [if_neg h, if_neg (by omega)]
abbrev LE_ {n m : Nat} (h : Nat.ble n m = true) : n ≤ m := Nat.le_of_ble_eq_true h
section ZFace3
variable {Z : zZ} {h : zH} {ad : Nat → Nat} {σ : zSt} {Q : zO → zH → Prop}
theorem c_X5_addRight {p v u f l : Int32} (H : z_world Z h ad σ) : z_J Z mX5_addRight (zR 7 109 8 51) 0 0 (z_res Z h ad [eA, eS] (f_addRight σ p v u f l)) 0 [.ref (ad 1), .int p, .int v, .int u, .int f, .int l] [] h := by
  obtain ⟨hok, k1, ⟨h2, h3⟩, -, -⟩ := id H.1
  have hn10 := hok.1.1
  obtain ⟨x1, x2, hl⟩ := h2.obj
  unfold f_addRight
  by_cases c1 : zin p 1 31 = true
  rotate_left
  · rw [if_neg (by simp [c1])]
    refine iX5_addRight_0 rfl ?_
    refine iX5_addRight_4 (R' := zR 6 82 1 6) rfl rfl (z_rmo rfl) (c_X5_checkArgument_x (zin_no c1)) z_er (z_ex ?_)
    exact z_out rfl (Nat.le_of_ble_eq_true rfl) (Nat.le_of_ble_eq_true rfl) (z_res_x H _ 1 0)
  by_cases c2 : zin v 1 9 = true
  rotate_left
  · rw [if_neg (by simp [c2])]
    refine iX5_addRight_0 rfl ?_
    refine iX5_addRight_4 (R' := zR 6 82 1 6) rfl rfl (z_rmo rfl) (c_X5_checkArgument (zin_ok c1).1 (zin_ok c1).2) (z_qr ?_) z_qx
    refine iX5_addRight_7 rfl ?_
    refine iX5_addRight_11 (R' := zR 6 82 1 6) rfl rfl (z_rmo rfl) (c_X5_checkArgument_x (zin_no c2)) z_er (z_ex ?_)
    exact z_out rfl (Nat.le_of_ble_eq_true rfl) (Nat.le_of_ble_eq_true rfl) (z_res_x H _ 1 0)
  by_cases c3 : zin u 1 100 = true
  rotate_left
  · rw [if_neg (by simp [c3])]
    refine iX5_addRight_0 rfl ?_
    refine iX5_addRight_4 (R' := zR 6 82 1 6) rfl rfl (z_rmo rfl) (c_X5_checkArgument (zin_ok c1).1 (zin_ok c1).2) (z_qr ?_) z_qx
    refine iX5_addRight_7 rfl ?_
    refine iX5_addRight_11 (R' := zR 6 82 1 6) rfl rfl (z_rmo rfl) (c_X5_checkArgument (zin_ok c2).1 (zin_ok c2).2) (z_qr ?_) z_qx
    refine iX5_addRight_14 rfl ?_
    refine iX5_addRight_18 (R' := zR 6 82 1 6) rfl rfl (z_rmo rfl) (c_X5_checkArgument_x (zin_no c3)) z_er (z_ex ?_)
    exact z_out rfl (Nat.le_of_ble_eq_true rfl) (Nat.le_of_ble_eq_true rfl) (z_res_x H _ 1 0)
  by_cases c4 : zin f 0 720 = true
  rotate_left
  · rw [if_neg (by simp [c4])]
    refine iX5_addRight_0 rfl ?_
    refine iX5_addRight_4 (R' := zR 6 82 1 6) rfl rfl (z_rmo rfl) (c_X5_checkArgument (zin_ok c1).1 (zin_ok c1).2) (z_qr ?_) z_qx
    refine iX5_addRight_7 rfl ?_
    refine iX5_addRight_11 (R' := zR 6 82 1 6) rfl rfl (z_rmo rfl) (c_X5_checkArgument (zin_ok c2).1 (zin_ok c2).2) (z_qr ?_) z_qx
    refine iX5_addRight_14 rfl ?_
    refine iX5_addRight_18 (R' := zR 6 82 1 6) rfl rfl (z_rmo rfl) (c_X5_checkArgument (zin_ok c3).1 (zin_ok c3).2) (z_qr ?_) z_qx
    refine iX5_addRight_21 rfl ?_
    refine iX5_addRight_27 (R' := zR 6 82 1 6) rfl rfl (z_rmo rfl) (c_X5_checkArgument_x (zin_no c4)) z_er (z_ex ?_)
    exact z_out rfl (Nat.le_of_ble_eq_true rfl) (Nat.le_of_ble_eq_true rfl) (z_res_x H _ 1 0)
  by_cases c5 : f ≤ l ∧ l ≤ nI 720
  rotate_left
  · rw [if_neg (by simp only [Bool.and_eq_true, decide_eq_true_eq]; exact fun z => c5 z.2)]
    refine iX5_addRight_0 rfl ?_
    refine iX5_addRight_4 (R' := zR 6 82 1 6) rfl rfl (z_rmo rfl) (c_X5_checkArgument (zin_ok c1).1 (zin_ok c1).2) (z_qr ?_) z_qx
    refine iX5_addRight_7 rfl ?_
    refine iX5_addRight_11 (R' := zR 6 82 1 6) rfl rfl (z_rmo rfl) (c_X5_checkArgument (zin_ok c2).1 (zin_ok c2).2) (z_qr ?_) z_qx
    refine iX5_addRight_14 rfl ?_
    refine iX5_addRight_18 (R' := zR 6 82 1 6) rfl rfl (z_rmo rfl) (c_X5_checkArgument (zin_ok c3).1 (zin_ok c3).2) (z_qr ?_) z_qx
    refine iX5_addRight_21 rfl ?_
    refine iX5_addRight_27 (R' := zR 6 82 1 6) rfl rfl (z_rmo rfl) (c_X5_checkArgument (zin_ok c4).1 (zin_ok c4).2) (z_qr ?_) z_qx
    refine iX5_addRight_30 rfl ?_
    refine iX5_addRight_37 (R' := zR 6 82 1 6) rfl rfl (z_rmo rfl) (c_X5_checkArgument_x c5) z_er (z_ex ?_)
    exact z_out rfl (Nat.le_of_ble_eq_true rfl) (Nat.le_of_ble_eq_true rfl) (z_res_x H _ 1 0)
  rw [if_pos (by simp only [Bool.and_eq_true, decide_eq_true_eq]; exact ⟨⟨⟨⟨c1, c2⟩, c3⟩, c4⟩, c5⟩)]
  by_cases c6 : 10 ≤ s_nR σ
  · rw [if_pos c6]
    refine iX5_addRight_0 rfl ?_
    refine iX5_addRight_4 (R' := zR 6 82 1 6) rfl rfl (z_rmo rfl) (c_X5_checkArgument (zin_ok c1).1 (zin_ok c1).2) (z_qr ?_) z_qx
    refine iX5_addRight_7 rfl ?_
    refine iX5_addRight_11 (R' := zR 6 82 1 6) rfl rfl (z_rmo rfl) (c_X5_checkArgument (zin_ok c2).1 (zin_ok c2).2) (z_qr ?_) z_qx
    refine iX5_addRight_14 rfl ?_
    refine iX5_addRight_18 (R' := zR 6 82 1 6) rfl rfl (z_rmo rfl) (c_X5_checkArgument (zin_ok c3).1 (zin_ok c3).2) (z_qr ?_) z_qx
    refine iX5_addRight_21 rfl ?_
    refine iX5_addRight_27 (R' := zR 6 82 1 6) rfl rfl (z_rmo rfl) (c_X5_checkArgument (zin_ok c4).1 (zin_ok c4).2) (z_qr ?_) z_qx
    refine iX5_addRight_30 rfl ?_
    refine iX5_addRight_37 (R' := zR 6 82 1 6) rfl rfl (z_rmo rfl) (c_X5_checkArgument c5.1 c5.2) (z_qr ?_) z_qx
    refine iX5_addRight_40 rfl ?_
    refine iX5_addRight_41 k1 rfl ?_
    refine iX5_addRight_44 (R' := zR 0 0 0 0) rfl rfl hl (z_rmo rfl) (c_Jx4a65c_size h2) (z_qr ?_) z_qx
    refine iX5_addRight_47 rfl ?_
    refine iX5_addRight_49 (fun c => ?_) (fun c => ?_)
    · have := n_lt c; omega
    · exact iX5_addRight_52 (Nat.le_of_ble_eq_true rfl) (Nat.le_of_ble_eq_true rfl) (Nat.le_of_ble_eq_true rfl) (Nat.le_of_ble_eq_true rfl) (z_res_x H _ 2 0)
  rw [if_neg c6]
  refine iX5_addRight_0 rfl ?_
  refine iX5_addRight_4 (R' := zR 6 82 1 6) rfl rfl (z_rmo rfl) (c_X5_checkArgument (zin_ok c1).1 (zin_ok c1).2) (z_qr ?_) z_qx
  refine iX5_addRight_7 rfl ?_
  refine iX5_addRight_11 (R' := zR 6 82 1 6) rfl rfl (z_rmo rfl) (c_X5_checkArgument (zin_ok c2).1 (zin_ok c2).2) (z_qr ?_) z_qx
  refine iX5_addRight_14 rfl ?_
  refine iX5_addRight_18 (R' := zR 6 82 1 6) rfl rfl (z_rmo rfl) (c_X5_checkArgument (zin_ok c3).1 (zin_ok c3).2) (z_qr ?_) z_qx
  refine iX5_addRight_21 rfl ?_
  refine iX5_addRight_27 (R' := zR 6 82 1 6) rfl rfl (z_rmo rfl) (c_X5_checkArgument (zin_ok c4).1 (zin_ok c4).2) (z_qr ?_) z_qx
  refine iX5_addRight_30 rfl ?_
  refine iX5_addRight_37 (R' := zR 6 82 1 6) rfl rfl (z_rmo rfl) (c_X5_checkArgument c5.1 c5.2) (z_qr ?_) z_qx
  refine iX5_addRight_40 rfl ?_
  refine iX5_addRight_41 k1 rfl ?_
  refine iX5_addRight_44 (R' := zR 0 0 0 0) rfl rfl hl (z_rmo rfl) (c_Jx4a65c_size h2) (z_qr ?_) z_qx
  refine iX5_addRight_47 rfl ?_
  refine iX5_addRight_49 (fun c => ?_) (fun c => ?_)
  rotate_left
  · have := n_nlt c; omega
  obtain ⟨P, rfl, p1, p2⟩ := zin_e c1
  obtain ⟨V, rfl, v1, v2⟩ := zin_e c2
  obtain ⟨U, rfl, u1, u2⟩ := zin_e c3
  obtain ⟨F, rfl, f1, f2⟩ := zin_e c4
  obtain ⟨L, rfl, l1, l2⟩ := zin_e (x := l) (lo := 0) (hi := 720) (by
    unfold zin
    simp only [Bool.and_eq_true, decide_eq_true_eq]
    exact ⟨i_le_trans (zin_ok c4).1 c5.1, c5.2⟩)
  rw [zn_nI (d := P) (by omega), zn_nI (d := V) (by omega), zn_nI (d := U) (by omega), zn_nI (d := F) (by omega), zn_nI (d := L) (by omega)]
  refine iX5_addRight_62 rfl ?_
  refine iX5_addRight_63 k1 rfl ?_
  refine iX5_addRight_66 (200 + s_nR σ) ⟨Nat.le_of_ble_eq_true rfl, Nat.le_of_ble_eq_true rfl⟩ (fun q => ?_)
  refine iX5_addRight_69 rfl ?_
  refine iX5_addRight_77 (R' := zR 1 16 0 0) rfl rfl (z_rmo rfl) (fun E h' q => by cases q.1) (c_X4_init (P := P) (F := F) (L := L) (V := V) (U := U) (r := 200 + s_nR σ) z_u_s) (fun v h' w => ?_)
  obtain ⟨w1, w2, w3⟩ := w
  cases w1
  have f3 : ∀ x, x ≠ 200 + s_nR σ → h' x = h x := fun x hx => by rw [w3 _ (by omega), z_u_n hx]
  obtain ⟨x1', x2', hl'⟩ := (h2.kept (h' := h') (f3 _ (by omega)) (f3 _ (by omega))).obj
  refine iX5_addRight_80 (R' := zR 4 88 1 10) rfl rfl hl' (z_rmo rfl) (c_Jx4a65c_add (rv := 200 + s_nR σ) (by omega) (by omega) w2 rfl (by decide +kernel) (by omega) (h2.kept (f3 _ (by omega)) (f3 _ (by omega)))) (fun v h' y => ?_) (fun E h' y => ?_)
  · rename_i g
    obtain ⟨y1, y2, y3⟩ := y
    cases y1
    have k1' : h' 1 = some (ad 1, .inr (6, [.ref (ad 2), .ref (ad 4), .ref (ad 6), .ref (ad 7), .ref (ad 14)])) := by rw [y3 _ (by omega), f3 _ (by omega)]; exact k1
    obtain ⟨x1'', x2'', hl''⟩ := y2.obj
    refine iX5_addRight_83 rfl ?_
    refine iX5_addRight_85 k1' rfl ?_
    refine iX5_addRight_88 (R' := zR 0 0 0 0) rfl rfl hl'' (z_rmo rfl) (c_Jx4a65c_size y2) (z_qr ?_) z_qx
    refine iX5_addRight_91 rfl ?_
    have f4 : ∀ x, x ≠ 200 + s_nR σ → x ≠ 2 → x ≠ 3 → h' x = h x := fun x hx hx2 hx3 => by rw [y3 _ (by omega), f3 _ hx]
    have e9 : nI (s_nR σ + 1) - nI 1 = nI (s_nR σ) := nI_pred _
    refine iX5_addRight_93 (Nat.le_of_ble_eq_true rfl) (Nat.le_of_ble_eq_true rfl) ⟨by rw [← e9]; rfl, fun x hx => f4 x (by omega) (by omega) (by omega), nu ad (200 + s_nR σ) q, nu_n (by omega), z_cls_rights H.1 (fun x hx => f4 x (by omega) (by omega) (by omega)) (fun x hx => nu_n (by omega)) ⟨by show s_nR σ + 1 ≤ 10; omega, fun i => ?_⟩ ?_ (fun i hi => ?_), z_scr_ad (H.2.kept (fun x _ _ => f4 x (by omega) (by omega) (by omega))) (fun x hx => nu_n (by omega))⟩
    · have hi := hok.1.2 i
      show nu (s_RP σ) (s_nR σ) P i < 32 ∧ nu (s_RF σ) (s_nR σ) F i ≤ 720 ∧ nu (s_RL σ) (s_nR σ) L i ≤ 720 ∧ nu (s_RV σ) (s_nR σ) V i ≤ 9 ∧ nu (s_RU σ) (s_nR σ) U i ≤ 100
      unfold nu
      split
      · omega
      · exact hi
    · rw [nu_n (by omega), ← nu_sh]
      exact y2
    · show z_right h' (200 + i) (nu ad (200 + s_nR σ) q (200 + i)) (nu (s_RP σ) (s_nR σ) P i) (nu (s_RF σ) (s_nR σ) F i) (nu (s_RL σ) (s_nR σ) L i) (nu (s_RV σ) (s_nR σ) V i) (nu (s_RU σ) (s_nR σ) U i)
      by_cases e : i = s_nR σ
      · subst e
        rw [nu_s, nu_s, nu_s, nu_s, nu_s, nu_s]
        unfold z_right at w2 ⊢
        rw [y3 _ (by omega)]
        exact w2
      · have hi : i < s_nR σ + 1 := hi
        rw [nu_n e, nu_n e, nu_n e, nu_n e, nu_n e, nu_n (by omega)]
        have := h3 i (by omega)
        unfold z_right at this ⊢
        rw [f4 _ (by omega) (by omega) (by omega)]
        exact this
  · cases y.1
end ZFace3
