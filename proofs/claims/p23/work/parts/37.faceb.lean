/-! ===== lackBySets ===== -/
theorem n_mx_lt {f : Nat → Nat} {b : Nat} (hb : 0 < b) (h : ∀ k, f k < b) (n : Nat) : n_mx f n < b := by
  have := n_mx_le (f := f) (b := b - 1) (n := n) (fun k _ => by have := h k; omega)
  omega
theorem s_ru_le {σ : zSt} (hok : s_ok σ) (S : Nat) : s_ru σ S ≤ 1000 := by
  unfold s_ru
  have h1 := n_sum_le (f := fun c => if S.testBit c = true then s_RU σ c else 0) (b := 100) (fun k => by
    have := (hok.1.2 k).2.2.2.2
    split <;> omega) (s_nR σ)
  have h2 : s_nR σ * 100 ≤ 10 * 100 := Nat.mul_le_mul_right _ hok.1.1
  omega
section ZFaceB
variable {Z : zZ} {h : zH} {ad : Nat → Nat} {σ : zSt} {Q : zO → zH → Prop}
theorem l_X5_lackBySets {d : Nat} {NM NP NV ND NG GR : Nat → Nat} {c : Nat} (W : z_cls Z h ad σ) (hN : z_needs h 7 (ad 7) c NM NP NV ND NG GR) (hc10 : c ≤ 10) (hq : Q (.inl (some (.int (nI (n_mx (s_setw σ NG ND c) (2 ^ c)))))) h) :
    ∀ n X, X + n = 2 ^ c → z_J Z mX5_lackBySets (zR 8 124 2 12) 1 6 Q 40 [.ref (ad 1), .int (nI d), .int (nI (n_mx (s_setw σ NG ND c) X)), .int (nI X)] [] h := by
  obtain ⟨⟨a1, a2, a3, a4, a5, a6, k0, -⟩, hc, hB⟩ := id hN
  have hp : 2 ^ c ≤ 2 ^ 10 := Nat.pow_le_pow_right (by decide) hc10
  have hdl : ∀ X : Nat, n_sum (fun k => if X.testBit k = true then ND k else 0) c ≤ 40000 := fun X => by
    have h1 := n_sum_le (f := fun k => if X.testBit k = true then ND k else 0) (b := 1000) (fun k => by
      have := hB k
      split <;> omega) c
    omega
  have hml : ∀ X : Nat, n_mx (s_setw σ NG ND c) X < 40001 := fun X => n_mx_lt (by omega) (fun k => by
    unfold s_setw
    have := hdl k
    omega) X
  intro n
  induction n with
  | zero =>
    intro X hX
    obtain rfl : X = 2 ^ c := by omega
    refine iX5_lackBySets_40 rfl ?_
    refine iX5_lackBySets_43 W.2.1 rfl ?_
    refine iX5_lackBySets_46 k0 rfl ?_
    refine iX5_lackBySets_49 rfl ?_
    show z_J Z mX5_lackBySets _ _ _ Q 50 _ [.int (nI 1 <<< (nI c &&& 31)), .int (nI (2 ^ c))] h
    rw [n_sh1 (by omega)]
    refine iX5_lackBySets_50 (fun cc => ?_) (fun cc => ?_)
    · refine iX5_lackBySets_85 rfl ?_
      exact iX5_lackBySets_86 (Nat.le_of_ble_eq_true rfl) (Nat.le_of_ble_eq_true rfl) hq
    · exact absurd (Int32.le_refl _) cc
  | succ n ih =>
    intro X hX
    have hXlt : X < 2 ^ c := by omega
    refine iX5_lackBySets_40 rfl ?_
    refine iX5_lackBySets_43 W.2.1 rfl ?_
    refine iX5_lackBySets_46 k0 rfl ?_
    refine iX5_lackBySets_49 rfl ?_
    show z_J Z mX5_lackBySets _ _ _ Q 50 _ [.int (nI 1 <<< (nI c &&& 31)), .int (nI X)] h
    rw [n_sh1 (by omega)]
    refine iX5_lackBySets_50 (fun cc => ?_) (fun cc => ?_)
    · have := n_le cc; omega
    · have hor : n_or (fun k => if X.testBit k = true then NG k else 0) c < 2 ^ 10 := n_or_lt2 (fun k hk => by
        have := hB k
        split <;> omega)
      refine iX5_lackBySets_53 rfl ?_
      refine iX5_lackBySets_55 W.2.1 rfl ?_
      refine iX5_lackBySets_58 rfl ?_
      refine iX5_lackBySets_59 (R' := zR 0 0 0 0) rfl rfl k0 (z_rmo rfl) (c_X3_demandOfSet (S := X) hN (by omega) hc10) (z_qr ?_) z_qx
      refine iX5_lackBySets_62 rfl ?_
      refine iX5_lackBySets_64 W.2.1 rfl ?_
      refine iX5_lackBySets_67 rfl ?_
      refine iX5_lackBySets_68 (R' := zR 0 0 0 0) rfl rfl k0 (z_rmo rfl) (c_X3_giversOfSet (S := X) hN (by omega) hc10) (z_qr ?_) z_qx
      refine iX5_lackBySets_71 (R' := zR 3 64 0 0) rfl rfl W.2.1 (z_rmo rfl) (c_X5_unitsOf (S := n_or (fun k => if X.testBit k = true then NG k else 0) c) W (by omega)) (z_qr ?_) z_qx
      refine iX5_lackBySets_74 rfl ?_
      show z_J Z mX5_lackBySets _ _ _ Q 75 _ [.int (nI (n_sum (fun k => if X.testBit k = true then ND k else 0) c) - nI (s_ru σ (n_or (fun k => if X.testBit k = true then NG k else 0) c))), .int (nI (n_mx (s_setw σ NG ND c) X))] h
      refine iX5_lackBySets_75 rfl ?_
      have b1 := hdl X
      have b2 := hml X
      have b3 := s_ru_le W.1 (n_or (fun k => if X.testBit k = true then NG k else 0) c)
      rw [n_maxd (by omega) (by omega) (by omega)]
      refine iX5_lackBySets_78 rfl ?_
      show z_J Z mX5_lackBySets _ _ _ Q 40 [.ref (ad 1), .int (nI d), .int (nI (n_mx (s_setw σ NG ND c) (X + 1))), .int (nI X + nI 1)] [] h
      rw [nI_add]
      exact ih (X + 1) (by omega)
theorem c_X5_lackBySets {d : Int32} (H : z_world Z h ad σ) : z_J Z mX5_lackBySets (zR 8 124 2 12) 0 0 (z_res Z h ad [eA, eS] (f_lackBySets σ d)) 0 [.ref (ad 1), .int d] [] h := by
  have k1 := H.1.2.1
  unfold f_lackBySets
  by_cases c1 : zin d 0 720 = true
  rotate_left
  · rw [if_neg c1]
    refine iX5_lackBySets_0 rfl ?_
    refine iX5_lackBySets_1 (R' := zR 7 104 1 6) rfl rfl (z_rmo rfl) (c_X5_checkDay_x c1) z_er (z_ex ?_)
    exact z_out rfl (Nat.le_of_ble_eq_true rfl) (Nat.le_of_ble_eq_true rfl) (z_res_x H _ 1 0)
  rw [if_pos c1]
  obtain ⟨D, rfl, d1, d2⟩ := zin_e c1
  rw [zn_nI (d := D) (by omega)]
  refine iX5_lackBySets_0 rfl ?_
  refine iX5_lackBySets_1 (R' := zR 7 104 1 6) rfl rfl (z_rmo rfl) (c_X5_checkDay c1) (z_qr ?_) z_qx
  refine iX5_lackBySets_4 rfl ?_
  refine iX5_lackBySets_6 (R' := zR 3 64 0 0) rfl rfl k1 (z_rmo rfl) (c_X5_find H (d := D) (by omega)) (fun v h' w => ?_) (fun E h' w => ?_)
  · obtain ⟨w1, ⟨NG, w2⟩, w3⟩ := w
    cases w1
    have W := H.found w2 w3
    obtain ⟨NM, NP, NV, ND, GR, hN, hA⟩ := id w2
    obtain ⟨⟨a1, a2, a3, a4, a5, a6, k0, -⟩, hc, hB⟩ := id hN
    refine iX5_lackBySets_9 rfl ?_
    refine iX5_lackBySets_10 W.1.2.1 rfl ?_
    refine iX5_lackBySets_13 k0 rfl ?_
    refine iX5_lackBySets_16 rfl ?_
    refine iX5_lackBySets_18 (fun cc => ?_) (fun cc => ?_)
    rotate_left
    · have := n_nle cc
      rw [if_pos this]
      exact iX5_lackBySets_21 (Nat.le_of_ble_eq_true rfl) (Nat.le_of_ble_eq_true rfl) (Nat.le_of_ble_eq_true rfl) (Nat.le_of_ble_eq_true rfl) ⟨rfl, w3.wide (by omega) (by omega), ad, rfl, W⟩
    have hc10 := n_le cc
    rw [if_neg (by omega)]
    refine iX5_lackBySets_31 rfl ?_
    refine iX5_lackBySets_33 (R' := zR 4 89 0 0) rfl rfl W.1.2.1 (z_rmo rfl) (c_X5_findGivers (L := s_all σ D) (d := D) W.1 (by omega) hA (s_all_p5 σ D) hN) (fun v h' y => ?_) (fun E h' y => ?_)
    · obtain ⟨y1, y2, NG', y3, y4⟩ := y
      cases y1
      have hgs : ∀ i, i < (s_all σ D).length → NG' i = t_GS σ D (s_all σ D) i := fun i hi => y4 i _ (t_q_of hi)
      have hds : ∀ i, i < (s_all σ D).length → ND i = t_D (s_all σ D) i := fun i hi => (hA.at hi).2.2.2
      have hset := s_sets (σ := σ) (GS := NG') (D := ND) (s := (s_all σ D).length) W.1.1.1.1 (fun i hi => by rw [hgs i hi]; exact t_GS_lt _ _ _ _)
      have hval : n_mx (s_setw σ NG' ND (s_all σ D).length) (2 ^ (s_all σ D).length) = s_lk σ D := by
        have e1 : s_flow σ NG' ND (s_all σ D).length = s_fl σ D (s_all σ D).length := s_flow_cong hgs hds
        have e2 : n_sum ND (s_all σ D).length = n_sum (t_D (s_all σ D)) (s_all σ D).length := n_sum_cong hds
        unfold s_lk
        omega
      obtain ⟨-, s, GS, UL, GV, q, z2, z3⟩ := id W.2
      refine iX5_lackBySets_36 rfl ?_
      exact l_X5_lackBySets (d := D) (W.1.kept y2) y3 hc10 ⟨by rw [hval]; rfl, (w3.wide (by omega) (by omega)).trans (y2.wide (by omega) (by omega)), ad, rfl, W.1.kept y2, ⟨_, NM, NP, NV, ND, NG', GR, y3⟩, s, GS, UL, GV, q, z2.kept (fun x _ _ => y2 x (by omega)), z3⟩ (2 ^ (s_all σ D).length) 0 (by omega)
    · cases y.1
  · cases w.1
end ZFaceB
