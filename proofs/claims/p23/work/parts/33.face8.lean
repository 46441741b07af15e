/-! ===== most ===== -/
def n_mx (f : Nat → Nat) : Nat → Nat
  | 0 => 0
  | n + 1 => max (n_mx f n) (f n)
def t_dp (p : Nat) (L : List (Nat × Nat × Nat × Nat)) : Nat := n_sum (fun k => if (t_q L k).2.1 = p then t_D L k else 0) L.length
def f_most (σ : zSt) (p m : Int32) : zAn :=
  if zix p 5 = true then
    if zin m 0 23 = true then (0, nI (n_mx (fun k => t_dp (zn p) (s_all σ (30 * zn m + k))) 30), σ)
    else (2, 0, σ)
  else (1, 0, σ)
section ZFace8
variable {Z : zZ} {h : zH} {ad : Nat → Nat} {σ : zSt} {Q : zO → zH → Prop}
theorem t_dp_of {L : List (Nat × Nat × Nat × Nat)} {NM NP NV ND : Nat → Nat} (hA : n_agree L NM NP NV ND) (p : Nat) : n_sum (fun k => if NP k = p then ND k else 0) L.length = t_dp p L := n_sum_cong (fun k hk => by
  obtain ⟨e1, e2, e3, e4⟩ := hA.at hk
  rw [e2, e4])
theorem l_X5_most {p m : Nat} (hp : p < 5) (hm : m ≤ 23) (hq : ∀ g, z_same 7 13 h g → z_world Z g ad σ → Q (.inl (some (.int (nI (n_mx (fun k => t_dp p (s_all σ (30 * m + k))) 30))))) g) :
    ∀ n k (g : zH), k + n = 30 → z_same 7 13 h g → z_world Z g ad σ → n_mx (fun k => t_dp p (s_all σ (30 * m + k))) k ≤ 40000 → z_J Z mX5_most (zR 7 104 2 12) 2 12 Q 16 [.ref (ad 1), .int (nI p), .int (nI m), .int (nI (n_mx (fun k => t_dp p (s_all σ (30 * m + k))) k)), .int (nI k)] [] g := by
  intro n
  induction n with
  | zero =>
    intro k g hk hs W hb
    obtain rfl : k = 30 := by omega
    refine iX5_most_16 rfl ?_
    refine iX5_most_20 (fun cc => ?_) (fun cc => ?_)
    · refine iX5_most_53 rfl ?_
      exact iX5_most_54 (Nat.le_of_ble_eq_true rfl) (Nat.le_of_ble_eq_true rfl) (hq g hs W)
    · exact absurd (Int32.le_refl _) cc
  | succ n ih =>
    intro k g hk hs W hb
    refine iX5_most_16 rfl ?_
    refine iX5_most_20 (fun cc => ?_) (fun cc => ?_)
    · have := n_le cc; omega
    · refine iX5_most_23 rfl ?_
      show z_J Z mX5_most _ _ _ Q 31 [.ref (ad 1), .int (nI p), .int (nI m), .int (nI (n_mx (fun k => t_dp p (s_all σ (30 * m + k))) k)), .int (nI k)] [.int (nI 30 * nI m + nI k), .ref (ad 1)] g
      rw [pk_mul, nI_add]
      refine iX5_most_31 (R' := zR 3 64 0 0) rfl rfl W.1.2.1 (z_rmo rfl) (c_X5_find W (d := 30 * m + k) (by omega)) (fun v h' w => ?_) (fun E h' w => ?_)
      · obtain ⟨w1, ⟨NG, w2⟩, w3⟩ := w
        cases w1
        have W' := W.found w2 w3
        obtain ⟨NM, NP, NV, ND, GR, hN, hA⟩ := id w2
        obtain ⟨⟨a1, a2, a3, a4, a5, a6, k0, -⟩, hc, hB⟩ := id hN
        have e := t_dp_of hA p
        have hle : t_dp p (s_all σ (30 * m + k)) ≤ 40000 := by
          rw [← e]
          have := n_sum_le (f := fun k => if NP k = p then ND k else 0) (b := 1000) (fun k => by have := hB k; split <;> omega) (s_all σ (30 * m + k)).length
          have : (s_all σ (30 * m + k)).length * 1000 ≤ 40 * 1000 := Nat.mul_le_mul_right _ hc
          omega
        refine iX5_most_34 rfl ?_
        refine iX5_most_36 W'.1.2.1 rfl ?_
        refine iX5_most_39 rfl ?_
        refine iX5_most_40 (R' := zR 0 0 0 0) rfl rfl k0 (z_rmo rfl) (c_X3_demandOfProduct hN hp) (z_qr ?_) z_qx
        rw [e]
        refine iX5_most_43 rfl ?_
        rw [n_max (by omega) (by omega)]
        refine iX5_most_46 rfl ?_
        show z_J Z mX5_most _ _ _ Q 16 [.ref (ad 1), .int (nI p), .int (nI m), .int (nI (n_mx (fun k => t_dp p (s_all σ (30 * m + k))) (k + 1))), .int (nI k + nI 1)] [] _
        rw [nI_add]
        refine ih (k + 1) _ (by omega) (hs.trans w3) W' ?_
        show max _ _ ≤ _
        exact Nat.max_le.mpr ⟨hb, hle⟩
      · cases w.1
theorem c_X5_most {p m : Int32} (H : z_world Z h ad σ) : z_J Z mX5_most (zR 7 104 2 12) 0 0 (z_res Z h ad [eI, eA] (f_most σ p m)) 0 [.ref (ad 1), .int p, .int m] [] h := by
  unfold f_most
  by_cases c1 : zix p 5 = true
  rotate_left
  · rw [if_neg c1]
    refine iX5_most_0 rfl ?_
    refine iX5_most_1 (R' := zR 6 82 1 6) rfl rfl (z_rmo rfl) (c_X5_checkProduct_x c1) z_er (z_ex ?_)
    exact z_out rfl (Nat.le_of_ble_eq_true rfl) (Nat.le_of_ble_eq_true rfl) (z_res_x H _ 1 0)
  rw [if_pos c1]
  by_cases c2 : zin m 0 23 = true
  rotate_left
  · rw [if_neg c2]
    refine iX5_most_0 rfl ?_
    refine iX5_most_1 (R' := zR 6 82 1 6) rfl rfl (z_rmo rfl) (c_X5_checkProduct c1) (z_qr ?_) z_qx
    refine iX5_most_4 rfl ?_
    refine iX5_most_8 (R' := zR 6 82 1 6) rfl rfl (z_rmo rfl) (c_X5_checkArgument_x (zin_no c2)) z_er (z_ex ?_)
    exact z_out rfl (Nat.le_of_ble_eq_true rfl) (Nat.le_of_ble_eq_true rfl) (z_res_x H _ 2 0)
  rw [if_pos c2]
  have hca := c_X5_checkArgument (Z := Z) (h := h) (zin_ok c2).1 (zin_ok c2).2
  have hcp := c_X5_checkProduct (Z := Z) (h := h) c1
  obtain ⟨P, rfl, p1⟩ := zix_e c1
  obtain ⟨M, rfl, m1, m2⟩ := zin_e c2
  rw [zn_nI (d := P) (by omega), zn_nI (d := M) (by omega)]
  refine iX5_most_0 rfl ?_
  refine iX5_most_1 (R' := zR 6 82 1 6) rfl rfl (z_rmo rfl) (hcp) (z_qr ?_) z_qx
  refine iX5_most_4 rfl ?_
  refine iX5_most_8 (R' := zR 6 82 1 6) rfl rfl (z_rmo rfl) (hca) (z_qr ?_) z_qx
  refine iX5_most_11 rfl ?_
  exact l_X5_most p1 m2 (fun g hs W => ⟨rfl, hs.wide (by omega) (by omega), ad, rfl, W⟩) 30 0 h rfl z_same.rf H (by show 0 ≤ _; omega)
end ZFace8
