/-! ===== arguments ===== -/
def zin (x : Int32) (lo hi : Nat) : Bool := decide (nI lo ≤ x) && decide (x ≤ nI hi)
def zix (x : Int32) (n : Nat) : Bool := decide (0 ≤ x) && decide (x < nI n)
def zn (x : Int32) : Nat := x.toNatClampNeg
theorem zn_nI {d : Nat} (h : d < 2 ^ 31) : zn (nI d) = d := nI_clamp h
theorem i_nlt {x y : Int32} : ¬ x < y ↔ y ≤ x := by
  rw [Int32.lt_iff_toInt_lt, Int32.le_iff_toInt_le]
  omega
theorem i_nle {x y : Int32} : ¬ x ≤ y ↔ y < x := by
  rw [Int32.lt_iff_toInt_lt, Int32.le_iff_toInt_le]
  omega
theorem i_le_trans {x y z : Int32} (h1 : x ≤ y) (h2 : y ≤ z) : x ≤ z := by
  rw [Int32.le_iff_toInt_le] at h1 h2 ⊢
  omega
theorem zin_t {x : Int32} {lo hi : Nat} (h : zin x lo hi = true) (hh : hi < 2 ^ 31 := by omega) (hlo : lo < 2 ^ 31 := by omega) : lo ≤ zn x ∧ zn x ≤ hi ∧ x = nI (zn x) := by
  unfold zin at h
  simp only [Bool.and_eq_true, decide_eq_true_eq] at h
  obtain ⟨h1, h2⟩ := h
  have h0 : ¬ x < 0 := i_nlt.mpr (i_le_trans (nI_pos' hlo) h1)
  obtain ⟨j, hj, rfl⟩ := nI_of h0
  rw [zn_nI hj]
  exact ⟨n_le h1, n_le h2, rfl⟩
theorem zix_t {x : Int32} {n : Nat} (h : zix x n = true) (hh : n < 2 ^ 31 := by omega) : zn x < n ∧ x = nI (zn x) := by
  unfold zix at h
  simp only [Bool.and_eq_true, decide_eq_true_eq] at h
  obtain ⟨h1, h2⟩ := h
  obtain ⟨j, hj, rfl⟩ := nI_of (i_nlt.mpr h1)
  rw [zn_nI hj]
  exact ⟨n_lt h2, rfl⟩
/-! what a call answers: 0 or the place of its exception in the throws clause, the value, the state then -/
abbrev zAn : Type := Nat × Int32 × zSt
def z_o (E : List String) (a : zAn) : zO := if a.1 = 0 then .inl (some (.int a.2.1)) else .inr (E.getD (a.1 - 1) "")
abbrev eA : String := "java/lang/IllegalArgumentException"
abbrev eS : String := "java/lang/IllegalStateException"
abbrev eI : String := "java/lang/IndexOutOfBoundsException"
/-- the working rows -/
def z_scr (h : zH) (ad : Nat → Nat) : Prop := (∃ (c : Nat) (NM NP NV ND NG GR : Nat → Nat), z_needs h 7 (ad 7) c NM NP NV ND NG GR) ∧ ∃ (s : Nat) (GS UL : Nat → Nat) (GV : Nat → Nat → Nat) (q : gS), z_give0 h ad s GS UL GV q ∧ ∀ c, c < 10 → UL c ≤ 100
def z_world (Z : zZ) (h : zH) (ad : Nat → Nat) (σ : zSt) : Prop := z_cls Z h ad σ ∧ z_scr h ad
def z_res (Z : zZ) (h : zH) (ad : Nat → Nat) (E : List String) (a : zAn) : zO → zH → Prop := fun o h' => o = z_o E a ∧ z_same 1 599 h h' ∧ ∃ ad', ad' 1 = ad 1 ∧ z_world Z h' ad' a.2.2
theorem z_res_x {Z : zZ} {h : zH} {ad : Nat → Nat} {σ : zSt} (H : z_world Z h ad σ) (E : List String) (c : Nat) (v : Int32) : z_res Z h ad E (c, v, σ) (z_o E (c, v, σ)) h := ⟨rfl, z_same.rf, ad, rfl, H⟩
theorem z_give0.kept {h h' : zH} {ad : Nat → Nat} {s : Nat} {GS UL : Nat → Nat} {GV : Nat → Nat → Nat} {q : gS} (H : z_give0 h ad s GS UL GV q) (hk : ∀ x, 14 ≤ x → x ≤ 199 → h' x = h x) : z_give0 h' ad s GS UL GV q := by
  obtain ⟨k0, ⟨eo, ko, ko2⟩, k16, k17, k18, k19, k20, kr⟩ := H
  exact ⟨by rw [hk _ (by omega) (by omega)]; exact k0, ⟨eo, by rw [hk _ (by omega) (by omega)]; exact ko, ko2⟩, by rw [hk _ (by omega) (by omega)]; exact k16, by rw [hk _ (by omega) (by omega)]; exact k17, by rw [hk _ (by omega) (by omega)]; exact k18, by rw [hk _ (by omega) (by omega)]; exact k19, by rw [hk _ (by omega) (by omega)]; exact k20, fun i hi => by rw [hk _ (by omega) (by omega)]; exact kr i hi⟩
theorem z_scr.kept {h h' : zH} {ad : Nat → Nat} (H : z_scr h ad) (hk : ∀ x, 7 ≤ x → x ≤ 199 → h' x = h x) : z_scr h' ad := by
  obtain ⟨⟨c, NM, NP, NV, ND, NG, GR, h1⟩, s, GS, UL, GV, q, h2, h3⟩ := H
  exact ⟨⟨c, NM, NP, NV, ND, NG, GR, h1.kept (fun x a b => hk x (by omega) (by omega))⟩, s, GS, UL, GV, q, h2.kept (fun x a b => hk x (by omega) (by omega)), h3⟩
section ZFace
variable {Z : zZ} {h : zH} {ad : Nat → Nat} {σ : zSt} {Q : zO → zH → Prop}
theorem c_X5_checkArgument {x lo hi : Int32} (h1 : lo ≤ x) (h2 : x ≤ hi) : z_J Z mX5_checkArgument (zR 6 82 1 6) 0 0 (z_eq (.inl none) h) 0 [.int x, .int lo, .int hi] [] h := by
  refine iX5_checkArgument_0 rfl ?_
  refine iX5_checkArgument_2 (fun c => ?_) (fun c => ?_)
  · exact absurd h1 (i_nle.mpr c)
  · refine iX5_checkArgument_5 rfl ?_
    refine iX5_checkArgument_7 (fun c => ?_) (fun c => ?_)
    · exact iX5_checkArgument_20 (Nat.le_of_ble_eq_true rfl) (Nat.le_of_ble_eq_true rfl) ⟨rfl, rfl⟩
    · exact absurd h2 c
theorem c_X5_checkArgument_x {x lo hi : Int32} (h1 : ¬ (lo ≤ x ∧ x ≤ hi)) : z_J Z mX5_checkArgument (zR 6 82 1 6) 0 0 (z_eq (.inr eA) h) 0 [.int x, .int lo, .int hi] [] h := by
  refine iX5_checkArgument_0 rfl ?_
  refine iX5_checkArgument_2 (fun c => ?_) (fun c => ?_)
  · exact iX5_checkArgument_10 (Nat.le_of_ble_eq_true rfl) (Nat.le_of_ble_eq_true rfl) (Nat.le_of_ble_eq_true rfl) (Nat.le_of_ble_eq_true rfl) ⟨rfl, rfl⟩
  · have c1 := i_nlt.mp c
    refine iX5_checkArgument_5 rfl ?_
    refine iX5_checkArgument_7 (fun c => ?_) (fun c => ?_)
    · exact absurd ⟨c1, c⟩ h1
    · exact iX5_checkArgument_10 (Nat.le_of_ble_eq_true rfl) (Nat.le_of_ble_eq_true rfl) (Nat.le_of_ble_eq_true rfl) (Nat.le_of_ble_eq_true rfl) ⟨rfl, rfl⟩
theorem zin_ok {x : Int32} {lo hi : Nat} (h : zin x lo hi = true) : nI lo ≤ x ∧ x ≤ nI hi := by
  unfold zin at h
  simpa only [Bool.and_eq_true, decide_eq_true_eq] using h
theorem zin_no {x : Int32} {lo hi : Nat} (h : ¬ zin x lo hi = true) : ¬ (nI lo ≤ x ∧ x ≤ nI hi) := fun z => h (by
  unfold zin
  simp only [Bool.and_eq_true, decide_eq_true_eq]
  exact z)
theorem zix_ok {x : Int32} {n : Nat} (h : zix x n = true) : 0 ≤ x ∧ x < nI n := by
  unfold zix at h
  simpa only [Bool.and_eq_true, decide_eq_true_eq] using h
theorem zix_no {x : Int32} {n : Nat} (h : ¬ zix x n = true) : ¬ (0 ≤ x ∧ x < nI n) := fun z => h (by
  unfold zix
  simp only [Bool.and_eq_true, decide_eq_true_eq]
  exact z)
theorem c_X5_checkDay {x : Int32} (h1 : zin x 0 720 = true) : z_J Z mX5_checkDay (zR 7 104 1 6) 0 0 (z_eq (.inl none) h) 0 [.int x] [] h := by
  refine iX5_checkDay_0 rfl ?_
  refine iX5_checkDay_5 (R' := zR 6 82 1 6) rfl rfl (z_rmo rfl) (c_X5_checkArgument (zin_ok h1).1 (zin_ok h1).2) (z_qr ?_) z_qx
  exact iX5_checkDay_8 (Nat.le_of_ble_eq_true rfl) (Nat.le_of_ble_eq_true rfl) ⟨rfl, rfl⟩
theorem c_X5_checkDay_x {x : Int32} (h1 : ¬ zin x 0 720 = true) : z_J Z mX5_checkDay (zR 7 104 1 6) 0 0 (z_eq (.inr eA) h) 0 [.int x] [] h := by
  refine iX5_checkDay_0 rfl ?_
  refine iX5_checkDay_5 (R' := zR 6 82 1 6) rfl rfl (z_rmo rfl) (c_X5_checkArgument_x (zin_no h1)) z_er (z_ex ?_)
  exact z_out rfl (Nat.le_of_ble_eq_true rfl) (Nat.le_of_ble_eq_true rfl) ⟨rfl, rfl⟩
theorem c_X5_checkProduct {x : Int32} (h1 : zix x 5 = true) : z_J Z mX5_checkProduct (zR 6 82 1 6) 0 0 (z_eq (.inl none) h) 0 [.int x] [] h := by
  obtain ⟨a1, a2⟩ := zix_ok h1
  refine iX5_checkProduct_0 rfl ?_
  refine iX5_checkProduct_1 (fun c => ?_) (fun c => ?_)
  · exact absurd a1 (i_nle.mpr c)
  · refine iX5_checkProduct_4 rfl ?_
    refine iX5_checkProduct_6 (fun c => ?_) (fun c => ?_)
    · exact iX5_checkProduct_19 (Nat.le_of_ble_eq_true rfl) (Nat.le_of_ble_eq_true rfl) ⟨rfl, rfl⟩
    · exact absurd a2 c
theorem c_X5_checkProduct_x {x : Int32} (h1 : ¬ zix x 5 = true) : z_J Z mX5_checkProduct (zR 6 82 1 6) 0 0 (z_eq (.inr eI) h) 0 [.int x] [] h := by
  have a := zix_no h1
  refine iX5_checkProduct_0 rfl ?_
  refine iX5_checkProduct_1 (fun c => ?_) (fun c => ?_)
  · exact iX5_checkProduct_9 (Nat.le_of_ble_eq_true rfl) (Nat.le_of_ble_eq_true rfl) (Nat.le_of_ble_eq_true rfl) (Nat.le_of_ble_eq_true rfl) ⟨rfl, rfl⟩
  · have c1 := i_nlt.mp c
    refine iX5_checkProduct_4 rfl ?_
    refine iX5_checkProduct_6 (fun c => ?_) (fun c => ?_)
    · exact absurd ⟨c1, c⟩ a
    · exact iX5_checkProduct_9 (Nat.le_of_ble_eq_true rfl) (Nat.le_of_ble_eq_true rfl) (Nat.le_of_ble_eq_true rfl) (Nat.le_of_ble_eq_true rfl) ⟨rfl, rfl⟩
theorem c_X5_rightOf {x : Int32} (hC : z_cls Z h ad σ) (h1 : zix x (s_nR σ) = true) : z_J Z mX5_rightOf (zR 6 82 1 6) 0 0 (z_eq (.inl (some (.ref (ad (200 + zn x))))) h) 0 [.ref (ad 1), .int x] [] h := by
  obtain ⟨hok, k1, ⟨h2, h3⟩, -, -⟩ := hC
  have hn := hok.1.1
  obtain ⟨x1, x2, hl⟩ := h2.obj
  obtain ⟨a1, a2⟩ := zix_ok h1
  obtain ⟨b1, b2⟩ := zix_t h1 (by omega)
  have hr := h3 (zn x) b1
  unfold z_right at hr
  refine iX5_rightOf_0 rfl ?_
  refine iX5_rightOf_1 (fun c => ?_) (fun c => ?_)
  · exact absurd a1 (i_nle.mpr c)
  · refine iX5_rightOf_4 rfl ?_
    refine iX5_rightOf_6 k1 rfl ?_
    refine iX5_rightOf_9 (R' := zR 0 0 0 0) rfl rfl hl (z_rmo rfl) (c_Jx4a65c_size h2) (z_qr ?_) z_qx
    refine iX5_rightOf_12 (fun c => ?_) (fun c => ?_)
    · refine iX5_rightOf_25 rfl ?_
      rw [b2]
      have b3 : zn (nI (zn x)) = zn x := by rw [← b2]
      refine iX5_rightOf_26 k1 rfl ?_
      refine iX5_rightOf_29 rfl ?_
      refine iX5_rightOf_30 (R' := zR 2 43 0 0) rfl rfl hl (z_rmo rfl) (c_Jx4a65c_get h2 b1) (z_qr ?_) z_qx
      refine iX5_rightOf_33 hr ?_
      exact iX5_rightOf_36 (Nat.le_of_ble_eq_true rfl) (Nat.le_of_ble_eq_true rfl) ⟨by rw [b3], rfl⟩
    · exact absurd a2 c
theorem c_X5_rightOf_x {x : Int32} (hC : z_cls Z h ad σ) (h1 : ¬ zix x (s_nR σ) = true) : z_J Z mX5_rightOf (zR 6 82 1 6) 0 0 (z_eq (.inr eI) h) 0 [.ref (ad 1), .int x] [] h := by
  obtain ⟨hok, k1, ⟨h2, h3⟩, -, -⟩ := hC
  obtain ⟨x1, x2, hl⟩ := h2.obj
  have a := zix_no h1
  refine iX5_rightOf_0 rfl ?_
  refine iX5_rightOf_1 (fun c => ?_) (fun c => ?_)
  · exact iX5_rightOf_15 (Nat.le_of_ble_eq_true rfl) (Nat.le_of_ble_eq_true rfl) (Nat.le_of_ble_eq_true rfl) (Nat.le_of_ble_eq_true rfl) ⟨rfl, rfl⟩
  · have c1 := i_nlt.mp c
    refine iX5_rightOf_4 rfl ?_
    refine iX5_rightOf_6 k1 rfl ?_
    refine iX5_rightOf_9 (R' := zR 0 0 0 0) rfl rfl hl (z_rmo rfl) (c_Jx4a65c_size h2) (z_qr ?_) z_qx
    refine iX5_rightOf_12 (fun c => ?_) (fun c => ?_)
    · exact absurd ⟨c1, c⟩ a
    · exact iX5_rightOf_15 (Nat.le_of_ble_eq_true rfl) (Nat.le_of_ble_eq_true rfl) (Nat.le_of_ble_eq_true rfl) (Nat.le_of_ble_eq_true rfl) ⟨rfl, rfl⟩
theorem c_X5_machineOf {x : Int32} (hC : z_cls Z h ad σ) (h1 : zix x (s_nM σ) = true) : z_J Z mX5_machineOf (zR 6 82 1 6) 0 0 (z_eq (.inl (some (.ref (ad (300 + zn x))))) h) 0 [.ref (ad 1), .int x] [] h := by
  obtain ⟨hok, k1, -, ⟨h2, h3, -⟩, -⟩ := hC
  have hn := hok.2.1.1
  obtain ⟨x1, x2, hl⟩ := h2.obj
  obtain ⟨a1, a2⟩ := zix_ok h1
  obtain ⟨b1, b2⟩ := zix_t h1 (by omega)
  have hr := h3 (zn x) b1
  unfold z_mach at hr
  refine iX5_machineOf_0 rfl ?_
  refine iX5_machineOf_1 (fun c => ?_) (fun c => ?_)
  · exact absurd a1 (i_nle.mpr c)
  · refine iX5_machineOf_4 rfl ?_
    refine iX5_machineOf_6 k1 rfl ?_
    refine iX5_machineOf_9 (R' := zR 0 0 0 0) rfl rfl hl (z_rmo rfl) (c_Jx4a65c_size h2) (z_qr ?_) z_qx
    refine iX5_machineOf_12 (fun c => ?_) (fun c => ?_)
    · refine iX5_machineOf_25 rfl ?_
      rw [b2]
      have b3 : zn (nI (zn x)) = zn x := by rw [← b2]
      refine iX5_machineOf_26 k1 rfl ?_
      refine iX5_machineOf_29 rfl ?_
      refine iX5_machineOf_30 (R' := zR 2 43 0 0) rfl rfl hl (z_rmo rfl) (c_Jx4a65c_get h2 b1) (z_qr ?_) z_qx
      refine iX5_machineOf_33 hr ?_
      exact iX5_machineOf_36 (Nat.le_of_ble_eq_true rfl) (Nat.le_of_ble_eq_true rfl) ⟨by rw [b3], rfl⟩
    · exact absurd a2 c
theorem c_X5_machineOf_x {x : Int32} (hC : z_cls Z h ad σ) (h1 : ¬ zix x (s_nM σ) = true) : z_J Z mX5_machineOf (zR 6 82 1 6) 0 0 (z_eq (.inr eI) h) 0 [.ref (ad 1), .int x] [] h := by
  obtain ⟨hok, k1, -, ⟨h2, h3, -⟩, -⟩ := hC
  obtain ⟨x1, x2, hl⟩ := h2.obj
  have a := zix_no h1
  refine iX5_machineOf_0 rfl ?_
  refine iX5_machineOf_1 (fun c => ?_) (fun c => ?_)
  · exact iX5_machineOf_15 (Nat.le_of_ble_eq_true rfl) (Nat.le_of_ble_eq_true rfl) (Nat.le_of_ble_eq_true rfl) (Nat.le_of_ble_eq_true rfl) ⟨rfl, rfl⟩
  · have c1 := i_nlt.mp c
    refine iX5_machineOf_4 rfl ?_
    refine iX5_machineOf_6 k1 rfl ?_
    refine iX5_machineOf_9 (R' := zR 0 0 0 0) rfl rfl hl (z_rmo rfl) (c_Jx4a65c_size h2) (z_qr ?_) z_qx
    refine iX5_machineOf_12 (fun c => ?_) (fun c => ?_)
    · exact absurd ⟨c1, c⟩ a
    · exact iX5_machineOf_15 (Nat.le_of_ble_eq_true rfl) (Nat.le_of_ble_eq_true rfl) (Nat.le_of_ble_eq_true rfl) (Nat.le_of_ble_eq_true rfl) ⟨rfl, rfl⟩
theorem c_X5_historyOf {x y : Int32} (hC : z_cls Z h ad σ) (h1 : zix x (s_nM σ) = true) (h2 : zix y 5 = true) : z_J Z mX5_historyOf (zR 7 103 2 12) 0 0 (z_eq (.inl (some (.ref (ad (400 + 4 * (zn x * 5 + zn y)))))) h) 0 [.ref (ad 1), .int x, .int y] [] h := by
  have hn := hC.1.2.1.1
  obtain ⟨b1, b2⟩ := zix_t h1 (by omega)
  obtain ⟨b3, b4⟩ := zix_t h2
  obtain ⟨hok, k1, -, ⟨h4, h5, h6, h7⟩, -⟩ := id hC
  have hm := h5 (zn x) b1
  unfold z_mach at hm
  obtain ⟨e, e1, e2⟩ := h6 (zn x) b1
  refine iX5_historyOf_0 rfl ?_
  refine iX5_historyOf_1 (R' := zR 6 82 1 6) rfl rfl (z_rmo rfl) (c_X5_checkProduct h2) (z_qr ?_) z_qx
  refine iX5_historyOf_4 rfl ?_
  refine iX5_historyOf_6 (R' := zR 6 82 1 6) rfl rfl k1 (z_rmo rfl) (c_X5_machineOf hC h1) (z_qr ?_) z_qx
  refine iX5_historyOf_9 hm rfl ?_
  refine iX5_historyOf_12 rfl ?_
  refine iX5_historyOf_13 e1 b4 (by omega) (by omega) ?_
  rw [e2 (zn y) (by omega)]
  exact iX5_historyOf_14 (Nat.le_of_ble_eq_true rfl) (Nat.le_of_ble_eq_true rfl) ⟨rfl, rfl⟩
theorem c_X5_historyOf_x {x y : Int32} (hC : z_cls Z h ad σ) (h1 : ¬ (zix x (s_nM σ) = true ∧ zix y 5 = true)) : z_J Z mX5_historyOf (zR 7 103 2 12) 0 0 (z_eq (.inr eI) h) 0 [.ref (ad 1), .int x, .int y] [] h := by
  have k1 := hC.2.1
  by_cases h2 : zix y 5 = true
  · refine iX5_historyOf_0 rfl ?_
    refine iX5_historyOf_1 (R' := zR 6 82 1 6) rfl rfl (z_rmo rfl) (c_X5_checkProduct h2) (z_qr ?_) z_qx
    refine iX5_historyOf_4 rfl ?_
    refine iX5_historyOf_6 (R' := zR 6 82 1 6) rfl rfl k1 (z_rmo rfl) (c_X5_machineOf_x hC (fun z => h1 ⟨z, h2⟩)) z_er (z_ex ?_)
    exact z_out rfl (Nat.le_of_ble_eq_true rfl) (Nat.le_of_ble_eq_true rfl) ⟨rfl, rfl⟩
  · refine iX5_historyOf_0 rfl ?_
    refine iX5_historyOf_1 (R' := zR 6 82 1 6) rfl rfl (z_rmo rfl) (c_X5_checkProduct_x h2) z_er (z_ex ?_)
    exact z_out rfl (Nat.le_of_ble_eq_true rfl) (Nat.le_of_ble_eq_true rfl) ⟨rfl, rfl⟩
end ZFace
