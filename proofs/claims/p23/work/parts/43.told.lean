/-! ===== what was told: counts, latest, version ===== -/
theorem l_sh14 {a : Nat} (h : a < 2 ^ 31) : nI a >>> (nI 14 &&& 31) = nI (a / 16384) := pk_shrN h _ 14 (n_sh 14 (by decide))
theorem l_sh10 {a : Nat} (h : a < 2 ^ 31) : nI a >>> (nI 10 &&& 31) = nI (a / 1024) := pk_shrN h _ 10 (n_sh 10 (by decide))
theorem l_sh9 {a : Nat} (h : a < 2 ^ 31) : nI a >>> (nI 9 &&& 31) = nI (a / 512) := pk_shrN h _ 9 (n_sh 9 (by decide))
theorem l_sh5 {a : Nat} (h : a < 2 ^ 31) : nI a >>> (nI 5 &&& 31) = nI (a / 32) := pk_shrN h _ 5 (n_sh 5 (by decide))
theorem l_an1023 {a : Nat} (h : a < 2 ^ 32) : nI a &&& nI 1023 = nI (a % 1024) := pk_andN h 10 (by decide)
theorem l_an15 {a : Nat} (h : a < 2 ^ 32) : nI a &&& nI 15 = nI (a % 16) := pk_andN h 4 (by decide)
def l_lat (E : Nat → Nat) (q d : Nat) : Nat → Option Nat
  | 0 => none
  | n + 1 => if E n / 16384 = q ∧ E n % 1024 ≤ d then some n else l_lat E q d n
theorem l_lat_lt {E : Nat → Nat} {q d : Nat} : ∀ {n k : Nat}, l_lat E q d n = some k → k < n
  | 0, k, h => by cases h
  | n + 1, k, h => by
    have e : l_lat E q d (n + 1) = if E n / 16384 = q ∧ E n % 1024 ≤ d then some n else l_lat E q d n := rfl
    rw [e] at h
    split at h
    · cases h; omega
    · have := l_lat_lt h; omega
theorem l_lat_cong {E E' : Nat → Nat} {q d : Nat} : ∀ {n : Nat}, (∀ k, k < n → E k = E' k) → l_lat E q d n = l_lat E' q d n
  | 0, _ => rfl
  | n + 1, h => by
    show (if E n / 16384 = q ∧ E n % 1024 ≤ d then some n else l_lat E q d n) = (if E' n / 16384 = q ∧ E' n % 1024 ≤ d then some n else l_lat E' q d n)
    rw [h n (by omega), l_lat_cong (n := n) (fun k hk => h k (by omega))]
theorem l_lat_key {E : Nat → Nat} {q d : Nat} : ∀ {n k : Nat}, l_lat E q d n = some k → E k / 16384 = q
  | 0, k, h => by cases h
  | n + 1, k, h => by
    have e : l_lat E q d (n + 1) = if E n / 16384 = q ∧ E n % 1024 ≤ d then some n else l_lat E q d n := rfl
    rw [e] at h
    split at h
    · rename_i c; cases h; exact c.1
    · exact l_lat_key h
def l_ver (E : Nat → Nat) (q d n : Nat) : Nat := match l_lat E q d n with
  | none => 0
  | some k => E k / 1024 % 16
def l_day (E : Nat → Nat) (q n : Nat) : Int32 := match l_lat E q 1000 n with
  | none => -1
  | some k => nI (E k % 1024)
def l_cnt (E : Nat → Nat) (q : Nat) : Nat → Nat
  | 0 => 0
  | n + 1 => l_cnt E q n + (if E n / 16384 = q ∧ 0 < E n / 1024 % 16 then 1 else 0)
theorem l_cnt_le (E : Nat → Nat) (q : Nat) : ∀ n, l_cnt E q n ≤ n
  | 0 => Nat.le_refl _
  | n + 1 => by
    have := l_cnt_le E q n
    show l_cnt E q n + (if E n / 16384 = q ∧ 0 < E n / 1024 % 16 then 1 else 0) ≤ n + 1
    split <;> omega
theorem l_cnt_cong {E E' : Nat → Nat} {q : Nat} : ∀ {n : Nat}, (∀ k, k < n → E k = E' k) → l_cnt E q n = l_cnt E' q n
  | 0, _ => rfl
  | n + 1, h => by
    show l_cnt E q n + (if E n / 16384 = q ∧ 0 < E n / 1024 % 16 then 1 else 0) = l_cnt E' q n + (if E' n / 16384 = q ∧ 0 < E' n / 1024 % 16 then 1 else 0)
    rw [h n (by omega), l_cnt_cong (n := n) (fun k hk => h k (by omega))]
theorem l_lat_new (E : Nat → Nat) (q d n e : Nat) : l_lat (nu E n e) q d (n + 1) = if e / 16384 = q ∧ e % 1024 ≤ d then some n else l_lat E q d n := by
  show (if nu E n e n / 16384 = q ∧ nu E n e n % 1024 ≤ d then some n else l_lat (nu E n e) q d n) = _
  rw [nu_s, l_lat_cong (E' := E) (fun k hk => nu_n (by omega))]
theorem l_ver_new (E : Nat → Nat) (q d n e : Nat) : l_ver (nu E n e) q d (n + 1) = if e / 16384 = q ∧ e % 1024 ≤ d then e / 1024 % 16 else l_ver E q d n := by
  unfold l_ver
  rw [l_lat_new]
  by_cases c : e / 16384 = q ∧ e % 1024 ≤ d
  · rw [if_pos c, if_pos c]
    show nu E n e n / 1024 % 16 = _
    rw [nu_s]
  · rw [if_neg c, if_neg c]
    cases hz : l_lat E q d n with
    | none => rfl
    | some k =>
      have := l_lat_lt hz
      show nu E n e k / 1024 % 16 = _
      rw [nu_n (by omega)]
theorem l_day_new (E : Nat → Nat) (q n e : Nat) (he : e % 1024 ≤ 1000) : l_day (nu E n e) q (n + 1) = if e / 16384 = q then nI (e % 1024) else l_day E q n := by
  unfold l_day
  rw [l_lat_new]
  by_cases c : e / 16384 = q
  · rw [if_pos ⟨c, he⟩, if_pos c]
    show nI (nu E n e n % 1024) = _
    rw [nu_s]
  · rw [if_neg (fun z => c z.1), if_neg c]
    cases hz : l_lat E q 1000 n with
    | none => rfl
    | some k =>
      have := l_lat_lt hz
      show nI (nu E n e k % 1024) = _
      rw [nu_n (by omega)]
theorem l_cnt_new (E : Nat → Nat) (q n e : Nat) : l_cnt (nu E n e) q (n + 1) = l_cnt E q n + (if e / 16384 = q ∧ 0 < e / 1024 % 16 then 1 else 0) := by
  show l_cnt (nu E n e) q n + (if nu E n e n / 16384 = q ∧ 0 < nu E n e n / 1024 % 16 then 1 else 0) = _
  rw [nu_s, l_cnt_cong (E' := E) (fun k hk => nu_n (by omega))]
/-- what was told of a machine and a product, and its history -/
def z_pv (σ : zSt) (E : Nat → Nat) (n m p : Nat) : Prop :=
  (∀ d, d ≤ 720 → l_ver E (m + 8 * p) d n = s_on σ d m p) ∧ l_day E (m + 8 * p) n = h_last (s_HF σ (m * 5 + p)) (s_HE σ (m * 5 + p)) (s_HN σ (m * 5 + p)) ∧
  l_ver E (m + 8 * p) 1000 n = (if h_open (s_HE σ (m * 5 + p)) (s_HN σ (m * 5 + p)) = true then s_HV σ (m * 5 + p) (s_HN σ (m * 5 + p) - 1) else 0) ∧
  (h_open (s_HE σ (m * 5 + p)) (s_HN σ (m * 5 + p)) = true → 1 ≤ s_HV σ (m * 5 + p) (s_HN σ (m * 5 + p) - 1)) ∧ l_cnt E (m + 8 * p) n = s_HN σ (m * 5 + p)
def z_li (σ : zSt) (x : zLx) : Prop :=
  (s_nM σ ≤ 4 ∧ x_G x 0 = s_nR σ ∧ x_G x 1 = s_nM σ ∧ x_G x 3 ≤ 60) ∧
  (∀ k, k < s_nR σ → x_R x k = s_RP σ k + 32 * s_RV σ k + 512 * s_RU σ k ∧ x_F x k = s_RF σ k + 1024 * s_RL σ k ∧ 1 ≤ s_RV σ k) ∧
  (∀ j, j < s_nM σ → x_H x j = s_MH σ j ∧ x_C x j = s_MC σ j) ∧
  (∀ p, p < 5 → x_U x p = s_CU σ p) ∧
  (x_G x 2 < 2 ^ s_nM σ ∧ ∀ j, j < s_nM σ → (x_G x 2).testBit j = s_MA σ j) ∧
  (∀ k, k < x_G x 3 → x_E x k % 1024 ≤ 720 ∧ x_E x k / 1024 % 16 ≤ 9 ∧ x_E x k < 655360 ∧ x_E x k / 16384 % 8 < s_nM σ) ∧
  ∀ m p, m < s_nM σ → p < 5 → z_pv σ (x_E x) (x_G x 3) m p
theorem l_ver_le {E : Nat → Nat} {q d n : Nat} (h : ∀ k, k < n → E k / 1024 % 16 ≤ 9) : l_ver E q d n ≤ 9 := by
  unfold l_ver
  cases hz : l_lat E q d n with
  | none => exact Nat.zero_le _
  | some k => exact h k (l_lat_lt hz)
theorem z_li.on {σ : zSt} {x : zLx} (I : z_li σ x) {d m p : Nat} (hd : d ≤ 720) (hm : m < s_nM σ) (hp : p < 5) : s_on σ d m p ≤ 9 := by
  rw [← (I.2.2.2.2.2.2 m p hm hp).1 d hd]
  exact l_ver_le (fun k hk => (I.2.2.2.2.2.1 k hk).2.1)
section ZTold
variable {Z : zZ} {h : zH} {la : Nat → Nat} {σ : zSt} {x : zLx} {y : zLy} {Q : zO → zH → Prop}
theorem l_L_latest {m p d : Nat} (LH : z_lh h la x y) (hn : x_G x 3 ≤ 60) (hE : ∀ k, k < x_G x 3 → x_E x k < 655360) (hm : m < 8) (hp : p < 5) (hd : d < 10000) (hq : Q (.inl (some (.int (n_o (l_lat (x_E x) (m + 8 * p) d (x_G x 3)))))) h) :
    ∀ n k, k + n = x_G x 3 → z_J Z mL_latest (zR 0 0 0 0) 0 0 Q 6 [.ref (la 705), .ref (la 709), .int (nI m), .int (nI p), .int (nI d), .int (n_o (l_lat (x_E x) (m + 8 * p) d k)), .int (nI k)] [] h := by
  obtain ⟨⟨a0, a1, a2, a3, a4, a5⟩, ⟨a6, a7, a8⟩, a9⟩ := LH
  intro n
  induction n with
  | zero =>
    intro k hk
    obtain rfl : k = x_G x 3 := by omega
    refine iL_latest_6 rfl ?_
    refine iL_latest_10 a9 rfl (by omega) (by omega) ?_
    refine iL_latest_11 (fun cc => ?_) (fun cc => ?_)
    · refine iL_latest_53 rfl ?_
      exact iL_latest_55 (Nat.le_of_ble_eq_true rfl) (Nat.le_of_ble_eq_true rfl) hq
    · exact absurd (Int32.le_refl _) cc
  | succ n ih =>
    intro k hk
    have ih := ih (k + 1) (by omega)
    have hEk := hE k (by omega)
    have e : l_lat (x_E x) (m + 8 * p) d (k + 1) = if x_E x k / 16384 = m + 8 * p ∧ x_E x k % 1024 ≤ d then some k else l_lat (x_E x) (m + 8 * p) d k := rfl
    refine iL_latest_6 rfl ?_
    refine iL_latest_10 a9 rfl (by omega) (by omega) ?_
    refine iL_latest_11 (fun cc => ?_) (fun cc => ?_)
    · have := n_le cc; omega
    refine iL_latest_14 rfl ?_
    refine iL_latest_17 a5 rfl (by omega) (by omega) ?_
    refine iL_latest_18 rfl ?_
    show z_J Z mL_latest _ _ _ Q 27 _ [.int (nI m + nI 8 * nI p), .int (nI (x_E x k) >>> (nI 14 &&& 31))] h
    rw [l_sh14 (by omega), pk_mul, nI_add]
    refine iL_latest_27 (fun c1 => ?_) (fun c1 => ?_)
    · have c1 := n_ne c1
      rw [if_neg (fun z => c1 z.1)] at e
      rw [e, ← nI_add] at ih
      refine iL_latest_47 rfl ?_
      exact ih
    have c1 := n_eq c1
    refine iL_latest_30 rfl ?_
    refine iL_latest_33 a5 rfl (by omega) (by omega) ?_
    refine iL_latest_34 rfl ?_
    show z_J Z mL_latest _ _ _ Q 40 _ [.int (nI d), .int (nI (x_E x k) &&& nI 1023)] h
    rw [l_an1023 (by omega)]
    refine iL_latest_40 (fun c2 => ?_) (fun c2 => ?_)
    · rw [if_neg (fun z => by have := n_lt c2; omega)] at e
      rw [e, ← nI_add] at ih
      refine iL_latest_47 rfl ?_
      exact ih
    · rw [if_pos ⟨c1, n_nlt c2⟩] at e
      rw [e, ← nI_add] at ih
      refine iL_latest_43 rfl ?_
      refine iL_latest_47 rfl ?_
      exact ih
theorem c_L_latest {m p d : Nat} (LH : z_lh h la x y) (hn : x_G x 3 ≤ 60) (hE : ∀ k, k < x_G x 3 → x_E x k < 655360) (hm : m < 8) (hp : p < 5) (hd : d < 10000) : z_J Z mL_latest (zR 0 0 0 0) 0 0 (z_eq (.inl (some (.int (n_o (l_lat (x_E x) (m + 8 * p) d (x_G x 3)))))) h) 0 [.ref (la 705), .ref (la 709), .int (nI m), .int (nI p), .int (nI d)] [] h := by
  refine iL_latest_0 rfl ?_
  exact l_L_latest LH hn hE hm hp hd ⟨rfl, rfl⟩ (x_G x 3) 0 (by omega)
theorem c_L_version {m p d : Nat} (LH : z_lh h la x y) (hn : x_G x 3 ≤ 60) (hE : ∀ k, k < x_G x 3 → x_E x k < 655360) (hm : m < 8) (hp : p < 5) (hd : d < 10000) : z_J Z mL_version (zR 1 26 0 0) 0 0 (z_eq (.inl (some (.int (nI (l_ver (x_E x) (m + 8 * p) d (x_G x 3)))))) h) 0 [.ref (la 705), .ref (la 709), .int (nI m), .int (nI p), .int (nI d)] [] h := by
  refine iL_version_0 rfl ?_
  refine iL_version_6 (R' := zR 0 0 0 0) rfl rfl (z_rmo rfl) (c_L_latest LH hn hE hm hp hd) (z_qr ?_) z_qx
  obtain ⟨⟨a0, a1, a2, a3, a4, a5⟩, ⟨a6, a7, a8⟩, a9⟩ := LH
  refine iL_version_9 rfl ?_
  unfold l_ver
  cases hz : l_lat (x_E x) (m + 8 * p) d (x_G x 3) with
  | none =>
    refine iL_version_13 (fun cc => ?_) (fun cc => ?_)
    · exact absurd cc (by decide)
    · refine iL_version_16 rfl ?_
      exact iL_version_30 (Nat.le_of_ble_eq_true rfl) (Nat.le_of_ble_eq_true rfl) ⟨rfl, rfl⟩
  | some k =>
    have hk := l_lat_lt hz
    have hEk := hE k hk
    refine iL_version_13 (fun cc => ?_) (fun cc => ?_)
    · refine iL_version_20 rfl ?_
      refine iL_version_23 a5 rfl (by omega) (by omega) ?_
      refine iL_version_24 rfl ?_
      show z_J Z mL_version _ _ _ _ 30 _ [.int ((nI (x_E x k) >>> (nI 10 &&& 31)) &&& nI 15)] h
      rw [l_sh10 (by omega), l_an15 (by omega)]
      exact iL_version_30 (Nat.le_of_ble_eq_true rfl) (Nat.le_of_ble_eq_true rfl) ⟨rfl, rfl⟩
    · exact absurd (nI_pos' (n := k) (by omega)) cc
theorem l_L_counts {j0 : Int32} (LH : z_lh h la x y) (I : z_li σ x) (hw : m_wf (s_nM σ) (s_MH σ)) : ∀ f j, j ≤ f → j < s_nM σ → Q (.inl (some (.int (nI (m_by (s_MH σ) (s_MA σ) f j))))) h → z_J Z mL_counts (zR 0 0 0 0) 0 0 Q 2 [.ref (la 702), .ref (la 709), .int j0, .int (nI j)] [] h := by
  obtain ⟨⟨a0, a1, a2, a3, a4, a5⟩, ⟨a6, a7, a8⟩, a9⟩ := LH
  obtain ⟨⟨n4, -⟩, -, iH, -, ⟨iG, iB⟩, -⟩ := I
  have hg16 : x_G x 2 < 16 := Nat.lt_of_lt_of_le iG (Nat.pow_le_pow_right (by decide) n4)
  intro f
  induction f with
  | zero =>
    intro j hj hn hq
    have hz : s_MH σ j = none := by
      cases q : s_MH σ j with
      | none => rfl
      | some i => have := hw.2 j i q; omega
    have hho := (iH j hn).1
    rw [hz] at hho
    refine iL_counts_2 rfl ?_
    refine iL_counts_4 a2 rfl (by omega) (by omega) ?_
    refine iL_counts_5 (fun c => ?_) (fun c => ?_)
    · refine iL_counts_25 rfl ?_
      exact iL_counts_26 (Nat.le_of_ble_eq_true rfl) (Nat.le_of_ble_eq_true rfl) hq
    · rw [hho] at c
      exact absurd (by decide) c
  | succ f ih =>
    intro j hj hn hq
    have hho := (iH j hn).1
    unfold m_by at hq
    cases hz : s_MH σ j with
    | none =>
      rw [hz] at hho hq
      refine iL_counts_2 rfl ?_
      refine iL_counts_4 a2 rfl (by omega) (by omega) ?_
      refine iL_counts_5 (fun c => ?_) (fun c => ?_)
      · refine iL_counts_25 rfl ?_
        exact iL_counts_26 (Nat.le_of_ble_eq_true rfl) (Nat.le_of_ble_eq_true rfl) hq
      · rw [hho] at c
        exact absurd (by decide) c
    | some i =>
      rw [hz] at hho hq
      have hi := hw.2 j i hz
      dsimp only at hq
      refine iL_counts_2 rfl ?_
      refine iL_counts_4 a2 rfl (by omega) (by omega) ?_
      refine iL_counts_5 (fun c => ?_) (fun c => ?_)
      · rw [hho] at c
        exact (n_nneg (a := i) c).elim
      · refine iL_counts_8 rfl ?_
        refine iL_counts_10 a9 rfl (by omega) (by omega) ?_
        refine iL_counts_11 rfl ?_
        show z_J Z mL_counts _ _ _ Q 15 _ [.int ((nI (x_G x 2) >>> (nI j &&& 31)) &&& nI 1)] h
        rw [n_bit (by omega) (by omega)]
        have hb := iB j hn
        rw [n_tb] at hb
        refine iL_counts_15 (fun c1 => ?_) (fun c1 => ?_)
        · have c1 := n_ne0 c1
          rw [decide_eq_true (by omega)] at hb
          rw [if_pos hb.symm] at hq
          refine iL_counts_25 rfl ?_
          exact iL_counts_26 (Nat.le_of_ble_eq_true rfl) (Nat.le_of_ble_eq_true rfl) hq
        · have c1 := n_e0 c1
          rw [decide_eq_false (by omega)] at hb
          rw [if_neg (by rw [← hb]; decide)] at hq
          refine iL_counts_18 rfl ?_
          refine iL_counts_20 a2 rfl (by omega) (by omega) ?_
          rw [hho]
          refine iL_counts_21 rfl ?_
          exact ih i (by omega) (by omega) hq
theorem c_L_counts {j : Nat} (LH : z_lh h la x y) (I : z_li σ x) (hw : m_wf (s_nM σ) (s_MH σ)) (hj : j < s_nM σ) : z_J Z mL_counts (zR 0 0 0 0) 0 0 (z_eq (.inl (some (.int (nI (s_by σ j))))) h) 0 [.ref (la 702), .ref (la 709), .int (nI j)] [] h := by
  have := hw.1
  refine iL_counts_0 rfl ?_
  exact l_L_counts LH I hw 8 j (by omega) hj ⟨rfl, rfl⟩
end ZTold
