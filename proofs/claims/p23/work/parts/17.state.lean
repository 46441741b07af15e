/-! ===== the class's state ===== -/
abbrev zSt : Type := (Nat × (Nat → Nat) × (Nat → Nat) × (Nat → Nat) × (Nat → Nat) × (Nat → Nat)) × (Nat × (Nat → Nat) × (Nat → Option Nat) × (Nat → Bool)) × ((Nat → Nat) × (Nat → Nat → Nat) × (Nat → Nat → Nat) × (Nat → Nat → Nat)) × (Nat → Nat)
abbrev s_nR (σ : zSt) : Nat := σ.1.1
abbrev s_RP (σ : zSt) : Nat → Nat := σ.1.2.1
abbrev s_RF (σ : zSt) : Nat → Nat := σ.1.2.2.1
abbrev s_RL (σ : zSt) : Nat → Nat := σ.1.2.2.2.1
abbrev s_RV (σ : zSt) : Nat → Nat := σ.1.2.2.2.2.1
abbrev s_RU (σ : zSt) : Nat → Nat := σ.1.2.2.2.2.2
abbrev s_nM (σ : zSt) : Nat := σ.2.1.1
abbrev s_MC (σ : zSt) : Nat → Nat := σ.2.1.2.1
abbrev s_MH (σ : zSt) : Nat → Option Nat := σ.2.1.2.2.1
abbrev s_MA (σ : zSt) : Nat → Bool := σ.2.1.2.2.2
abbrev s_HN (σ : zSt) : Nat → Nat := σ.2.2.1.1
abbrev s_HV (σ : zSt) : Nat → Nat → Nat := σ.2.2.1.2.1
abbrev s_HF (σ : zSt) : Nat → Nat → Nat := σ.2.2.1.2.2.1
abbrev s_HE (σ : zSt) : Nat → Nat → Nat := σ.2.2.1.2.2.2
abbrev s_CU (σ : zSt) : Nat → Nat := σ.2.2.2
/-- the numbers' bounds -/
def s_ok (σ : zSt) : Prop := (s_nR σ ≤ 10 ∧ ∀ i, s_RP σ i < 32 ∧ s_RF σ i ≤ 720 ∧ s_RL σ i ≤ 720 ∧ s_RV σ i ≤ 9 ∧ s_RU σ i ≤ 100) ∧ m_wf (s_nM σ) (s_MH σ) ∧ (∀ j, s_MC σ j ≤ 64) ∧ ∀ p, p < 5 → 1 ≤ s_CU σ p ∧ s_CU σ p ≤ 16
/-- the class's own objects but the working rows -/
def z_cls (Z : zZ) (h : zH) (ad : Nat → Nat) (σ : zSt) : Prop :=
  s_ok σ ∧ h 1 = some (ad 1, .inr (6, [.ref (ad 2), .ref (ad 4), .ref (ad 6), .ref (ad 7), .ref (ad 14)])) ∧
  (z_list Z h 2 (ad 2) (s_nR σ) (fun i => ad (200 + i)) ∧ ∀ i, i < s_nR σ → z_right h (200 + i) (ad (200 + i)) (s_RP σ i) (s_RF σ i) (s_RL σ i) (s_RV σ i) (s_RU σ i)) ∧
  (z_list Z h 4 (ad 4) (s_nM σ) (fun j => ad (300 + j)) ∧ z_machs h ad (s_nM σ) (s_MC σ) (s_MH σ) (s_MA σ) ∧
    (∀ j, j < s_nM σ → ∃ e : Nat → Option Nat, h (310 + j) = some (ad (310 + j), .inl (4, 5, .inr (.inr (.inr (.inr e))))) ∧ ∀ p, p < 5 → e p = some (ad (400 + 4 * (j * 5 + p)))) ∧
    ∀ q, q < s_nM σ * 5 → z_hist h (400 + 4 * q) (ad (400 + 4 * q)) (s_HN σ q) (s_HV σ q) (s_HF σ q) (s_HE σ q)) ∧
  h 6 = z_arr (ad 6) 5 (s_CU σ)
theorem z_hist.kept {h h' : zH} {r a n : Nat} {V F E : Nat → Nat} (H : z_hist h r a n V F E) (hk : ∀ q, r ≤ q → q ≤ r + 3 → h' q = h q) : z_hist h' r a n V F E := by
  obtain ⟨⟨av, af, ae, h0, h1, h2, h3⟩, hn, hB⟩ := H
  exact ⟨⟨av, af, ae, by rw [hk _ (by omega) (by omega)]; exact h0, by rw [hk _ (by omega) (by omega)]; exact h1, by rw [hk _ (by omega) (by omega)]; exact h2, by rw [hk _ (by omega) (by omega)]; exact h3⟩, hn, hB⟩
theorem z_cls.kept {Z : zZ} {h h' : zH} {ad : Nat → Nat} {σ : zSt} {lo hi : Nat} (H : z_cls Z h ad σ) (hs9 : z_same lo hi h h') (hlo : 7 ≤ lo := by omega) (hhi : hi ≤ 199 := by omega) : z_cls Z h' ad σ := by
  have hs : z_same 7 199 h h' := hs9.wide hlo hhi
  obtain ⟨h0, h1, ⟨h2, h3⟩, ⟨h4, h5, h6, h7⟩, h8⟩ := H
  refine ⟨h0, by rw [hs _ (by omega)]; exact h1, ⟨h2.kept (hs _ (by omega)) (hs _ (by omega)), fun i hi => ?_⟩, ⟨h4.kept (hs _ (by omega)) (hs _ (by omega)), fun j hj => ?_, fun j hj => ?_, fun q hq => (h7 q hq).kept (fun x _ _ => hs _ (by omega))⟩, by rw [hs _ (by omega)]; exact h8⟩
  · have := h3 i hi
    unfold z_right at this ⊢
    rw [hs _ (by omega)]; exact this
  · have := h5 j hj
    unfold z_mach at this ⊢
    rw [hs _ (by omega)]; exact this
  · obtain ⟨e, e1, e2⟩ := h6 j hj
    exact ⟨e, by rw [hs _ (by omega)]; exact e1, e2⟩
/-! what is asked of it -/
def s_by (σ : zSt) (j : Nat) : Nat := m_by (s_MH σ) (s_MA σ) 8 j
def s_on (σ : zSt) (d j p : Nat) : Nat := h_on (s_HV σ (j * 5 + p)) (s_HF σ (j * 5 + p)) (s_HE σ (j * 5 + p)) d (s_HN σ (j * 5 + p))
def n_gr (by_ : Nat → Nat) (on : Nat → Nat → Nat) : Nat → Nat → Nat → Nat
  | 0, _, _ => 0
  | k + 1, m, p => if by_ k = m then max (n_gr by_ on k m p) (on k p) else n_gr by_ on k m p
def s_gr (σ : zSt) (d m p : Nat) : Nat := n_gr (s_by σ) (s_on σ d) (s_nM σ) m p
def s_un (σ : zSt) (m p : Nat) : Nat := (s_MC σ m + s_CU σ p - 1) / s_CU σ p
def s_need (σ : zSt) (d pl : Nat) : Option (Nat × Nat × Nat × Nat) := if s_gr σ d (pl / 5) (pl % 5) = 0 then none else some (pl / 5, pl % 5, s_gr σ d (pl / 5) (pl % 5), s_un σ (pl / 5) (pl % 5))
def s_needs (σ : zSt) (d n : Nat) : List (Nat × Nat × Nat × Nat) := (List.range n).filterMap (s_need σ d)
def s_giv (σ : zSt) (p v d n : Nat) : Nat := n_or (fun i => if r_can (s_RP σ i) (s_RF σ i) (s_RL σ i) (s_RV σ i) p v d then 2 ^ i else 0) n
/-- the rows of Needs hold the list -/
def n_agree (L : List (Nat × Nat × Nat × Nat)) (NM NP NV ND : Nat → Nat) : Prop := ∀ k q, L[k]? = some q → NM k = q.1 ∧ NP k = q.2.1 ∧ NV k = q.2.2.1 ∧ ND k = q.2.2.2
theorem h_on_lt {V F E : Nat → Nat} (h : ∀ k, V k < 1000) (d : Nat) : ∀ n, h_on V F E d n < 1000
  | 0 => by show 0 < 1000; omega
  | n + 1 => by
    show (if F n ≤ d then (if d < E n then V n else 0) else h_on V F E d n) < 1000
    have h1 := h_on_lt (F := F) (E := E) h d n
    have h2 := h n
    split
    · split <;> omega
    · exact h1
theorem z_needs.kept {h h' : zH} {r a c : Nat} {NM NP NV ND NG GR : Nat → Nat} (H : z_needs h r a c NM NP NV ND NG GR) (hk : ∀ q, r ≤ q → q ≤ r + 6 → h' q = h q) : z_needs h' r a c NM NP NV ND NG GR := by
  obtain ⟨⟨a1, a2, a3, a4, a5, a6, k0, k1, k2, k3, k4, k5, k6⟩, hc, hB⟩ := H
  exact ⟨⟨a1, a2, a3, a4, a5, a6, by rw [hk _ (by omega) (by omega)]; exact k0, by rw [hk _ (by omega) (by omega)]; exact k1, by rw [hk _ (by omega) (by omega)]; exact k2, by rw [hk _ (by omega) (by omega)]; exact k3, by rw [hk _ (by omega) (by omega)]; exact k4, by rw [hk _ (by omega) (by omega)]; exact k5, by rw [hk _ (by omega) (by omega)]; exact k6⟩, hc, hB⟩
section ZState
variable {Z : zZ} {h : zH} {ad : Nat → Nat} {σ : zSt} {d : Nat} {Q : zO → zH → Prop}
theorem c_X5_unitsForCores {C c : Nat} (hC : C < 1000) (hc : 1 ≤ c) (hc2 : c < 1000) : z_J Z mX5_unitsForCores (zR 0 0 0 0) 0 0 (z_eq (.inl (some (.int (nI ((C + c - 1) / c))))) h) 0 [.int (nI C), .int (nI c)] [] h := by
  refine iX5_unitsForCores_0 rfl ?_
  refine iX5_unitsForCores_2 (fun cc => ?_) (fun cc => ?_)
  · refine iX5_unitsForCores_9 rfl ?_
    show z_J Z mX5_unitsForCores (zR 0 0 0 0) 0 0 _ 15 [.int (nI C), .int (nI c)] [.int (nI c), .int (nI C + nI c - nI 1)] h
    rw [nI_add, n_m1 (by omega)]
    refine iX5_unitsForCores_15 (fun q => absurd (n_e0 q) (by omega)) ?_
    rw [pk_div (by omega) (by omega) (by omega)]
    exact iX5_unitsForCores_16 (Nat.le_of_ble_eq_true rfl) (Nat.le_of_ble_eq_true rfl) ⟨rfl, rfl⟩
  · have := n_nle cc; omega
/-- the inner loop of the first half of findNeeds -/
theorem l_X5_findNeeds1 {g0 : zH} {k : Nat} {rest : List Value} {hist am : Nat} {by_ : Nat} (hk : k < s_nM σ) (hC : z_cls Z g0 ad σ) (hd : d < 1000) (hby : by_ < 8) (h8 : s_nM σ ≤ 8)
    (hq : ∀ (g : zH) (NM NP NV ND NG GR : Nat → Nat), z_same 7 13 g0 g → z_needs g 7 (ad 7) 0 NM NP NV ND NG GR → (∀ m p, m < 8 → p < 5 → GR (m * 5 + p) = if by_ = m then max (n_gr (s_by σ) (s_on σ d) k m p) (s_on σ d k p) else n_gr (s_by σ) (s_on σ d) k m p) →
      z_J Z mX5_findNeeds (zR 3 64 0 0) 0 0 Q 75 [.ref (ad 1), .int (nI d), .int (nI k), .ref (ad (300 + k)), .int (nI by_), .int (nI 5)] [] g) :
    ∀ n p0 (g : zH) (NM NP NV ND NG GR : Nat → Nat), p0 + n = 5 → z_same 7 13 g0 g → z_needs g 7 (ad 7) 0 NM NP NV ND NG GR → (∀ m p, m < 8 → p < 5 → GR (m * 5 + p) = if by_ = m ∧ p < p0 then max (n_gr (s_by σ) (s_on σ d) k m p) (s_on σ d k p) else n_gr (s_by σ) (s_on σ d) k m p) →
      z_J Z mX5_findNeeds (zR 3 64 0 0) 0 0 Q 41 [.ref (ad 1), .int (nI d), .int (nI k), .ref (ad (300 + k)), .int (nI by_), .int (nI p0)] [] g := by
  intro n
  induction n with
  | zero =>
    intro p0 g NM NP NV ND NG GR hp hs hN hG
    obtain rfl : p0 = 5 := by omega
    refine iX5_findNeeds_41 rfl ?_
    refine iX5_findNeeds_44 (fun cc => ?_) (fun cc => ?_)
    · refine hq g NM NP NV ND NG GR hs hN (fun m p hm hp => ?_)
      rw [hG m p hm hp]
      by_cases e : by_ = m
      · rw [if_pos ⟨e, hp⟩, if_pos e]
      · rw [if_neg (fun z => e z.1), if_neg e]
    · exact absurd (Int32.le_refl _) cc
  | succ n ih =>
    intro p0 g NM NP NV ND NG GR hp hs hN hG
    have hC' := hC.kept hs
    obtain ⟨hok, h1, hR, ⟨h4, h5, h6, h7⟩, h8'⟩ := hC'
    obtain ⟨e, e1, e2⟩ := h6 k hk
    have hm := h5 k hk
    unfold z_mach at hm
    have hh := h7 (k * 5 + p0) (by omega)
    have hlt : h_on (s_HV σ (k * 5 + p0)) (s_HF σ (k * 5 + p0)) (s_HE σ (k * 5 + p0)) d (s_HN σ (k * 5 + p0)) < 1000 := h_on_lt (fun x => (hh.2.2 x).1) d _
    obtain ⟨x1, x2, x3, x0, -⟩ := id hh.1
    obtain ⟨a1, a2, a3, a4, a5, a6, k0, -⟩ := id hN.1
    refine iX5_findNeeds_41 rfl ?_
    refine iX5_findNeeds_44 (fun cc => ?_) (fun cc => ?_)
    · have := n_le cc; omega
    · refine iX5_findNeeds_47 rfl ?_
      refine iX5_findNeeds_48 h1 rfl ?_
      refine iX5_findNeeds_51 rfl ?_
      refine iX5_findNeeds_56 hm rfl ?_
      refine iX5_findNeeds_59 rfl ?_
      refine iX5_findNeeds_61 e1 rfl (by omega) (by omega) ?_
      refine iX5_findNeeds_62 rfl ?_
      rw [e2 p0 (by omega)]
      refine iX5_findNeeds_63 (R' := zR 0 0 0 0) rfl rfl x0 (z_rmo rfl) (c_X1_versionOn hh hd) (z_qr ?_) z_qx
      refine iX5_findNeeds_66 (R' := zR 1 22 0 0) rfl rfl k0 (z_rmo rfl) (c_X3_raise (m := by_) (p := p0) hN hby (by omega) hlt) (fun v h' q => ?_) (fun E h' q => ?_)
      · obtain ⟨q1, q2, q3⟩ := q
        cases q1
        refine iX5_findNeeds_69 rfl ?_
        show z_J Z mX5_findNeeds (zR 3 64 0 0) 0 0 Q 41 [.ref (ad 1), .int (nI d), .int (nI k), .ref (ad (300 + k)), .int (nI by_), .int (nI p0 + nI 1)] [] h'
        rw [nI_add]
        refine ih (p0 + 1) h' NM NP NV ND NG _ (by omega) (hs.trans (q3.wide (by omega) (by omega))) q2 (fun m p hm hp => ?_)
        have hGm := hG m p hm hp
        unfold nu
        by_cases e9 : m * 5 + p = by_ * 5 + p0
        · obtain ⟨rfl, rfl⟩ : m = by_ ∧ p = p0 := by omega
          rw [if_pos rfl, if_pos ⟨rfl, by omega⟩, hGm, if_neg (fun z => by omega)]
          rfl
        · rw [if_neg e9, hGm]
          by_cases e8 : by_ = m
          · by_cases e7 : p < p0
            · rw [if_pos ⟨e8, e7⟩, if_pos ⟨e8, by omega⟩]
            · rw [if_neg (fun z => e7 z.2), if_neg (fun z => by omega)]
          · rw [if_neg (fun z => e8 z.1), if_neg (fun z => e8 z.1)]
      · cases q.1
end ZState
