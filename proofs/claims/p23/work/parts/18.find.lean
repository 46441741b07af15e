/-! ===== findNeeds ===== -/
theorem m_by_lt {nM : Nat} {MH : Nat → Option Nat} {MA : Nat → Bool} (hw : m_wf nM MH) {j : Nat} (hj : j < nM) (f : Nat) : m_by MH MA f j < 8 := by
  have := m_by_le (MA := MA) hw f j
  have := hw.1
  omega
theorem s_needs_len (σ : zSt) (d : Nat) : ∀ n, (s_needs σ d n).length ≤ n
  | 0 => Nat.le_refl _
  | n + 1 => by
    have h := s_needs_len σ d n
    unfold s_needs at h ⊢
    rw [List.range_succ, List.filterMap_append, List.length_append]
    have h2 : (List.filterMap (s_need σ d) [n]).length ≤ 1 := by
      simp only [List.filterMap_cons, List.filterMap_nil]
      split <;> simp
    omega
theorem s_needs_succ (σ : zSt) (d n : Nat) : s_needs σ d (n + 1) = match s_need σ d n with
    | none => s_needs σ d n
    | some q => s_needs σ d n ++ [q] := by
  unfold s_needs
  rw [List.range_succ, List.filterMap_append]
  simp only [List.filterMap_cons, List.filterMap_nil]
  cases s_need σ d n <;> simp
theorem n_agree_add {L : List (Nat × Nat × Nat × Nat)} {NM NP NV ND : Nat → Nat} {q : Nat × Nat × Nat × Nat} (h : n_agree L NM NP NV ND) : n_agree (L ++ [q]) (nu NM L.length q.1) (nu NP L.length q.2.1) (nu NV L.length q.2.2.1) (nu ND L.length q.2.2.2) := by
  intro k x hk
  by_cases hl : k < L.length
  · rw [List.getElem?_append_left hl] at hk
    have := h k x hk
    rw [nu_n (by omega), nu_n (by omega), nu_n (by omega), nu_n (by omega)]
    exact this
  · rw [List.getElem?_append_right (by omega)] at hk
    have hz : k - L.length < 1 := (List.getElem?_eq_some_iff.mp hk).1
    have e : k = L.length := by omega
    subst e
    rw [Nat.sub_self] at hk
    cases hk
    rw [nu_s, nu_s, nu_s, nu_s]
    exact ⟨rfl, rfl, rfl, rfl⟩
section ZFind
variable {Z : zZ} {h : zH} {ad : Nat → Nat} {σ : zSt} {d : Nat} {Q : zO → zH → Prop}
theorem l_X5_findNeedsA {g0 : zH} (hC : z_cls Z g0 ad σ) (hd : d < 1000)
    (hq : ∀ (g : zH) (NM NP NV ND NG GR : Nat → Nat), z_same 7 13 g0 g → z_needs g 7 (ad 7) 0 NM NP NV ND NG GR → (∀ m p, m < 8 → p < 5 → GR (m * 5 + p) = s_gr σ d m p) →
      z_J Z mX5_findNeeds (zR 3 64 0 0) 0 0 Q 81 [.ref (ad 1), .int (nI d), .int (nI (s_nM σ))] [] g) :
    ∀ n k (g : zH) (NM NP NV ND NG GR : Nat → Nat), k + n = s_nM σ → z_same 7 13 g0 g → z_needs g 7 (ad 7) 0 NM NP NV ND NG GR → (∀ m p, m < 8 → p < 5 → GR (m * 5 + p) = n_gr (s_by σ) (s_on σ d) k m p) →
      z_J Z mX5_findNeeds (zR 3 64 0 0) 0 0 Q 9 [.ref (ad 1), .int (nI d), .int (nI k)] [] g := by
  have h8 : s_nM σ ≤ 8 := hC.1.2.1.1
  intro n
  induction n with
  | zero =>
    intro k g NM NP NV ND NG GR hk hs hN hG
    obtain rfl : k = s_nM σ := by omega
    obtain ⟨hok, h1, hR, ⟨h4, h5, h6, h7⟩, h8'⟩ := hC.kept hs
    have hl : ∃ m v, g 4 = some (ad 4, .inr (0, [m, v, .int (nI (s_nM σ))])) := by
      obtain ⟨-, m, ⟨hz, e⟩ | ⟨ea, e, e0, -⟩⟩ := h4
      · exact ⟨_, _, by rw [hz]; exact e⟩
      · exact ⟨_, _, e0⟩
    obtain ⟨x1, x2, hl⟩ := hl
    refine iX5_findNeeds_9 rfl ?_
    refine iX5_findNeeds_11 h1 rfl ?_
    refine iX5_findNeeds_14 (R' := zR 0 0 0 0) rfl rfl hl (z_rmo rfl) (c_Jx4a65c_size h4) (z_qr ?_) z_qx
    refine iX5_findNeeds_17 (fun cc => ?_) (fun cc => ?_)
    · exact hq g NM NP NV ND NG GR hs hN hG
    · exact absurd (Int32.le_refl _) cc
  | succ n ih =>
    intro k g NM NP NV ND NG GR hk hs hN hG
    have hC' := hC.kept hs
    obtain ⟨hok, h1, hR, ⟨h4, h5, h6, h7⟩, h8'⟩ := id hC'
    have hl : ∃ m v, g 4 = some (ad 4, .inr (0, [m, v, .int (nI (s_nM σ))])) := by
      obtain ⟨-, m, ⟨hz, e⟩ | ⟨ea, e, e0, -⟩⟩ := h4
      · exact ⟨_, _, by rw [hz]; exact e⟩
      · exact ⟨_, _, e0⟩
    obtain ⟨x1, x2, hl⟩ := hl
    have hm := h5 k (by omega)
    unfold z_mach at hm
    refine iX5_findNeeds_9 rfl ?_
    refine iX5_findNeeds_11 h1 rfl ?_
    refine iX5_findNeeds_14 (R' := zR 0 0 0 0) rfl rfl hl (z_rmo rfl) (c_Jx4a65c_size h4) (z_qr ?_) z_qx
    refine iX5_findNeeds_17 (fun cc => ?_) (fun cc => ?_)
    · have := n_le cc; omega
    · refine iX5_findNeeds_20 rfl ?_
      refine iX5_findNeeds_21 h1 rfl ?_
      refine iX5_findNeeds_24 rfl ?_
      refine iX5_findNeeds_25 (R' := zR 2 43 0 0) rfl rfl hl (z_rmo rfl) (c_Jx4a65c_get h4 (i := k) (by omega)) (z_qr ?_) z_qx
      refine iX5_findNeeds_28 hm ?_
      refine iX5_findNeeds_31 rfl ?_
      refine iX5_findNeeds_33 (R' := zR 0 0 0 0) rfl rfl hm (z_rmo rfl) (c_X2_countsBy h5 hok.2.1 (by omega)) (z_qr ?_) z_qx
      refine iX5_findNeeds_36 rfl ?_
      refine l_X5_findNeeds1 (g0 := g) (k := k) (rest := []) (hist := 0) (am := 0) (by_ := s_by σ k) (by omega) hC' hd (m_by_lt hok.2.1 (by omega) 8) h8 (fun g' NM' NP' NV' ND' NG' GR' hs' hN' hG' => ?_) 5 0 g NM NP NV ND NG GR rfl z_same.rf hN (fun m p hm hp => ?_)
      · refine iX5_findNeeds_75 rfl ?_
        refine z_J.take 3 ?_
        show z_J Z mX5_findNeeds (zR 3 64 0 0) 0 0 Q 9 [.ref (ad 1), .int (nI d), .int (nI k + nI 1)] [] g'
        rw [nI_add]
        refine ih (k + 1) g' NM' NP' NV' ND' NG' GR' (by omega) (hs.trans hs') hN' (fun m p hm hp => ?_)
        exact hG' m p hm hp
      · rw [hG m p hm hp, if_neg (fun z => by omega)]
/-- the inner loop of the second half -/
theorem l_X5_findNeeds2 {g0 : zH} {k : Nat} (hk : k < s_nM σ) (hC : z_cls Z g0 ad σ)
    (hq : ∀ (g : zH) (NM NP NV ND NG GR : Nat → Nat), z_same 7 13 g0 g → z_needs g 7 (ad 7) (s_needs σ d (k * 5 + 5)).length NM NP NV ND NG GR → n_agree (s_needs σ d (k * 5 + 5)) NM NP NV ND → (∀ m p, m < 8 → p < 5 → GR (m * 5 + p) = s_gr σ d m p) →
      z_J Z mX5_findNeeds (zR 3 64 0 0) 0 0 Q 145 [.ref (ad 1), .int (nI d), .int (nI k), .int (nI (s_MC σ k)), .int (nI 5)] [] g) :
    ∀ n p0 (g : zH) (NM NP NV ND NG GR : Nat → Nat), p0 + n = 5 → z_same 7 13 g0 g → z_needs g 7 (ad 7) (s_needs σ d (k * 5 + p0)).length NM NP NV ND NG GR → n_agree (s_needs σ d (k * 5 + p0)) NM NP NV ND → (∀ m p, m < 8 → p < 5 → GR (m * 5 + p) = s_gr σ d m p) →
      z_J Z mX5_findNeeds (zR 3 64 0 0) 0 0 Q 112 [.ref (ad 1), .int (nI d), .int (nI k), .int (nI (s_MC σ k)), .int (nI p0)] [] g := by
  have h8 : s_nM σ ≤ 8 := hC.1.2.1.1
  intro n
  induction n with
  | zero =>
    intro p0 g NM NP NV ND NG GR hp hs hN hA hG
    obtain rfl : p0 = 5 := by omega
    refine iX5_findNeeds_112 rfl ?_
    refine iX5_findNeeds_115 (fun cc => ?_) (fun cc => ?_)
    · exact hq g NM NP NV ND NG GR hs hN hA hG
    · exact absurd (Int32.le_refl _) cc
  | succ n ih =>
    intro p0 g NM NP NV ND NG GR hp hs hN hA hG
    have hC' := hC.kept hs
    obtain ⟨hok, h1, hR, ⟨h4, h5, h6, h7⟩, h8'⟩ := id hC'
    have hcu := hok.2.2.2 p0 (by omega)
    have hmc := hok.2.2.1 k
    obtain ⟨a1, a2, a3, a4, a5, a6, k0, -⟩ := id hN.1
    have hun : s_un σ k p0 < 1000 := by
      unfold s_un
      have := Nat.div_le_self (s_MC σ k + s_CU σ p0 - 1) (s_CU σ p0)
      omega
    have hlen := s_needs_len σ d (k * 5 + p0)
    refine iX5_findNeeds_112 rfl ?_
    refine iX5_findNeeds_115 (fun cc => ?_) (fun cc => ?_)
    · have := n_le cc; omega
    · refine iX5_findNeeds_118 rfl ?_
      refine iX5_findNeeds_119 h1 rfl ?_
      refine iX5_findNeeds_122 rfl ?_
      refine iX5_findNeeds_127 h1 rfl ?_
      refine iX5_findNeeds_130 rfl ?_
      refine iX5_findNeeds_132 h8' rfl (by omega) (by omega) ?_
      refine iX5_findNeeds_133 (R' := zR 0 0 0 0) rfl rfl (z_rmo rfl) (c_X5_unitsForCores (by omega) (by omega) (by omega)) (z_qr ?_) z_qx
      refine iX5_findNeeds_136 (R' := zR 0 0 0 0) rfl rfl k0 (z_rmo rfl) (c_X3_addIfRaised (m := k) (p := p0) (u := s_un σ k p0) hN (by omega) (by omega) hun hlen) (fun v h' q => ?_) (fun E h' q => ?_)
      · obtain ⟨q1, q2, q3⟩ := q
        cases q1
        refine iX5_findNeeds_139 rfl ?_
        show z_J Z mX5_findNeeds (zR 3 64 0 0) 0 0 Q 112 [.ref (ad 1), .int (nI d), .int (nI k), .int (nI (s_MC σ k)), .int (nI p0 + nI 1)] [] h'
        rw [nI_add]
        have hsucc := s_needs_succ σ d (k * 5 + p0)
        have e1 : (k * 5 + p0) / 5 = k := by omega
        have e2 : (k * 5 + p0) % 5 = p0 := by omega
        have hgr := hG k p0 (by omega) (by omega)
        by_cases hz : GR (k * 5 + p0) = 0
        · rw [if_pos hz] at q2
          have hn : s_need σ d (k * 5 + p0) = none := by unfold s_need; rw [e1, e2, if_pos (by omega)]
          rw [hn] at hsucc
          have hsucc : s_needs σ d (k * 5 + (p0 + 1)) = s_needs σ d (k * 5 + p0) := hsucc
          exact ih (p0 + 1) h' NM NP NV ND NG GR (by omega) (hs.trans (q3.wide (by omega) (by omega))) (by rw [hsucc]; exact q2) (by rw [hsucc]; exact hA) hG
        · rw [if_neg hz] at q2
          have hn : s_need σ d (k * 5 + p0) = some (k, p0, GR (k * 5 + p0), s_un σ k p0) := by unfold s_need; rw [e1, e2, if_neg (by omega), hgr]
          rw [hn] at hsucc
          have hsucc : s_needs σ d (k * 5 + (p0 + 1)) = s_needs σ d (k * 5 + p0) ++ [(k, p0, GR (k * 5 + p0), s_un σ k p0)] := hsucc
          exact ih (p0 + 1) h' _ _ _ _ NG GR (by omega) (hs.trans (q3.wide (by omega) (by omega))) (by rw [hsucc, List.length_append]; exact q2) (by rw [hsucc]; exact n_agree_add hA) hG
      · cases q.1
theorem l_X5_findNeedsB {g0 : zH} (hC : z_cls Z g0 ad σ)
    (hq : ∀ (g : zH) (NM NP NV ND NG GR : Nat → Nat), z_same 7 13 g0 g → z_needs g 7 (ad 7) (s_needs σ d (s_nM σ * 5)).length NM NP NV ND NG GR → n_agree (s_needs σ d (s_nM σ * 5)) NM NP NV ND → Q (.inl none) g) :
    ∀ n k (g : zH) (NM NP NV ND NG GR : Nat → Nat), k + n = s_nM σ → z_same 7 13 g0 g → z_needs g 7 (ad 7) (s_needs σ d (k * 5)).length NM NP NV ND NG GR → n_agree (s_needs σ d (k * 5)) NM NP NV ND → (∀ m p, m < 8 → p < 5 → GR (m * 5 + p) = s_gr σ d m p) →
      z_J Z mX5_findNeeds (zR 3 64 0 0) 0 0 Q 83 [.ref (ad 1), .int (nI d), .int (nI k)] [] g := by
  have h8 : s_nM σ ≤ 8 := hC.1.2.1.1
  intro n
  induction n with
  | zero =>
    intro k g NM NP NV ND NG GR hk hs hN hA hG
    obtain rfl : k = s_nM σ := by omega
    obtain ⟨hok, h1, hR, ⟨h4, h5, h6, h7⟩, h8'⟩ := hC.kept hs
    have hl : ∃ m v, g 4 = some (ad 4, .inr (0, [m, v, .int (nI (s_nM σ))])) := by
      obtain ⟨-, m, ⟨hz, e⟩ | ⟨ea, e, e0, -⟩⟩ := h4
      · exact ⟨_, _, by rw [hz]; exact e⟩
      · exact ⟨_, _, e0⟩
    obtain ⟨x1, x2, hl⟩ := hl
    refine iX5_findNeeds_83 rfl ?_
    refine iX5_findNeeds_85 h1 rfl ?_
    refine iX5_findNeeds_88 (R' := zR 0 0 0 0) rfl rfl hl (z_rmo rfl) (c_Jx4a65c_size h4) (z_qr ?_) z_qx
    refine iX5_findNeeds_91 (fun cc => ?_) (fun cc => ?_)
    · exact iX5_findNeeds_151 (Nat.le_of_ble_eq_true rfl) (Nat.le_of_ble_eq_true rfl) (hq g NM NP NV ND NG GR hs hN hA)
    · exact absurd (Int32.le_refl _) cc
  | succ n ih =>
    intro k g NM NP NV ND NG GR hk hs hN hA hG
    have hC' := hC.kept hs
    obtain ⟨hok, h1, hR, ⟨h4, h5, h6, h7⟩, h8'⟩ := id hC'
    have hl : ∃ m v, g 4 = some (ad 4, .inr (0, [m, v, .int (nI (s_nM σ))])) := by
      obtain ⟨-, m, ⟨hz, e⟩ | ⟨ea, e, e0, -⟩⟩ := h4
      · exact ⟨_, _, by rw [hz]; exact e⟩
      · exact ⟨_, _, e0⟩
    obtain ⟨x1, x2, hl⟩ := hl
    have hm := h5 k (by omega)
    unfold z_mach at hm
    refine iX5_findNeeds_83 rfl ?_
    refine iX5_findNeeds_85 h1 rfl ?_
    refine iX5_findNeeds_88 (R' := zR 0 0 0 0) rfl rfl hl (z_rmo rfl) (c_Jx4a65c_size h4) (z_qr ?_) z_qx
    refine iX5_findNeeds_91 (fun cc => ?_) (fun cc => ?_)
    · have := n_le cc; omega
    · refine iX5_findNeeds_94 rfl ?_
      refine iX5_findNeeds_95 h1 rfl ?_
      refine iX5_findNeeds_98 rfl ?_
      refine iX5_findNeeds_99 (R' := zR 2 43 0 0) rfl rfl hl (z_rmo rfl) (c_Jx4a65c_get h4 (i := k) (by omega)) (z_qr ?_) z_qx
      refine iX5_findNeeds_102 hm ?_
      refine iX5_findNeeds_105 hm rfl ?_
      refine iX5_findNeeds_108 rfl ?_
      refine l_X5_findNeeds2 (g0 := g) (k := k) (by omega) hC' (fun g' NM' NP' NV' ND' NG' GR' hs' hN' hA' hG' => ?_) 5 0 g NM NP NV ND NG GR rfl z_same.rf hN hA hG
      refine iX5_findNeeds_145 rfl ?_
      refine z_J.take 3 ?_
      show z_J Z mX5_findNeeds (zR 3 64 0 0) 0 0 Q 83 [.ref (ad 1), .int (nI d), .int (nI k + nI 1)] [] g'
      rw [nI_add]
      exact ih (k + 1) g' NM' NP' NV' ND' NG' GR' (by omega) (hs.trans hs') (by rw [Nat.succ_mul]; exact hN') (by rw [Nat.succ_mul]; exact hA') hG'
/-- the needs of a day, as findNeeds leaves them -/
abbrev s_all (σ : zSt) (d : Nat) : List (Nat × Nat × Nat × Nat) := s_needs σ d (s_nM σ * 5)
def z_found (h : zH) (ad : Nat → Nat) (L : List (Nat × Nat × Nat × Nat)) (NG : Nat → Nat) : Prop := ∃ (NM NP NV ND GR : Nat → Nat), z_needs h 7 (ad 7) L.length NM NP NV ND NG GR ∧ n_agree L NM NP NV ND
theorem c_X5_findNeeds {c : Nat} {NM NP NV ND NG GR : Nat → Nat} (hC : z_cls Z h ad σ) (hN : z_needs h 7 (ad 7) c NM NP NV ND NG GR) (hd : d < 1000) : z_J Z mX5_findNeeds (zR 3 64 0 0) 0 0 (fun o h' => o = .inl none ∧ (∃ NG', z_found h' ad (s_all σ d) NG') ∧ z_same 7 13 h h') 0 [.ref (ad 1), .int (nI d)] [] h := by
  obtain ⟨a1, a2, a3, a4, a5, a6, k0, -⟩ := id hN.1
  have h1 := hC.2.1
  refine iX5_findNeeds_0 rfl ?_
  refine iX5_findNeeds_1 h1 rfl ?_
  refine iX5_findNeeds_4 (R' := zR 1 23 0 0) rfl rfl k0 (z_rmo rfl) (c_X3_clear hN) (fun v h' q => ?_) (fun E h' q => ?_)
  · obtain ⟨q1, q2, q3⟩ := q
    cases q1
    refine iX5_findNeeds_7 rfl ?_
    refine l_X5_findNeedsA (hC.kept q3) hd (fun g NM NP NV ND NG GR hs hN hG => ?_) (s_nM σ) 0 h' _ _ _ _ _ _ (by omega) z_same.rf q2 (fun m p hm hp => ?_)
    · refine iX5_findNeeds_81 rfl ?_
      have hs2 : z_same 7 13 h g := (q3.wide (by omega) (by omega)).trans hs
      exact l_X5_findNeedsB (hC.kept hs2) (fun g' NM' NP' NV' ND' NG' GR' hs' hN' hA' => ⟨rfl, ⟨NG', NM', NP', NV', ND', GR', hN', hA'⟩, hs2.trans hs'⟩) (s_nM σ) 0 g NM NP NV ND NG GR (by omega) z_same.rf (by rw [Nat.zero_mul]; exact hN) (fun k q hk => by rw [Nat.zero_mul] at hk; cases hk) hG
    · show n_fill GR 0 40 (m * 5 + p) = 0
      unfold n_fill
      rw [if_pos (by omega)]
  · cases q.1
end ZFind
