/-! ===== giversFor, findGivers, unitsOf, serveFirst ===== -/
theorem z_list.obj {Z : zZ} {h : zH} {r a n : Nat} {g : Nat → Nat} (H : z_list Z h r a n g) : ∃ m v, h r = some (a, .inr (0, [m, v, .int (nI n)])) := by
  obtain ⟨-, m, ⟨hz, e⟩ | ⟨ea, e, e0, -⟩⟩ := H
  · exact ⟨_, _, by rw [hz]; exact e⟩
  · exact ⟨_, _, e0⟩
theorem n_or_lt2 {f : Nat → Nat} : ∀ {c : Nat}, (∀ k, k < c → f k < 2 ^ 10) → n_or f c < 2 ^ 10
  | 0, _ => by show 0 < 2 ^ 10; decide
  | c + 1, h => Nat.or_lt_two_pow (n_or_lt2 (fun k hk => h k (by omega))) (h c (by omega))
theorem s_giv_lt (σ : zSt) (p v d : Nat) {n : Nat} (hn : n ≤ 10) : s_giv σ p v d n < 1024 := n_or_lt2 (fun k hk => by
  split
  · exact Nat.pow_lt_pow_right (by decide) (by omega)
  · decide)
/-- who can give for each of the list's needs -/
def g_ok (σ : zSt) (d : Nat) (L : List (Nat × Nat × Nat × Nat)) (NG : Nat → Nat) : Prop := ∀ k q, L[k]? = some q → NG k = s_giv σ q.2.1 q.2.2.1 d (s_nR σ)
theorem s_need_in {σ : zSt} {d n k : Nat} {q : Nat × Nat × Nat × Nat} (h : (s_needs σ d n)[k]? = some q) : ∃ pl, pl < n ∧ q = (pl / 5, pl % 5, s_gr σ d (pl / 5) (pl % 5), s_un σ (pl / 5) (pl % 5)) ∧ s_gr σ d (pl / 5) (pl % 5) ≠ 0 := by
  have hm := List.mem_of_getElem? h
  unfold s_needs at hm
  obtain ⟨pl, h1, h2⟩ := List.mem_filterMap.mp hm
  refine ⟨pl, List.mem_range.mp h1, ?_⟩
  unfold s_need at h2
  split at h2
  · cases h2
  · rename_i hne
    exact ⟨(Option.some.inj h2).symm, hne⟩
theorem z_needs.putG {h : zH} {r a c : Nat} {NM NP NV ND NG GR : Nat → Nat} (H : z_needs h r a c NM NP NV ND NG GR) (k v : Nat) (hv : v < 1024) : ∃ a5, h (r + 5) = z_arr a5 40 NG ∧ z_needs (z_u h (r + 5) (a5, .inl (0, 40, .inl (fun j => nI (nu NG k v j))))) r a c NM NP NV ND (nu NG k v) GR := by
  obtain ⟨⟨a1, a2, a3, a4, a5, a6, k0, k1, k2, k3, k4, k5, k6⟩, hc, hB⟩ := H
  refine ⟨a5, k5, ⟨a1, a2, a3, a4, a5, a6, ?_, ?_, ?_, ?_, ?_, z_u_s, ?_⟩, hc, fun j => ?_⟩
  · rw [z_u_n (by omega)]; exact k0
  · rw [z_u_n (by omega)]; exact k1
  · rw [z_u_n (by omega)]; exact k2
  · rw [z_u_n (by omega)]; exact k3
  · rw [z_u_n (by omega)]; exact k4
  · rw [z_u_n (by omega)]; exact k6
  · have := hB j
    unfold nu
    refine ⟨by omega, by omega, by omega, by omega, ?_, by omega⟩
    split <;> omega
section ZMid
variable {Z : zZ} {h : zH} {ad : Nat → Nat} {σ : zSt} {d : Nat} {Q : zO → zH → Prop}
theorem l_X5_giversFor {p v : Nat} (hC : z_cls Z h ad σ) (hp : p < 32) (hv : v < 1000) (hd : d < 1000) (hq : Q (.inl (some (.int (nI (s_giv σ p v d (s_nR σ)))))) h) :
    ∀ n k, k + n = s_nR σ → z_J Z mX5_giversFor (zR 3 64 0 0) 0 0 Q 6 [.ref (ad 1), .int (nI p), .int (nI v), .int (nI d), .int (nI (s_giv σ p v d k)), .int (nI k)] [] h := by
  obtain ⟨hok, h1, ⟨h2, h3⟩, -, -⟩ := id hC
  obtain ⟨x1, x2, hl⟩ := h2.obj
  have hn10 := hok.1.1
  intro n
  induction n with
  | zero =>
    intro k hk
    obtain rfl : k = s_nR σ := by omega
    refine iX5_giversFor_6 rfl ?_
    refine iX5_giversFor_9 h1 rfl ?_
    refine iX5_giversFor_12 (R' := zR 0 0 0 0) rfl rfl hl (z_rmo rfl) (c_Jx4a65c_size h2) (z_qr ?_) z_qx
    refine iX5_giversFor_15 (fun cc => ?_) (fun cc => ?_)
    · refine iX5_giversFor_54 rfl ?_
      exact iX5_giversFor_56 (Nat.le_of_ble_eq_true rfl) (Nat.le_of_ble_eq_true rfl) hq
    · exact absurd (Int32.le_refl _) cc
  | succ n ih =>
    intro k hk
    have hr := h3 k (by omega)
    have hb := hok.1.2 k
    have ih := ih (k + 1) (by omega)
    have e : s_giv σ p v d (k + 1) = s_giv σ p v d k ||| (if r_can (s_RP σ k) (s_RF σ k) (s_RL σ k) (s_RV σ k) p v d then 2 ^ k else 0) := rfl
    refine iX5_giversFor_6 rfl ?_
    refine iX5_giversFor_9 h1 rfl ?_
    refine iX5_giversFor_12 (R' := zR 0 0 0 0) rfl rfl hl (z_rmo rfl) (c_Jx4a65c_size h2) (z_qr ?_) z_qx
    refine iX5_giversFor_15 (fun cc => ?_) (fun cc => ?_)
    · have := n_le cc; omega
    · refine iX5_giversFor_18 rfl ?_
      refine iX5_giversFor_19 h1 rfl ?_
      refine iX5_giversFor_22 rfl ?_
      refine iX5_giversFor_24 (R' := zR 2 43 0 0) rfl rfl hl (z_rmo rfl) (c_Jx4a65c_get h2 (i := k) (by omega)) (z_qr ?_) z_qx
      refine iX5_giversFor_27 hr ?_
      refine iX5_giversFor_30 rfl ?_
      refine iX5_giversFor_33 (R' := zR 0 0 0 0) rfl rfl hr (z_rmo rfl) (c_X4_canGive hr (by omega) (by omega) (by omega) (by omega) hp hv hd) (z_qr ?_) z_qx
      refine iX5_giversFor_36 (fun cc => ?_) (fun cc => ?_)
      · have cz := zb_0 cc
        rw [if_neg (by rw [cz]; decide), Nat.or_zero] at e
        refine iX5_giversFor_48 rfl ?_
        rw [e, ← nI_add] at ih
        exact ih
      · have cz := zb_n0 cc
        rw [if_pos cz] at e
        refine iX5_giversFor_39 rfl ?_
        show z_J Z mX5_giversFor (zR 3 64 0 0) 0 0 Q 48 [.ref (ad 1), .int (nI p), .int (nI v), .int (nI d), .int (nI (s_giv σ p v d k) ||| (nI 1 <<< (nI k &&& 31))), .int (nI k)] [] h
        rw [n_sh1 (by omega), nI_or, ← e]
        refine iX5_giversFor_48 rfl ?_
        rw [← nI_add] at ih
        exact ih
theorem c_X5_giversFor {p v : Nat} (hC : z_cls Z h ad σ) (hp : p < 32) (hv : v < 1000) (hd : d < 1000) : z_J Z mX5_giversFor (zR 3 64 0 0) 0 0 (z_eq (.inl (some (.int (nI (s_giv σ p v d (s_nR σ)))))) h) 0 [.ref (ad 1), .int (nI p), .int (nI v), .int (nI d)] [] h := by
  refine iX5_giversFor_0 rfl ?_
  exact l_X5_giversFor hC hp hv hd ⟨rfl, rfl⟩ (s_nR σ) 0 (by omega)
theorem l_X5_unitsOf {S : Nat} (hC : z_cls Z h ad σ) (hS : S < 2 ^ 31) (hq : Q (.inl (some (.int (nI (n_sum (fun i => if S.testBit i = true then s_RU σ i else 0) (s_nR σ)))))) h) :
    ∀ n k, k + n = s_nR σ → z_J Z mX5_unitsOf (zR 3 64 0 0) 0 0 Q 4 [.ref (ad 1), .int (nI S), .int (nI (n_sum (fun i => if S.testBit i = true then s_RU σ i else 0) k)), .int (nI k)] [] h := by
  obtain ⟨hok, h1, ⟨h2, h3⟩, -, -⟩ := id hC
  obtain ⟨x1, x2, hl⟩ := h2.obj
  have hn10 := hok.1.1
  intro n
  induction n with
  | zero =>
    intro k hk
    obtain rfl : k = s_nR σ := by omega
    refine iX5_unitsOf_4 rfl ?_
    refine iX5_unitsOf_6 h1 rfl ?_
    refine iX5_unitsOf_9 (R' := zR 0 0 0 0) rfl rfl hl (z_rmo rfl) (c_Jx4a65c_size h2) (z_qr ?_) z_qx
    refine iX5_unitsOf_12 (fun cc => ?_) (fun cc => ?_)
    · refine iX5_unitsOf_46 rfl ?_
      exact iX5_unitsOf_47 (Nat.le_of_ble_eq_true rfl) (Nat.le_of_ble_eq_true rfl) hq
    · exact absurd (Int32.le_refl _) cc
  | succ n ih =>
    intro k hk
    have hr := h3 k (by omega)
    unfold z_right at hr
    have ih := ih (k + 1) (by omega)
    have e : n_sum (fun i => if S.testBit i = true then s_RU σ i else 0) (k + 1) = n_sum (fun i => if S.testBit i = true then s_RU σ i else 0) k + (if S.testBit k = true then s_RU σ k else 0) := rfl
    rw [e, ← nI_add, ← nI_add, n_tb] at ih
    have hbit := n_bit (P := S) (p := k) hS (by omega)
    refine iX5_unitsOf_4 rfl ?_
    refine iX5_unitsOf_6 h1 rfl ?_
    refine iX5_unitsOf_9 (R' := zR 0 0 0 0) rfl rfl hl (z_rmo rfl) (c_Jx4a65c_size h2) (z_qr ?_) z_qx
    refine iX5_unitsOf_12 (fun cc => ?_) (fun cc => ?_)
    · have := n_le cc; omega
    · refine iX5_unitsOf_15 rfl ?_
      refine iX5_unitsOf_20 (fun cc => ?_) (fun cc => ?_)
      · have cx := n_e0 (hbit.symm.trans cc) (by omega)
        rw [if_neg (by rw [decide_eq_false (by omega)]; decide), nI_add, Nat.add_zero] at ih
        refine iX5_unitsOf_40 rfl ?_
        exact ih
      · have cx : S / 2 ^ k % 2 ≠ 0 := fun q => cc (hbit.trans (by rw [q]; rfl))
        rw [if_pos (by rw [decide_eq_true (by omega)])] at ih
        refine iX5_unitsOf_23 rfl ?_
        refine iX5_unitsOf_25 h1 rfl ?_
        refine iX5_unitsOf_28 rfl ?_
        refine iX5_unitsOf_29 (R' := zR 2 43 0 0) rfl rfl hl (z_rmo rfl) (c_Jx4a65c_get h2 (i := k) (by omega)) (z_qr ?_) z_qx
        refine iX5_unitsOf_32 hr ?_
        refine iX5_unitsOf_35 hr rfl ?_
        refine iX5_unitsOf_38 rfl ?_
        refine iX5_unitsOf_40 rfl ?_
        exact ih
theorem c_X5_unitsOf {S : Nat} (hC : z_cls Z h ad σ) (hS : S < 2 ^ 31) : z_J Z mX5_unitsOf (zR 3 64 0 0) 0 0 (z_eq (.inl (some (.int (nI (n_sum (fun i => if S.testBit i = true then s_RU σ i else 0) (s_nR σ)))))) h) 0 [.ref (ad 1), .int (nI S)] [] h := by
  refine iX5_unitsOf_0 rfl ?_
  exact l_X5_unitsOf hC hS ⟨rfl, rfl⟩ (s_nR σ) 0 (by omega)
theorem l_X5_findGivers {NM NP NV ND GR : Nat → Nat} {L : List (Nat × Nat × Nat × Nat)} (hC : z_cls Z h ad σ) (hd : d < 1000) (hA : n_agree L NM NP NV ND) (hp5 : ∀ (k : Nat) (q : Nat × Nat × Nat × Nat), L[k]? = some q → q.2.1 < 5)
    (hq : ∀ (g : zH) (NG : Nat → Nat), z_same 12 12 h g → z_needs g 7 (ad 7) L.length NM NP NV ND NG GR → g_ok σ d L NG → Q (.inl none) g) :
    ∀ n k (g : zH) (NG : Nat → Nat), k + n = L.length → z_same 12 12 h g → z_needs g 7 (ad 7) L.length NM NP NV ND NG GR → (∀ j q, j < k → L[j]? = some q → NG j = s_giv σ q.2.1 q.2.2.1 d (s_nR σ)) →
      z_J Z mX5_findGivers (zR 4 89 0 0) 0 0 Q 2 [.ref (ad 1), .int (nI d), .int (nI k)] [] g := by
  intro n
  induction n with
  | zero =>
    intro k g NG hk hs hN hG
    obtain rfl : k = L.length := by omega
    have hC' := hC.kept hs
    have h1 := hC'.2.1
    obtain ⟨a1, a2, a3, a4, a5, a6, k0, -⟩ := id hN.1
    refine iX5_findGivers_2 rfl ?_
    refine iX5_findGivers_4 h1 rfl ?_
    refine iX5_findGivers_7 k0 rfl ?_
    refine iX5_findGivers_10 (fun cc => ?_) (fun cc => ?_)
    · exact iX5_findGivers_51 (Nat.le_of_ble_eq_true rfl) (Nat.le_of_ble_eq_true rfl) (hq g NG hs hN (fun k q hkq => hG k q (List.getElem?_eq_some_iff.mp hkq).1 hkq))
    · exact absurd (Int32.le_refl _) cc
  | succ n ih =>
    intro k g NG hk hs hN hG
    have hC' := hC.kept hs
    have h1 := hC'.2.1
    have hc40 := hN.2.1
    obtain ⟨a1, a2, a3, a4, a5, a6, k0, k1, k2, k3, k4, k5, k6⟩ := id hN.1
    have hB := hN.2.2 k
    obtain ⟨q, hkq⟩ : ∃ q, L[k]? = some q := ⟨_, List.getElem?_eq_getElem (by omega)⟩
    obtain ⟨b1, b2, b3, b4⟩ := hA k q hkq
    have h5 := hp5 k q hkq
    have hgl := s_giv_lt σ (NP k) (NV k) d hC.1.1.1
    refine iX5_findGivers_2 rfl ?_
    refine iX5_findGivers_4 h1 rfl ?_
    refine iX5_findGivers_7 k0 rfl ?_
    refine iX5_findGivers_10 (fun cc => ?_) (fun cc => ?_)
    · have := n_le cc; omega
    · obtain ⟨a5', k5', hN'⟩ := hN.putG k (s_giv σ (NP k) (NV k) d (s_nR σ)) hgl
      refine iX5_findGivers_13 rfl ?_
      refine iX5_findGivers_14 h1 rfl ?_
      refine iX5_findGivers_17 k0 rfl ?_
      refine iX5_findGivers_20 rfl ?_
      refine iX5_findGivers_23 h1 rfl ?_
      refine iX5_findGivers_26 k0 rfl ?_
      refine iX5_findGivers_29 rfl ?_
      refine iX5_findGivers_30 k2 rfl (by omega) (by omega) ?_
      refine iX5_findGivers_31 rfl ?_
      refine iX5_findGivers_32 h1 rfl ?_
      refine iX5_findGivers_35 k0 rfl ?_
      refine iX5_findGivers_38 rfl ?_
      refine iX5_findGivers_39 k3 rfl (by omega) (by omega) ?_
      refine iX5_findGivers_40 rfl ?_
      refine iX5_findGivers_41 (R' := zR 3 64 0 0) rfl rfl h1 (z_rmo rfl) (c_X5_giversFor (p := NP k) (v := NV k) hC' (by omega) (by omega) hd) (z_qr ?_) z_qx
      refine iX5_findGivers_44 k5 rfl (by omega) (by omega) ?_
      rw [n_upd]
      have ea : a5' = a5 := by
        rw [k5] at k5'
        have := Option.some.inj k5'
        exact ((Prod.mk.injEq _ _ _ _).mp this).1.symm
      rw [ea] at hN'
      have hs2 : z_same 12 12 h (z_u g 12 (a5, .inl (0, 40, .inl (fun j => nI (nu NG k (s_giv σ (NP k) (NV k) d (s_nR σ)) j))))) := hs.u (by omega) (by omega)
      refine iX5_findGivers_45 rfl ?_
      show z_J Z mX5_findGivers (zR 4 89 0 0) 0 0 Q 2 [.ref (ad 1), .int (nI d), .int (nI k + nI 1)] [] _
      rw [nI_add]
      refine ih (k + 1) _ _ (by omega) hs2 hN' (fun j q' hj hjq => ?_)
      by_cases e : j = k
      · subst e
        rw [hkq] at hjq
        cases hjq
        rw [nu_s, b2, b3]
      · rw [nu_n e]
        exact hG j q' (by omega) hjq
theorem c_X5_findGivers {NM NP NV ND NG GR : Nat → Nat} {L : List (Nat × Nat × Nat × Nat)} (hC : z_cls Z h ad σ) (hd : d < 1000) (hA : n_agree L NM NP NV ND) (hp5 : ∀ (k : Nat) (q : Nat × Nat × Nat × Nat), L[k]? = some q → q.2.1 < 5) (hN : z_needs h 7 (ad 7) L.length NM NP NV ND NG GR) :
    z_J Z mX5_findGivers (zR 4 89 0 0) 0 0 (fun o g => o = .inl none ∧ z_same 12 12 h g ∧ ∃ NG', z_needs g 7 (ad 7) L.length NM NP NV ND NG' GR ∧ g_ok σ d L NG') 0 [.ref (ad 1), .int (nI d)] [] h := by
  refine iX5_findGivers_0 rfl ?_
  exact l_X5_findGivers hC hd hA hp5 (fun g NG b1 b2 b3 => ⟨rfl, b1, NG, b2, b3⟩) L.length 0 h NG (by omega) z_same.rf hN (fun j q hj => by omega)
end ZMid
