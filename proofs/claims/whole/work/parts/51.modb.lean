/-! ===== the model: rightsFor, the cuts ===== -/
def z_sc (S : zMn) (CT : Nat → Nat) : zMn := (S.1, S.2.1, S.2.2.1, S.2.2.2.1, S.2.2.2.2.1, S.2.2.2.2.2.1, CT)
abbrev z_ct (S : zMn) : Nat → Nat := S.2.2.2.2.2.2
section ZModB
variable {Z : zZ} {h : zH} {am : Nat → Nat} {th : Nat} {σ : zSt} {HO : Nat → Int32} {E : zMs} {S : zMn} {Q : zO → zH → Prop}
theorem z_mo.cut (H : z_mo h am th σ HO E S) (CT : Nat → Nat) : z_mo (z_u h 619 (am 619, .inl (0, 1024, .inl (fun j => nI (CT j))))) am th σ HO E (z_sc S CT) := by
  obtain ⟨e0, ⟨e1, e2, e3, e4, e5⟩, ⟨e6, e7, e8, e9⟩, ⟨f0, f1, f2, f3⟩, ⟨f4, f5, f6, f7, f8⟩, f9⟩ := H
  refine ⟨?_, ⟨?_, ?_, ?_, ?_, ?_⟩, ⟨?_, ?_, ?_, ?_⟩, ⟨?_, ?_, ?_, ?_⟩, ⟨?_, ?_, ?_, ?_, ?_⟩, z_u_s⟩
  all_goals rw [z_u_n (by omega)]
  all_goals assumption
theorem l_X6_rightsFor {d p v : Nat} (HM : z_mo h am th σ HO E S) (HI : z_mi σ HO E) (hd : d ≤ 720) (hp : p < 32) (hv : v < 1000) (hq : Q (.inl (some (.int (nI (s_giv σ p v d (s_nR σ)))))) h) :
    ∀ n k, k + n = s_nR σ → z_J Z mX6_rightsFor (zR 1 22 0 0) 0 0 Q 6 [.ref (am 600), .int (nI d), .int (nI p), .int (nI v), .int (nI (s_giv σ p v d k)), .int (nI k)] [] h := by
  have hn10 := HI.1.1.1
  obtain ⟨e0, ⟨e1, e2, e3, e4, e5⟩, -⟩ := id HM
  unfold z_arr at e1 e2 e4 e5
  intro n
  induction n with
  | zero =>
    intro k hk
    obtain rfl : k = s_nR σ := by omega
    refine iX6_rightsFor_6 rfl ?_
    refine iX6_rightsFor_9 e0 rfl ?_
    refine iX6_rightsFor_12 (fun cc => ?_) (fun cc => ?_)
    · refine iX6_rightsFor_93 rfl ?_
      exact iX6_rightsFor_95 (Nat.le_of_ble_eq_true rfl) (Nat.le_of_ble_eq_true rfl) hq
    · exact absurd (Int32.le_refl _) cc
  | succ n ih =>
    intro k hk
    have ih := ih (k + 1) (by omega)
    have hR := HI.1.1.2 k
    have hb := n_bit (P := s_RP σ k) (p := p) (by omega) hp
    have e : s_giv σ p v d (k + 1) = s_giv σ p v d k ||| (if r_can (s_RP σ k) (s_RF σ k) (s_RL σ k) (s_RV σ k) p v d then 2 ^ k else 0) := rfl
    have F : r_can (s_RP σ k) (s_RF σ k) (s_RL σ k) (s_RV σ k) p v d = false → z_J Z mX6_rightsFor (zR 1 22 0 0) 0 0 Q 66 [.ref (am 600), .int (nI d), .int (nI p), .int (nI v), .int (nI (s_giv σ p v d k)), .int (nI k)] [] h := fun hf => by
      rw [hf, if_neg (by decide), Nat.or_zero] at e
      rw [e, ← nI_add] at ih
      refine iX6_rightsFor_66 rfl ?_
      refine iX6_rightsFor_67 rfl ?_
      refine iX6_rightsFor_73 (fun c => ?_) (fun c => ?_)
      · refine iX6_rightsFor_83 rfl ?_
        refine iX6_rightsFor_84 rfl ?_
        refine z_J.take 6 ?_
        show z_J Z mX6_rightsFor _ _ _ Q 6 [.ref (am 600), .int (nI d), .int (nI p), .int (nI v), .int (nI (s_giv σ p v d k) ||| nI 0), .int (nI k + nI 1)] [] h
        rw [nI_or, Nat.or_zero]
        exact ih
      · exact absurd rfl c
    refine iX6_rightsFor_6 rfl ?_
    refine iX6_rightsFor_9 e0 rfl ?_
    refine iX6_rightsFor_12 (fun cc => ?_) (fun cc => ?_)
    · have := n_le cc; omega
    refine iX6_rightsFor_15 rfl ?_
    refine iX6_rightsFor_16 e0 rfl ?_
    refine iX6_rightsFor_19 rfl ?_
    refine iX6_rightsFor_21 e1 rfl (by omega) (by omega) ?_
    refine iX6_rightsFor_22 rfl ?_
    refine iX6_rightsFor_27 (fun c => ?_) (fun c => ?_)
    · refine F ?_
      have c1 : ¬ nI (s_RP σ k / 2 ^ p % 2) = nI 1 := fun z => c (hb.trans z)
      have c2 : s_RP σ k / 2 ^ p % 2 ≠ 1 := fun z => c1 (congrArg nI z)
      unfold r_can
      rw [n_tb, decide_eq_false c2]
      rfl
    have c1 := n_eq (hb.symm.trans c) (by omega)
    have ct : (s_RP σ k).testBit p = true := by rw [n_tb, decide_eq_true c1]
    refine iX6_rightsFor_30 rfl ?_
    refine iX6_rightsFor_31 e0 rfl ?_
    refine iX6_rightsFor_34 rfl ?_
    refine iX6_rightsFor_36 e2 rfl (by omega) (by omega) ?_
    refine iX6_rightsFor_37 rfl ?_
    refine iX6_rightsFor_38 (fun c => ?_) (fun c => ?_)
    · refine F ?_
      have := n_lt c
      unfold r_can
      rw [ct, decide_eq_false (p := v ≤ s_RV σ k) (by omega)]
      rfl
    have c2 := n_nlt c
    have hin : n_in (nI d) (nI (s_RF σ k)) (nI (s_RL σ k)) = (decide (s_RF σ k ≤ d) && decide (d ≤ s_RL σ k)) := by
      unfold n_in
      congr 1
      · rw [decide_eq_decide]; exact nI_leI (by omega) (by omega)
      · rw [decide_eq_decide]; exact nI_leI (by omega) (by omega)
    have hrc : r_can (s_RP σ k) (s_RF σ k) (s_RL σ k) (s_RV σ k) p v d = n_in (nI d) (nI (s_RF σ k)) (nI (s_RL σ k)) := by
      rw [hin]
      unfold r_can
      rw [ct, decide_eq_true c2, Bool.true_and, Bool.true_and]
    refine iX6_rightsFor_41 rfl ?_
    refine iX6_rightsFor_43 e0 rfl ?_
    refine iX6_rightsFor_46 rfl ?_
    refine iX6_rightsFor_48 e4 rfl (by omega) (by omega) ?_
    refine iX6_rightsFor_49 rfl ?_
    refine iX6_rightsFor_50 e0 rfl ?_
    refine iX6_rightsFor_53 rfl ?_
    refine iX6_rightsFor_55 e5 rfl (by omega) (by omega) ?_
    refine iX6_rightsFor_56 (R' := zR 0 0 0 0) rfl rfl (z_rmo rfl) (c_X6_in) (z_qr ?_) z_qx
    refine iX6_rightsFor_59 (fun c => ?_) (fun c => ?_)
    · exact F (by rw [hrc]; exact zb_0 c)
    rw [hrc, if_pos (zb_n0 c)] at e
    rw [e, ← nI_add] at ih
    refine iX6_rightsFor_62 rfl ?_
    refine iX6_rightsFor_67 rfl ?_
    refine iX6_rightsFor_73 (fun c => ?_) (fun c => ?_)
    · exact absurd c (by decide)
    refine iX6_rightsFor_76 rfl ?_
    show z_J Z mX6_rightsFor _ _ _ Q 84 _ [.int (nI 1 <<< (nI k &&& 31)), .int (nI (s_giv σ p v d k))] h
    rw [n_sh1 (by omega)]
    refine iX6_rightsFor_84 rfl ?_
    refine z_J.take 6 ?_
    show z_J Z mX6_rightsFor _ _ _ Q 6 [.ref (am 600), .int (nI d), .int (nI p), .int (nI v), .int (nI (s_giv σ p v d k) ||| nI (2 ^ k)), .int (nI k + nI 1)] [] h
    rw [nI_or]
    exact ih
theorem c_X6_rightsFor {d p v : Nat} (HM : z_mo h am th σ HO E S) (HI : z_mi σ HO E) (hd : d ≤ 720) (hp : p < 32) (hv : v < 1000) : z_J Z mX6_rightsFor (zR 1 22 0 0) 0 0 (z_eq (.inl (some (.int (nI (s_giv σ p v d (s_nR σ)))))) h) 0 [.ref (am 600), .int (nI d), .int (nI p), .int (nI v)] [] h := by
  refine iX6_rightsFor_0 rfl ?_
  exact l_X6_rightsFor HM HI hd hp hv ⟨rfl, rfl⟩ (s_nR σ) 0 (by omega)
def s_rr (σ : zSt) (X r : Nat) : Nat := n_sum (fun c => if X.testBit c = true then s_RU σ c else 0) r
theorem s_rr_le {σ : zSt} (hok : s_ok σ) (X r : Nat) (hr : r ≤ 10) : s_rr σ X r ≤ 1000 := by
  unfold s_rr
  have h1 := n_sum_le (f := fun c => if X.testBit c = true then s_RU σ c else 0) (b := 100) (fun k => by
    have := (hok.1.2 k).2.2.2.2
    split <;> omega) r
  have h2 : r * 100 ≤ 10 * 100 := Nat.mul_le_mul_right _ hr
  omega
theorem l_X6_beginsCut1 {X : Nat} {h0 : zH} (HI : z_mi σ HO E) (hX : X < 1024) (hq : ∀ (g : zH) (CT : Nat → Nat), z_same 600 619 h0 g → z_mo g am th σ HO E (z_sc S CT) → CT X = s_ru σ X → (∀ T, T < X → CT T = s_ru σ T) → z_J Z mX6_beginsCut (zR 0 0 0 0) 0 0 Q 63 [.ref (am 600), .int (nI X), .int (nI (s_nR σ))] [] g) :
    ∀ n r (g : zH) (CT : Nat → Nat), r + n = s_nR σ → z_same 600 619 h0 g → z_mo g am th σ HO E (z_sc S CT) → CT X = s_rr σ X r → (∀ T, T < X → CT T = s_ru σ T) → z_J Z mX6_beginsCut (zR 0 0 0 0) 0 0 Q 21 [.ref (am 600), .int (nI X), .int (nI r)] [] g := by
  have hn10 := HI.1.1.1
  intro n
  induction n with
  | zero =>
    intro r g CT hr hs HM hX1 hX2
    obtain rfl : r = s_nR σ := by omega
    refine iX6_beginsCut_21 rfl ?_
    refine iX6_beginsCut_23 HM.1 rfl ?_
    refine iX6_beginsCut_26 (fun cc => ?_) (fun cc => ?_)
    · exact hq g CT hs HM hX1 hX2
    · exact absurd (Int32.le_refl _) cc
  | succ n ih =>
    intro r g CT hr hs HM hX1 hX2
    obtain ⟨e0, ⟨e1, e2, e3, e4, e5⟩, -, -, -, f9⟩ := id HM
    have f9' : g 619 = z_arr (am 619) 1024 CT := f9
    unfold z_arr at e3 f9'
    have hb := n_bit (P := X) (p := r) (by omega) (by omega)
    have hRU := (HI.1.1.2 r).2.2.2.2
    have hle := s_rr_le HI.1 X r (by omega)
    have e : s_rr σ X (r + 1) = s_rr σ X r + (if X.testBit r = true then s_RU σ r else 0) := rfl
    have J : ∀ u : Nat, s_rr σ X (r + 1) = s_rr σ X r + u → z_J Z mX6_beginsCut (zR 0 0 0 0) 0 0 Q 55 [.ref (am 600), .int (nI X), .int (nI r)] [.int (nI u), .int (nI (CT X)), .int (nI X), .ref (am 619)] g := fun u hu => by
      refine iX6_beginsCut_55 rfl ?_
      show z_J Z mX6_beginsCut _ _ _ Q 56 _ [.int (nI (CT X) + nI u), .int (nI X), .ref (am 619)] g
      rw [nI_add]
      refine iX6_beginsCut_56 f9' rfl (by omega) (by omega) ?_
      rw [n_upd]
      refine iX6_beginsCut_57 rfl ?_
      show z_J Z mX6_beginsCut _ _ _ Q 21 [.ref (am 600), .int (nI X), .int (nI r + nI 1)] [] _
      rw [nI_add]
      exact ih (r + 1) _ (nu CT X (CT X + u)) (by omega) (hs.u (by omega) (by omega)) (HM.cut _) (by rw [nu_s, hX1, hu]) (fun T hT => by rw [nu_n (by omega)]; exact hX2 T hT)
    refine iX6_beginsCut_21 rfl ?_
    refine iX6_beginsCut_23 HM.1 rfl ?_
    refine iX6_beginsCut_26 (fun cc => ?_) (fun cc => ?_)
    · have := n_le cc; omega
    refine iX6_beginsCut_29 rfl ?_
    refine iX6_beginsCut_30 e0 rfl ?_
    refine iX6_beginsCut_33 rfl ?_
    refine iX6_beginsCut_35 f9' rfl (by omega) (by omega) ?_
    refine iX6_beginsCut_36 rfl ?_
    refine iX6_beginsCut_42 (fun c => ?_) (fun c => ?_)
    · have c2 : ¬ X / 2 ^ r % 2 = 1 := fun z => c (hb.trans (congrArg nI z))
      rw [n_tb, if_neg (by rw [decide_eq_false c2]; decide)] at e
      refine iX6_beginsCut_54 rfl ?_
      exact J 0 e
    · have c2 := n_eq (hb.symm.trans c) (by omega)
      rw [n_tb, if_pos (by rw [decide_eq_true c2])] at e
      refine iX6_beginsCut_45 rfl ?_
      refine iX6_beginsCut_46 e0 rfl ?_
      refine iX6_beginsCut_49 rfl ?_
      refine iX6_beginsCut_50 e3 rfl (by omega) (by omega) ?_
      refine iX6_beginsCut_51 rfl ?_
      exact J (s_RU σ r) e
theorem l_X6_beginsCut2 {h0 : zH} (HI : z_mi σ HO E) (hq : ∀ (g : zH) (CT : Nat → Nat), z_same 600 619 h0 g → z_mo g am th σ HO E (z_sc S CT) → (∀ T, T < 2 ^ s_nR σ → CT T = s_ru σ T) → Q (.inl none) g) :
    ∀ n X (g : zH) (CT : Nat → Nat), X + n = 2 ^ s_nR σ → z_same 600 619 h0 g → z_mo g am th σ HO E (z_sc S CT) → (∀ T, T < X → CT T = s_ru σ T) → z_J Z mX6_beginsCut (zR 0 0 0 0) 0 0 Q 2 [.ref (am 600), .int (nI X)] [] g := by
  have hn10 := HI.1.1.1
  have hp : 2 ^ s_nR σ ≤ 2 ^ 10 := Nat.pow_le_pow_right (by decide) hn10
  intro n
  induction n with
  | zero =>
    intro X g CT hX hs HM hX2
    obtain rfl : X = 2 ^ s_nR σ := by omega
    refine iX6_beginsCut_2 rfl ?_
    refine iX6_beginsCut_5 HM.1 rfl ?_
    refine iX6_beginsCut_8 rfl ?_
    show z_J Z mX6_beginsCut _ _ _ Q 9 _ [.int (nI 1 <<< (nI (s_nR σ) &&& 31)), .int (nI (2 ^ s_nR σ))] g
    rw [n_sh1 (by omega)]
    refine iX6_beginsCut_9 (fun cc => ?_) (fun cc => ?_)
    · exact iX6_beginsCut_69 (Nat.le_of_ble_eq_true rfl) (Nat.le_of_ble_eq_true rfl) (hq g CT hs HM hX2)
    · exact absurd (Int32.le_refl _) cc
  | succ n ih =>
    intro X g CT hX hs HM hX2
    have f9 : g 619 = z_arr (am 619) 1024 CT := HM.2.2.2.2.2
    unfold z_arr at f9
    refine iX6_beginsCut_2 rfl ?_
    refine iX6_beginsCut_5 HM.1 rfl ?_
    refine iX6_beginsCut_8 rfl ?_
    show z_J Z mX6_beginsCut _ _ _ Q 9 _ [.int (nI 1 <<< (nI (s_nR σ) &&& 31)), .int (nI X)] g
    rw [n_sh1 (by omega)]
    refine iX6_beginsCut_9 (fun cc => ?_) (fun cc => ?_)
    · have := n_le cc; omega
    refine iX6_beginsCut_12 rfl ?_
    refine iX6_beginsCut_13 HM.1 rfl ?_
    refine iX6_beginsCut_16 rfl ?_
    refine iX6_beginsCut_18 f9 rfl (by omega) (by omega) ?_
    rw [n_upd]
    refine iX6_beginsCut_19 rfl ?_
    refine l_X6_beginsCut1 (h0 := h0) (S := S) HI (by omega) (fun g' CT' hs' HM' hA hB => ?_) (s_nR σ) 0 _ (nu CT X 0) (by omega) (hs.u (by omega) (by omega)) (HM.cut _) (by rw [nu_s]; rfl) (fun T hT => by rw [nu_n (by omega)]; exact hX2 T hT)
    refine iX6_beginsCut_63 rfl ?_
    refine z_J.take 2 ?_
    show z_J Z mX6_beginsCut _ _ _ Q 2 [.ref (am 600), .int (nI X + nI 1)] [] g'
    rw [nI_add]
    refine ih (X + 1) g' CT' (by omega) hs' HM' (fun T hT => ?_)
    by_cases e : T = X
    · subst e; exact hA
    · exact hB T (by omega)
theorem c_X6_beginsCut (HM : z_mo h am th σ HO E S) (HI : z_mi σ HO E) : z_J Z mX6_beginsCut (zR 0 0 0 0) 0 0 (fun o g => o = .inl none ∧ z_same 600 619 h g ∧ ∃ CT, z_mo g am th σ HO E (z_sc S CT) ∧ ∀ T, T < 2 ^ s_nR σ → CT T = s_ru σ T) 0 [.ref (am 600)] [] h := by
  refine iX6_beginsCut_0 rfl ?_
  exact l_X6_beginsCut2 (h0 := h) (S := S) HI (fun g CT hs HM' hA => ⟨rfl, hs, CT, HM', hA⟩) (2 ^ s_nR σ) 0 h (z_ct S) (by omega) z_same.rf HM (fun T hT => by omega)
theorem l_X6_leastCut {CT : Nat → Nat} (HM : z_mo h am th σ HO E (z_sc S CT)) (HI : z_mi σ HO E) (hB : ∀ T, T < 2 ^ s_nR σ → CT T < 2 ^ 30) (hq : Q (.inl (some (.int (nI (n_mn CT (2 ^ s_nR σ - 1)))))) h) :
    ∀ n X, X + 1 + n = 2 ^ s_nR σ → n_mn CT X < 2 ^ 30 → z_J Z mX6_leastCut (zR 0 0 0 0) 0 0 Q 9 [.ref (am 600), .int (nI (n_mn CT X)), .int (nI (X + 1))] [] h := by
  have hn10 := HI.1.1.1
  have hp : 2 ^ s_nR σ ≤ 2 ^ 10 := Nat.pow_le_pow_right (by decide) hn10
  have f9 : h 619 = z_arr (am 619) 1024 CT := HM.2.2.2.2.2
  unfold z_arr at f9
  intro n
  induction n with
  | zero =>
    intro X hX hm
    have hX' : X + 1 = 2 ^ s_nR σ := by omega
    have e : 2 ^ s_nR σ - 1 = X := by omega
    rw [e] at hq
    refine iX6_leastCut_9 rfl ?_
    refine iX6_leastCut_12 HM.1 rfl ?_
    refine iX6_leastCut_15 rfl ?_
    show z_J Z mX6_leastCut _ _ _ Q 16 _ [.int (nI 1 <<< (nI (s_nR σ) &&& 31)), .int (nI (X + 1))] h
    rw [n_sh1 (by omega)]
    refine iX6_leastCut_16 (fun cc => ?_) (fun cc => ?_)
    · refine iX6_leastCut_46 rfl ?_
      exact iX6_leastCut_47 (Nat.le_of_ble_eq_true rfl) (Nat.le_of_ble_eq_true rfl) hq
    · exact absurd (by rw [hX']; exact Int32.le_refl _) cc
  | succ n ih =>
    intro X hX hm
    have hb := hB (X + 1) (by omega)
    have e : n_mn CT (X + 1) = min (n_mn CT X) (CT (X + 1)) := rfl
    have ih := ih (X + 1) (by omega) (by rw [e]; exact Nat.lt_of_le_of_lt (Nat.min_le_left _ _) hm)
    refine iX6_leastCut_9 rfl ?_
    refine iX6_leastCut_12 HM.1 rfl ?_
    refine iX6_leastCut_15 rfl ?_
    show z_J Z mX6_leastCut _ _ _ Q 16 _ [.int (nI 1 <<< (nI (s_nR σ) &&& 31)), .int (nI (X + 1))] h
    rw [n_sh1 (by omega)]
    refine iX6_leastCut_16 (fun cc => ?_) (fun cc => ?_)
    · have := n_le cc; omega
    refine iX6_leastCut_19 rfl ?_
    refine iX6_leastCut_20 HM.1 rfl ?_
    refine iX6_leastCut_23 rfl ?_
    refine iX6_leastCut_24 f9 rfl (by omega) (by omega) ?_
    refine iX6_leastCut_25 rfl ?_
    refine iX6_leastCut_26 (fun c => ?_) (fun c => ?_)
    · have := n_le c
      rw [Nat.min_eq_left (by omega)] at e
      rw [e, ← nI_add] at ih
      refine iX6_leastCut_38 rfl ?_
      refine iX6_leastCut_39 rfl ?_
      exact ih
    · have := n_nle c
      rw [Nat.min_eq_right (by omega)] at e
      rw [e, ← nI_add] at ih
      refine iX6_leastCut_29 rfl ?_
      refine iX6_leastCut_30 HM.1 rfl ?_
      refine iX6_leastCut_33 rfl ?_
      refine iX6_leastCut_34 f9 rfl (by omega) (by omega) ?_
      refine iX6_leastCut_35 rfl ?_
      refine iX6_leastCut_39 rfl ?_
      exact ih
theorem c_X6_leastCut {CT : Nat → Nat} (HM : z_mo h am th σ HO E (z_sc S CT)) (HI : z_mi σ HO E) (hB : ∀ T, T < 2 ^ s_nR σ → CT T < 2 ^ 30) : z_J Z mX6_leastCut (zR 0 0 0 0) 0 0 (z_eq (.inl (some (.int (nI (n_mn CT (2 ^ s_nR σ - 1)))))) h) 0 [.ref (am 600)] [] h := by
  have hp := Nat.two_pow_pos (s_nR σ)
  have f9 : h 619 = z_arr (am 619) 1024 CT := HM.2.2.2.2.2
  unfold z_arr at f9
  refine iX6_leastCut_0 rfl ?_
  refine iX6_leastCut_1 HM.1 rfl ?_
  refine iX6_leastCut_4 rfl ?_
  refine iX6_leastCut_5 f9 rfl (by omega) (by omega) ?_
  refine iX6_leastCut_6 rfl ?_
  exact l_X6_leastCut HM HI hB ⟨rfl, rfl⟩ (2 ^ s_nR σ - 1) 0 (by omega) (hB 0 (by omega))
end ZModB
