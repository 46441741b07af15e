/-! ===== the model: serves, laysGets ===== -/
def z_gc (S : zMn) (GE CT : Nat → Nat) : zMn := (S.1, S.2.1, S.2.2.1, S.2.2.2.1, S.2.2.2.2.1, GE, CT)
theorem n_mn_cong2 {f g : Nat → Nat} : ∀ {k : Nat}, (∀ T, T ≤ k → f T = g T) → n_mn f k = n_mn g k
  | 0, h => h 0 (Nat.le_refl _)
  | k + 1, h => by
    show min (n_mn f k) (f (k + 1)) = min (n_mn g k) (g (k + 1))
    rw [n_mn_cong2 (k := k) (fun T hT => h T (by omega)), h (k + 1) (Nat.le_refl _)]
theorem n_mn_mono {f g : Nat → Nat} : ∀ {k : Nat}, (∀ T, T ≤ k → f T ≤ g T) → n_mn f k ≤ n_mn g k
  | 0, h => h 0 (Nat.le_refl _)
  | k + 1, h => by
    show min (n_mn f k) (f (k + 1)) ≤ min (n_mn g k) (g (k + 1))
    have h1 := n_mn_mono (f := f) (g := g) (k := k) (fun T hT => h T (by omega))
    have h2 := h (k + 1) (Nat.le_refl _)
    omega
theorem n_sum_leb {f : Nat → Nat} {b : Nat} : ∀ {n : Nat}, (∀ k, k < n → f k ≤ b) → n_sum f n ≤ n * b
  | 0, _ => Nat.zero_le _
  | n + 1, h => by
    show n_sum f n + f n ≤ (n + 1) * b
    have h1 := n_sum_leb (f := f) (n := n) (fun k hk => h k (by omega))
    have h2 := h n (by omega)
    rw [Nat.succ_mul]
    omega
theorem s_cut_succ (σ : zSt) (GS D : Nat → Nat) (s T : Nat) : s_cut σ GS D (s + 1) T = s_cut σ GS D s T + (if GS s &&& (T ^^^ 1023) = 0 then 0 else D s) := by
  unfold s_cut
  show _ + (n_sum _ s + (if GS s &&& (T ^^^ 1023) = 0 then 0 else D s)) = _
  omega
theorem s_flow_mono (σ : zSt) (GS D : Nat → Nat) (s : Nat) : s_flow σ GS D s ≤ s_flow σ GS D (s + 1) := n_mn_mono (fun T _ => by rw [s_cut_succ]; omega)
theorem s_flow_0 (σ : zSt) (GS D : Nat → Nat) : s_flow σ GS D 0 = 0 := by
  have h := n_mn_le (f := s_cut σ GS D 0) (k := 2 ^ s_nR σ - 1) (S := 0) (Nat.zero_le _)
  have e : s_cut σ GS D 0 0 = 0 := by
    unfold s_cut s_ru
    rw [n_sum_0 (f := fun c => if (0 : Nat).testBit c = true then s_RU σ c else 0) (fun k hk => by rw [Nat.zero_testBit]; rfl)]
    rfl
  unfold s_flow
  omega
theorem s_cut_le {σ : zSt} (hok : s_ok σ) {GS D : Nat → Nat} {s b : Nat} (hD : ∀ i, i < s → D i ≤ b) (T : Nat) : s_cut σ GS D s T ≤ 1000 + s * b := by
  have h1 := s_ru_le hok T
  have h2 := n_sum_leb (f := fun i => if GS i &&& (T ^^^ 1023) = 0 then 0 else D i) (b := b) (n := s) (fun k hk => by
    split
    · exact Nat.zero_le _
    · exact hD k hk)
  unfold s_cut
  omega
theorem t_q_in {σ : zSt} {d k : Nat} (h : k < (s_all σ d).length) : ∃ m p, m * 5 + p < s_nM σ * 5 ∧ p < 5 ∧ t_q (s_all σ d) k = (m, p, s_gr σ d m p, s_un σ m p) := by
  obtain ⟨pl, h1, h2, -⟩ := s_need_in (t_q_of h)
  exact ⟨pl / 5, pl % 5, by omega, Nat.mod_lt _ (by decide), h2⟩
theorem t_D_le {σ : zSt} (hok : s_ok σ) {d k : Nat} (h : k < (s_all σ d).length) : t_D (s_all σ d) k ≤ 80 := by
  obtain ⟨m, p, h1, h2, e⟩ := t_q_in h
  unfold t_D
  rw [e]
  show s_un σ m p ≤ 80
  have h3 := hok.2.2.1 m
  have h4 := hok.2.2.2 p h2
  have h5 := Nat.div_le_self (s_MC σ m + s_CU σ p - 1) (s_CU σ p)
  unfold s_un
  omega
section ZModC
variable {Z : zZ} {h : zH} {am : Nat → Nat} {th : Nat} {σ : zSt} {HO : Nat → Int32} {E : zMs} {S : zMn} {Q : zO → zH → Prop}
theorem z_mo.get (H : z_mo h am th σ HO E S) (GE : Nat → Nat) : z_mo (z_u h 618 (am 618, .inl (0, 40, .inl (fun j => nI (GE j))))) am th σ HO E (z_gc S GE (z_ct S)) := by
  obtain ⟨e0, ⟨e1, e2, e3, e4, e5⟩, ⟨e6, e7, e8, e9⟩, ⟨f0, f1, f2, f3⟩, ⟨f4, f5, f6, f7, f8⟩, f9⟩ := H
  refine ⟨?_, ⟨?_, ?_, ?_, ?_, ?_⟩, ⟨?_, ?_, ?_, ?_⟩, ⟨?_, ?_, ?_, ?_⟩, ⟨?_, ?_, ?_, ?_, z_u_s⟩, ?_⟩
  all_goals rw [z_u_n (by omega)]
  all_goals assumption
theorem l_X6_serves {B W : Nat} {h0 : zH} {CT : Nat → Nat} (HI : z_mi σ HO E) (hB : B < 1024) (hCT : ∀ T, T < 2 ^ s_nR σ → CT T + W < 2 ^ 30)
    (hq : ∀ (g : zH) (CT' : Nat → Nat), z_same 600 619 h0 g → z_mo g am th σ HO E (z_sc S CT') → (∀ T, T < 2 ^ s_nR σ → CT' T = CT T + (if B &&& (T ^^^ 1023) = 0 then 0 else W)) → Q (.inl (some (.int (nI (n_mn CT' (2 ^ s_nR σ - 1)))))) g) :
    ∀ n X (g : zH) (CT' : Nat → Nat), X + n = 2 ^ s_nR σ → z_same 600 619 h0 g → z_mo g am th σ HO E (z_sc S CT') → (∀ T, T < X → CT' T = CT T + (if B &&& (T ^^^ 1023) = 0 then 0 else W)) → (∀ T, X ≤ T → T < 2 ^ s_nR σ → CT' T = CT T) →
      z_J Z mX6_serves (zR 1 22 0 0) 0 0 Q 2 [.ref (am 600), .int (nI B), .int (nI W), .int (nI X)] [] g := by
  have hn10 := HI.1.1.1
  have hp : 2 ^ s_nR σ ≤ 2 ^ 10 := Nat.pow_le_pow_right (by decide) hn10
  intro n
  induction n with
  | zero =>
    intro X g CT' hX hs HM hA hC
    obtain rfl : X = 2 ^ s_nR σ := by omega
    refine iX6_serves_2 rfl ?_
    refine iX6_serves_5 HM.1 rfl ?_
    refine iX6_serves_8 rfl ?_
    show z_J Z mX6_serves _ _ _ Q 9 _ [.int (nI 1 <<< (nI (s_nR σ) &&& 31)), .int (nI (2 ^ s_nR σ))] g
    rw [n_sh1 (by omega)]
    refine iX6_serves_9 (fun cc => ?_) (fun cc => ?_)
    · refine iX6_serves_40 rfl ?_
      refine iX6_serves_41 (R' := zR 0 0 0 0) rfl rfl HM.1 (z_rmo rfl) (c_X6_leastCut HM HI (fun T hT => by have := hCT T hT; rw [hA T hT]; split <;> omega)) (z_qr ?_) z_qx
      exact iX6_serves_44 (Nat.le_of_ble_eq_true rfl) (Nat.le_of_ble_eq_true rfl) (hq g CT' hs HM hA)
    · exact absurd (Int32.le_refl _) cc
  | succ n ih =>
    intro X g CT' hX hs HM hA hC
    have f9 : g 619 = z_arr (am 619) 1024 CT' := HM.2.2.2.2.2
    unfold z_arr at f9
    have hCX := hC X (Nat.le_refl _) (by omega)
    have hbX := hCT X (by omega)
    have hand := n_andnot (a := B) (b := X) hB (by omega)
    have J : ∀ u : Nat, (if B &&& (X ^^^ 1023) = 0 then 0 else W) = u → z_J Z mX6_serves (zR 1 22 0 0) 0 0 Q 32 [.ref (am 600), .int (nI B), .int (nI W), .int (nI X)] [.int (nI u), .int (nI (CT' X)), .int (nI X), .ref (am 619)] g := fun u hu => by
      refine iX6_serves_32 rfl ?_
      show z_J Z mX6_serves _ _ _ Q 33 _ [.int (nI (CT' X) + nI u), .int (nI X), .ref (am 619)] g
      rw [nI_add]
      refine iX6_serves_33 f9 rfl (by omega) (by omega) ?_
      rw [n_upd]
      refine iX6_serves_34 rfl ?_
      show z_J Z mX6_serves _ _ _ Q 2 [.ref (am 600), .int (nI B), .int (nI W), .int (nI X + nI 1)] [] _
      rw [nI_add]
      refine ih (X + 1) _ (nu CT' X (CT' X + u)) (by omega) (hs.u (by omega) (by omega)) (HM.cut _) (fun T hT => ?_) (fun T h1 h2 => ?_)
      · by_cases e : T = X
        · subst e; rw [nu_s, hu, hCX]
        · rw [nu_n e]; exact hA T (by omega)
      · rw [nu_n (by omega)]; exact hC T (by omega) h2
    refine iX6_serves_2 rfl ?_
    refine iX6_serves_5 HM.1 rfl ?_
    refine iX6_serves_8 rfl ?_
    show z_J Z mX6_serves _ _ _ Q 9 _ [.int (nI 1 <<< (nI (s_nR σ) &&& 31)), .int (nI X)] g
    rw [n_sh1 (by omega)]
    refine iX6_serves_9 (fun cc => ?_) (fun cc => ?_)
    · have := n_le cc; omega
    have hlt : B &&& (X ^^^ 1023) < 1024 := Nat.lt_of_le_of_lt Nat.and_le_left hB
    refine iX6_serves_12 rfl ?_
    refine iX6_serves_13 HM.1 rfl ?_
    refine iX6_serves_16 rfl ?_
    refine iX6_serves_18 f9 rfl (by omega) (by omega) ?_
    refine iX6_serves_19 rfl ?_
    refine iX6_serves_24 (fun c => ?_) (fun c => ?_)
    · have c1 := n_e0 (hand.symm.trans c) (by omega)
      refine iX6_serves_31 rfl ?_
      exact J 0 (if_pos c1)
    · have c1 : B &&& (X ^^^ 1023) ≠ 0 := fun z => c (hand.trans (by rw [z]; rfl))
      refine iX6_serves_27 rfl ?_
      exact J W (if_neg c1)
theorem c_X6_serves {B W : Nat} {CT : Nat → Nat} (HM : z_mo h am th σ HO E (z_sc S CT)) (HI : z_mi σ HO E) (hB : B < 1024) (hCT : ∀ T, T < 2 ^ s_nR σ → CT T + W < 2 ^ 30) :
    z_J Z mX6_serves (zR 1 22 0 0) 0 0 (fun o g => ∃ CT' : Nat → Nat, o = .inl (some (.int (nI (n_mn CT' (2 ^ s_nR σ - 1))))) ∧ z_same 600 619 h g ∧ z_mo g am th σ HO E (z_sc S CT') ∧ ∀ T, T < 2 ^ s_nR σ → CT' T = CT T + (if B &&& (T ^^^ 1023) = 0 then 0 else W)) 0 [.ref (am 600), .int (nI B), .int (nI W)] [] h := by
  refine iX6_serves_0 rfl ?_
  exact l_X6_serves (h0 := h) (S := S) HI hB hCT (fun g CT' hs HM' hA => ⟨CT', rfl, hs, HM', hA⟩) (2 ^ s_nR σ) 0 h CT (by omega) z_same.rf HM (fun T hT => by omega) (fun T _ _ => rfl)
theorem l_X6_laysGets {d : Nat} {h0 : zH} (HI : z_mi σ HO E) (hd : d ≤ 720) (hA : z_ag σ d (s_nM σ * 5) S)
    (hq : ∀ (g : zH) (GE CT : Nat → Nat), z_same 600 619 h0 g → z_mo g am th σ HO E (z_gc S GE CT) → (∀ j, j < (s_all σ d).length → GE j = s_fl σ d (j + 1) - s_fl σ d j) → (∀ T, T < 2 ^ s_nR σ → CT T = s_cut σ (t_GS σ d (s_all σ d)) (t_D (s_all σ d)) (s_all σ d).length T) → Q (.inl (some (.int (nI (s_fl σ d (s_all σ d).length))))) g) :
    ∀ n k (g : zH) (GE CT : Nat → Nat), k + n = (s_all σ d).length → z_same 600 619 h0 g → z_mo g am th σ HO E (z_gc S GE CT) → (∀ j, j < k → GE j = s_fl σ d (j + 1) - s_fl σ d j) → (∀ T, T < 2 ^ s_nR σ → CT T = s_cut σ (t_GS σ d (s_all σ d)) (t_D (s_all σ d)) k T) →
      z_J Z mX6_laysGets (zR 2 50 0 0) 0 0 Q 13 [.ref (am 600), .int (nI d), .int (nI (s_fl σ d k)), .int (nI k)] [] g := by
  have hn10 := HI.1.1.1
  have hn8 := HI.1.2.1.1
  have hp := Nat.two_pow_pos (s_nR σ)
  have hlen := s_needs_len σ d (s_nM σ * 5)
  obtain ⟨hA1, hA2⟩ := hA
  have hSn : S.1 = (s_all σ d).length := hA1
  intro n
  induction n with
  | zero =>
    intro k g GE CT hk hs HM hG hC
    obtain rfl : k = (s_all σ d).length := by omega
    refine iX6_laysGets_13 rfl ?_
    refine iX6_laysGets_15 HM.1 rfl ?_
    refine iX6_laysGets_18 (fun cc => ?_) (fun cc => ?_)
    · refine iX6_laysGets_69 rfl ?_
      exact iX6_laysGets_70 (Nat.le_of_ble_eq_true rfl) (Nat.le_of_ble_eq_true rfl) (hq g GE CT hs HM hG hC)
    · exact absurd (by show nI S.1 ≤ _; rw [hSn]; exact Int32.le_refl _) cc
  | succ n ih =>
    intro k g GE CT hk hs HM hG hC
    have hkl : k < (s_all σ d).length := by omega
    obtain ⟨q1, q2, q3, q4⟩ := hA2.at hkl
    obtain ⟨m, p, w1, w2, w3⟩ := t_q_in hkl
    have hPP : S.2.2.1 k = p := by rw [q2, w3]
    have hGG : S.2.2.2.1 k = s_gr σ d m p := by rw [q3, w3]
    have h9 : s_gr σ d m p ≤ 9 := n_gr_le (fun j hj => z_mi_on HI (by omega))
    have hgs : s_giv σ p (s_gr σ d m p) d (s_nR σ) = t_GS σ d (s_all σ d) k := by unfold t_GS; rw [w3]
    have hdk := t_D_le HI.1 hkl
    have f5 : g 615 = z_arr (am 615) 40 S.2.2.1 := HM.2.2.2.2.1.2.1
    have f6 : g 616 = z_arr (am 616) 40 S.2.2.2.1 := HM.2.2.2.2.1.2.2.1
    have f7 : g 617 = z_arr (am 617) 40 S.2.2.2.2.1 := HM.2.2.2.2.1.2.2.2.1
    unfold z_arr at f5 f6 f7
    have HMc : z_mo g am th σ HO E (z_sc (z_gc S GE CT) CT) := HM
    refine iX6_laysGets_13 rfl ?_
    refine iX6_laysGets_15 HM.1 rfl ?_
    refine iX6_laysGets_18 (fun cc => ?_) (fun cc => ?_)
    · have h1 : nI S.1 ≤ nI k := cc
      rw [hSn] at h1
      have := n_le h1
      omega
    refine iX6_laysGets_21 rfl ?_
    refine iX6_laysGets_25 HM.1 rfl ?_
    refine iX6_laysGets_28 rfl ?_
    refine iX6_laysGets_29 f5 rfl (by omega) (by omega) ?_
    refine iX6_laysGets_30 rfl ?_
    refine iX6_laysGets_31 HM.1 rfl ?_
    refine iX6_laysGets_34 rfl ?_
    refine iX6_laysGets_35 f6 rfl (by omega) (by omega) ?_
    rw [hPP, hGG]
    refine iX6_laysGets_36 (R' := zR 1 22 0 0) rfl rfl HM.1 (z_rmo rfl) (c_X6_rightsFor HM HI hd (p := p) (v := s_gr σ d m p) (by omega) (by omega)) (z_qr ?_) z_qx
    refine iX6_laysGets_39 rfl ?_
    refine iX6_laysGets_40 HM.1 rfl ?_
    refine iX6_laysGets_43 rfl ?_
    refine iX6_laysGets_44 f7 rfl (by omega) (by omega) ?_
    rw [hgs]
    have q4' : S.2.2.2.2.1 k = t_D (s_all σ d) k := q4
    rw [q4']
    have hCTb : ∀ T, T < 2 ^ s_nR σ → CT T + t_D (s_all σ d) k < 2 ^ 30 := fun T hT => by
      have := s_cut_le HI.1 (GS := t_GS σ d (s_all σ d)) (D := t_D (s_all σ d)) (s := k) (b := 80) (fun i hi => t_D_le HI.1 (by omega)) T
      rw [← hC T hT] at this
      omega
    have hBl : t_GS σ d (s_all σ d) k < 1024 := Nat.lt_of_lt_of_le (t_GS_lt σ d _ k) (Nat.pow_le_pow_right (by decide) hn10)
    refine iX6_laysGets_45 (R' := zR 1 22 0 0) rfl rfl HM.1 (z_rmo rfl) (c_X6_serves (B := t_GS σ d (s_all σ d) k) (W := t_D (s_all σ d) k) HMc HI hBl hCTb) (fun v h' y => ?_) (fun E h' y => ?_)
    rotate_left
    · obtain ⟨CT', y1, -⟩ := y
      cases y1
    obtain ⟨CT', y1, y2, y3, y4⟩ := y
    cases y1
    obtain ⟨g2, rfl⟩ : ∃ g, g = h' := ⟨_, rfl⟩
    have y3' : z_mo g2 am th σ HO E (z_gc S GE CT') := y3
    have hC' : ∀ T, T < 2 ^ s_nR σ → CT' T = s_cut σ (t_GS σ d (s_all σ d)) (t_D (s_all σ d)) (k + 1) T := fun T hT => by rw [y4 T hT, hC T hT, s_cut_succ]
    have hfl : n_mn CT' (2 ^ s_nR σ - 1) = s_fl σ d (k + 1) := n_mn_cong2 (fun T hT => hC' T (by omega))
    have hmono : s_fl σ d k ≤ s_fl σ d (k + 1) := s_flow_mono _ _ _ _
    rw [hfl]
    have f8 : g2 618 = z_arr (am 618) 40 GE := y3'.2.2.2.2.1.2.2.2.2
    unfold z_arr at f8
    refine iX6_laysGets_48 rfl ?_
    refine iX6_laysGets_51 y3'.1 rfl ?_
    refine iX6_laysGets_54 rfl ?_
    show z_J Z mX6_laysGets _ _ _ Q 59 _ [.int (nI (s_fl σ d (k + 1)) - nI (s_fl σ d k)), .int (nI k), .ref (am 618)] g2
    rw [pk_sub hmono]
    refine iX6_laysGets_59 f8 rfl (by omega) (by omega) ?_
    rw [n_upd]
    refine iX6_laysGets_60 rfl ?_
    refine z_J.take 4 ?_
    show z_J Z mX6_laysGets _ _ _ Q 13 [.ref (am 600), .int (nI d), .int (nI (s_fl σ d (k + 1))), .int (nI k + nI 1)] [] _
    rw [nI_add]
    refine ih (k + 1) _ (nu GE k (s_fl σ d (k + 1) - s_fl σ d k)) CT' (by omega) ((hs.trans y2).u (by omega) (by omega)) (y3'.get _) (fun j hj => ?_) hC'
    by_cases e : j = k
    · subst e; rw [nu_s]
    · rw [nu_n e]; exact hG j (by omega)
theorem c_X6_laysGets {d : Nat} (HM : z_mo h am th σ HO E S) (HI : z_mi σ HO E) (hd : d ≤ 720) : z_J Z mX6_laysGets (zR 2 50 0 0) 0 0 (fun o g => o = .inl (some (.int (nI (s_fl σ d (s_all σ d).length)))) ∧ z_same 600 619 h g ∧ ∃ (S' : zMn), z_mo g am th σ HO E S' ∧ z_ag σ d (s_nM σ * 5) S' ∧ (∀ j, j < (s_all σ d).length → S'.2.2.2.2.2.1 j = s_fl σ d (j + 1) - s_fl σ d j) ∧ ∀ T, T < 2 ^ s_nR σ → z_ct S' T = s_cut σ (t_GS σ d (s_all σ d)) (t_D (s_all σ d)) (s_all σ d).length T) 0 [.ref (am 600), .int (nI d)] [] h := by
  refine iX6_laysGets_0 rfl ?_
  refine iX6_laysGets_2 (R' := zR 1 24 0 0) rfl rfl HM.1 (z_rmo rfl) (c_X6_laysNeeds HM HI hd) (fun v h' w => ?_) (fun E h' w => ?_)
  rotate_left
  · cases w.1
  obtain ⟨w1, w2, S1, w3, w4⟩ := w
  cases w1
  obtain ⟨g1, rfl⟩ : ∃ g, g = h' := ⟨_, rfl⟩
  refine iX6_laysGets_5 rfl ?_
  refine iX6_laysGets_6 (R' := zR 0 0 0 0) rfl rfl w3.1 (z_rmo rfl) (c_X6_beginsCut w3 HI) (fun v h' y => ?_) (fun E h' y => ?_)
  rotate_left
  · cases y.1
  obtain ⟨y1, y2, CT, y3, y4⟩ := y
  cases y1
  refine iX6_laysGets_9 rfl ?_
  have e0 : s_fl σ d 0 = 0 := s_flow_0 _ _ _
  have hgo := l_X6_laysGets (Z := Z) (Q := fun o g => o = .inl (some (.int (nI (s_fl σ d (s_all σ d).length)))) ∧ z_same 600 619 h g ∧ ∃ (S' : zMn), z_mo g am th σ HO E S' ∧ z_ag σ d (s_nM σ * 5) S' ∧ (∀ j, j < (s_all σ d).length → S'.2.2.2.2.2.1 j = s_fl σ d (j + 1) - s_fl σ d j) ∧ ∀ T, T < 2 ^ s_nR σ → z_ct S' T = s_cut σ (t_GS σ d (s_all σ d)) (t_D (s_all σ d)) (s_all σ d).length T) (h0 := h) HI hd w4 (fun g GE CT hs HM' hG hC => ⟨rfl, hs, z_gc S1 GE CT, HM', w4, hG, hC⟩) (s_all σ d).length 0 h' S1.2.2.2.2.2.1 CT (by omega) (w2.trans y2) y3 (fun j hj => by omega) (fun T hT => y4 T hT)
  rw [e0] at hgo
  exact hgo
end ZModC
