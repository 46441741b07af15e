/-! ===== the model: laysNeeds ===== -/
theorem h_on_le {V F E : Nat → Nat} {b d : Nat} : ∀ {n : Nat}, (∀ i, i < n → V i ≤ b) → h_on V F E d n ≤ b
  | 0, _ => Nat.zero_le _
  | n + 1, h => by
    show (if F n ≤ d then (if d < E n then V n else 0) else h_on V F E d n) ≤ b
    have h1 := h_on_le (V := V) (F := F) (E := E) (d := d) (n := n) (fun i hi => h i (by omega))
    have h2 := h n (by omega)
    split
    · split <;> omega
    · exact h1
theorem n_gr_le {by_ : Nat → Nat} {on : Nat → Nat → Nat} {b m p : Nat} : ∀ {k : Nat}, (∀ j, j < k → on j p ≤ b) → n_gr by_ on k m p ≤ b
  | 0, _ => Nat.zero_le _
  | k + 1, h => by
    show (if by_ k = m then max (n_gr by_ on k m p) (on k p) else n_gr by_ on k m p) ≤ b
    have h1 := n_gr_le (by_ := by_) (on := on) (m := m) (k := k) (fun j hj => h j (by omega))
    have h2 := h k (by omega)
    split
    · exact Nat.max_le.mpr ⟨h1, h2⟩
    · exact h1
theorem z_mi_on {σ : zSt} {HO : Nat → Int32} {E : zMs} (HI : z_mi σ HO E) {d j p : Nat} (h : j * 5 + p < 40) : s_on σ d j p ≤ 9 := h_on_le (fun i hi => ((HI.2.2.2.2.1 _ h).2.2 i hi).2.2.2.2.1)
theorem s_need_at (σ : zSt) (d m p : Nat) (hp : p < 5) : s_need σ d (m * 5 + p) = if s_gr σ d m p = 0 then none else some (m, p, s_gr σ d m p, s_un σ m p) := by
  unfold s_need
  rw [show (m * 5 + p) / 5 = m by omega, show (m * 5 + p) % 5 = p by omega]
section ZModA
variable {Z : zZ} {h : zH} {am : Nat → Nat} {th : Nat} {σ : zSt} {HO : Nat → Int32} {E : zMs} {S : zMn} {Q : zO → zH → Prop}
theorem l_X6_laysNeeds1 {d m p : Nat} (HM : z_mo h am th σ HO E S) (HI : z_mi σ HO E) (hd : d ≤ 720) (hm : m < 8) (hp : p < 5) (hq : z_J Z mX6_laysNeeds (zR 1 24 0 0) 0 0 Q 86 [.ref (am 600), .int (nI d), .int (nI m), .int (nI p), .int (nI (s_gr σ d m p)), .int (nI (s_nM σ))] [] h) :
    ∀ n k, k + n = s_nM σ → z_J Z mX6_laysNeeds (zR 1 24 0 0) 0 0 Q 28 [.ref (am 600), .int (nI d), .int (nI m), .int (nI p), .int (nI (n_gr (s_by σ) (s_on σ d) k m p)), .int (nI k)] [] h := by
  have hn8 := HI.1.2.1.1
  intro n
  induction n with
  | zero =>
    intro k hk
    obtain rfl : k = s_nM σ := by omega
    refine iX6_laysNeeds_28 rfl ?_
    refine iX6_laysNeeds_31 HM.1 rfl ?_
    refine iX6_laysNeeds_34 (fun cc => ?_) (fun cc => ?_)
    · exact hq
    · exact absurd (Int32.le_refl _) cc
  | succ n ih =>
    intro k hk
    have ih := ih (k + 1) (by omega)
    have h9 : n_gr (s_by σ) (s_on σ d) k m p ≤ 9 := n_gr_le (fun j hj => z_mi_on HI (by omega))
    have h9' : s_on σ d k p ≤ 9 := z_mi_on HI (by omega)
    have hby : s_by σ k < 8 := m_by_lt HI.1.2.1 (by omega) 8
    have e : n_gr (s_by σ) (s_on σ d) (k + 1) m p = if s_by σ k = m then max (n_gr (s_by σ) (s_on σ d) k m p) (s_on σ d k p) else n_gr (s_by σ) (s_on σ d) k m p := rfl
    refine iX6_laysNeeds_28 rfl ?_
    refine iX6_laysNeeds_31 HM.1 rfl ?_
    refine iX6_laysNeeds_34 (fun cc => ?_) (fun cc => ?_)
    · have := n_le cc; omega
    · refine iX6_laysNeeds_37 rfl ?_
      refine iX6_laysNeeds_40 (R' := zR 0 0 0 0) rfl rfl HM.1 (z_rmo rfl) (c_X6_countsBy HM HI (j := k) (by omega)) (z_qr ?_) z_qx
      refine iX6_laysNeeds_43 rfl ?_
      refine iX6_laysNeeds_44 (fun c => ?_) (fun c => ?_)
      · rw [if_neg (n_ne c)] at e
        rw [e, ← nI_add] at ih
        refine iX6_laysNeeds_61 rfl ?_
        refine iX6_laysNeeds_62 rfl ?_
        refine iX6_laysNeeds_68 (fun c2 => ?_) (fun c2 => ?_)
        · refine iX6_laysNeeds_76 rfl ?_
          refine iX6_laysNeeds_78 rfl ?_
          refine z_J.take 6 ?_
          exact ih
        · exact absurd (nI_pos (by omega)) (fun z => c2 (i_nlt.mp z))
      · rw [if_pos (n_eq c)] at e
        refine iX6_laysNeeds_47 rfl ?_
        refine iX6_laysNeeds_51 (R' := zR 0 0 0 0) rfl rfl (z_rmo rfl) (c_X6_pairOf) (z_qr ?_) z_qx
        refine iX6_laysNeeds_54 rfl ?_
        refine iX6_laysNeeds_55 (R' := zR 0 0 0 0) rfl rfl HM.1 (z_rmo rfl) (c_X6_versionOn HM HI (q := k * 5 + p) (d := d) (by omega) hd) (z_qr ?_) z_qx
        refine iX6_laysNeeds_58 rfl ?_
        show z_J Z mX6_laysNeeds _ _ _ Q 62 _ [.int (nI (s_on σ d k p))] h
        refine iX6_laysNeeds_62 rfl ?_
        refine iX6_laysNeeds_68 (fun c2 => ?_) (fun c2 => ?_)
        · have := n_le c2
          rw [Nat.max_eq_left this] at e
          rw [e, ← nI_add] at ih
          refine iX6_laysNeeds_76 rfl ?_
          refine iX6_laysNeeds_78 rfl ?_
          refine z_J.take 6 ?_
          exact ih
        · have := n_nle c2
          rw [Nat.max_eq_right (by omega)] at e
          rw [e, ← nI_add] at ih
          refine iX6_laysNeeds_71 rfl ?_
          refine iX6_laysNeeds_78 rfl ?_
          refine z_J.take 6 ?_
          exact ih
def z_ag (σ : zSt) (d n : Nat) (S : zMn) : Prop := S.1 = (s_needs σ d n).length ∧ n_agree (s_needs σ d n) S.2.1 S.2.2.1 S.2.2.2.1 S.2.2.2.2.1
theorem l_X6_laysNeeds2 {d m : Nat} {h0 : zH} (HI : z_mi σ HO E) (hd : d ≤ 720) (hm : m < s_nM σ) (hq : ∀ (g : zH) (S : zMn), z_same 600 619 h0 g → z_mo g am th σ HO E S → z_ag σ d (m * 5 + 5) S → z_J Z mX6_laysNeeds (zR 1 24 0 0) 0 0 Q 169 [.ref (am 600), .int (nI d), .int (nI m), .int (nI 5)] [] g) :
    ∀ n p (g : zH) (S : zMn), p + n = 5 → z_same 600 619 h0 g → z_mo g am th σ HO E S → z_ag σ d (m * 5 + p) S → z_J Z mX6_laysNeeds (zR 1 24 0 0) 0 0 Q 17 [.ref (am 600), .int (nI d), .int (nI m), .int (nI p)] [] g := by
  have hn8 := HI.1.2.1.1
  intro n
  induction n with
  | zero =>
    intro p g S hp hs HM hA
    obtain rfl : p = 5 := by omega
    refine iX6_laysNeeds_17 rfl ?_
    refine iX6_laysNeeds_19 (fun cc => ?_) (fun cc => ?_)
    · exact hq g S hs HM hA
    · exact absurd (Int32.le_refl _) cc
  | succ n ih =>
    intro p g S hp hs HM hA
    have hlen := s_needs_len σ d (m * 5 + p)
    obtain ⟨hA1, hA2⟩ := id hA
    refine iX6_laysNeeds_17 rfl ?_
    refine iX6_laysNeeds_19 (fun cc => ?_) (fun cc => ?_)
    · have := n_le cc; omega
    refine iX6_laysNeeds_22 rfl ?_
    refine l_X6_laysNeeds1 HM HI hd (by omega) (by omega) ?_ (s_nM σ) 0 (by omega)
    have hsn := s_needs_succ σ d (m * 5 + p)
    rw [s_need_at σ d m p (by omega)] at hsn
    have h9 : s_gr σ d m p ≤ 9 := n_gr_le (fun j hj => z_mi_on HI (by omega))
    refine iX6_laysNeeds_86 rfl ?_
    refine iX6_laysNeeds_88 (fun c => ?_) (fun c => ?_)
    · have hz : s_gr σ d m p = 0 := by
        have := n_le (b := 0) c
        omega
      rw [if_pos hz] at hsn
      refine iX6_laysNeeds_163 rfl ?_
      refine z_J.take 4 ?_
      show z_J Z mX6_laysNeeds _ _ _ Q 17 [.ref (am 600), .int (nI d), .int (nI m), .int (nI p + nI 1)] [] g
      rw [nI_add]
      refine ih (p + 1) g S (by omega) hs HM ?_
      show z_ag σ d (m * 5 + p + 1) S
      unfold z_ag
      rw [hsn]
      exact hA
    · have hz : s_gr σ d m p ≠ 0 := fun e => c (by rw [e]; exact Int32.le_refl _)
      rw [if_neg hz] at hsn
      obtain ⟨e0, ⟨e1, e2, e3, e4, e5⟩, ⟨e6, e7, e8, e9⟩, ⟨f0, f1, f2, f3⟩, ⟨f4, f5, f6, f7, f8⟩, f9⟩ := id HM
      unfold z_arr at f4 f5 f6 f7 e6 e9
      have hMC := HI.1.2.2.1 m
      have hCU := HI.1.2.2.2 p (by omega)
      refine iX6_laysNeeds_91 rfl ?_
      refine iX6_laysNeeds_92 e0 rfl ?_
      refine iX6_laysNeeds_95 rfl ?_
      refine iX6_laysNeeds_96 e0 rfl ?_
      refine iX6_laysNeeds_99 rfl ?_
      refine iX6_laysNeeds_100 f4 rfl (by omega) (by omega) ?_
      rw [n_upd]
      refine iX6_laysNeeds_101 rfl ?_
      refine iX6_laysNeeds_102 ((z_u_n (by omega)).trans e0) rfl ?_
      refine iX6_laysNeeds_105 rfl ?_
      refine iX6_laysNeeds_106 ((z_u_n (by omega)).trans e0) rfl ?_
      refine iX6_laysNeeds_109 rfl ?_
      refine iX6_laysNeeds_110 ((z_u_n (by omega)).trans f5) rfl (by omega) (by omega) ?_
      rw [n_upd]
      have k0 : ∀ x, x ≠ 614 → x ≠ 615 → (z_u (z_u g 614 (am 614, .inl (0, 40, .inl (fun j => nI (nu S.2.1 S.1 m j))))) 615 (am 615, .inl (0, 40, .inl (fun j => nI (nu S.2.2.1 S.1 p j))))) x = g x := fun x h1 h2 => by rw [z_u_n h2, z_u_n h1]
      refine iX6_laysNeeds_111 rfl ?_
      refine iX6_laysNeeds_112 ((k0 600 (by omega) (by omega)).trans e0) rfl ?_
      refine iX6_laysNeeds_115 rfl ?_
      refine iX6_laysNeeds_116 ((k0 600 (by omega) (by omega)).trans e0) rfl ?_
      refine iX6_laysNeeds_119 rfl ?_
      refine iX6_laysNeeds_121 ((k0 616 (by omega) (by omega)).trans f6) rfl (by omega) (by omega) ?_
      rw [n_upd]
      have k1 : ∀ x, x ≠ 614 → x ≠ 615 → x ≠ 616 → (z_u (z_u (z_u g 614 (am 614, .inl (0, 40, .inl (fun j => nI (nu S.2.1 S.1 m j))))) 615 (am 615, .inl (0, 40, .inl (fun j => nI (nu S.2.2.1 S.1 p j))))) 616 (am 616, .inl (0, 40, .inl (fun j => nI (nu S.2.2.2.1 S.1 (s_gr σ d m p) j))))) x = g x := fun x h1 h2 h3 => by rw [z_u_n h3, k0 x h1 h2]
      refine iX6_laysNeeds_122 rfl ?_
      refine iX6_laysNeeds_123 ((k1 600 (by omega) (by omega) (by omega)).trans e0) rfl ?_
      refine iX6_laysNeeds_126 rfl ?_
      refine iX6_laysNeeds_127 ((k1 600 (by omega) (by omega) (by omega)).trans e0) rfl ?_
      refine iX6_laysNeeds_130 rfl ?_
      refine iX6_laysNeeds_131 ((k1 600 (by omega) (by omega) (by omega)).trans e0) rfl ?_
      refine iX6_laysNeeds_134 rfl ?_
      refine iX6_laysNeeds_135 ((k1 606 (by omega) (by omega) (by omega)).trans e6) rfl (by omega) (by omega) ?_
      refine iX6_laysNeeds_136 rfl ?_
      refine iX6_laysNeeds_137 ((k1 600 (by omega) (by omega) (by omega)).trans e0) rfl ?_
      refine iX6_laysNeeds_140 rfl ?_
      refine iX6_laysNeeds_141 ((k1 609 (by omega) (by omega) (by omega)).trans e9) rfl (by omega) (by omega) ?_
      refine iX6_laysNeeds_142 rfl ?_
      show z_J Z mX6_laysNeeds _ _ _ Q 146 _ [.ref (am 600), .int (nI (s_MC σ m) + nI (s_CU σ p) - nI 1), .int (nI S.1), .ref (am 617)] _
      rw [nI_add, n_m1 (by omega)]
      refine iX6_laysNeeds_146 ((k1 600 (by omega) (by omega) (by omega)).trans e0) rfl ?_
      refine iX6_laysNeeds_149 rfl ?_
      refine iX6_laysNeeds_150 ((k1 609 (by omega) (by omega) (by omega)).trans e9) rfl (by omega) (by omega) ?_
      refine iX6_laysNeeds_151 (fun q => absurd (n_e0 q) (by omega)) ?_
      rw [pk_div (by omega) (by omega) (by omega)]
      have hdiv := Nat.div_le_self (s_MC σ m + s_CU σ p - 1) (s_CU σ p)
      refine iX6_laysNeeds_152 ((k1 617 (by omega) (by omega) (by omega)).trans f7) rfl (by omega) (by omega) ?_
      rw [n_upd]
      have k2 : ∀ x, x ≠ 614 → x ≠ 615 → x ≠ 616 → x ≠ 617 → (z_u (z_u (z_u (z_u g 614 (am 614, .inl (0, 40, .inl (fun j => nI (nu S.2.1 S.1 m j))))) 615 (am 615, .inl (0, 40, .inl (fun j => nI (nu S.2.2.1 S.1 p j))))) 616 (am 616, .inl (0, 40, .inl (fun j => nI (nu S.2.2.2.1 S.1 (s_gr σ d m p) j))))) 617 (am 617, .inl (0, 40, .inl (fun j => nI (nu S.2.2.2.2.1 S.1 ((s_MC σ m + s_CU σ p - 1) / s_CU σ p) j))))) x = g x := fun x h1 h2 h3 h4 => by rw [z_u_n h4, k1 x h1 h2 h3]
      refine iX6_laysNeeds_153 rfl ?_
      refine iX6_laysNeeds_155 ((k2 600 (by omega) (by omega) (by omega) (by omega)).trans e0) rfl ?_
      refine iX6_laysNeeds_158 rfl ?_
      refine iX6_laysNeeds_160 ((k2 600 (by omega) (by omega) (by omega) (by omega)).trans e0) rfl ?_
      refine iX6_laysNeeds_163 rfl ?_
      refine z_J.take 4 ?_
      show z_J Z mX6_laysNeeds _ _ _ Q 17 [.ref (am 600), .int (nI d), .int (nI m), .int (nI p + nI 1)] [] _
      rw [nI_add]
      refine ih (p + 1) _ (S.1 + 1, nu S.2.1 S.1 m, nu S.2.2.1 S.1 p, nu S.2.2.2.1 S.1 (s_gr σ d m p), nu S.2.2.2.2.1 S.1 (s_un σ m p), S.2.2.2.2.2.1, S.2.2.2.2.2.2) (by omega) (fun x hx => ?_) ⟨?_, ⟨?_, ?_, ?_, ?_, ?_⟩, ⟨?_, ?_, ?_, ?_⟩, ⟨?_, ?_, ?_, ?_⟩, ⟨?_, ?_, ?_, ?_, ?_⟩, ?_⟩ ?_
      rotate_right
      · show z_ag σ d (m * 5 + p + 1) _
        unfold z_ag
        rw [hsn]
        dsimp only
        rw [List.length_append, hA1]
        exact ⟨rfl, n_agree_add hA2⟩
      · rw [z_u_n (by omega), k2 x (by omega) (by omega) (by omega) (by omega)]
        exact hs x hx
      · rw [z_u_s]
        show some (am 600, Sum.inr (7, (z_mfs am th (s_nR σ) (s_nM σ) S.1).set 16 (.int (nI S.1 + nI 1)))) = _
        rw [nI_add]
        rfl
      rotate_left 13
      · rw [z_u_n (by omega), z_u_n (by omega), z_u_n (by omega), z_u_n (by omega)]; exact z_u_s
      · rw [z_u_n (by omega), z_u_n (by omega), z_u_n (by omega)]; exact z_u_s
      · rw [z_u_n (by omega), z_u_n (by omega)]; exact z_u_s
      · rw [z_u_n (by omega)]; exact z_u_s
      all_goals rw [z_u_n (by omega), k2 _ (by omega) (by omega) (by omega) (by omega)]
      all_goals assumption
theorem l_X6_laysNeeds3 {d : Nat} {h0 : zH} (HI : z_mi σ HO E) (hd : d ≤ 720) (hq : ∀ (g : zH) (S : zMn), z_same 600 619 h0 g → z_mo g am th σ HO E S → z_ag σ d (s_nM σ * 5) S → Q (.inl none) g) :
    ∀ n m (g : zH) (S : zMn), m + n = s_nM σ → z_same 600 619 h0 g → z_mo g am th σ HO E S → z_ag σ d (m * 5) S → z_J Z mX6_laysNeeds (zR 1 24 0 0) 0 0 Q 7 [.ref (am 600), .int (nI d), .int (nI m)] [] g := by
  have hn8 := HI.1.2.1.1
  intro n
  induction n with
  | zero =>
    intro m g S hm hs HM hA
    obtain rfl : m = s_nM σ := by omega
    refine iX6_laysNeeds_7 rfl ?_
    refine iX6_laysNeeds_9 HM.1 rfl ?_
    refine iX6_laysNeeds_12 (fun cc => ?_) (fun cc => ?_)
    · exact iX6_laysNeeds_175 (Nat.le_of_ble_eq_true rfl) (Nat.le_of_ble_eq_true rfl) (hq g S hs HM hA)
    · exact absurd (Int32.le_refl _) cc
  | succ n ih =>
    intro m g S hm hs HM hA
    refine iX6_laysNeeds_7 rfl ?_
    refine iX6_laysNeeds_9 HM.1 rfl ?_
    refine iX6_laysNeeds_12 (fun cc => ?_) (fun cc => ?_)
    · have := n_le cc; omega
    · refine iX6_laysNeeds_15 rfl ?_
      refine l_X6_laysNeeds2 (h0 := g) HI hd (by omega) (fun g' S' hs' HM' hA' => ?_) 5 0 g S rfl z_same.rf HM hA
      refine iX6_laysNeeds_169 rfl ?_
      refine z_J.take 3 ?_
      show z_J Z mX6_laysNeeds _ _ _ Q 7 [.ref (am 600), .int (nI d), .int (nI m + nI 1)] [] g'
      rw [nI_add]
      exact ih (m + 1) g' S' (by omega) (hs.trans hs') HM' (by rw [Nat.succ_mul]; exact hA')
theorem c_X6_laysNeeds {d : Nat} (HM : z_mo h am th σ HO E S) (HI : z_mi σ HO E) (hd : d ≤ 720) : z_J Z mX6_laysNeeds (zR 1 24 0 0) 0 0 (fun o g => o = .inl none ∧ z_same 600 619 h g ∧ ∃ S', z_mo g am th σ HO E S' ∧ z_ag σ d (s_nM σ * 5) S') 0 [.ref (am 600), .int (nI d)] [] h := by
  refine iX6_laysNeeds_0 rfl ?_
  refine iX6_laysNeeds_2 HM.1 rfl ?_
  refine iX6_laysNeeds_5 rfl ?_
  obtain ⟨e0, ⟨e1, e2, e3, e4, e5⟩, ⟨e6, e7, e8, e9⟩, ⟨f0, f1, f2, f3⟩, ⟨f4, f5, f6, f7, f8⟩, f9⟩ := id HM
  refine l_X6_laysNeeds3 (h0 := h) HI hd (fun g S' hs HM' hA => ⟨rfl, hs, S', HM', hA⟩) (s_nM σ) 0 _ (0, S.2) (by omega) (z_same.rf.u (by omega) (by omega)) ⟨z_u_s, ⟨?_, ?_, ?_, ?_, ?_⟩, ⟨?_, ?_, ?_, ?_⟩, ⟨?_, ?_, ?_, ?_⟩, ⟨?_, ?_, ?_, ?_, ?_⟩, ?_⟩ ?_
  rotate_right
  · rw [Nat.zero_mul]
    exact ⟨rfl, fun k q hk => by cases hk⟩
  all_goals rw [z_u_n (by omega)]
  all_goals assumption
end ZModA
