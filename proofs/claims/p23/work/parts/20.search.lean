/-! ===== searchUnitsLeft ===== -/
def g_sub (a b : Nat) : Prop := ∀ x, x < 10 → a.testBit x = true → b.testBit x = true
theorem g_in0 {need : Nat} {GS : Nat → Nat} {GV : Nat → Nat → Nat} (QU : Nat → Nat) (RF : Nat → Option Nat) (EX : Nat → Nat) : g_in need GS GV (0, 0, QU, RF, EX) := by
  refine ⟨by show 0 ≤ 10; omega, by show 0 < 1024; omega, ?_, fun x hx => ⟨fun z => ?_, fun ⟨k, hk, _⟩ => ?_⟩, fun k hk => ?_, fun k k' hk => ?_, fun k hk => ?_⟩
  · show n_sum (fun x => if (0 : Nat).testBit x then 1 else 0) 10 = 0
    simp [n_sum]
  · have : (0 : Nat).testBit x = true := z
    rw [Nat.zero_testBit] at this
    cases this
  · have : k < 0 := hk; omega
  · have : k < 0 := hk; omega
  · have : k < 0 := hk; omega
  · have : k < 0 := hk; omega
/-- nothing more can be reached, nothing reached has units left -/
def g_closed (need : Nat) (GS UL : Nat → Nat) (GV : Nat → Nat → Nat) (b : Nat) : Prop :=
  g_sub (GS need) b ∧ ∀ x, x < 10 → b.testBit x = true → UL x = 0 ∧ ∀ o, o < need → 0 < GV o x → g_sub (GS o) b
section ZSearch
variable {Z : zZ} {h : zH} {ad : Nat → Nat} {s need : Nat} {GS UL : Nat → Nat} {GV : Nat → Nat → Nat} {q : gS} {Q : zO → zH → Prop}
def g_done (need : Nat) (GS UL : Nat → Nat) (GV : Nat → Nat → Nat) (q : gS) (k : Nat) : Prop := g_sub (GS need) q.2.1 ∧ ∀ k', k' < k → UL (q.2.2.1 k') = 0 ∧ ∀ o, o < need → 0 < GV o (q.2.2.1 k') → g_sub (GS o) q.2.1
def g_bnd (need : Nat) (GS UL : Nat → Nat) (GV : Nat → Nat → Nat) : Prop := (∀ i, i ≤ need → GS i < 1024) ∧ (∀ x, x < 10 → UL x < 1000) ∧ ∀ i x, i < need → x < 10 → GV i x < 1000
/-- the inner loop -/
theorem l_X0_search1 (hn : need < 41) (hB : g_bnd need GS UL GV) {k x : Nat} {q0 : gS} (hk : k < q0.1) (hx : q0.2.2.1 k = x)
    (hq : ∀ (g : zH) (q' : gS), z_same 14 199 h g → z_give0 g ad s GS UL GV q' → g_in need GS GV q' → q0.1 ≤ q'.1 → (∀ k, k < q0.1 → q'.2.2.1 k = q0.2.2.1 k) → g_sub q0.2.1 q'.2.1 → (∀ o, o < need → 0 < GV o x → g_sub (GS o) q'.2.1) →
      z_J Z mX0_searchUnitsLeft (zR 1 24 0 0) 0 0 Q 106 [.ref (ad 14), .int (nI need), .int (nI k), .int (nI x), .int (nI need)] [] g) :
    ∀ n o (g : zH) (q' : gS), o + n = need → z_same 14 199 h g → z_give0 g ad s GS UL GV q' → g_in need GS GV q' → q0.1 ≤ q'.1 → (∀ k, k < q0.1 → q'.2.2.1 k = q0.2.2.1 k) → g_sub q0.2.1 q'.2.1 → (∀ o', o' < o → 0 < GV o' x → g_sub (GS o') q'.2.1) →
      z_J Z mX0_searchUnitsLeft (zR 1 24 0 0) 0 0 Q 68 [.ref (ad 14), .int (nI need), .int (nI k), .int (nI x), .int (nI o)] [] g := by
  intro n
  induction n with
  | zero =>
    intro o g q' ho hsm hG hI h1 h2 h3 h4
    obtain rfl : o = need := by omega
    refine iX0_searchUnitsLeft_68 rfl ?_
    refine iX0_searchUnitsLeft_71 (fun cc => ?_) (fun cc => ?_)
    · exact hq g q' hsm hG hI h1 h2 h3 h4
    · exact absurd (Int32.le_refl _) cc
  | succ n ih =>
    intro o g q' ho hsm hG hI h1 h2 h3 h4
    obtain ⟨k0, ⟨eo, ko, ko2⟩, k16, k17, k18, k19, k20, kr⟩ := id hG
    have hxq : q'.2.2.1 k = x := (h2 k hk).trans hx
    have hx10 : x < 10 := by rw [← hxq]; exact hI.2.2.2.2.1 k (by omega)
    have hgv := hB.2.2 o x (by omega) hx10
    refine iX0_searchUnitsLeft_68 rfl ?_
    refine iX0_searchUnitsLeft_71 (fun cc => ?_) (fun cc => ?_)
    · have := n_le cc; omega
    · refine iX0_searchUnitsLeft_74 rfl ?_
      refine iX0_searchUnitsLeft_75 k0 rfl ?_
      refine iX0_searchUnitsLeft_78 rfl ?_
      refine iX0_searchUnitsLeft_80 ko rfl (by omega) (by omega) ?_
      refine iX0_searchUnitsLeft_81 rfl ?_
      rw [ko2 o (by omega)]
      refine iX0_searchUnitsLeft_82 (kr o (by omega)) rfl (by omega) (by omega) ?_
      refine iX0_searchUnitsLeft_83 (fun cc => ?_) (fun cc => ?_)
      · have hz : GV o x = 0 := by
          rcases Nat.eq_zero_or_pos (GV o x) with z | z
          · exact z
          · exact absurd cc (nI_nle z (by omega))
        refine iX0_searchUnitsLeft_100 rfl ?_
        show z_J Z mX0_searchUnitsLeft (zR 1 24 0 0) 0 0 Q 68 [.ref (ad 14), .int (nI need), .int (nI k), .int (nI x), .int (nI o + nI 1)] [] g
        rw [nI_add]
        refine ih (o + 1) g q' (by omega) hsm hG hI h1 h2 h3 (fun o' ho' hp => ?_)
        by_cases e9 : o' = o
        · rw [e9] at hp; omega
        · exact h4 o' (by omega) hp
      · have hz : 0 < GV o x := by
          rcases Nat.eq_zero_or_pos (GV o x) with z | z
          · rw [z] at cc; exact absurd (by decide) cc
          · exact z
        refine iX0_searchUnitsLeft_86 rfl ?_
        refine iX0_searchUnitsLeft_88 k0 rfl ?_
        refine iX0_searchUnitsLeft_91 rfl ?_
        refine iX0_searchUnitsLeft_93 k16 rfl (by omega) (by omega) ?_
        refine iX0_searchUnitsLeft_94 rfl ?_
        refine iX0_searchUnitsLeft_97 (R' := zR 0 0 0 0) rfl rfl k0 (z_rmo rfl) (c_X0_reach (rights := GS o) (e := o) (from_ := some x) (hB.1 o (by omega)) (by omega) (fun y hy => by cases hy; exact hx10) hG hI (fun y hy hb => Or.inr ⟨k, by omega, by rw [hxq], by omega, by rw [hxq]; exact hz, hb⟩)) (fun v h' w => ?_) (fun E h' w => ?_)
        · obtain ⟨w1, w2, q2, w3, w4, w5, w6, w7, w8⟩ := w
          cases w1
          refine iX0_searchUnitsLeft_100 rfl ?_
          show z_J Z mX0_searchUnitsLeft (zR 1 24 0 0) 0 0 Q 68 [.ref (ad 14), .int (nI need), .int (nI k), .int (nI x), .int (nI o + nI 1)] [] h'
          rw [nI_add]
          refine ih (o + 1) h' q2 (by omega) (hsm.trans w2) w3 w4 (by omega) (fun k9 hk9 => (w6 k9 (by omega)).trans (h2 k9 hk9)) (fun y hy hb => w8 y hy (h3 y hy hb)) (fun o' ho' hp => ?_)
          by_cases e9 : o' = o
          · subst e9; exact w7
          · exact fun y hy hb => w8 y hy (h4 o' (by omega) hp y hy hb)
        · cases w.1
theorem l_X0_search (hn : need < 41) (hB : g_bnd need GS UL GV)
    (hq1 : ∀ (g : zH) (q' : gS) (k : Nat), z_same 14 199 h g → z_give0 g ad s GS UL GV q' → g_in need GS GV q' → k < q'.1 → 0 < UL (q'.2.2.1 k) → Q (.inl (some (.int (nI (q'.2.2.1 k))))) g)
    (hq2 : ∀ (g : zH) (q' : gS), z_same 14 199 h g → z_give0 g ad s GS UL GV q' → q'.2.1 < 1024 → g_closed need GS UL GV q'.2.1 → Q (.inl (some (.int (-1)))) g) :
    ∀ n k (g : zH) (q' : gS), k + n = 11 → z_same 14 199 h g → z_give0 g ad s GS UL GV q' → g_in need GS GV q' → k ≤ q'.1 → g_done need GS UL GV q' k →
      z_J Z mX0_searchUnitsLeft (zR 1 24 0 0) 0 0 Q 24 [.ref (ad 14), .int (nI need), .int (nI k)] [] g := by
  intro n
  induction n with
  | zero =>
    intro k g q' hk hsm hG hI h1 hD
    have := hI.1
    omega
  | succ n ih =>
    intro k g q' hk hsm hG hI h1 hD
    obtain ⟨k0, ⟨eo, ko, ko2⟩, k16, k17, k18, k19, k20, kr⟩ := id hG
    have i1 := hI.1
    have hcl : k = q'.1 → g_closed need GS UL GV q'.2.1 := by
      intro e
      refine ⟨hD.1, fun x hx hb => ?_⟩
      obtain ⟨k', hk', e'⟩ := (hI.2.2.2.1 x hx).mp hb
      have := hD.2 k' (by omega)
      rw [e'] at this
      exact this
    refine iX0_searchUnitsLeft_24 rfl ?_
    refine iX0_searchUnitsLeft_26 k0 rfl ?_
    refine iX0_searchUnitsLeft_29 (fun cc => ?_) (fun cc => ?_)
    · have hc := n_le cc
      refine iX0_searchUnitsLeft_112 rfl ?_
      exact iX0_searchUnitsLeft_113 (Nat.le_of_ble_eq_true rfl) (Nat.le_of_ble_eq_true rfl) (hq2 g q' hsm hG hI.2.1 (hcl (by omega)))
    · have hc := n_nle cc
      refine iX0_searchUnitsLeft_32 rfl ?_
      refine iX0_searchUnitsLeft_35 (fun cc => ?_) (fun cc => ?_)
      · have := n_le cc; omega
      · have hx10 := hI.2.2.2.2.1 k (by omega)
        refine iX0_searchUnitsLeft_38 rfl ?_
        refine iX0_searchUnitsLeft_39 k0 rfl ?_
        refine iX0_searchUnitsLeft_42 rfl ?_
        refine iX0_searchUnitsLeft_43 k18 rfl (by omega) (by omega) ?_
        refine iX0_searchUnitsLeft_44 rfl ?_
        have hul := hB.2.1 (q'.2.2.1 k) hx10
        refine iX0_searchUnitsLeft_46 (R' := zR 0 0 0 0) rfl rfl (z_rmo rfl) (c_X0_isRight (o := some (q'.2.2.1 k)) (fun y hy => by cases hy; exact hx10)) (z_qr ?_) z_qx
        refine iX0_searchUnitsLeft_49 (fun _ => ?_) (fun cc => absurd (show (1 : Int32) = 0 from cc) (by decide))
        refine iX0_searchUnitsLeft_54 rfl ?_
        refine iX0_searchUnitsLeft_55 k0 rfl ?_
        refine iX0_searchUnitsLeft_58 rfl ?_
        refine iX0_searchUnitsLeft_59 k17 rfl (by omega) (by omega) ?_
        refine iX0_searchUnitsLeft_60 (fun cc => ?_) (fun cc => ?_)
        · have hz : UL (q'.2.2.1 k) = 0 := by
            rcases Nat.eq_zero_or_pos (UL (q'.2.2.1 k)) with z | z
            · exact z
            · exact absurd cc (nI_nle z (by omega))
          refine iX0_searchUnitsLeft_65 rfl ?_
          refine l_X0_search1 (h := g) (k := k) (x := q'.2.2.1 k) (q0 := q') hn hB (by omega) rfl (fun g2 q2 a1 a2 a3 a4 a5 a6 a7 => ?_) need 0 g q' (by omega) z_same.rf hG hI (Nat.le_refl _) (fun _ _ => rfl) (fun _ _ z => z) (fun o' ho' => by omega)
          refine iX0_searchUnitsLeft_106 rfl ?_
          refine z_J.take 3 ?_
          show z_J Z mX0_searchUnitsLeft (zR 1 24 0 0) 0 0 Q 24 [.ref (ad 14), .int (nI need), .int (nI k + nI 1)] [] g2
          rw [nI_add]
          refine ih (k + 1) g2 q2 (by omega) (hsm.trans a1) a2 a3 (by omega) ⟨fun y hy hb => a6 y hy (hD.1 y hy hb), fun k' hk' => ?_⟩
          rw [a5 k' (by omega)]
          by_cases e9 : k' = k
          · subst e9; exact ⟨hz, a7⟩
          · obtain ⟨d1, d2⟩ := hD.2 k' (by omega)
            exact ⟨d1, fun o ho hp y hy hb => a6 y hy (d2 o ho hp y hy hb)⟩
        · have hz : 0 < UL (q'.2.2.1 k) := by
            rcases Nat.eq_zero_or_pos (UL (q'.2.2.1 k)) with z | z
            · rw [z] at cc; exact absurd (by decide) cc
            · exact z
          refine iX0_searchUnitsLeft_63 rfl ?_
          exact iX0_searchUnitsLeft_64 (Nat.le_of_ble_eq_true rfl) (Nat.le_of_ble_eq_true rfl) (hq1 g q' k hsm hG hI (by omega) hz)
theorem c_X0_search (hn : need < 41) (hB : g_bnd need GS UL GV) (hG : z_give0 h ad s GS UL GV q) :
    z_J Z mX0_searchUnitsLeft (zR 1 24 0 0) 0 0 (fun o g => z_same 14 199 h g ∧ ∃ q' : gS, z_give0 g ad s GS UL GV q' ∧
      ((∃ k, o = .inl (some (.int (nI (q'.2.2.1 k)))) ∧ g_in need GS GV q' ∧ k < q'.1 ∧ 0 < UL (q'.2.2.1 k)) ∨ (o = .inl (some (.int (-1))) ∧ q'.2.1 < 1024 ∧ g_closed need GS UL GV q'.2.1))) 0 [.ref (ad 14), .int (nI need)] [] h := by
  obtain ⟨k0, ⟨eo, ko, ko2⟩, k16, k17, k18, k19, k20, kr⟩ := id hG
  refine iX0_searchUnitsLeft_0 rfl ?_
  refine iX0_searchUnitsLeft_2 k0 rfl ?_
  refine iX0_searchUnitsLeft_5 rfl ?_
  refine iX0_searchUnitsLeft_7 z_u_s rfl ?_
  refine iX0_searchUnitsLeft_10 rfl ?_
  generalize hg : z_u (z_u h 14 _) 14 _ = g1
  have f1 : ∀ y, y ≠ 14 → g1 y = h y := fun y hy => by rw [← hg, z_u_n hy, z_u_n hy]
  have hG1 : z_give0 g1 ad s GS UL GV (0, 0, q.2.2) := by
    refine ⟨by rw [← hg]; exact z_u_s, ⟨eo, by rw [f1 _ (by omega)]; exact ko, ko2⟩, by rw [f1 _ (by omega)]; exact k16, by rw [f1 _ (by omega)]; exact k17, by rw [f1 _ (by omega)]; exact k18, by rw [f1 _ (by omega)]; exact k19, by rw [f1 _ (by omega)]; exact k20, fun i hi => by rw [f1 _ (by omega)]; exact kr i hi⟩
  have hI1 : g_in need GS GV (0, 0, q.2.2) := g_in0 q.2.2.1 q.2.2.2.1 q.2.2.2.2
  have hs1 : z_same 14 199 h g1 := fun y hy => f1 y (by omega)
  have m0 := hG1.1
  refine iX0_searchUnitsLeft_12 m0 rfl ?_
  refine iX0_searchUnitsLeft_15 rfl ?_
  refine iX0_searchUnitsLeft_16 ((f1 16 (by omega)).trans k16) rfl (by omega) (by omega) ?_
  refine iX0_searchUnitsLeft_17 rfl ?_
  refine iX0_searchUnitsLeft_19 (R' := zR 0 0 0 0) rfl rfl m0 (z_rmo rfl) (c_X0_reach (rights := GS need) (e := need) (from_ := none) (hB.1 need (Nat.le_refl _)) (by omega) (fun y hy => by cases hy) hG1 hI1 (fun y hy hb => Or.inl ⟨rfl, rfl, hb⟩)) (fun v h' w => ?_) (fun E h' w => ?_)
  · obtain ⟨w1, w2, q2, w3, w4, w5, w6, w7, w8⟩ := w
    cases w1
    refine iX0_searchUnitsLeft_22 rfl ?_
    exact l_X0_search hn hB (fun g q' k b1 b2 b3 b4 b5 => ⟨(hs1.trans w2).trans b1, q', b2, Or.inl ⟨k, rfl, b3, b4, b5⟩⟩) (fun g q' b1 b2 b4 b3 => ⟨(hs1.trans w2).trans b1, q', b2, Or.inr ⟨rfl, b4, b3⟩⟩) 11 0 h' q2 (by omega) z_same.rf w3 w4 (Nat.zero_le _) ⟨w7, fun k' hk' => by omega⟩
  · cases w.1
end ZSearch
