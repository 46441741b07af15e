/-! ===== serveFirst ===== -/
theorem n_sum_last (G : Nat → Nat) (k x : Nat) : n_sum (nu G k x) (k + 1) = n_sum G k + x := by
  show n_sum (nu G k x) k + nu G k x k = _
  rw [nu_s, n_sum_cong (f := nu G k x) (g := G) (fun j hj => nu_n (by omega))]
theorem g_cut_cong {s : Nat} {GS GS' U D : Nat → Nat} (h : ∀ i, i < s → GS i = GS' i) (S : Nat) : g_cut s GS U D S = g_cut s GS' U D S := by
  unfold g_cut
  congr 1
  exact n_sum_cong (fun i hi => by rw [h i hi])
theorem g_tight_cong {s : Nat} {GS GS' U D G G' : Nat → Nat} (h : ∀ i, i < s → GS i = GS' i) (h2 : ∀ i, i < s → G i = G' i) (H : g_tight s GS U D G) : g_tight s GS' U D G' := by
  obtain ⟨S, hS, e⟩ := H
  exact ⟨S, hS, by rw [← n_sum_cong h2, e, g_cut_cong h]⟩
def n_pre (f g : Nat → Nat) (k : Nat) : Nat → Nat := fun c => if c < k then f c else g c
theorem n_pre_up (f g : Nat → Nat) (k : Nat) : nu (n_pre f g k) k (f k) = n_pre f g (k + 1) := by
  funext j
  unfold nu n_pre
  by_cases h : j = k
  · subst h; rw [if_pos rfl, if_pos (by omega)]
  · rw [if_neg h]
    by_cases h2 : j < k
    · rw [if_pos h2, if_pos (by omega)]
    · rw [if_neg h2, if_neg (by omega)]
/-- what serveFirst leaves: m needs are served; G is what they get -/
def g_served (σ : zSt) (m : Nat) (GS UL U : Nat → Nat) (GV : Nat → Nat → Nat) (G ND NG : Nat → Nat) : Prop :=
  g_flow m GS UL U GV G ∧ (∀ i, i < m → GS i = NG i) ∧ (∀ i, i < m → G i ≤ ND i) ∧ g_tight m GS U ND G ∧ ∀ c, c < s_nR σ → U c = s_RU σ c
section ZFirst
variable {Z : zZ} {h : zH} {ad : Nat → Nat} {σ : zSt} {d hm : Nat} {L : List (Nat × Nat × Nat × Nat)} {NM NP NV ND NG GR : Nat → Nat} {Q : zO → zH → Prop}
theorem l_X5_serveFirst1 {GS UL : Nat → Nat} {GV : Nat → Nat → Nat} {s : Nat} (hC : z_cls Z h ad σ)
    (hq : ∀ (g : zH) (q : gS), z_same 14 199 h g → z_give0 g ad s GS (n_pre (s_RU σ) UL (s_nR σ)) GV q → z_J Z mX5_serveFirst (zR 5 111 0 0) 0 0 Q 53 [.ref (ad 1), .int (nI hm), .int (nI d), .int (nI (s_nR σ))] [] g) :
    ∀ n k (g : zH) (q : gS), k + n = s_nR σ → z_same 14 199 h g → z_give0 g ad s GS (n_pre (s_RU σ) UL k) GV q →
      z_J Z mX5_serveFirst (zR 5 111 0 0) 0 0 Q 14 [.ref (ad 1), .int (nI hm), .int (nI d), .int (nI k)] [] g := by
  intro n
  induction n with
  | zero =>
    intro k g q hk hs hG
    obtain rfl : k = s_nR σ := by omega
    obtain ⟨hok, h1, ⟨h2, h3⟩, -, -⟩ := hC.kept hs
    obtain ⟨x1, x2, hl⟩ := h2.obj
    refine iX5_serveFirst_14 rfl ?_
    refine iX5_serveFirst_16 h1 rfl ?_
    refine iX5_serveFirst_19 (R' := zR 0 0 0 0) rfl rfl hl (z_rmo rfl) (c_Jx4a65c_size h2) (z_qr ?_) z_qx
    refine iX5_serveFirst_22 (fun cc => ?_) (fun cc => ?_)
    · exact hq g q hs hG
    · exact absurd (Int32.le_refl _) cc
  | succ n ih =>
    intro k g q hk hs hG
    obtain ⟨hok, h1, ⟨h2, h3⟩, -, -⟩ := hC.kept hs
    obtain ⟨x1, x2, hl⟩ := h2.obj
    have hr := h3 k (by omega)
    unfold z_right at hr
    have hb := hok.1
    have m0 := hG.1
    refine iX5_serveFirst_14 rfl ?_
    refine iX5_serveFirst_16 h1 rfl ?_
    refine iX5_serveFirst_19 (R' := zR 0 0 0 0) rfl rfl hl (z_rmo rfl) (c_Jx4a65c_size h2) (z_qr ?_) z_qx
    refine iX5_serveFirst_22 (fun cc => ?_) (fun cc => ?_)
    · have := n_le cc; omega
    · refine iX5_serveFirst_25 rfl ?_
      refine iX5_serveFirst_26 h1 rfl ?_
      refine iX5_serveFirst_29 rfl ?_
      refine iX5_serveFirst_31 h1 rfl ?_
      refine iX5_serveFirst_34 rfl ?_
      refine iX5_serveFirst_35 (R' := zR 2 43 0 0) rfl rfl hl (z_rmo rfl) (c_Jx4a65c_get h2 (i := k) (by omega)) (z_qr ?_) z_qx
      refine iX5_serveFirst_38 hr ?_
      refine iX5_serveFirst_41 hr rfl ?_
      refine iX5_serveFirst_44 (R' := zR 1 20 0 0) rfl rfl m0 (z_rmo rfl) (c_X0_putUnits (r := k) (u := s_RU σ k) (by omega) hG) (fun v h' w => ?_) (fun E h' w => ?_)
      · obtain ⟨w1, w2, w3⟩ := w
        cases w1
        refine iX5_serveFirst_47 rfl ?_
        show z_J Z mX5_serveFirst (zR 5 111 0 0) 0 0 Q 14 [.ref (ad 1), .int (nI hm), .int (nI d), .int (nI k + nI 1)] [] h'
        rw [nI_add]
        rw [n_pre_up] at w3
        exact ih (k + 1) h' q (by omega) (hs.trans w2) w3
      · cases w.1
theorem l_X5_serveFirst2 {U : Nat → Nat} (hC : z_cls Z h ad σ) (hN : z_needs h 7 (ad 7) L.length NM NP NV ND NG GR) (hm1 : hm < 1000)
    (hq : ∀ (g : zH) (q : gS) (GS UL : Nat → Nat) (GV : Nat → Nat → Nat) (G : Nat → Nat), z_same 14 199 h g → z_give0 g ad (min hm L.length) GS UL GV q → g_served σ (min hm L.length) GS UL U GV G ND NG → Q (.inl (some (.int (nI (n_sum G (min hm L.length)))))) g) :
    ∀ n k (g : zH) (q : gS) (GS UL : Nat → Nat) (GV : Nat → Nat → Nat) (G : Nat → Nat), k + n = min hm L.length → z_same 14 199 h g → z_give0 g ad k GS UL GV q → g_served σ k GS UL U GV G ND NG →
      z_J Z mX5_serveFirst (zR 5 111 0 0) 0 0 Q 58 [.ref (ad 1), .int (nI hm), .int (nI d), .int (nI (n_sum G k)), .int (nI k)] [] g := by
  have hlen := hN.2.1
  intro n
  induction n with
  | zero =>
    intro k g q GS UL GV G hk hs hG hS
    have hk : k = min hm L.length := by omega
    have h1 := (hC.kept hs).2.1
    have hN' := hN.kept (h' := g) (fun x _ _ => hs x (by omega))
    obtain ⟨a1, a2, a3, a4, a5, a6, k0, -⟩ := id hN'.1
    have fin : z_J Z mX5_serveFirst (zR 5 111 0 0) 0 0 Q 112 [.ref (ad 1), .int (nI hm), .int (nI d), .int (nI (n_sum G k)), .int (nI k)] [] g := by
      refine iX5_serveFirst_112 rfl ?_
      exact iX5_serveFirst_113 (Nat.le_of_ble_eq_true rfl) (Nat.le_of_ble_eq_true rfl) (by rw [hk]; exact hq g q GS UL GV G hs (hk ▸ hG) (hk ▸ hS))
    refine iX5_serveFirst_58 rfl ?_
    refine iX5_serveFirst_61 (fun cc => ?_) (fun cc => ?_)
    · exact fin
    · have c1 := n_nle cc
      refine iX5_serveFirst_64 rfl ?_
      refine iX5_serveFirst_67 h1 rfl ?_
      refine iX5_serveFirst_70 k0 rfl ?_
      refine iX5_serveFirst_73 (fun cc => ?_) (fun cc => ?_)
      · exact fin
      · have c2 := n_nle cc
        omega
  | succ n ih =>
    intro k g q GS UL GV G hk hs hG hS
    obtain ⟨s1, s2, s3, s4, s5⟩ := hS
    have h1 := (hC.kept hs).2.1
    have hN' := hN.kept (h' := g) (fun x _ _ => hs x (by omega))
    obtain ⟨a1, a2, a3, a4, a5, a6, k0, k1, k2, k3, k4, k5, k6⟩ := id hN'.1
    have hb := hN'.2.2 k
    have m0 := hG.1
    refine iX5_serveFirst_58 rfl ?_
    refine iX5_serveFirst_61 (fun cc => ?_) (fun cc => ?_)
    · have := n_le cc; omega
    · refine iX5_serveFirst_64 rfl ?_
      refine iX5_serveFirst_67 h1 rfl ?_
      refine iX5_serveFirst_70 k0 rfl ?_
      refine iX5_serveFirst_73 (fun cc => ?_) (fun cc => ?_)
      · have := n_le cc; omega
      · refine iX5_serveFirst_76 rfl ?_
        refine iX5_serveFirst_78 h1 rfl ?_
        refine iX5_serveFirst_81 rfl ?_
        refine iX5_serveFirst_82 h1 rfl ?_
        refine iX5_serveFirst_85 k0 rfl ?_
        refine iX5_serveFirst_88 rfl ?_
        refine iX5_serveFirst_90 k5 rfl (by omega) (by omega) ?_
        refine iX5_serveFirst_91 rfl ?_
        refine iX5_serveFirst_92 h1 rfl ?_
        refine iX5_serveFirst_95 k0 rfl ?_
        refine iX5_serveFirst_98 rfl ?_
        refine iX5_serveFirst_100 k4 rfl (by omega) (by omega) ?_
        refine iX5_serveFirst_101 (R' := zR 3 67 0 0) rfl rfl m0 (z_rmo rfl) (c_X0_serve (gn := NG k) (wanted := ND k) (by omega) (by omega) (by omega) hG s1) (fun v h' w => ?_) (fun E h' w => ?_)
        · obtain ⟨UN, GN, q', got, w1, w2, w3, w4, w5⟩ := w
          cases w1
          refine iX5_serveFirst_104 rfl ?_
          show z_J Z mX5_serveFirst (zR 5 111 0 0) 0 0 Q 58 [.ref (ad 1), .int (nI hm), .int (nI d), .int (nI (n_sum G k) + nI got), .int (nI k + nI 1)] [] h'
          rw [nI_add, nI_add, ← n_sum_last]
          have hG' : ∀ i, i < k → nu G k got i ≤ ND i := fun i hi => by rw [nu_n (by omega)]; exact s3 i hi
          refine ih (k + 1) h' q' _ UN GN _ (by omega) (hs.trans w2) w3 ⟨w4, fun i hi => ?_, fun i hi => ?_, ?_, s5⟩
          · by_cases e : i = k
            · subst e; rw [nu_s]
            · rw [nu_n e]; exact s2 i (by omega)
          · by_cases e : i = k
            · subst e; rw [nu_s]; exact w5.1
            · exact hG' i (by omega)
          · refine g_tight_step w4 hG' (by rw [nu_s]; exact w5) (g_tight_cong (fun i hi => ?_) (fun i hi => ?_) s4)
            · rw [nu_n (by omega)]
            · rw [nu_n (by omega)]
        · obtain ⟨UN, GN, q', got, w1, -⟩ := w
          cases w1
theorem c_X5_serveFirst {GS0 UL0 : Nat → Nat} {GV0 : Nat → Nat → Nat} {s0 : Nat} {q0 : gS} (hC : z_cls Z h ad σ) (hd : d < 1000) (hA : n_agree L NM NP NV ND) (hp5 : ∀ (k : Nat) (q : Nat × Nat × Nat × Nat), L[k]? = some q → q.2.1 < 5) (hN : z_needs h 7 (ad 7) L.length NM NP NV ND NG GR) (hm1 : hm < 1000)
    (hG : z_give0 h ad s0 GS0 UL0 GV0 q0) (hU : ∀ c, c < 10 → UL0 c ≤ 100) :
    z_J Z mX5_serveFirst (zR 5 111 0 0) 0 0 (fun o g => ∃ (NG' GS UL U : Nat → Nat) (GV : Nat → Nat → Nat) (G : Nat → Nat) (q : gS), o = .inl (some (.int (nI (n_sum G (min hm L.length))))) ∧ z_same 12 199 h g ∧ z_needs g 7 (ad 7) L.length NM NP NV ND NG' GR ∧ g_ok σ d L NG' ∧ z_give0 g ad (min hm L.length) GS UL GV q ∧ g_served σ (min hm L.length) GS UL U GV G ND NG')
      0 [.ref (ad 1), .int (nI hm), .int (nI d)] [] h := by
  have h1 := hC.2.1
  refine iX5_serveFirst_0 rfl ?_
  refine iX5_serveFirst_2 (R' := zR 4 89 0 0) rfl rfl h1 (z_rmo rfl) (c_X5_findGivers hC hd hA hp5 hN) (fun v h' w => ?_) (fun E h' w => ?_)
  · obtain ⟨w1, w2, NG', w3, w4⟩ := w
    cases w1
    have hC1 := hC.kept w2
    have h1' := hC1.2.1
    have hG1 : z_give0 h' ad s0 GS0 UL0 GV0 q0 := by
      obtain ⟨k0, ⟨eo, ko, ko2⟩, k16, k17, k18, k19, k20, kr⟩ := hG
      exact ⟨by rw [w2 _ (by omega)]; exact k0, ⟨eo, by rw [w2 _ (by omega)]; exact ko, ko2⟩, by rw [w2 _ (by omega)]; exact k16, by rw [w2 _ (by omega)]; exact k17, by rw [w2 _ (by omega)]; exact k18, by rw [w2 _ (by omega)]; exact k19, by rw [w2 _ (by omega)]; exact k20, fun i hi => by rw [w2 _ (by omega)]; exact kr i hi⟩
    have m0 := hG1.1
    refine iX5_serveFirst_5 rfl ?_
    refine iX5_serveFirst_6 h1' rfl ?_
    refine iX5_serveFirst_9 (R' := zR 0 0 0 0) rfl rfl m0 (z_rmo rfl) (c_X0_start hG1) (fun v h' w => ?_) (fun E h' w => ?_)
    · obtain ⟨y1, y2, y3⟩ := w
      cases y1
      refine iX5_serveFirst_12 rfl ?_
      refine l_X5_serveFirst1 (hC1.kept y2) (fun g q b1 b2 => ?_) (s_nR σ) 0 h' q0 (by omega) z_same.rf y3
      refine iX5_serveFirst_53 rfl ?_
      have hs2 := y2.trans b1
      refine l_X5_serveFirst2 (U := n_pre (s_RU σ) UL0 (s_nR σ)) (hC1.kept hs2) (w3.kept (fun x _ _ => hs2 x (by omega))) hm1 (fun g' q' GS UL GV G b3 b4 b5 => ⟨NG', GS, UL, _, GV, G, q', rfl, ?_, w3.kept (fun x _ _ => (hs2.trans b3) x (by omega)), w4, b4, b5⟩) (min hm L.length) 0 g q GS0 _ GV0 (fun _ => 0) (by omega) z_same.rf b2 ⟨⟨fun i hi => by omega, fun i c hi => by omega, fun c hc => rfl, fun i hi => by omega, fun c hc => ?_⟩, fun i hi => by omega, fun i hi => by omega, g_tight0 _ _ _ _, fun c hc => if_pos hc⟩
      · unfold n_pre
        split
        · exact (hC.1.1.2 c).2.2.2.2
        · exact hU c hc
      · exact (w2.wide (Nat.le_refl _) (by omega)).trans ((hs2.trans b3).wide (by omega) (Nat.le_refl _))
    · cases w.1
  · cases w.1
end ZFirst
