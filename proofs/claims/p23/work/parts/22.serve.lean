/-! ===== serve ===== -/
theorem n_sum_ge {f : Nat → Nat} {k : Nat} : ∀ {n : Nat}, k < n → f k ≤ n_sum f n
  | 0, h => by omega
  | n + 1, h => by
    show f k ≤ n_sum f n + f n
    by_cases e : k = n
    · subst e; omega
    · have := n_sum_ge (f := f) (k := k) (n := n) (by omega)
      omega
theorem n_sum_0 {f : Nat → Nat} : ∀ {n : Nat}, (∀ k, k < n → f k = 0) → n_sum f n = 0
  | 0, _ => rfl
  | n + 1, h => by
    show n_sum f n + f n = 0
    rw [n_sum_0 (fun k hk => h k (by omega)), h n (by omega)]
def nrow (G : Nat → Nat → Nat) (i : Nat) (f : Nat → Nat) : Nat → Nat → Nat := fun x => if x = i then f else G x
theorem nrow_s {G : Nat → Nat → Nat} {i : Nat} {f : Nat → Nat} : nrow G i f i = f := if_pos rfl
theorem nrow_n {G : Nat → Nat → Nat} {i x : Nat} {f : Nat → Nat} (h : x ≠ i) : nrow G i f x = G x := if_neg h
/-- what s needs have of the rights: GS who can give, U the units, UL what is left, GV who has what, G how much -/
def g_flow (s : Nat) (GS UL U : Nat → Nat) (GV : Nat → Nat → Nat) (G : Nat → Nat) : Prop :=
  (∀ i, i < s → n_sum (GV i) 10 = G i) ∧ (∀ i c, i < s → c < 10 → 0 < GV i c → (GS i).testBit c = true) ∧ (∀ c, c < 10 → UL c + n_sum (fun i => GV i c) s = U c) ∧ (∀ i, i < s → GS i < 1024) ∧ ∀ c, c < 10 → U c ≤ 100
theorem g_flow.bnd {s : Nat} {GS UL U : Nat → Nat} {GV : Nat → Nat → Nat} {G : Nat → Nat} (H : g_flow (s + 1) GS UL U GV G) : g_bnd s GS UL GV := by
  obtain ⟨h1, h2, h3, h4, h5⟩ := H
  refine ⟨fun i hi => h4 i (by omega), fun x hx => ?_, fun i x hi hx => ?_⟩
  · have := h3 x hx; have := h5 x hx; omega
  · have := h3 x hx
    have := h5 x hx
    have := n_sum_ge (f := fun i => GV i x) (k := i) (n := s + 1) (by omega)
    omega
theorem g_flow.next {s u : Nat} {GS UL UN U : Nat → Nat} {GV GN : Nat → Nat → Nat} {G : Nat → Nat} {got : Nat} (H : g_flow (s + 1) GS UL U GV (nu G s got)) (hg : g_gave s u GS UL UN GV GN) : g_flow (s + 1) GS UN U GN (nu G s (got + u)) := by
  obtain ⟨h1, h2, h3, h4, h5⟩ := H
  obtain ⟨g1, g2, g3, g4⟩ := hg
  refine ⟨fun i hi => ?_, fun i c hi hc hp => ?_, fun c hc => ?_, h4, h5⟩
  · by_cases e : i = s
    · subst e
      have := h1 i hi
      rw [nu_s] at this ⊢
      omega
    · have := h1 i hi
      rw [nu_n e] at this ⊢
      rw [g1 i (by omega)]
      exact this
  · rcases g4 i c (by omega) hc hp with z | z
    · exact h2 i c hi hc z
    · exact z
  · have := h3 c hc
    have := g3 c hc
    omega
/-- how a need is left: it has all that it wanted, or nothing more can be had for it -/
def g_end (s got wanted : Nat) (GS UL : Nat → Nat) (GV : Nat → Nat → Nat) : Prop := got ≤ wanted ∧ (got = wanted ∨ ∃ b, b < 1024 ∧ g_closed s GS UL GV b)
section ZServe
variable {Z : zZ} {h : zH} {ad : Nat → Nat} {s gn wanted : Nat} {GS UL U : Nat → Nat} {GV : Nat → Nat → Nat} {G : Nat → Nat} {q : gS} {Q : zO → zH → Prop}
theorem l_X0_serve (hs : s < 41) (hw : wanted < 1000000)
    (hq : ∀ (g : zH) (UL : Nat → Nat) (GV : Nat → Nat → Nat) (q : gS) (got : Nat), z_same 14 199 h g → z_give0 g ad (s + 1) GS UL GV q → g_flow (s + 1) GS UL U GV (nu G s got) → g_end s got wanted GS UL GV → Q (.inl (some (.int (nI got)))) g) :
    ∀ n step got (g : zH) (UL : Nat → Nat) (GV : Nat → Nat → Nat) (q : gS), got + n = wanted → step ≤ got → z_same 14 199 h g → z_give0 g ad (s + 1) GS UL GV q → g_flow (s + 1) GS UL U GV (nu G s got) →
      z_J Z mX0_serve (zR 3 67 0 0) 0 0 Q 52 [.ref (ad 14), .int (nI gn), .int (nI wanted), .int (nI s), .int (nI got), .int (nI step)] [] g := by
  intro n
  induction n using Nat.strongRecOn with
  | _ n ih =>
    intro step got g UL GV q hn hst hsm hG hF
    refine iX0_serve_52 rfl ?_
    refine iX0_serve_55 (fun cc => ?_) (fun cc => ?_)
    · have := n_le cc
      refine iX0_serve_102 rfl ?_
      exact iX0_serve_104 (Nat.le_of_ble_eq_true rfl) (Nat.le_of_ble_eq_true rfl) (hq g UL GV q got hsm hG hF ⟨by omega, Or.inl (by omega)⟩)
    · refine iX0_serve_58 rfl ?_
      refine iX0_serve_61 (fun cc => ?_) (fun cc => ?_)
      · have := n_le cc
        refine iX0_serve_102 rfl ?_
        exact iX0_serve_104 (Nat.le_of_ble_eq_true rfl) (Nat.le_of_ble_eq_true rfl) (hq g UL GV q got hsm hG hF ⟨by omega, Or.inl (by omega)⟩)
      · have hlt := n_nle cc
        have m0 := hG.1
        refine iX0_serve_64 rfl ?_
        refine iX0_serve_66 (R' := zR 1 24 0 0) rfl rfl m0 (z_rmo rfl) (c_X0_search (need := s) hs hF.bnd hG) (fun v h' w => ?_) (fun E h' w => ?_)
        · obtain ⟨w1, q2, w2, ⟨k, w3, w4, w5, w6⟩ | ⟨w3, w4, w5⟩⟩ := w
          · cases w3
            have hx10 := w4.2.2.2.2.1 k w5
            refine iX0_serve_69 rfl ?_
            refine iX0_serve_74 (fun cc => ?_) (fun cc => ?_)
            · have m1 := w2.1
              refine iX0_serve_80 rfl ?_
              show z_J Z mX0_serve (zR 3 67 0 0) 0 0 Q 90 [.ref (ad 14), .int (nI gn), .int (nI wanted), .int (nI s), .int (nI got), .int (nI step), .int (nI (q2.2.2.1 k))] [.int (nI wanted - nI got), .int (nI (q2.2.2.1 k)), .int (nI s), .ref (ad 14), .int (nI got)] h'
              rw [pk_sub (by omega)]
              refine iX0_serve_90 (R' := zR 2 41 0 0) rfl rfl m1 (z_rmo rfl) (c_X0_giveAlong (need := s) (wanted := wanted - got) w2 w4 hs hF.bnd (by omega) (by omega) w5 w6 (by omega) (by omega)) (fun v h' y => ?_) (fun E h' y => ?_)
              · obtain ⟨u, GN, y1, y2, y3, y4, y5, y6, y7⟩ := y
                cases y1
                refine iX0_serve_93 rfl ?_
                refine z_J.take 6 ?_
                show z_J Z mX0_serve (zR 3 67 0 0) 0 0 Q 52 [.ref (ad 14), .int (nI gn), .int (nI wanted), .int (nI s), .int (nI got + nI u), .int (nI step + nI 1)] [] h'
                rw [nI_add, nI_add]
                exact ih (n - u) (by omega) (step + 1) (got + u) h' _ _ q2 (by omega) (by omega) ((hsm.trans w1).trans y5) y6 (hF.next y7)
              · obtain ⟨u, GN, y1, -⟩ := y
                cases y1
            · exact absurd cc (fun z => (n_nneg (a := q2.2.2.1 k) (by rw [z]; decide)).elim)
          · cases w3
            refine iX0_serve_69 rfl ?_
            refine iX0_serve_74 (fun cc => ?_) (fun cc => ?_)
            · exact absurd rfl cc
            · refine iX0_serve_77 rfl ?_
              refine iX0_serve_102 rfl ?_
              exact iX0_serve_104 (Nat.le_of_ble_eq_true rfl) (Nat.le_of_ble_eq_true rfl) (hq h' UL GV q2 got (hsm.trans w1) w2 hF ⟨by omega, Or.inr ⟨_, w4, w5⟩⟩)
        · obtain ⟨-, q2, -, ⟨k, w3, -⟩ | ⟨w3, -⟩⟩ := w <;> cases w3
theorem c_X0_serve (hs : s < 41) (hgn : gn < 1024) (hw : wanted < 1000000) (hG : z_give0 h ad s GS UL GV q) (hF : g_flow s GS UL U GV G) :
    z_J Z mX0_serve (zR 3 67 0 0) 0 0 (fun o g => ∃ (UN : Nat → Nat) (GN : Nat → Nat → Nat) (q' : gS) (got : Nat), o = .inl (some (.int (nI got))) ∧ z_same 14 199 h g ∧ z_give0 g ad (s + 1) (nu GS s gn) UN GN q' ∧ g_flow (s + 1) (nu GS s gn) UN U GN (nu G s got) ∧ g_end s got wanted (nu GS s gn) UN GN) 0 [.ref (ad 14), .int (nI gn), .int (nI wanted)] [] h := by
  obtain ⟨k0, ⟨eo, ko, ko2⟩, k16, k17, k18, k19, k20, kr⟩ := id hG
  refine iX0_serve_0 rfl ?_
  refine iX0_serve_1 k0 rfl ?_
  refine iX0_serve_4 rfl ?_
  refine iX0_serve_5 k0 rfl ?_
  refine iX0_serve_8 k16 (by decide) ?_
  refine iX0_serve_9 (fun cc => ?_) (fun cc => ?_)
  · refine iX0_serve_14 rfl ?_
    refine iX0_serve_15 k0 rfl ?_
    refine iX0_serve_18 rfl ?_
    refine iX0_serve_21 k0 rfl ?_
    refine iX0_serve_24 rfl ?_
    refine iX0_serve_26 k0 rfl ?_
    refine iX0_serve_29 rfl ?_
    generalize hg1 : z_u h 14 _ = g1
    have l0 : g1 14 = some (ad 14, .inr (1, [.ref (ad 15), .ref (ad 16), .ref (ad 17), .int (nI (s + 1)), .ref (ad 18), .ref (ad 19), .ref (ad 20), .int (nI q.1), .int (nI q.2.1)])) := by
      rw [← hg1, z_u_s, ← nI_add]; rfl
    have f1 : ∀ y, y ≠ 14 → g1 y = h y := fun y hy => by rw [← hg1, z_u_n hy]
    refine iX0_serve_30 l0 rfl ?_
    refine iX0_serve_33 rfl ?_
    refine iX0_serve_35 ((f1 16 (by omega)).trans k16) rfl (by omega) (by omega) ?_
    refine iX0_serve_36 rfl ?_
    rw [n_upd]
    generalize hg2 : z_u g1 16 _ = g2
    have f2 : ∀ y, y ≠ 14 → y ≠ 16 → g2 y = h y := fun y hy hy2 => by rw [← hg2, z_u_n hy2]; exact f1 y hy
    have m0 : g2 14 = some (ad 14, .inr (1, [.ref (ad 15), .ref (ad 16), .ref (ad 17), .int (nI (s + 1)), .ref (ad 18), .ref (ad 19), .ref (ad 20), .int (nI q.1), .int (nI q.2.1)])) := by rw [← hg2, z_u_n (by omega)]; exact l0
    have mr := (f2 (100 + s) (by omega) (by omega)).trans (kr s (by omega))
    refine iX0_serve_37 m0 rfl ?_
    refine iX0_serve_40 rfl ?_
    refine iX0_serve_41 ((f2 15 (by omega) (by omega)).trans ko) rfl (by omega) (by omega) ?_
    rw [ko2 s (by omega)]
    refine iX0_serve_42 rfl ?_
    refine iX0_serve_43 (R' := zR 0 0 0 0) rfl rfl (z_rmo rfl) (c_J7_fill mr (by omega)) (z_qr ?_) z_qx
    refine iX0_serve_46 rfl ?_
    rw [n_fill_nI]
    generalize hg3 : z_u g2 (100 + s) _ = g3
    have f3 : ∀ y, y ≠ 14 → y ≠ 16 → y ≠ 100 + s → g3 y = h y := fun y hy hy2 hy3 => by rw [← hg3, z_u_n hy3]; exact f2 y hy hy2
    have hG3 : z_give0 g3 ad (s + 1) (nu GS s gn) UL (nrow GV s (n_fill (GV s) 0 10)) q := by
      refine ⟨by rw [← hg3, z_u_n (by omega)]; exact m0, ⟨eo, by rw [f3 _ (by omega) (by omega) (by omega)]; exact ko, ko2⟩, by rw [← hg3, z_u_n (by omega), ← hg2]; exact z_u_s, by rw [f3 _ (by omega) (by omega) (by omega)]; exact k17, by rw [f3 _ (by omega) (by omega) (by omega)]; exact k18, by rw [f3 _ (by omega) (by omega) (by omega)]; exact k19, by rw [f3 _ (by omega) (by omega) (by omega)]; exact k20, fun i hi => ?_⟩
      by_cases e : i = s
      · subst e; rw [nrow_s, ← hg3]; exact z_u_s
      · rw [nrow_n e, f3 _ (by omega) (by omega) (by omega)]; exact kr i hi
    have hs3 : z_same 14 199 h g3 := fun y hy => f3 y (by omega) (by omega) (by omega)
    have hz : ∀ c, c < 10 → n_fill (GV s) 0 10 c = 0 := fun c hc => if_pos hc
    have hF3 : g_flow (s + 1) (nu GS s gn) UL U (nrow GV s (n_fill (GV s) 0 10)) (nu G s 0) := by
      obtain ⟨h1, h2, h3, h4, h5⟩ := hF
      refine ⟨fun i hi => ?_, fun i c hi hc hp => ?_, fun c hc => ?_, fun i hi => ?_, h5⟩
      · by_cases e : i = s
        · subst e; rw [nu_s, nrow_s]; exact n_sum_0 hz
        · rw [nu_n e, nrow_n e]; exact h1 i (by omega)
      · by_cases e : i = s
        · subst e
          rw [nrow_s, hz c hc] at hp
          omega
        · rw [nrow_n e] at hp
          rw [nu_n e]
          exact h2 i c (by omega) hc hp
      · show UL c + (n_sum (fun i => nrow GV s (n_fill (GV s) 0 10) i c) s + nrow GV s (n_fill (GV s) 0 10) s c) = U c
        rw [nrow_s, hz c hc, ← h3 c hc]
        congr 1
        exact n_sum_cong (fun i hi => by rw [nrow_n (by omega)])
      · by_cases e : i = s
        · subst e; rw [nu_s]; exact hgn
        · rw [nu_n e]; exact h4 i (by omega)
    exact l_X0_serve (h := h) (gn := gn) hs hw (fun g UL GV q got b1 b2 b3 b4 => ⟨UL, GV, q, got, rfl, b1, b2, b3, b4⟩) wanted 0 0 g3 UL _ q (by omega) (Nat.le_refl _) hs3 hG3 hF3
  · have := n_nlt cc; omega
theorem c_X0_start (hG : z_give0 h ad s GS UL GV q) : z_J Z mX0_start (zR 0 0 0 0) 0 0 (fun o g => o = .inl none ∧ z_same 14 199 h g ∧ z_give0 g ad 0 GS UL GV q) 0 [.ref (ad 14)] [] h := by
  obtain ⟨k0, ⟨eo, ko, ko2⟩, k16, k17, k18, k19, k20, kr⟩ := hG
  refine iX0_start_0 rfl ?_
  refine iX0_start_2 k0 rfl ?_
  exact iX0_start_5 (Nat.le_of_ble_eq_true rfl) (Nat.le_of_ble_eq_true rfl) ⟨rfl, z_same.rf.u (by omega) (by omega), z_u_s, ⟨eo, by rw [z_u_n (by omega)]; exact ko, ko2⟩, by rw [z_u_n (by omega)]; exact k16, by rw [z_u_n (by omega)]; exact k17, by rw [z_u_n (by omega)]; exact k18, by rw [z_u_n (by omega)]; exact k19, by rw [z_u_n (by omega)]; exact k20, fun i hi => by rw [z_u_n (by omega)]; exact kr i hi⟩
theorem c_X0_putUnits {r u : Nat} (hr : r < 10) (hG : z_give0 h ad s GS UL GV q) : z_J Z mX0_putUnits (zR 1 20 0 0) 0 0 (fun o g => o = .inl none ∧ z_same 14 199 h g ∧ z_give0 g ad s GS (nu UL r u) GV q) 0 [.ref (ad 14), .int (nI r), .int (nI u)] [] h := by
  obtain ⟨k0, ⟨eo, ko, ko2⟩, k16, k17, k18, k19, k20, kr⟩ := id hG
  refine iX0_putUnits_0 rfl ?_
  refine iX0_putUnits_1 (R' := zR 0 0 0 0) rfl rfl (z_rmo rfl) (c_X0_isRight (o := some r) (fun y hy => by cases hy; exact hr)) (z_qr ?_) z_qx
  refine iX0_putUnits_4 (fun cc => absurd (show (1 : Int32) = 0 from cc) (by decide)) (fun _ => ?_)
  refine iX0_putUnits_7 rfl ?_
  refine iX0_putUnits_8 k0 rfl ?_
  refine iX0_putUnits_11 rfl ?_
  refine iX0_putUnits_13 k17 rfl (by omega) (by omega) ?_
  rw [n_upd]
  exact iX0_putUnits_14 (Nat.le_of_ble_eq_true rfl) (Nat.le_of_ble_eq_true rfl) ⟨rfl, z_same.rf.u (by omega) (by omega), hG.putU r u⟩
end ZServe
