/-! ===== giveAlong ===== -/
def nuu (G : Nat → Nat → Nat) (i c v : Nat) : Nat → Nat → Nat := fun x => if x = i then nu (G x) c v else G x
theorem nuu_s {G : Nat → Nat → Nat} {i c v : Nat} : nuu G i c v i = nu (G i) c v := if_pos rfl
theorem nuu_n {G : Nat → Nat → Nat} {i c v x : Nat} (h : x ≠ i) : nuu G i c v x = G x := if_neg h
theorem nuu_col (G : Nat → Nat → Nat) (i c v d : Nat) : (fun x => nuu G i c v x d) = nu (fun x => G x d) i (if d = c then v else G i d) := by
  funext x
  unfold nuu nu
  by_cases h : x = i
  · subst h; rw [if_pos rfl, if_pos rfl]
  · rw [if_neg h, if_neg h]
theorem z_give0.put {h : zH} {ad : Nat → Nat} {s : Nat} {GS UL : Nat → Nat} {GV : Nat → Nat → Nat} {q : gS} (H : z_give0 h ad s GS UL GV q) (i c v : Nat) : z_give0 (z_u h (100 + i) (ad (100 + i), .inl (0, 10, .inl (fun k => nI (nu (GV i) c v k))))) ad s GS UL (nuu GV i c v) q := by
  obtain ⟨k0, ⟨eo, ko, ko2⟩, k16, k17, k18, k19, k20, kr⟩ := H
  refine ⟨by rw [z_u_n (by omega)]; exact k0, ⟨eo, by rw [z_u_n (by omega)]; exact ko, ko2⟩, by rw [z_u_n (by omega)]; exact k16, by rw [z_u_n (by omega)]; exact k17, by rw [z_u_n (by omega)]; exact k18, by rw [z_u_n (by omega)]; exact k19, by rw [z_u_n (by omega)]; exact k20, fun j hj => ?_⟩
  by_cases e : j = i
  · subst e; rw [nuu_s]; exact z_u_s
  · rw [nuu_n e, z_u_n (by omega)]; exact kr j hj
theorem z_give0.putU {h : zH} {ad : Nat → Nat} {s : Nat} {GS UL : Nat → Nat} {GV : Nat → Nat → Nat} {q : gS} (H : z_give0 h ad s GS UL GV q) (c v : Nat) : z_give0 (z_u h 17 (ad 17, .inl (0, 10, .inl (fun k => nI (nu UL c v k))))) ad s GS (nu UL c v) GV q := by
  obtain ⟨k0, ⟨eo, ko, ko2⟩, k16, k17, k18, k19, k20, kr⟩ := H
  exact ⟨by rw [z_u_n (by omega)]; exact k0, ⟨eo, by rw [z_u_n (by omega)]; exact ko, ko2⟩, by rw [z_u_n (by omega)]; exact k16, z_u_s, by rw [z_u_n (by omega)]; exact k18, by rw [z_u_n (by omega)]; exact k19, by rw [z_u_n (by omega)]; exact k20, fun j hj => by rw [z_u_n (by omega)]; exact kr j hj⟩
/-- u can go along the whole way from the queue's place j -/
def g_all (q : gS) (GV : Nat → Nat → Nat) (u j : Nat) : Prop := ∀ P : Nat → Prop, (∀ i, q.2.2.2.1 (q.2.2.1 i) = none → P i) → (∀ i i', i' < i → q.2.2.2.1 (q.2.2.1 i) = some (q.2.2.1 i') → u ≤ GV (q.2.2.2.2 (q.2.2.1 i)) (q.2.2.1 i') → P i' → P i) → P j
/-- on the way, with u units owed to the right x -/
def g_L (need u : Nat) (GS UL UN : Nat → Nat) (GV GC : Nat → Nat → Nat) (x : Nat) : Prop :=
  (∀ i, i < need → n_sum (GC i) 10 = n_sum (GV i) 10) ∧ GC need = GV need ∧
  (∀ c, c < 10 → UN c + n_sum (fun i => GC i c) (need + 1) + (if c = x then u else 0) = UL c + n_sum (fun i => GV i c) (need + 1)) ∧
  ∀ i c, i ≤ need → c < 10 → 0 < GC i c → 0 < GV i c ∨ (GS i).testBit c = true
theorem g_hop {need u x y e : Nat} {GS UL UN : Nat → Nat} {GV GC : Nat → Nat → Nat} (H : g_L need u GS UL UN GV GC x) (hx : x < 10) (hy : y < 10) (hxy : y ≠ x) (he : e < need) (hu : u ≤ GC e y) (hb : (GS e).testBit x = true) (hpos : 0 < GV e y) :
    g_L need u GS UL UN GV (nuu (nuu GC e x (GC e x + u)) e y (GC e y - u)) y := by
  obtain ⟨h1, h2, h3, h4⟩ := H
  have e1 : nuu (nuu GC e x (GC e x + u)) e y (GC e y - u) e = nu (nu (GC e) x (GC e x + u)) y (GC e y - u) := by rw [nuu_s, nuu_s]
  refine ⟨fun i hi => ?_, ?_, fun c hc => ?_, fun i c hi hc hp => ?_⟩
  · by_cases ei : i = e
    · subst ei
      rw [e1, ← h1 i hi]
      have a1 := n_sum_up (f := nu (GC i) x (GC i x + u)) (k := y) (x := GC i y - u) (n := 10) hy
      have a2 := n_sum_up (f := GC i) (k := x) (x := GC i x + u) (n := 10) hx
      rw [nu_n hxy] at a1
      omega
    · rw [nuu_n ei, nuu_n ei]; exact h1 i hi
  · rw [nuu_n (by omega), nuu_n (by omega)]; exact h2
  · have a1 := n_sum_up (f := fun z => nuu GC e x (GC e x + u) z c) (k := e) (x := if c = y then GC e y - u else nuu GC e x (GC e x + u) e c) (n := need + 1) (by omega)
    have a2 := n_sum_up (f := fun z => GC z c) (k := e) (x := if c = x then GC e x + u else GC e c) (n := need + 1) (by omega)
    rw [← nuu_col] at a1 a2
    have h3c := h3 c hc
    have hcol : nuu GC e x (GC e x + u) e c = if c = x then GC e x + u else GC e c := by
      rw [nuu_s]
      unfold nu
      split
      · rfl
      · rfl
    rw [hcol] at a1
    by_cases c1 : c = y
    · subst c1
      rw [if_pos rfl] at a1
      rw [if_neg hxy] at a1 a2 h3c
      rw [if_pos rfl]
      omega
    · rw [if_neg c1] at a1
      rw [if_neg c1]
      by_cases c2 : c = x
      · subst c2
        rw [if_pos rfl] at a1 a2 h3c
        omega
      · rw [if_neg c2] at a1 a2 h3c
        omega
  · by_cases ei : i = e
    · subst ei
      rw [e1] at hp
      by_cases c1 : c = y
      · subst c1; exact Or.inl hpos
      · rw [nu_n c1] at hp
        by_cases c2 : c = x
        · subst c2; exact Or.inr hb
        · rw [nu_n c2] at hp; exact h4 i c hi hc hp
    · rw [nuu_n ei, nuu_n ei] at hp
      exact h4 i c hi hc hp
section ZAlong
variable {Z : zZ} {h : zH} {ad : Nat → Nat} {s need last wanted : Nat} {GS UL : Nat → Nat} {GV : Nat → Nat → Nat} {q : gS} {Q : zO → zH → Prop}
theorem g_edge_n {k : Nat} (hI : g_in need GS GV q) (hk : k < q.1) (hz : q.2.2.2.1 (q.2.2.1 k) = none) : (GS need).testBit (q.2.2.1 k) = true := by
  rcases hI.2.2.2.2.2.2 k hk with ⟨-, -, h⟩ | ⟨k', -, h, -⟩
  · exact h
  · rw [hz] at h; cases h
theorem g_edge_s {k y : Nat} (hI : g_in need GS GV q) (hk : k < q.1) (hz : q.2.2.2.1 (q.2.2.1 k) = some y) : ∃ k', k' < k ∧ y = q.2.2.1 k' ∧ q.2.2.2.2 (q.2.2.1 k) < need ∧ 0 < GV (q.2.2.2.2 (q.2.2.1 k)) y ∧ (GS (q.2.2.2.2 (q.2.2.1 k))).testBit (q.2.2.1 k) = true := by
  rcases hI.2.2.2.2.2.2 k hk with ⟨h, -, -⟩ | ⟨k', h1, h2, h3, h4, h5⟩
  · rw [hz] at h; cases h
  · rw [hz] at h2
    have e := Option.some.inj h2
    exact ⟨k', h1, e, h3, by rw [e]; exact h4, h5⟩
theorem g_edge_x {k : Nat} (hI : g_in need GS GV q) (hns : need ≤ s) (hk : k < q.1) : ∀ y, q.2.2.2.1 (q.2.2.1 k) = some y → y < 10 ∧ q.2.2.2.2 (q.2.2.1 k) < s := by
  intro y hy
  obtain ⟨k', y1, y2, y3, y4, y5⟩ := g_edge_s hI hk hy
  exact ⟨by rw [y2]; exact hI.2.2.2.2.1 k' (by omega), by omega⟩
/-- the first loop: how much can go along -/
theorem l_X0_along1 (hG : z_give0 h ad s GS UL GV q) (hI : g_in need GS GV q) (hn : need < 41) (hB : g_bnd need GS UL GV) (hns : need ≤ s) (hs41 : s ≤ 41) {k : Nat} (hk : k < q.1)
    (hq : ∀ (u x hop : Nat), 1 ≤ u → u ≤ wanted → u ≤ UL last → g_all q GV u k → z_J Z mX0_giveAlong (zR 2 41 0 0) 0 0 Q 85 [.ref (ad 14), .int (nI need), .int (nI last), .int (nI wanted), .int (nI u), .int (nI x), .int (nI hop)] [] h) (hw : wanted < 1000000) :
    ∀ n j hop u, j < n → hop + j ≤ k → 1 ≤ u → u ≤ wanted → u ≤ UL last → (∀ u', 1 ≤ u' → u' ≤ u → g_all q GV u' j → g_all q GV u' k) →
      z_J Z mX0_giveAlong (zR 2 41 0 0) 0 0 Q 27 [.ref (ad 14), .int (nI need), .int (nI last), .int (nI wanted), .int (nI u), .int (nI (q.2.2.1 j)), .int (nI hop)] [] h := by
  obtain ⟨k0, ⟨eo, ko, ko2⟩, k16, k17, k18, k19, k20, kr⟩ := id hG
  have i1 := hI.1
  intro n
  induction n with
  | zero => intro j hop u hj; omega
  | succ n ih =>
    intro j hop u hj hh hu1 hu2 hu3 hall
    have hx10 := hI.2.2.2.2.1 j (by omega)
    refine iX0_giveAlong_27 rfl ?_
    refine iX0_giveAlong_31 (fun cc => ?_) (fun cc => ?_)
    · have := n_le cc; omega
    · cases hz : q.2.2.2.1 (q.2.2.1 j) with
      | none =>
        refine iX0_giveAlong_34 rfl ?_
        refine iX0_giveAlong_37 (R' := zR 1 20 0 0) rfl rfl k0 (z_rmo rfl) (c_X0_isExchanged hG hx10 hs41 (g_edge_x hI hns (by omega))) (z_qr ?_) z_qx
        refine iX0_giveAlong_40 (fun cc => ?_) (fun cc => ?_)
        · exact hq u _ _ hu1 hu2 hu3 (hall u hu1 (Nat.le_refl _) (fun P p1 p2 => p1 j hz))
        · exact absurd (by rw [hz]; rfl) cc
      | some y =>
        obtain ⟨j', y1, y2, y3, y4, y5⟩ := g_edge_s hI (by omega) hz
        have hy10 : y < 10 := by rw [y2]; exact hI.2.2.2.2.1 j' (by omega)
        have hgv := hB.2.2 (q.2.2.2.2 (q.2.2.1 j)) y y3 hy10
        have hro : n_o (q.2.2.2.1 (q.2.2.1 j)) = nI y := by rw [hz]; rfl
        refine iX0_giveAlong_34 rfl ?_
        refine iX0_giveAlong_37 (R' := zR 1 20 0 0) rfl rfl k0 (z_rmo rfl) (c_X0_isExchanged hG hx10 hs41 (g_edge_x hI hns (by omega))) (z_qr ?_) z_qx
        refine iX0_giveAlong_40 (fun cc => ?_) (fun cc => ?_)
        · rw [hz] at cc
          exact absurd (show (1 : Int32) = 0 from cc) (by decide)
        · refine iX0_giveAlong_43 rfl ?_
          refine iX0_giveAlong_46 k0 rfl ?_
          refine iX0_giveAlong_49 rfl ?_
          refine iX0_giveAlong_50 k0 rfl ?_
          refine iX0_giveAlong_53 rfl ?_
          refine iX0_giveAlong_55 k20 rfl (by omega) (by omega) ?_
          refine iX0_giveAlong_56 ko rfl (by omega) (by omega) ?_
          refine iX0_giveAlong_57 rfl ?_
          rw [ko2 _ (by omega)]
          refine iX0_giveAlong_58 k0 rfl ?_
          refine iX0_giveAlong_61 rfl ?_
          refine iX0_giveAlong_63 k19 rfl (by omega) (by omega) ?_
          refine iX0_giveAlong_64 (kr _ (by omega)) hro (by omega) (by omega) ?_
          refine iX0_giveAlong_65 rfl ?_
          refine iX0_giveAlong_68 rfl ?_
          rw [n_min (by omega) (by omega)]
          refine iX0_giveAlong_71 k0 rfl ?_
          refine iX0_giveAlong_74 rfl ?_
          refine iX0_giveAlong_76 k19 rfl (by omega) (by omega) ?_
          refine iX0_giveAlong_77 rfl ?_
          show z_J Z mX0_giveAlong (zR 2 41 0 0) 0 0 Q 27 [.ref (ad 14), .int (nI need), .int (nI last), .int (nI wanted), .int (nI (min u (GV (q.2.2.2.2 (q.2.2.1 j)) y))), .int (n_o (q.2.2.2.1 (q.2.2.1 j))), .int (nI hop + nI 1)] [] h
          rw [hro, nI_add, y2]
          refine ih j' (hop + 1) _ (by omega) (by omega) ?_ ?_ ?_ (fun u' a1 a2 a3 => hall u' a1 (by omega) (fun P p1 p2 => p2 j j' y1 (by rw [hz, y2]) (by rw [← y2]; rw [← y2] at a2; omega) (a3 P p1 p2)))
          · rw [← y2]; omega
          · omega
          · omega
/-- the second loop: the exchanges -/
theorem l_X0_along2 {g0 : zH} (hI : g_in need GS GV q) (hn : need < 41) (hns : need ≤ s) (hs41 : s ≤ 41) (hw : wanted < 1000000) {k u : Nat} {UN : Nat → Nat} (hk : k < q.1)
    (hq : ∀ (g : zH) (GC : Nat → Nat → Nat) (i hop : Nat), i < q.1 → z_same 14 199 g0 g → z_give0 g ad s GS UN GC q → g_L need u GS UL UN GV GC (q.2.2.1 i) → (GS need).testBit (q.2.2.1 i) = true → z_J Z mX0_giveAlong (zR 2 41 0 0) 0 0 Q 178 [.ref (ad 14), .int (nI need), .int (nI last), .int (nI wanted), .int (nI u), .int (nI (q.2.2.1 i)), .int (nI hop)] [] g)
    (hall : g_all q GV u k) : ∀ (hop : Nat) (g : zH) (GC : Nat → Nat → Nat), k < q.1 → hop + k ≤ 9 → z_same 14 199 g0 g → z_give0 g ad s GS UN GC q → g_L need u GS UL UN GV GC (q.2.2.1 k) → (∀ j, j < k → ∀ i, GC i (q.2.2.1 j) = GV i (q.2.2.1 j)) →
      z_J Z mX0_giveAlong (zR 2 41 0 0) 0 0 Q 102 [.ref (ad 14), .int (nI need), .int (nI last), .int (nI wanted), .int (nI u), .int (nI (q.2.2.1 k)), .int (nI hop)] [] g := by
  refine hall (fun k => ∀ (hop : Nat) (g : zH) (GC : Nat → Nat → Nat), k < q.1 → hop + k ≤ 9 → z_same 14 199 g0 g → z_give0 g ad s GS UN GC q → g_L need u GS UL UN GV GC (q.2.2.1 k) → (∀ j, j < k → ∀ i, GC i (q.2.2.1 j) = GV i (q.2.2.1 j)) →
      z_J Z mX0_giveAlong (zR 2 41 0 0) 0 0 Q 102 [.ref (ad 14), .int (nI need), .int (nI last), .int (nI wanted), .int (nI u), .int (nI (q.2.2.1 k)), .int (nI hop)] [] g) ?_ ?_
  · intro i hz hop g GC hi hh hsm hG hL hlow
    obtain ⟨k0, ⟨eo, ko, ko2⟩, k16, k17, k18, k19, k20, kr⟩ := id hG
    have hx10 := hI.2.2.2.2.1 i hi
    refine iX0_giveAlong_102 rfl ?_
    refine iX0_giveAlong_106 (fun cc => ?_) (fun cc => ?_)
    · have := n_le cc; omega
    · refine iX0_giveAlong_109 rfl ?_
      refine iX0_giveAlong_112 (R' := zR 1 20 0 0) rfl rfl k0 (z_rmo rfl) (c_X0_isExchanged hG hx10 hs41 (g_edge_x hI hns (by omega))) (z_qr ?_) z_qx
      refine iX0_giveAlong_115 (fun cc => ?_) (fun cc => ?_)
      · exact hq g GC i hop hi hsm hG hL (g_edge_n hI hi hz)
      · exact absurd (by rw [hz]; rfl) cc
  · intro i i' hii hz hu ih hop g GC hi hh hsm hG hL hlow
    obtain ⟨k0, ⟨eo, ko, ko2⟩, k16, k17, k18, k19, k20, kr⟩ := id hG
    have hx10 := hI.2.2.2.2.1 i hi
    have hy10 := hI.2.2.2.2.1 i' (by omega)
    obtain ⟨j', y1, y2, y3, y4, y5⟩ := g_edge_s hI hi hz
    have hne : q.2.2.1 i' ≠ q.2.2.1 i := fun z => by have := hI.2.2.2.2.2.1 i' i (by omega) hi z; omega
    have hro : n_o (q.2.2.2.1 (q.2.2.1 i)) = nI (q.2.2.1 i') := by rw [hz]; rfl
    have hgc : GC (q.2.2.2.2 (q.2.2.1 i)) (q.2.2.1 i') = GV (q.2.2.2.2 (q.2.2.1 i)) (q.2.2.1 i') := hlow i' hii _
    refine iX0_giveAlong_102 rfl ?_
    refine iX0_giveAlong_106 (fun cc => ?_) (fun cc => ?_)
    · have := n_le cc; omega
    · refine iX0_giveAlong_109 rfl ?_
      refine iX0_giveAlong_112 (R' := zR 1 20 0 0) rfl rfl k0 (z_rmo rfl) (c_X0_isExchanged hG hx10 hs41 (g_edge_x hI hns (by omega))) (z_qr ?_) z_qx
      refine iX0_giveAlong_115 (fun cc => ?_) (fun cc => ?_)
      · rw [hz] at cc
        exact absurd (show (1 : Int32) = 0 from cc) (by decide)
      · refine iX0_giveAlong_118 rfl ?_
        refine iX0_giveAlong_119 k0 rfl ?_
        refine iX0_giveAlong_122 rfl ?_
        refine iX0_giveAlong_123 k0 rfl ?_
        refine iX0_giveAlong_126 rfl ?_
        refine iX0_giveAlong_128 k20 rfl (by omega) (by omega) ?_
        refine iX0_giveAlong_129 ko rfl (by omega) (by omega) ?_
        rw [ko2 _ (by omega)]
        refine iX0_giveAlong_130 rfl ?_
        refine iX0_giveAlong_133 (kr _ (by omega)) rfl (by omega) (by omega) ?_
        refine iX0_giveAlong_134 rfl ?_
        rw [nI_add]
        refine iX0_giveAlong_137 (kr _ (by omega)) rfl (by omega) (by omega) ?_
        refine iX0_giveAlong_138 rfl ?_
        rw [n_upd]
        have hG1 := hG.put (q.2.2.2.2 (q.2.2.1 i)) (q.2.2.1 i) (GC (q.2.2.2.2 (q.2.2.1 i)) (q.2.2.1 i) + u)
        have hs1 : z_same 14 199 g0 _ := hsm.u (r := 100 + q.2.2.2.2 (q.2.2.1 i)) (x := (ad (100 + q.2.2.2.2 (q.2.2.1 i)), .inl (0, 10, .inl (fun k => nI (nu (GC (q.2.2.2.2 (q.2.2.1 i))) (q.2.2.1 i) (GC (q.2.2.2.2 (q.2.2.1 i)) (q.2.2.1 i) + u) k))))) (by omega) (by omega)
        generalize hg1 : z_u g (100 + q.2.2.2.2 (q.2.2.1 i)) _ = g1 at hG1 hs1
        try rw [hg1]
        obtain ⟨l0, ⟨eo1, lo, lo2⟩, l16, l17, l18, l19, l20, lr⟩ := id hG1
        refine iX0_giveAlong_139 l0 rfl ?_
        refine iX0_giveAlong_142 rfl ?_
        refine iX0_giveAlong_143 l0 rfl ?_
        refine iX0_giveAlong_146 rfl ?_
        refine iX0_giveAlong_148 l20 rfl (by omega) (by omega) ?_
        refine iX0_giveAlong_149 lo rfl (by omega) (by omega) ?_
        rw [lo2 _ (by omega)]
        have hrow := lr (q.2.2.2.2 (q.2.2.1 i)) (by omega)
        have hval : nuu GC (q.2.2.2.2 (q.2.2.1 i)) (q.2.2.1 i) (GC (q.2.2.2.2 (q.2.2.1 i)) (q.2.2.1 i) + u) (q.2.2.2.2 (q.2.2.1 i)) (q.2.2.1 i') = GC (q.2.2.2.2 (q.2.2.1 i)) (q.2.2.1 i') := by rw [nuu_s, nu_n hne]
        refine iX0_giveAlong_150 rfl ?_
        refine iX0_giveAlong_151 l0 rfl ?_
        refine iX0_giveAlong_154 rfl ?_
        refine iX0_giveAlong_156 l19 rfl (by omega) (by omega) ?_
        refine iX0_giveAlong_157 rfl ?_
        refine iX0_giveAlong_158 hrow hro (by omega) (by omega) ?_
        refine iX0_giveAlong_159 rfl ?_
        rw [hval, pk_sub (by omega)]
        refine iX0_giveAlong_162 hrow hro (by omega) (by omega) ?_
        refine iX0_giveAlong_163 rfl ?_
        rw [n_upd]
        have hG2 := hG1.put (q.2.2.2.2 (q.2.2.1 i)) (q.2.2.1 i') (GC (q.2.2.2.2 (q.2.2.1 i)) (q.2.2.1 i') - u)
        have hs2 : z_same 14 199 g0 _ := hs1.u (r := 100 + q.2.2.2.2 (q.2.2.1 i)) (x := (ad (100 + q.2.2.2.2 (q.2.2.1 i)), .inl (0, 10, .inl (fun k => nI (nu (nuu GC (q.2.2.2.2 (q.2.2.1 i)) (q.2.2.1 i) (GC (q.2.2.2.2 (q.2.2.1 i)) (q.2.2.1 i) + u) (q.2.2.2.2 (q.2.2.1 i))) (q.2.2.1 i') (GC (q.2.2.2.2 (q.2.2.1 i)) (q.2.2.1 i') - u) k))))) (by omega) (by omega)
        generalize hg2 : z_u g1 (100 + q.2.2.2.2 (q.2.2.1 i)) _ = g2 at hG2 hs2
        try rw [hg2]
        obtain ⟨m0, -, m16, m17, m18, m19, m20, mr⟩ := id hG2
        refine iX0_giveAlong_164 m0 rfl ?_
        refine iX0_giveAlong_167 rfl ?_
        refine iX0_giveAlong_169 m19 rfl (by omega) (by omega) ?_
        refine iX0_giveAlong_170 rfl ?_
        show z_J Z mX0_giveAlong (zR 2 41 0 0) 0 0 Q 102 [.ref (ad 14), .int (nI need), .int (nI last), .int (nI wanted), .int (nI u), .int (n_o (q.2.2.2.1 (q.2.2.1 i))), .int (nI hop + nI 1)] [] g2
        rw [hro, nI_add]
        refine ih (hop + 1) g2 _ (by omega) (by omega) hs2 hG2 (g_hop hL hx10 hy10 hne y3 (by omega) y5 (by rw [y2] at hz ⊢; exact y2 ▸ y4)) (fun j hj z => ?_)
        have n1 : q.2.2.1 j ≠ q.2.2.1 i := fun w => by have := hI.2.2.2.2.2.1 j i (by omega) hi w; omega
        have n2 : q.2.2.1 j ≠ q.2.2.1 i' := fun w => by have := hI.2.2.2.2.2.1 j i' (by omega) (by omega) w; omega
        rw [← hlow j (by omega) z]
        by_cases ez : z = q.2.2.2.2 (q.2.2.1 i)
        · rw [ez, nuu_s, nuu_s, nu_n n2, nu_n n1]
        · rw [nuu_n ez, nuu_n ez]
/-- what giveAlong does to the rows -/
def g_gave (need u : Nat) (GS UL UN : Nat → Nat) (GV GN : Nat → Nat → Nat) : Prop :=
  (∀ i, i < need → n_sum (GN i) 10 = n_sum (GV i) 10) ∧ n_sum (GN need) 10 = n_sum (GV need) 10 + u ∧
  (∀ c, c < 10 → UN c + n_sum (fun i => GN i c) (need + 1) = UL c + n_sum (fun i => GV i c) (need + 1)) ∧
  ∀ i c, i ≤ need → c < 10 → 0 < GN i c → 0 < GV i c ∨ (GS i).testBit c = true
theorem c_X0_giveAlong (hG : z_give0 h ad s GS UL GV q) (hI : g_in need GS GV q) (hn : need < 41) (hB : g_bnd need GS UL GV) (hns : need ≤ s) (hs41 : s ≤ 41) {k : Nat} (hk : k < q.1) (hu : 0 < UL (q.2.2.1 k)) (hw1 : 1 ≤ wanted) (hw : wanted < 1000000) :
    z_J Z mX0_giveAlong (zR 2 41 0 0) 0 0 (fun o g => ∃ (u : Nat) (GN : Nat → Nat → Nat), o = .inl (some (.int (nI u))) ∧ 1 ≤ u ∧ u ≤ wanted ∧ u ≤ UL (q.2.2.1 k) ∧ z_same 14 199 h g ∧ z_give0 g ad s GS (nu UL (q.2.2.1 k) (UL (q.2.2.1 k) - u)) GN q ∧ g_gave need u GS UL (nu UL (q.2.2.1 k) (UL (q.2.2.1 k) - u)) GV GN)
      0 [.ref (ad 14), .int (nI need), .int (nI (q.2.2.1 k)), .int (nI wanted)] [] h := by
  obtain ⟨k0, ⟨eo, ko, ko2⟩, k16, k17, k18, k19, k20, kr⟩ := id hG
  have hx10 := hI.2.2.2.2.1 k hk
  have hul := hB.2.1 (q.2.2.1 k) hx10
  have i1 := hI.1
  refine iX0_giveAlong_0 rfl ?_
  refine iX0_giveAlong_1 (R' := zR 0 0 0 0) rfl rfl (z_rmo rfl) (c_X0_isRight (o := some (q.2.2.1 k)) (fun y hy => by cases hy; exact hx10)) (z_qr ?_) z_qx
  refine iX0_giveAlong_4 (fun _ => ?_) (fun cc => absurd (show (1 : Int32) = 0 from cc) (by decide))
  refine iX0_giveAlong_9 rfl ?_
  refine iX0_giveAlong_11 k0 rfl ?_
  refine iX0_giveAlong_14 rfl ?_
  refine iX0_giveAlong_15 k17 rfl (by omega) (by omega) ?_
  refine iX0_giveAlong_16 rfl ?_
  refine iX0_giveAlong_19 rfl ?_
  rw [n_min (by omega) (by omega)]
  refine l_X0_along1 hG hI hn hB hns hs41 hk (fun u x hop u1 u2 u3 hall => ?_) hw (k + 1) k 0 _ (by omega) (by omega) (by omega) (by omega) (by omega) (fun u' _ _ z => z)
  refine iX0_giveAlong_85 rfl ?_
  refine iX0_giveAlong_86 k0 rfl ?_
  refine iX0_giveAlong_89 rfl ?_
  refine iX0_giveAlong_91 k17 rfl (by omega) (by omega) ?_
  refine iX0_giveAlong_92 rfl ?_
  rw [pk_sub (by omega)]
  refine iX0_giveAlong_95 k17 rfl (by omega) (by omega) ?_
  refine iX0_giveAlong_96 rfl ?_
  rw [n_upd]
  have hG1 := hG.putU (q.2.2.1 k) (UL (q.2.2.1 k) - u)
  have hs1 : z_same 14 199 h _ := (z_same.rf (h := h)).u (r := 17) (x := (ad 17, .inl (0, 10, .inl (fun j => nI (nu UL (q.2.2.1 k) (UL (q.2.2.1 k) - u) j))))) (by omega) (by omega)
  generalize hg1 : z_u h 17 _ = g1 at hG1 hs1
  try rw [hg1]
  refine l_X0_along2 (g0 := h) (UL := UL) (GV := GV) hI hn hns hs41 hw hk (fun g GC i hop hi b1 b2 b3 b4 => ?_) hall 0 g1 GV hk (by omega) hs1 hG1 ⟨fun _ _ => rfl, rfl, fun c hc => ?_, fun i c _ _ z => Or.inl z⟩ (fun _ _ _ => rfl)
  · obtain ⟨l0, ⟨eo1, lo, lo2⟩, l16, l17, l18, l19, l20, lr⟩ := id b2
    have hxi := hI.2.2.2.2.1 i hi
    refine iX0_giveAlong_178 rfl ?_
    refine iX0_giveAlong_179 l0 rfl ?_
    refine iX0_giveAlong_182 rfl ?_
    refine iX0_giveAlong_183 lo rfl (by omega) (by omega) ?_
    rw [lo2 _ (by omega)]
    refine iX0_giveAlong_184 rfl ?_
    refine iX0_giveAlong_187 (lr _ (by omega)) rfl (by omega) (by omega) ?_
    refine iX0_giveAlong_188 rfl ?_
    rw [nI_add]
    refine iX0_giveAlong_191 (lr _ (by omega)) rfl (by omega) (by omega) ?_
    refine iX0_giveAlong_192 rfl ?_
    rw [n_upd]
    have hG3 := b2.put need (q.2.2.1 i) (GC need (q.2.2.1 i) + u)
    have hs3 : z_same 14 199 h _ := b1.u (r := 100 + need) (x := (ad (100 + need), .inl (0, 10, .inl (fun j => nI (nu (GC need) (q.2.2.1 i) (GC need (q.2.2.1 i) + u) j))))) (by omega) (by omega)
    obtain ⟨c1, c2, c3, c4⟩ := b3
    exact iX0_giveAlong_194 (Nat.le_of_ble_eq_true rfl) (Nat.le_of_ble_eq_true rfl) ⟨u, _, rfl, u1, u2, u3, hs3, hG3, fun j hj => by rw [nuu_n (by omega)]; exact c1 j hj, by
      rw [nuu_s, ← c2]
      have := n_sum_up (f := GC need) (k := q.2.2.1 i) (x := GC need (q.2.2.1 i) + u) (n := 10) hxi
      omega, fun c hc => by
      have a1 := n_sum_up (f := fun z => GC z c) (k := need) (x := if c = q.2.2.1 i then GC need (q.2.2.1 i) + u else GC need c) (n := need + 1) (by omega)
      rw [← nuu_col] at a1
      have a2 := c3 c hc
      by_cases ec : c = q.2.2.1 i
      · subst ec
        rw [if_pos rfl] at a1 a2
        omega
      · rw [if_neg ec] at a1 a2
        omega, fun j c hj hc hp => by
      by_cases ej : j = need
      · subst ej
        rw [nuu_s] at hp
        by_cases ec : c = q.2.2.1 i
        · subst ec; exact Or.inr b4
        · rw [nu_n ec] at hp; exact c4 j c hj hc hp
      · rw [nuu_n ej] at hp
        exact c4 j c hj hc hp⟩
  · by_cases ec : c = q.2.2.1 k
    · subst ec
      rw [nu_s, if_pos rfl]
      omega
    · rw [nu_n ec, if_neg ec]
      omega
end ZAlong
