/-! ===== gets, lack, lackBySets, spare ===== -/
theorem z_J.mono {Z : zZ} {M : zM} {R : Room} {k n : Nat} {Q Q' : zO → zH → Prop} {pc : Nat} {ls st : List Value} {h : zH} (g : z_J Z M R k n Q pc ls st h) (m : ∀ o h', Q o h' → Q' o h') : z_J Z M R k n Q' pc ls st h := by
  intro D cA p l e s mm args below meth c A H locs ws lsA X O L T hT XX
  obtain ⟨t, a, o, b1, b2, b3⟩ := g D cA p l e s mm args below meth c A H locs ws lsA X O L T hT XX
  refine ⟨t, a, o, b1, b2, ?_⟩
  rcases b3 with ⟨⟨⟨v, h', ws', q1, q2, q3, q4, q5⟩, qF⟩, r⟩ | ⟨q, r1, L9, E, ce, ⟨⟨h', ws', q2, q3, q4, q5⟩, qF⟩, r⟩
  · exact Or.inl ⟨⟨⟨v, h', ws', q1, m _ _ q2, q3, q4, q5⟩, qF⟩, r⟩
  · exact Or.inr ⟨q, r1, L9, E, ce, ⟨⟨h', ws', m _ _ q2, q3, q4, q5⟩, qF⟩, r⟩
def s_fl (σ : zSt) (d k : Nat) : Nat := s_flow σ (t_GS σ d (s_all σ d)) (t_D (s_all σ d)) k
def s_lk (σ : zSt) (d : Nat) : Nat := n_sum (t_D (s_all σ d)) (s_all σ d).length - s_fl σ d (s_all σ d).length
def s_sp (σ : zSt) (d p v w : Nat) : Nat := s_flow σ (nu (t_GS σ d (s_all σ d)) (s_all σ d).length (s_giv σ p v d (s_nR σ))) (nu (t_D (s_all σ d)) (s_all σ d).length w) ((s_all σ d).length + 1) - s_fl σ d (s_all σ d).length
def f_gets (σ : zSt) (d k : Int32) : zAn :=
  if zin d 0 720 = true then
    if zix k (s_all σ (zn d)).length = true then (0, nI (s_fl σ (zn d) (zn k + 1) - s_fl σ (zn d) (zn k)), σ)
    else (2, 0, σ)
  else (1, 0, σ)
def f_lack (σ : zSt) (d : Int32) : zAn :=
  if zin d 0 720 = true then (0, nI (s_lk σ (zn d)), σ) else (1, 0, σ)
def f_lackBySets (σ : zSt) (d : Int32) : zAn :=
  if zin d 0 720 = true then
    if 10 < (s_all σ (zn d)).length then (2, 0, σ) else (0, nI (s_lk σ (zn d)), σ)
  else (1, 0, σ)
def f_spare (σ : zSt) (d p v : Int32) : zAn :=
  if zin d 0 720 = true ∧ zin v 1 9 = true then
    if zix p 5 = true then (0, nI (s_sp σ (zn d) (zn p) (zn v) 1000), σ)
    else (2, 0, σ)
  else (1, 0, σ)
theorem s_all_p5 (σ : zSt) (d : Nat) : ∀ (k : Nat) (q : Nat × Nat × Nat × Nat), (s_all σ d)[k]? = some q → q.2.1 < 5 := fun k q h => by
  obtain ⟨pl, h1, h2, -⟩ := s_need_in h
  rw [h2]
  exact Nat.mod_lt _ (by decide)
theorem t_GS_lt (σ : zSt) (d : Nat) (L : List (Nat × Nat × Nat × Nat)) (k : Nat) : t_GS σ d L k < 2 ^ s_nR σ := s_giv_lt2 σ _ _ _ _
theorem serve_flow {σ : zSt} {s gn w got : Nat} {GS U UN D G : Nat → Nat} {GN : Nat → Nat → Nat} (hn : s_nR σ ≤ 10) (H : g_flow (s + 1) (nu GS s gn) UN U GN (nu G s got)) (he : g_end s got w (nu GS s gn) UN GN) (hd : ∀ i, i < s → G i ≤ D i) (ht : g_tight s GS U D G) (hU : ∀ c, c < s_nR σ → U c = s_RU σ c) (hb : ∀ i, i < s → GS i < 2 ^ s_nR σ) (hgn : gn < 2 ^ s_nR σ) : n_sum G s + got = s_flow σ (nu GS s gn) (nu D s w) (s + 1) := by
  have hd' : ∀ i, i < s → nu G s got i ≤ nu D s w i := fun i hi => by rw [nu_n (by omega), nu_n (by omega)]; exact hd i hi
  have ht' : g_tight s (nu GS s gn) U (nu D s w) (nu G s got) := by
    obtain ⟨S, hS, e⟩ := ht
    refine ⟨S, hS, ?_⟩
    rw [n_sum_cong (f := nu G s got) (g := G) (fun j hj => nu_n (by omega)), e]
    unfold g_cut
    congr 1
    exact n_sum_cong (fun i hi => by rw [nu_n (by omega), nu_n (by omega)])
  have he' : g_end s (nu G s got s) (nu D s w s) (nu GS s gn) UN GN := by rw [nu_s, nu_s]; exact he
  have ht2 := g_tight_step H hd' he' ht'
  rw [← n_sum_last]
  refine s_flow_is hn H (fun i hi => ?_) ht2 hU (fun i hi => ?_)
  · by_cases e : i = s
    · subst e; rw [nu_s, nu_s]; exact he.1
    · exact hd' i (by omega)
  · by_cases e : i = s
    · subst e; rw [nu_s]; exact hgn
    · rw [nu_n e]; exact hb i (by omega)
theorem n_maxd {m a b : Nat} (hm : m < 2 ^ 30) (ha : a < 2 ^ 30) (hb : b < 2 ^ 30) : (if nI m < nI a - nI b then nI a - nI b else nI m) = nI (max m (a - b)) := by
  by_cases h : b ≤ a
  · rw [pk_sub h, n_max (by omega) (by omega)]
  · have e : max m (a - b) = m := Nat.max_eq_left (by omega)
    rw [e, if_neg]
    rw [Int32.lt_iff_toInt_lt, pk_sub_toInt ha hb, nI_toInt (by omega)]
    omega
section ZFace9
variable {Z : zZ} {h : zH} {ad : Nat → Nat} {σ : zSt} {Q : zO → zH → Prop}
theorem c_X5_serve0 {d hm : Nat} {NM NP NV ND NG GR : Nat → Nat} (W : z_world Z h ad σ) (hN : z_needs h 7 (ad 7) (s_all σ d).length NM NP NV ND NG GR) (hA : n_agree (s_all σ d) NM NP NV ND) (hd : d < 1000) (hle : hm ≤ (s_all σ d).length) :
    z_J Z mX5_serveFirst (zR 5 111 0 0) 0 0 (fun o g => ∃ (NG' GS UL U : Nat → Nat) (GV : Nat → Nat → Nat) (G : Nat → Nat) (q : gS), o = .inl (some (.int (nI (n_sum G hm)))) ∧ z_same 12 199 h g ∧ z_needs g 7 (ad 7) (s_all σ d).length NM NP NV ND NG' GR ∧ g_ok σ d (s_all σ d) NG' ∧ z_give0 g ad hm GS UL GV q ∧ g_served σ hm GS UL U GV G ND NG' ∧ n_sum G hm = s_fl σ d hm ∧ (∀ i, i < hm → GS i = t_GS σ d (s_all σ d) i ∧ ND i = t_D (s_all σ d) i) ∧ z_world Z g ad σ)
      0 [.ref (ad 1), .int (nI hm), .int (nI d)] [] h := by
  obtain ⟨-, s, GS0, UL0, GV0, q0, h2, h3⟩ := id W.2
  have hc := hN.2.1
  have hm1 : hm < 1000 := by omega
  refine z_J.mono (c_X5_serveFirst W.1 hd hA (s_all_p5 σ d) hN hm1 h2 h3) (fun o g H => ?_)
  rw [Nat.min_eq_left hle] at H
  obtain ⟨NG', GS, UL, U, GV, G, q, p1, p2, p3, p4, p5, p6⟩ := H
  have hgs : ∀ i, i < hm → GS i = t_GS σ d (s_all σ d) i ∧ ND i = t_D (s_all σ d) i := fun i hi => by
    have hi' : i < (s_all σ d).length := by omega
    refine ⟨?_, (hA.at hi').2.2.2⟩
    rw [p6.2.1 i hi, p4 i _ (t_q_of hi')]
    rfl
  refine ⟨NG', GS, UL, U, GV, G, q, p1, p2, p3, p4, p5, p6, ?_, hgs, W.1.kept p2, ⟨_, NM, NP, NV, ND, NG', GR, p3⟩, hm, GS, UL, GV, q, p5, fun c hc9 => ?_⟩
  · rw [s_flow_is W.1.1.1.1 p6.1 p6.2.2.1 p6.2.2.2.1 p6.2.2.2.2 (fun i hi => by rw [(hgs i hi).1]; exact t_GS_lt _ _ _ _)]
    exact s_flow_cong (fun i hi => (hgs i hi).1) (fun i hi => (hgs i hi).2)
  · have h4 := p6.1.2.2.1 c hc9
    have h5 := p6.1.2.2.2.2 c hc9
    omega
end ZFace9
