/-! ===== addMachine ===== -/
def z_off (J x : Nat) : Prop := x ≠ 300 + J ∧ x ≠ 310 + J ∧ (x < 400 + 20 * J ∨ 420 + 20 * J ≤ x)
def nuo (f : Nat → Option Nat) (n : Nat) (b : Option Nat) : Nat → Option Nat := fun i => if i = n then b else f i
theorem nuo_s {f : Nat → Option Nat} {k : Nat} {x : Option Nat} : nuo f k x k = x := if_pos rfl
theorem nuo_n {f : Nat → Option Nat} {k j : Nat} {x : Option Nat} (h : j ≠ k) : nuo f k x j = f j := if_neg h
section ZMachInit
variable {Z : zZ} {h : zH} {ad : Nat → Nat} {σ : zSt} {Q : zO → zH → Prop}
def z_newM (h0 h' : zH) (J a C : Nat) (hv : Value) : Prop := ∃ (b : Nat) (f : Nat → Option Nat) (e : Nat → Nat), h' (300 + J) = some (a, .inr (3, [.int (nI J), hv, .ref b, .int (nI C), .int 0])) ∧ h' (310 + J) = some (b, .inl (4, 5, .inr (.inr (.inr (.inr f))))) ∧ (∀ p, p < 5 → f p = some (e p) ∧ z_hist h' (400 + 4 * (J * 5 + p)) (e p) 0 z_zero z_zero z_zero) ∧ ∀ x, z_off J x → h' x = h0 x
theorem l_X2_init {g0 : zH} {J a b C : Nat} {hv : Value} {x1 : Value} (hJ : J < 8) (hq : ∀ g, z_newM g0 g J a C hv → Q (.inl none) g) :
    ∀ n p0 (g : zH) (f : Nat → Option Nat) (e : Nat → Nat), p0 + n = 5 → (∀ x, z_off J x → g x = g0 x) → g (300 + J) = some (a, .inr (3, [.int (nI J), hv, .ref b, .int (nI C), .int 0])) → g (310 + J) = some (b, .inl (4, 5, .inr (.inr (.inr (.inr f))))) → (∀ p, p < p0 → f p = some (e p) ∧ z_hist g (400 + 4 * (J * 5 + p)) (e p) 0 z_zero z_zero z_zero) →
      z_J Z mX2_init (zR 2 36 21 175) (1 + 4 * p0) (5 + 34 * p0) Q 30 [.ref a, .int (nI J), .int (nI C), x1, .int (nI p0)] [] g := by
  intro n
  induction n with
  | zero =>
    intro p0 g f e hp hs h0 h1 hp0
    obtain rfl : p0 = 5 := by omega
    refine iX2_init_30 rfl ?_
    refine iX2_init_33 (fun cc => ?_) (fun cc => ?_)
    · exact iX2_init_56 (Nat.le_of_ble_eq_true rfl) (Nat.le_of_ble_eq_true rfl) (hq g ⟨b, f, e, h0, h1, hp0, hs⟩)
    · exact absurd (Int32.le_refl _) cc
  | succ n ih =>
    intro p0 g f e hp hs h0 h1 hp0
    refine iX2_init_30 rfl ?_
    refine iX2_init_33 (fun cc => ?_) (fun cc => ?_)
    · have := n_le cc; omega
    · refine iX2_init_36 rfl ?_
      refine iX2_init_37 h0 rfl ?_
      refine iX2_init_40 rfl ?_
      refine iX2_init_42 (400 + 4 * (J * 5 + p0)) ⟨by show 1 + 4 * p0 + 1 ≤ 21; omega, by show 5 + 34 * p0 + 4 ≤ 175; omega⟩ (fun q => ?_)
      refine iX2_init_45 rfl ?_
      refine iX2_init_46 (R' := zR 1 16 3 30) rfl rfl ⟨by decide, by decide, by show 1 + 4 * p0 + 1 + 3 ≤ 21; omega, by show 5 + 34 * p0 + 4 + 30 ≤ 175; omega⟩ (fun E h' q => by cases q.1) (c_X1_init (r := 400 + 4 * (J * 5 + p0)) z_u_s) (fun v h' w => ?_)
      obtain ⟨w1, w2, w3⟩ := w
      cases w1
      have hk : ∀ x, (x < 400 + 4 * (J * 5 + p0) ∨ 403 + 4 * (J * 5 + p0) < x) → h' x = g x := fun x hx => by rw [w3 _ (by omega), z_u_n (by omega)]
      obtain ⟨y1, y2, y3, y0, -⟩ := id w2.1
      refine iX2_init_49 (r := 310 + J) (by rw [hk _ (by omega)]; exact h1) rfl (by omega) (by omega) y0 ?_
      refine iX2_init_50 rfl ?_
      show z_J Z mX2_init _ _ _ Q 30 [.ref a, .int (nI J), .int (nI C), x1, .int (nI p0 + nI 1)] [] _
      rw [nI_add]
      refine z_J.widen (1 + 4 * (p0 + 1)) (5 + 34 * (p0 + 1)) (by show 1 + 4 * p0 + 1 + 3 ≤ _; omega) (by show 5 + 34 * p0 + 4 + 30 ≤ _; omega) ?_
      refine ih (p0 + 1) _ (va_up f p0 (some q)) (nu e p0 q) (by omega) (fun x hx => ?_) ?_ z_u_s (fun p hp9 => ?_)
      · obtain ⟨o1, o2, o3⟩ := hx
        rw [z_u_n o2, hk _ (by omega)]
        exact hs x ⟨o1, o2, o3⟩
      · rw [z_u_n (by omega), hk _ (by omega)]
        exact h0
      · by_cases e9 : p = p0
        · subst e9
          refine ⟨by rw [nu_s]; exact if_pos rfl, ?_⟩
          rw [nu_s]
          exact w2.kept (fun x _ _ => z_u_n (by omega))
        · obtain ⟨o1, o2⟩ := hp0 p (by omega)
          refine ⟨by rw [nu_n e9]; exact (if_neg e9).trans o1, ?_⟩
          rw [nu_n e9]
          exact o2.kept (fun x _ _ => by rw [z_u_n (by omega), hk _ (by omega)])
theorem c_X2_init {J a C : Nat} {o : Option Nat} (hJ : J < 8) (H : h (300 + J) = some (a, .inr (3, [.int 0, .null, .null, .int 0, .int 0]))) : z_J Z mX2_init (zR 2 36 21 175) 0 0 (fun r h' => r = .inl none ∧ z_newM h h' J a C (m_hv ad o)) 0 [.ref a, .int (nI J), .int (nI C), m_hv ad o] [] h := by
  cases o with
  | none =>
    show z_J Z mX2_init _ _ _ _ _ [.ref a, .int (nI J), .int (nI C), .null] [] h
    refine iX2_init_0 rfl ?_
    refine iX2_init_1 (Nat.le_of_ble_eq_true rfl) (Nat.le_of_ble_eq_true rfl) ?_
    refine iX2_init_4 rfl ?_
    refine iX2_init_6 (310 + J) rfl (by decide) ⟨by decide, by decide⟩ (fun q => ?_)
    refine iX2_init_9 (r := 300 + J) (fs := [.int 0, .null, .null, .int 0, .int 0]) (by rw [z_u_n (by omega)]; exact H) rfl ?_
    refine iX2_init_12 rfl ?_
    refine iX2_init_14 z_u_s rfl ?_
    refine iX2_init_17 rfl ?_
    refine iX2_init_19 z_u_s rfl ?_
    refine iX2_init_22 rfl ?_
    refine iX2_init_24N z_u_s rfl ?_
    refine iX2_init_27 rfl ?_
    refine z_J.widen (1 + 4 * 0) (5 + 34 * 0) (by decide) (by decide) ?_
    refine l_X2_init (g0 := h) hJ (fun g hg => ⟨rfl, hg⟩) 5 0 _ (fun _ => none) z_zero rfl (fun x hx => ?_) z_u_s ?_ (fun p hp => by omega)
    · obtain ⟨o1, o2, o3⟩ := hx
      rw [z_u_n o1, z_u_n o1, z_u_n o1, z_u_n o1, z_u_n o2]
    · rw [z_u_n (by omega), z_u_n (by omega), z_u_n (by omega), z_u_n (by omega)]
      exact z_u_s
  | some i =>
    show z_J Z mX2_init _ _ _ _ _ [.ref a, .int (nI J), .int (nI C), .ref (ad (300 + i))] [] h
    refine iX2_init_0 rfl ?_
    refine iX2_init_1 (Nat.le_of_ble_eq_true rfl) (Nat.le_of_ble_eq_true rfl) ?_
    refine iX2_init_4 rfl ?_
    refine iX2_init_6 (310 + J) rfl (by decide) ⟨by decide, by decide⟩ (fun q => ?_)
    refine iX2_init_9 (r := 300 + J) (fs := [.int 0, .null, .null, .int 0, .int 0]) (by rw [z_u_n (by omega)]; exact H) rfl ?_
    refine iX2_init_12 rfl ?_
    refine iX2_init_14 z_u_s rfl ?_
    refine iX2_init_17 rfl ?_
    refine iX2_init_19 z_u_s rfl ?_
    refine iX2_init_22 rfl ?_
    refine iX2_init_24 z_u_s rfl ?_
    refine iX2_init_27 rfl ?_
    refine z_J.widen (1 + 4 * 0) (5 + 34 * 0) (by decide) (by decide) ?_
    refine l_X2_init (g0 := h) hJ (fun g hg => ⟨rfl, hg⟩) 5 0 _ (fun _ => none) z_zero rfl (fun x hx => ?_) z_u_s ?_ (fun p hp => by omega)
    · obtain ⟨o1, o2, o3⟩ := hx
      rw [z_u_n o1, z_u_n o1, z_u_n o1, z_u_n o1, z_u_n o2]
    · rw [z_u_n (by omega), z_u_n (by omega), z_u_n (by omega), z_u_n (by omega)]
      exact z_u_s
end ZMachInit
def f_addMachine1 (σ : zSt) (c : Int32) (o : Option Nat) : zAn :=
  if zin c 1 64 = true then
    if 8 ≤ s_nM σ then (3, 0, σ)
    else (0, nI (s_nM σ), (σ.1, (s_nM σ + 1, nu (s_MC σ) (s_nM σ) (zn c), nuo (s_MH σ) (s_nM σ) o, nub (s_MA σ) (s_nM σ) false), ((fun q => if s_nM σ * 5 ≤ q then 0 else s_HN σ q), (fun q => if s_nM σ * 5 ≤ q then z_zero else s_HV σ q), (fun q => if s_nM σ * 5 ≤ q then z_zero else s_HF σ q), (fun q => if s_nM σ * 5 ≤ q then z_zero else s_HE σ q)), s_CU σ))
  else (2, 0, σ)
def f_addMachine (σ : zSt) (c t : Int32) : zAn :=
  if t = -1 then f_addMachine1 σ c none
  else if zix t (s_nM σ) = true then f_addMachine1 σ c (some (zn t))
  else (1, 0, σ)
def ad_m (ad : Nat → Nat) (J a b : Nat) (e : Nat → Nat) : Nat → Nat := fun x => if x = 300 + J then a else if x = 310 + J then b else if 400 + 20 * J ≤ x ∧ x < 420 + 20 * J then e ((x - 400) / 4 - J * 5) else ad x
theorem ad_m_n {ad : Nat → Nat} {J a b : Nat} {e : Nat → Nat} {x : Nat} (h : z_off J x) : ad_m ad J a b e x = ad x := by
  obtain ⟨h1, h2, h3⟩ := h
  unfold ad_m
  rw [if_neg h1, if_neg h2, if_neg (by omega)]
section ZFace5
variable {Z : zZ} {h : zH} {ad : Nat → Nat} {σ : zSt} {Q : zO → zH → Prop}
theorem m_hv_n {ad ad' : Nat → Nat} {o : Option Nat} (h : ∀ i, o = some i → ad' (300 + i) = ad (300 + i)) : m_hv ad' o = m_hv ad o := by
  cases o with
  | none => rfl
  | some i => show Value.ref _ = Value.ref _; rw [h i rfl]
theorem c_X5_addMachine14 {c t : Int32} {o : Option Nat} (H : z_world Z h ad σ) (ho : ∀ i, o = some i → i < s_nM σ) : z_J Z mX5_addMachine (zR 7 109 26 208) 1 6 (z_res Z h ad [eI, eA, eS] (f_addMachine1 σ c o)) 19 [.ref (ad 1), .int c, .int t, m_hv ad o] [.int (nI 64), .int (nI 1), .int c] h := by
  obtain ⟨hok, k1, hr2, ⟨h2, h3, h4, h5⟩, h6⟩ := id H.1
  have hn8 := hok.2.1.1
  have hn10 := hok.1.1
  obtain ⟨x1, x2, hl⟩ := h2.obj
  unfold f_addMachine1
  by_cases c1 : zin c 1 64 = true
  rotate_left
  · rw [if_neg c1]
    refine iX5_addMachine_19 (R' := zR 6 82 1 6) rfl rfl (z_rmo rfl) (c_X5_checkArgument_x (zin_no c1)) z_er (z_ex ?_)
    exact z_out rfl (Nat.le_of_ble_eq_true rfl) (Nat.le_of_ble_eq_true rfl) (z_res_x H _ 2 0)
  rw [if_pos c1]
  by_cases c6 : 8 ≤ s_nM σ
  · rw [if_pos c6]
    refine iX5_addMachine_19 (R' := zR 6 82 1 6) rfl rfl (z_rmo rfl) (c_X5_checkArgument (zin_ok c1).1 (zin_ok c1).2) (z_qr ?_) z_qx
    refine iX5_addMachine_22 rfl ?_
    refine iX5_addMachine_23 k1 rfl ?_
    refine iX5_addMachine_26 (R' := zR 0 0 0 0) rfl rfl hl (z_rmo rfl) (c_Jx4a65c_size h2) (z_qr ?_) z_qx
    refine iX5_addMachine_29 rfl ?_
    refine iX5_addMachine_31 (fun c => ?_) (fun c => ?_)
    · have := n_lt c; omega
    · exact iX5_addMachine_34 (Nat.le_of_ble_eq_true rfl) (Nat.le_of_ble_eq_true rfl) (Nat.le_of_ble_eq_true rfl) (Nat.le_of_ble_eq_true rfl) (z_res_x H _ 3 0)
  rw [if_neg c6]
  refine iX5_addMachine_19 (R' := zR 6 82 1 6) rfl rfl (z_rmo rfl) (c_X5_checkArgument (zin_ok c1).1 (zin_ok c1).2) (z_qr ?_) z_qx
  refine iX5_addMachine_22 rfl ?_
  refine iX5_addMachine_23 k1 rfl ?_
  refine iX5_addMachine_26 (R' := zR 0 0 0 0) rfl rfl hl (z_rmo rfl) (c_Jx4a65c_size h2) (z_qr ?_) z_qx
  refine iX5_addMachine_29 rfl ?_
  refine iX5_addMachine_31 (fun cc => ?_) (fun cc => ?_)
  rotate_left
  · have := n_nlt cc; omega
  obtain ⟨C, rfl, p1, p2⟩ := zin_e c1
  rw [zn_nI (d := C) (by omega)]
  refine iX5_addMachine_44 rfl ?_
  refine iX5_addMachine_45 k1 rfl ?_
  refine iX5_addMachine_48 (300 + s_nM σ) ⟨Nat.le_of_ble_eq_true rfl, Nat.le_of_ble_eq_true rfl⟩ (fun q => ?_)
  have hl' : (z_u h (300 + s_nM σ) (q, .inr (3, [.int 0, .null, .null, .int 0, .int 0]))) 4 = _ := (z_u_n (by omega)).trans hl
  have h2' := h2.kept (h' := z_u h (300 + s_nM σ) (q, .inr (3, [.int 0, .null, .null, .int 0, .int 0]))) (z_u_n (by omega)) (z_u_n (by omega))
  refine iX5_addMachine_51 rfl ?_
  refine iX5_addMachine_53 ((z_u_n (by omega)).trans k1) rfl ?_
  refine iX5_addMachine_56 (R' := zR 0 0 0 0) rfl rfl hl' (z_rmo rfl) (c_Jx4a65c_size h2') (z_qr ?_) z_qx
  refine iX5_addMachine_59 (ls' := [.ref (ad 1), .int (nI C), .int t, m_hv ad o]) (st' := [m_hv ad o, .int (nI C), .int (nI (s_nM σ)), .ref q, .ref q, .ref (ad 4)]) (by cases o <;> rfl) ?_
  refine iX5_addMachine_61 (R' := zR 2 36 21 175) (As := [.int (nI (s_nM σ)), .int (nI C), m_hv ad o]) (b := q) (rest := [.ref q, .ref (ad 4)]) (by cases o <;> rfl) (by cases o <;> rfl) (z_rmo rfl) (fun E h' q => by cases q.1) (c_X2_init (ad := ad) (J := s_nM σ) (C := C) (o := o) (by omega) z_u_s) (fun v h' w => ?_)
  obtain ⟨w1, b, f, e, w2, w3, w4, w5⟩ := w
  cases w1
  have f3 : ∀ x, z_off (s_nM σ) x → h' x = h x := fun x hx => by rw [w5 x hx, z_u_n hx.1]
  have g2 := h2.kept (h' := h') (f3 _ ⟨by omega, by omega, by omega⟩) (f3 _ ⟨by omega, by omega, by omega⟩)
  obtain ⟨x1', x2', hl2⟩ := g2.obj
  refine iX5_addMachine_64 (R' := zR 4 88 1 10) rfl rfl hl2 (z_rmo rfl) (c_Jx4a65c_add (rv := 300 + s_nM σ) (by omega) (by omega) w2 rfl (by decide +kernel) (by omega) g2) (fun v h' y => ?_) (fun E h' y => ?_)
  · rename_i g
    obtain ⟨y1, y2, y3⟩ := y
    cases y1
    have f4 : ∀ x, z_off (s_nM σ) x → x ≠ 4 → x ≠ 5 → h' x = h x := fun x hx hx2 hx3 => by rw [y3 _ (by omega), f3 _ hx]
    have k1' : h' 1 = some (ad 1, .inr (6, [.ref (ad 2), .ref (ad 4), .ref (ad 6), .ref (ad 7), .ref (ad 14)])) := by rw [f4 _ ⟨by omega, by omega, by omega⟩ (by omega) (by omega)]; exact k1
    obtain ⟨x1'', x2'', hl''⟩ := y2.obj
    refine iX5_addMachine_67 rfl ?_
    refine iX5_addMachine_69 k1' rfl ?_
    refine iX5_addMachine_72 (R' := zR 0 0 0 0) rfl rfl hl'' (z_rmo rfl) (c_Jx4a65c_size y2) (z_qr ?_) z_qx
    refine iX5_addMachine_75 rfl ?_
    have e9 : nI (s_nM σ + 1) - nI 1 = nI (s_nM σ) := nI_pred _
    have hlo : ∀ x, x < 300 → z_off (s_nM σ) x := fun x hx => ⟨by omega, by omega, by omega⟩
    have hA1 : ∀ x, z_off (s_nM σ) x → ad_m ad (s_nM σ) q b e x = ad x := fun x hx => ad_m_n hx
    have hA2 : ad_m ad (s_nM σ) q b e (300 + s_nM σ) = q := if_pos rfl
    have hA3 : ad_m ad (s_nM σ) q b e (310 + s_nM σ) = b := (if_neg (by omega)).trans (if_pos rfl)
    have hA4 : ∀ p, p < 5 → ad_m ad (s_nM σ) q b e (400 + 4 * (s_nM σ * 5 + p)) = e p := fun p hp => by
      have e1 : (400 + 4 * (s_nM σ * 5 + p) - 400) / 4 - s_nM σ * 5 = p := by omega
      unfold ad_m
      rw [if_neg (by omega), if_neg (by omega), if_pos (by omega), e1]
    refine iX5_addMachine_77 (Nat.le_of_ble_eq_true rfl) (Nat.le_of_ble_eq_true rfl) ⟨by rw [← e9]; rfl, fun x hx => f4 x ⟨by omega, by omega, by omega⟩ (by omega) (by omega), ad_m ad (s_nM σ) q b e, hA1 _ (hlo _ (by omega)), ⟨⟨hok.1, ⟨by show s_nM σ + 1 ≤ 8; omega, fun j i hi => ?_⟩, fun j => ?_, hok.2.2.2⟩, ?_, ⟨?_, fun i hi => ?_⟩, ⟨?_, fun j hj => ?_, fun j hj => ?_, fun q hq => ?_⟩, ?_⟩, z_scr_ad (H.2.kept (fun x _ _ => f4 x (hlo x (by omega)) (by omega) (by omega))) (fun x hx => hA1 x (hlo x (by omega)))⟩
    · have hi : nuo (s_MH σ) (s_nM σ) o j = some i := hi
      by_cases e8 : j = s_nM σ
      · subst e8
        rw [nuo_s] at hi
        exact ho i hi
      · rw [nuo_n e8] at hi
        exact hok.2.1.2 j i hi
    · show nu (s_MC σ) (s_nM σ) C j ≤ 64
      unfold nu
      have := hok.2.2.1 j
      split <;> omega
    · rw [hA1 _ (hlo _ (by omega)), hA1 _ (hlo _ (by omega)), hA1 _ (hlo _ (by omega)), hA1 _ (hlo _ (by omega)), hA1 _ (hlo _ (by omega)), hA1 _ (hlo _ (by omega))]
      exact k1'
    · have e7 : (fun i => ad_m ad (s_nM σ) q b e (200 + i)) = (fun i => ad (200 + i)) ∨ True := Or.inr trivial
      obtain ⟨l1, m, l2⟩ := hr2.1
      rw [hA1 _ (hlo _ (by omega))]
      refine ⟨l1, m, ?_⟩
      rcases l2 with ⟨l3, l4⟩ | ⟨ea, ee, l3, l4, l5⟩
      · exact Or.inl ⟨l3, by rw [f4 _ (hlo _ (by omega)) (by omega) (by omega)]; exact l4⟩
      · exact Or.inr ⟨ea, ee, by rw [f4 _ (hlo _ (by omega)) (by omega) (by omega)]; exact l3, by rw [f4 _ (hlo _ (by omega)) (by omega) (by omega)]; exact l4, fun i hi => by show _ = some (ad_m ad (s_nM σ) q b e (200 + i)); rw [hA1 _ (hlo _ (by have : i < s_nR σ := hi; omega))]; exact l5 i hi⟩
    · have hi : i < s_nR σ := hi
      have := hr2.2 i hi
      rw [hA1 _ (hlo _ (by omega))]
      unfold z_right at this ⊢
      rw [f4 _ (hlo _ (by omega)) (by omega) (by omega)]
      exact this
    · rw [hA1 _ (hlo _ (by omega))]
      refine ⟨y2.1, ?_⟩
      obtain ⟨l1, m, l2⟩ := y2
      refine ⟨m, ?_⟩
      rcases l2 with ⟨l3, l4⟩ | ⟨ea, ee, l3, l4, l5⟩
      · omega
      · refine Or.inr ⟨ea, ee, l3, l4, fun i hi => ?_⟩
        have hi : i < s_nM σ + 1 := hi
        have := l5 i hi
        by_cases e8 : i = s_nM σ
        · subst e8
          rw [nu_s] at this
          show _ = some (ad_m ad (s_nM σ) q b e (300 + s_nM σ))
          rw [hA2]; exact this
        · rw [nu_n e8] at this
          show _ = some (ad_m ad (s_nM σ) q b e (300 + i))
          rw [hA1 _ ⟨by omega, by omega, by omega⟩]; exact this
    · show z_mach h' (ad_m ad (s_nM σ) q b e) j (nu (s_MC σ) (s_nM σ) C j) (nuo (s_MH σ) (s_nM σ) o j) (nub (s_MA σ) (s_nM σ) false j)
      have hj : j < s_nM σ + 1 := hj
      by_cases e8 : j = s_nM σ
      · subst e8
        rw [nu_s, nuo_s, nub_s]
        unfold z_mach
        rw [hA2, hA3, m_hv_n (ad := ad) (fun i hi => by have := ho i hi; exact hA1 _ ⟨by omega, by omega, by omega⟩), y3 _ (by omega)]
        exact w2
      · rw [nu_n e8, nuo_n e8, nub_n e8]
        have := h3 j (by omega)
        unfold z_mach at this ⊢
        rw [hA1 _ ⟨by omega, by omega, by omega⟩, hA1 _ ⟨by omega, by omega, by omega⟩, f4 _ ⟨by omega, by omega, by omega⟩ (by omega) (by omega), m_hv_n (ad := ad) (fun i hi => by have := hok.2.1.2 j i hi; exact hA1 _ ⟨by omega, by omega, by omega⟩)]
        exact this
    · have hj : j < s_nM σ + 1 := hj
      by_cases e8 : j = s_nM σ
      · subst e8
        refine ⟨f, by rw [hA3, y3 _ (by omega)]; exact w3, fun p hp => by rw [hA4 p hp]; exact (w4 p hp).1⟩
      · obtain ⟨ee, l1, l2⟩ := h4 j (by omega)
        refine ⟨ee, by rw [hA1 _ ⟨by omega, by omega, by omega⟩, f4 _ ⟨by omega, by omega, by omega⟩ (by omega) (by omega)]; exact l1, fun p hp => by rw [hA1 _ ⟨by omega, by omega, by omega⟩]; exact l2 p hp⟩
    · have hq : q < (s_nM σ + 1) * 5 := hq
      show z_hist h' _ _ (if s_nM σ * 5 ≤ q then 0 else s_HN σ q) (if s_nM σ * 5 ≤ q then z_zero else s_HV σ q) (if s_nM σ * 5 ≤ q then z_zero else s_HF σ q) (if s_nM σ * 5 ≤ q then z_zero else s_HE σ q)
      by_cases e8 : s_nM σ * 5 ≤ q
      · obtain ⟨p, rfl⟩ : ∃ p, q = s_nM σ * 5 + p := ⟨q - s_nM σ * 5, by omega⟩
        rw [if_pos e8, if_pos e8, if_pos e8, if_pos e8, hA4 p (by omega)]
        exact (w4 p (by omega)).2.kept (fun x _ _ => y3 x (by omega))
      · rw [if_neg e8, if_neg e8, if_neg e8, if_neg e8, hA1 _ ⟨by omega, by omega, by omega⟩]
        exact (h5 q (by omega)).kept (fun x _ _ => f4 x ⟨by omega, by omega, by omega⟩ (by omega) (by omega))
    · rw [hA1 _ (hlo _ (by omega)), f4 _ (hlo _ (by omega)) (by omega) (by omega)]
      exact h6
  · cases y.1
theorem c_X5_addMachine {c t : Int32} (H : z_world Z h ad σ) : z_J Z mX5_addMachine (zR 7 109 26 208) 0 0 (z_res Z h ad [eI, eA, eS] (f_addMachine σ c t)) 0 [.ref (ad 1), .int c, .int t] [] h := by
  have k1 := H.1.2.1
  have hn8 := H.1.1.2.1.1
  unfold f_addMachine
  by_cases c0 : t = -1
  · rw [if_pos c0]
    refine iX5_addMachine_0 rfl ?_
    refine iX5_addMachine_2 (fun cc => ?_) (fun cc => ?_)
    · exact absurd c0 cc
    · refine iX5_addMachine_5 rfl ?_
      refine iX5_addMachine_14 rfl ?_
      refine z_J.widen 1 6 (by decide) (by decide) ?_
      exact c_X5_addMachine14 (o := none) H (fun i hi => by cases hi)
  rw [if_neg c0]
  by_cases c1 : zix t (s_nM σ) = true
  · rw [if_pos c1]
    obtain ⟨T, rfl, b1⟩ := zix_e c1
    have hc := c_X5_machineOf H.1 c1
    rw [zn_nI (by omega)] at hc ⊢
    refine iX5_addMachine_0 rfl ?_
    refine iX5_addMachine_2 (fun cc => ?_) (fun cc => ?_)
    · refine iX5_addMachine_9 rfl ?_
      refine iX5_addMachine_11 (R' := zR 6 82 1 6) rfl rfl k1 (z_rmo rfl) (hc) (z_qr ?_) z_qx
      refine iX5_addMachine_14 rfl ?_
      exact c_X5_addMachine14 (o := some T) H (fun i hi => by cases hi; exact b1)
    · exact absurd cc c0
  · rw [if_neg c1]
    refine iX5_addMachine_0 rfl ?_
    refine iX5_addMachine_2 (fun cc => ?_) (fun cc => ?_)
    · refine iX5_addMachine_9 rfl ?_
      refine iX5_addMachine_11 (R' := zR 6 82 1 6) rfl rfl k1 (z_rmo rfl) (c_X5_machineOf_x H.1 c1) z_er (z_ex ?_)
      exact z_out rfl (Nat.le_of_ble_eq_true rfl) (Nat.le_of_ble_eq_true rfl) (z_res_x H _ 1 0)
    · exact absurd cc c0
end ZFace5
