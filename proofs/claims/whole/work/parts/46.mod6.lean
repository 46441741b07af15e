/-! ===== the model: what was told ===== -/
theorem ev_n_le (E : Nat → Nat) : ∀ n, n ≤ ev_n E n ∧ ev_n E n ≤ 2 * n
  | 0 => ⟨Nat.le_refl _, Nat.le_refl _⟩
  | n + 1 => by
    have := ev_n_le E n
    show n + 1 ≤ ev_n E n + (if E n = 721 then 1 else 2) ∧ ev_n E n + (if E n = 721 then 1 else 2) ≤ 2 * (n + 1)
    split <;> omega
theorem ev_n_cong {E E' : Nat → Nat} : ∀ {n : Nat}, (∀ i, i < n → E i = E' i) → ev_n E n = ev_n E' n
  | 0, _ => rfl
  | n + 1, h => by
    show ev_n E n + (if E n = 721 then 1 else 2) = ev_n E' n + (if E' n = 721 then 1 else 2)
    rw [ev_n_cong (n := n) (fun i hi => h i (by omega)), h n (by omega)]
theorem ev_n_mono {E : Nat → Nat} {i : Nat} : ∀ {n : Nat}, i < n → ev_n E i + (if E i = 721 then 1 else 2) ≤ ev_n E n
  | 0, h => by omega
  | n + 1, h => by
    show _ ≤ ev_n E n + (if E n = 721 then 1 else 2)
    by_cases e : i = n
    · subst e; exact Nat.le_refl _
    · have := ev_n_mono (E := E) (i := i) (n := n) (by omega)
      omega
def z_fo (DA WI : Nat → Nat) (b d : Nat) : Nat → Nat
  | 0 => 0
  | k + 1 => if DA (b + k) ≤ d then WI (b + k) else z_fo DA WI b d k
theorem z_fo_on {N : Nat} {V F E : Nat → Nat} {TO : Nat} {DA WI : Nat → Nat} {b d : Nat} (H : z_ev N V F E TO DA WI b) (hd : d ≤ 720) : ∀ n, n ≤ N → z_fo DA WI b d (ev_n E n) = h_on V F E d n
  | 0, _ => rfl
  | n + 1, hn => by
    have ih := z_fo_on H hd n (by omega)
    obtain ⟨h1, h2, h3, h4, h5, h6, h7, h8⟩ := H.2.2 n (by omega)
    show z_fo DA WI b d (ev_n E n + (if E n = 721 then 1 else 2)) = if F n ≤ d then (if d < E n then V n else 0) else h_on V F E d n
    by_cases e : E n = 721
    · rw [if_pos e]
      show (if DA (b + ev_n E n) ≤ d then WI (b + ev_n E n) else z_fo DA WI b d (ev_n E n)) = _
      rw [h1, h2, ih, if_pos (show d < E n by omega)]
    · obtain ⟨g1, g2⟩ := h3 e
      rw [if_neg e]
      show (if DA (b + (ev_n E n + 1)) ≤ d then WI (b + (ev_n E n + 1)) else (if DA (b + ev_n E n) ≤ d then WI (b + ev_n E n) else z_fo DA WI b d (ev_n E n))) = _
      have g1' : DA (b + (ev_n E n + 1)) = E n := g1
      have g2' : WI (b + (ev_n E n + 1)) = 0 := g2
      rw [h1, h2, ih, g1', g2']
      by_cases e1 : E n ≤ d
      · rw [if_pos e1, if_pos (show F n ≤ d by omega), if_neg (show ¬ d < E n by omega)]
      · rw [if_neg e1, if_pos (show d < E n by omega)]
theorem z_ev_last {N : Nat} {V F E : Nat → Nat} {TO : Nat} {DA WI : Nat → Nat} {b : Nat} (H : z_ev N V F E TO DA WI b) : (TO = 0 ↔ N = 0) ∧ (0 < N → nI (DA (b + TO - 1)) = h_last F E N ∧ WI (b + TO - 1) = (if E (N - 1) = 721 then V (N - 1) else 0)) ∧ TO ≤ 20 := by
  have hle := ev_n_le E N
  obtain ⟨h0, h1, h2⟩ := H
  refine ⟨by omega, fun hN => ?_, by omega⟩
  obtain ⟨n, rfl⟩ : ∃ n, N = n + 1 := ⟨N - 1, by omega⟩
  obtain ⟨g1, g2, g3, -⟩ := h2 n (by omega)
  have e : ev_n E (n + 1) = ev_n E n + (if E n = 721 then 1 else 2) := rfl
  have en : n + 1 - 1 = n := by omega
  unfold h_last
  rw [en, if_neg (by omega)]
  by_cases c : E n = 721
  · rw [if_pos c] at e
    rw [if_pos c, if_pos c, show b + TO - 1 = b + ev_n E n by omega, g1, g2]
    exact ⟨rfl, rfl⟩
  · rw [if_neg c] at e
    obtain ⟨q1, q2⟩ := g3 c
    rw [if_neg c, if_neg c, show b + TO - 1 = b + ev_n E n + 1 by omega, q1, q2]
    exact ⟨rfl, rfl⟩
section ZMod6
variable {Z : zZ} {h : zH} {am : Nat → Nat} {th : Nat} {σ : zSt} {HO : Nat → Int32} {E : zMs} {S : zMn} {Q : zO → zH → Prop}
theorem l_X6_versionOn {q d : Nat} (HM : z_mo h am th σ HO E S) (HI : z_mi σ HO E) (hq40 : q < 40) (hd : d ≤ 720) (hq : Q (.inl (some (.int (nI (z_fo E.2.1 E.2.2 (20 * q) d (E.1 q)))))) h) :
    ∀ n j, j + n = E.1 q → z_J Z mX6_versionOn (zR 0 0 0 0) 0 0 Q 8 [.ref (am 600), .int (nI q), .int (nI d), .int (nI (z_fo E.2.1 E.2.2 (20 * q) d j)), .int (nI (20 * q + j))] [] h := by
  obtain ⟨e0, -, -, ⟨f0, f1, f2, f3⟩, -⟩ := id HM
  have h20 := (z_ev_last (HI.2.2.2.2.1 q hq40)).2.2
  have hB := HI.2.2.2.2.2
  unfold z_arr at f0 f2 f3
  intro n
  induction n with
  | zero =>
    intro j hj
    obtain rfl : j = E.1 q := by omega
    refine iX6_versionOn_8 rfl ?_
    refine iX6_versionOn_15 e0 rfl ?_
    refine iX6_versionOn_18 rfl ?_
    refine iX6_versionOn_19 f0 rfl (by omega) (by omega) ?_
    refine iX6_versionOn_20 rfl ?_
    show z_J Z mX6_versionOn _ _ _ Q 21 _ [.int (nI 20 * nI q + nI (E.1 q)), .int (nI (20 * q + E.1 q))] h
    rw [pk_mul, nI_add]
    refine iX6_versionOn_21 (fun cc => ?_) (fun cc => ?_)
    · refine iX6_versionOn_53 rfl ?_
      exact iX6_versionOn_54 (Nat.le_of_ble_eq_true rfl) (Nat.le_of_ble_eq_true rfl) hq
    · exact absurd (Int32.le_refl _) cc
  | succ n ih =>
    intro j hj
    have hx := hB (20 * q + j)
    refine iX6_versionOn_8 rfl ?_
    refine iX6_versionOn_15 e0 rfl ?_
    refine iX6_versionOn_18 rfl ?_
    refine iX6_versionOn_19 f0 rfl (by omega) (by omega) ?_
    refine iX6_versionOn_20 rfl ?_
    show z_J Z mX6_versionOn _ _ _ Q 21 _ [.int (nI 20 * nI q + nI (E.1 q)), .int (nI (20 * q + j))] h
    rw [pk_mul, nI_add]
    refine iX6_versionOn_21 (fun cc => ?_) (fun cc => ?_)
    · have := n_le cc; omega
    · have e : z_fo E.2.1 E.2.2 (20 * q) d (j + 1) = if E.2.1 (20 * q + j) ≤ d then E.2.2 (20 * q + j) else z_fo E.2.1 E.2.2 (20 * q) d j := rfl
      have ih := ih (j + 1) (by omega)
      refine iX6_versionOn_24 rfl ?_
      refine iX6_versionOn_25 e0 rfl ?_
      refine iX6_versionOn_28 rfl ?_
      refine iX6_versionOn_30 f2 rfl (by omega) (by omega) ?_
      refine iX6_versionOn_31 rfl ?_
      refine iX6_versionOn_32 (fun c => ?_) (fun c => ?_)
      · rw [if_neg (by have := n_lt c; omega)] at e
        refine iX6_versionOn_45 rfl ?_
        refine iX6_versionOn_46 rfl ?_
        rw [e] at ih
        show z_J Z mX6_versionOn _ _ _ Q 8 [_, _, _, _, .int (nI (20 * q + j) + nI 1)] [] h
        rw [nI_add]
        exact ih
      · rw [if_pos (n_nlt c)] at e
        refine iX6_versionOn_35 rfl ?_
        refine iX6_versionOn_36 e0 rfl ?_
        refine iX6_versionOn_39 rfl ?_
        refine iX6_versionOn_41 f3 rfl (by omega) (by omega) ?_
        refine iX6_versionOn_42 rfl ?_
        refine iX6_versionOn_46 rfl ?_
        rw [e] at ih
        show z_J Z mX6_versionOn _ _ _ Q 8 [_, _, _, _, .int (nI (20 * q + j) + nI 1)] [] h
        rw [nI_add]
        exact ih
theorem c_X6_versionOn {q d : Nat} (HM : z_mo h am th σ HO E S) (HI : z_mi σ HO E) (hq40 : q < 40) (hd : d ≤ 720) : z_J Z mX6_versionOn (zR 0 0 0 0) 0 0 (z_eq (.inl (some (.int (nI (h_on (s_HV σ q) (s_HF σ q) (s_HE σ q) d (s_HN σ q)))))) h) 0 [.ref (am 600), .int (nI q), .int (nI d)] [] h := by
  have hev := HI.2.2.2.2.1 q hq40
  refine iX6_versionOn_0 rfl ?_
  show z_J Z mX6_versionOn _ _ _ _ 8 [.ref (am 600), .int (nI q), .int (nI d), .int (nI 0), .int (nI 20 * nI q)] [] h
  rw [pk_mul]
  refine l_X6_versionOn HM HI hq40 hd ⟨?_, rfl⟩ (E.1 q) 0 (by omega)
  rw [hev.2.1, z_fo_on hev hd _ (Nat.le_refl _)]
theorem c_X6_latest {q : Nat} (HM : z_mo h am th σ HO E S) (HI : z_mi σ HO E) (hq40 : q < 40) : z_J Z mX6_latest (zR 0 0 0 0) 0 0 (z_eq (.inl (some (.int (h_last (s_HF σ q) (s_HE σ q) (s_HN σ q))))) h) 0 [.ref (am 600), .int (nI q)] [] h := by
  obtain ⟨e0, -, -, ⟨f0, f1, f2, f3⟩, -⟩ := id HM
  obtain ⟨l1, l2, l3⟩ := z_ev_last (HI.2.2.2.2.1 q hq40)
  unfold z_arr at f0 f2 f3
  refine iX6_latest_0 rfl ?_
  refine iX6_latest_1 e0 rfl ?_
  refine iX6_latest_4 rfl ?_
  refine iX6_latest_5 f0 rfl (by omega) (by omega) ?_
  refine iX6_latest_6 (fun c => ?_) (fun c => ?_)
  · have c0 : E.1 q ≠ 0 := n_ne0 c
    have hN : 0 < s_HN σ q := by omega
    refine iX6_latest_13 rfl ?_
    refine iX6_latest_14 e0 rfl ?_
    refine iX6_latest_17 rfl ?_
    refine iX6_latest_22 e0 rfl ?_
    refine iX6_latest_25 rfl ?_
    refine iX6_latest_26 f0 rfl (by omega) (by omega) ?_
    refine iX6_latest_27 rfl ?_
    show z_J Z mX6_latest _ _ _ _ 30 _ [.int (nI 20 * nI q + nI (E.1 q) - nI 1), .ref (am 612)] h
    rw [pk_mul, nI_add, n_m1 (by omega)]
    refine iX6_latest_30 f2 rfl (by omega) (by omega) ?_
    exact iX6_latest_31 (Nat.le_of_ble_eq_true rfl) (Nat.le_of_ble_eq_true rfl) ⟨by rw [(l2 hN).1], rfl⟩
  · have c0 : E.1 q = 0 := n_e0 c
    refine iX6_latest_9 rfl ?_
    exact iX6_latest_31 (Nat.le_of_ble_eq_true rfl) (Nat.le_of_ble_eq_true rfl) ⟨by
      unfold h_last
      rw [if_pos (l1.mp c0)], rfl⟩
theorem c_X6_tells {q d v : Nat} (HM : z_mo h am th σ HO E S) (HI : z_mi σ HO E) (hq40 : q < 40) (ht : E.1 q < 20) : z_J Z mX6_tells (zR 0 0 0 0) 0 0 (fun o g => o = .inl none ∧ z_same 600 619 h g ∧ z_mo g am th σ HO (nu E.1 q (E.1 q + 1), nu E.2.1 (20 * q + E.1 q) d, nu E.2.2 (20 * q + E.1 q) v) S) 0 [.ref (am 600), .int (nI q), .int (nI d), .int (nI v)] [] h := by
  obtain ⟨e0, ⟨e1, e2, e3, e4, e5⟩, ⟨e6, e7, e8, e9⟩, ⟨f0, f1, f2, f3⟩, ⟨f4, f5, f6, f7, f8⟩, f9⟩ := id HM
  unfold z_arr at f0 f2 f3
  refine iX6_tells_0 rfl ?_
  refine iX6_tells_1 e0 rfl ?_
  refine iX6_tells_4 rfl ?_
  refine iX6_tells_9 e0 rfl ?_
  refine iX6_tells_12 rfl ?_
  refine iX6_tells_13 f0 rfl (by omega) (by omega) ?_
  refine iX6_tells_14 rfl ?_
  show z_J Z mX6_tells _ _ _ _ 16 _ [.int (nI d), .int (nI 20 * nI q + nI (E.1 q)), .ref (am 612)] h
  rw [pk_mul, nI_add]
  refine iX6_tells_16 f2 rfl (by omega) (by omega) ?_
  rw [n_upd]
  refine iX6_tells_17 rfl ?_
  refine iX6_tells_18 ((z_u_n (by omega)).trans e0) rfl ?_
  refine iX6_tells_21 rfl ?_
  refine iX6_tells_26 ((z_u_n (by omega)).trans e0) rfl ?_
  refine iX6_tells_29 rfl ?_
  refine iX6_tells_30 ((z_u_n (by omega)).trans f0) rfl (by omega) (by omega) ?_
  refine iX6_tells_31 rfl ?_
  show z_J Z mX6_tells _ _ _ _ 33 _ [.int (nI v), .int (nI 20 * nI q + nI (E.1 q)), .ref (am 613)] _
  rw [pk_mul, nI_add]
  refine iX6_tells_33 ((z_u_n (by omega)).trans f3) rfl (by omega) (by omega) ?_
  rw [n_upd]
  have k0 : ∀ x, x ≠ 612 → x ≠ 613 → (z_u (z_u h 612 (am 612, .inl (0, 800, .inl (fun j => nI (nu E.2.1 (20 * q + E.1 q) d j))))) 613 (am 613, .inl (0, 800, .inl (fun j => nI (nu E.2.2 (20 * q + E.1 q) v j))))) x = h x := fun x h1 h2 => by rw [z_u_n h2, z_u_n h1]
  refine iX6_tells_34 rfl ?_
  refine iX6_tells_35 ((k0 600 (by omega) (by omega)).trans e0) rfl ?_
  refine iX6_tells_38 rfl ?_
  refine iX6_tells_40 ((k0 610 (by omega) (by omega)).trans f0) rfl (by omega) (by omega) ?_
  refine iX6_tells_41 rfl ?_
  show z_J Z mX6_tells _ _ _ _ 43 _ [.int (nI (E.1 q) + nI 1), .int (nI q), .ref (am 610)] _
  rw [nI_add]
  refine iX6_tells_43 ((k0 610 (by omega) (by omega)).trans f0) rfl (by omega) (by omega) ?_
  rw [n_upd]
  refine iX6_tells_44 (Nat.le_of_ble_eq_true rfl) (Nat.le_of_ble_eq_true rfl) ⟨rfl, ((z_same.rf.u (by omega) (by omega)).u (by omega) (by omega)).u (by omega) (by omega), ⟨?_, ⟨?_, ?_, ?_, ?_, ?_⟩, ⟨?_, ?_, ?_, ?_⟩, ⟨z_u_s, ?_, ?_, ?_⟩, ⟨?_, ?_, ?_, ?_, ?_⟩, ?_⟩⟩
  rotate_left 11
  · rw [z_u_n (by omega), z_u_n (by omega)]; exact z_u_s
  · rw [z_u_n (by omega)]; exact z_u_s
  all_goals rw [z_u_n (by omega), k0 _ (by omega) (by omega)]
  all_goals assumption
end ZMod6
