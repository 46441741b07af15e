/-! ===== RightsCounter() ===== -/
def s_0 : zSt := ((0, z_zero, z_zero, z_zero, z_zero, z_zero), (0, z_zero, fun _ => none, fun _ => false), (z_zero, fun _ => z_zero, fun _ => z_zero, fun _ => z_zero), n_fill z_zero 1 5)
theorem s_0_ok : s_ok s_0 := by
  refine ⟨⟨Nat.zero_le _, fun i => ?_⟩, ⟨Nat.zero_le _, fun j i h => by cases h⟩, fun j => Nat.zero_le _, fun p hp => ?_⟩
  · show z_zero i < 32 ∧ z_zero i ≤ 720 ∧ z_zero i ≤ 720 ∧ z_zero i ≤ 9 ∧ z_zero i ≤ 100
    unfold z_zero
    omega
  · show 1 ≤ n_fill z_zero 1 5 p ∧ n_fill z_zero 1 5 p ≤ 16
    unfold n_fill
    rw [if_pos hp]
    omega
def ad_0 (a q2 q4 q6 q7 : Nat) (ad : Nat → Nat) : Nat → Nat := fun x => if x = 1 then a else if x = 2 then q2 else if x = 4 then q4 else if x = 6 then q6 else if x = 7 then q7 else ad x
theorem ad_0_n {a q2 q4 q6 q7 : Nat} {ad : Nat → Nat} {x : Nat} (h : 8 ≤ x) : ad_0 a q2 q4 q6 q7 ad x = ad x := by
  unfold ad_0
  rw [if_neg (by omega), if_neg (by omega), if_neg (by omega), if_neg (by omega), if_neg (by omega)]
section ZInitC
variable {Z : zZ} {h : zH} {a : Nat} {Q : zO → zH → Prop}
theorem z_list.free {r q : Nat} {g g' : Nat → Nat} (H : z_list Z h r q 0 g) : z_list Z h r q 0 g' := by
  obtain ⟨h1, m, h2 | ⟨ea, e, h2, h3, h4⟩⟩ := H
  · exact ⟨h1, m, Or.inl h2⟩
  · exact ⟨h1, m, Or.inr ⟨ea, e, h2, h3, fun k hk => by omega⟩⟩
theorem c_X5_init (H : h 1 = some (a, .inr (6, [.null, .null, .null, .null, .null]))) : z_J Z mX5_init (zR 4 76 58 799) 0 0 (fun o h' => o = .inl none ∧ z_same 1 599 h h' ∧ ∃ ad', ad' 1 = a ∧ z_world Z h' ad' s_0) 0 [.ref a] [] h := by
  refine iX5_init_0 rfl ?_
  refine iX5_init_1 (Nat.le_of_ble_eq_true rfl) (Nat.le_of_ble_eq_true rfl) ?_
  refine iX5_init_4 rfl ?_
  refine iX5_init_5 2 ⟨Nat.le_of_ble_eq_true rfl, Nat.le_of_ble_eq_true rfl⟩ (fun q2 => ?_)
  refine iX5_init_8 rfl ?_
  refine iX5_init_9 (R' := zR 3 56 0 0) rfl rfl (z_rmo rfl) (fun E h' q => by cases q.1) (c_Jx4a65c_init_da8c8 (r := 2) (g := z_zero) z_u_s) (fun v h' w => ?_)
  obtain ⟨w1, w2, w3⟩ := w
  cases w1
  obtain ⟨g1, rfl⟩ : ∃ g, g = h' := ⟨_, rfl⟩
  have k1 : g1 1 = some (a, .inr (6, [.null, .null, .null, .null, .null])) := by rw [w3 _ (by omega), z_u_n (by omega)]; exact H
  have f1 : ∀ x, x ≠ 2 → g1 x = h x := fun x hx => by rw [w3 _ (by omega), z_u_n hx]
  refine iX5_init_12 k1 rfl ?_
  refine iX5_init_15 rfl ?_
  refine iX5_init_16 4 ⟨Nat.le_of_ble_eq_true rfl, Nat.le_of_ble_eq_true rfl⟩ (fun q4 => ?_)
  refine iX5_init_19 rfl ?_
  refine iX5_init_20 (R' := zR 3 56 0 0) rfl rfl (z_rmo rfl) (fun E h' q => by cases q.1) (c_Jx4a65c_init_da8c8 (r := 4) (g := z_zero) z_u_s) (fun v h' y => ?_)
  obtain ⟨y1, y2, y3⟩ := y
  cases y1
  obtain ⟨g2, rfl⟩ : ∃ g, g = h' := ⟨_, rfl⟩
  have k2 : g2 1 = some (a, .inr (6, [.ref q2, .null, .null, .null, .null])) := by rw [y3 _ (by omega), z_u_n (by omega), z_u_s]; rfl
  have f2 : ∀ x, x ≠ 1 → x ≠ 4 → g2 x = g1 x := fun x hx1 hx => by rw [y3 _ (by omega), z_u_n hx, z_u_n hx1]
  refine iX5_init_23 k2 rfl ?_
  refine iX5_init_26 rfl ?_
  refine iX5_init_28 6 rfl (by decide) ⟨Nat.le_of_ble_eq_true rfl, Nat.le_of_ble_eq_true rfl⟩ (fun q6 => ?_)
  refine iX5_init_30 (r := 1) (fs := [.ref q2, .ref q4, .null, .null, .null]) (by rw [z_u_n (by omega)]; exact z_u_s) rfl ?_
  refine iX5_init_33 rfl ?_
  refine iX5_init_34 7 ⟨Nat.le_of_ble_eq_true rfl, Nat.le_of_ble_eq_true rfl⟩ (fun q7 => ?_)
  refine iX5_init_37 rfl ?_
  refine iX5_init_38 (R' := zR 1 16 6 240) rfl rfl (z_rmo rfl) (fun E h' q => by cases q.1) (c_X3_init (r := 7) z_u_s) (fun v h' u => ?_)
  obtain ⟨u1, u2, u3⟩ := u
  cases u1
  obtain ⟨g3, rfl⟩ : ∃ g, g = h' := ⟨_, rfl⟩
  have f3 : ∀ x, x ≠ 1 → x ≠ 6 → (x < 7 ∨ 13 < x) → g3 x = g2 x := fun x h1 h2 h3 => by rw [u3 _ (by omega), z_u_n (by omega), z_u_n h1, z_u_n h2, z_u_n h1]
  have k3 : g3 1 = some (a, .inr (6, [.ref q2, .ref q4, .ref q6, .null, .null])) := by rw [u3 _ (by omega), z_u_n (by omega), z_u_s]; rfl
  have k36 : g3 6 = some (q6, .inl (0, 5, .inl (fun _ => 0))) := by rw [u3 _ (by omega), z_u_n (by omega), z_u_n (by omega), z_u_s]
  refine iX5_init_41 k3 rfl ?_
  refine iX5_init_44 rfl ?_
  refine iX5_init_45 14 ⟨Nat.le_of_ble_eq_true rfl, Nat.le_of_ble_eq_true rfl⟩ (fun q14 => ?_)
  refine iX5_init_48 rfl ?_
  refine iX5_init_49 (R' := zR 1 16 47 532) rfl rfl (z_rmo rfl) (fun E h' q => by cases q.1) (c_X0_init z_u_s) (fun v h' v => ?_)
  obtain ⟨v1, ⟨ad, v2, v3⟩, v4⟩ := v
  cases v1
  obtain ⟨g4, rfl⟩ : ∃ g, g = h' := ⟨_, rfl⟩
  have f4 : ∀ x, x ≠ 1 → x ≠ 14 → (x < 14 ∨ 141 ≤ x) → g4 x = g3 x := fun x h1 h2 h3 => by rw [v4 _ h3, z_u_n h2, z_u_n h1]
  have k4 : g4 1 = some (a, .inr (6, [.ref q2, .ref q4, .ref q6, .ref q7, .null])) := by rw [v4 _ (by omega), z_u_n (by omega), z_u_s]; rfl
  have k46 : g4 6 = some (q6, .inl (0, 5, .inl (fun _ => 0))) := by rw [f4 _ (by omega) (by omega) (by omega)]; exact k36
  refine iX5_init_52 k4 rfl ?_
  refine iX5_init_55 rfl ?_
  refine iX5_init_56 z_u_s rfl ?_
  refine iX5_init_59 rfl ?_
  refine iX5_init_60 (R' := zR 0 0 0 0) rfl rfl (z_rmo rfl) (c_J7_fill ((z_u_n (by omega)).trans k46) (by omega)) (z_qr ?_) z_qx
  subst v2
  show z_J Z mX5_init _ _ _ _ 63 _ _ (z_u (z_u g4 1 (a, .inr (6, [.ref q2, .ref q4, .ref q6, .ref q7, .ref (ad 14)]))) 6 (q6, .inl (0, 5, .inl (n_fill (fun _ => 0) (nI 1) 5))))
  have E1 : (z_u (z_u g4 1 (a, .inr (6, [.ref q2, .ref q4, .ref q6, .ref q7, .ref (ad 14)]))) 6 (q6, .inl (0, 5, .inl (n_fill (fun _ => 0) (nI 1) 5)))) 1 = some (a, .inr (6, [.ref q2, .ref q4, .ref q6, .ref q7, .ref (ad 14)])) := by rw [z_u_n (by omega), z_u_s]
  have E6 : (z_u (z_u g4 1 (a, .inr (6, [.ref q2, .ref q4, .ref q6, .ref q7, .ref (ad 14)]))) 6 (q6, .inl (0, 5, .inl (n_fill (fun _ => 0) (nI 1) 5)))) 6 = some (q6, .inl (0, 5, .inl (n_fill (fun _ => 0) (nI 1) 5))) := z_u_s
  have F : ∀ x, x ≠ 1 → x ≠ 6 → (z_u (z_u g4 1 (a, .inr (6, [.ref q2, .ref q4, .ref q6, .ref q7, .ref (ad 14)]))) 6 (q6, .inl (0, 5, .inl (n_fill (fun _ => 0) (nI 1) 5)))) x = g4 x := fun x h1 h6 => by rw [z_u_n h6, z_u_n h1]
  have FL : ∀ x, x ≠ 1 → x ≠ 4 → x ≠ 6 → x < 7 → (z_u (z_u g4 1 (a, .inr (6, [.ref q2, .ref q4, .ref q6, .ref q7, .ref (ad 14)]))) 6 (q6, .inl (0, 5, .inl (n_fill (fun _ => 0) (nI 1) 5)))) x = g1 x := fun x h1 h4 h6 h7 => by
    rw [F x h1 h6, f4 x h1 (by omega) (by omega), f3 x h1 h6 (by omega), f2 x h1 h4]
  have FH : ∀ x, 141 ≤ x → (z_u (z_u g4 1 (a, .inr (6, [.ref q2, .ref q4, .ref q6, .ref q7, .ref (ad 14)]))) 6 (q6, .inl (0, 5, .inl (n_fill (fun _ => 0) (nI 1) 5)))) x = h x := fun x hx => by
    rw [F x (by omega) (by omega), f4 x (by omega) (by omega) (by omega), f3 x (by omega) (by omega) (by omega), f2 x (by omega) (by omega), f1 x (by omega)]
  generalize z_u (z_u g4 1 (a, .inr (6, [.ref q2, .ref q4, .ref q6, .ref q7, .ref (ad 14)]))) 6 (q6, .inl (0, 5, .inl (n_fill (fun _ => 0) (nI 1) 5))) = G at E1 E6 F FL FH ⊢
  refine iX5_init_63 (Nat.le_of_ble_eq_true rfl) (Nat.le_of_ble_eq_true rfl) ⟨rfl, fun x hx => ?_, ad_0 a q2 q4 q6 q7 ad, rfl, ⟨s_0_ok, ?_, ⟨?_, fun i hi => absurd hi (Nat.not_lt_zero i)⟩, ⟨?_, fun j hj => absurd hj (Nat.not_lt_zero j), fun j hj => absurd hj (Nat.not_lt_zero j), fun q hq => absurd hq (by show ¬ q < 0 * 5; omega)⟩, ?_⟩, ⟨0, z_zero, z_zero, z_zero, z_zero, z_zero, z_zero, ?_⟩, 0, z_zero, z_zero, fun _ => z_zero, (0, 0, z_zero, fun _ => some 0, z_zero), ?_, fun c hc => Nat.zero_le _⟩
  · rcases hx with hx | hx
    · obtain rfl : x = 0 := by omega
      rw [FL _ (by omega) (by omega) (by omega) (by omega), f1 _ (by omega)]
    · exact FH x (by omega)
  · rw [E1]
    rfl
  · exact (w2.kept (FL _ (by omega) (by omega) (by omega) (by omega)) (FL _ (by omega) (by omega) (by omega) (by omega))).free
  · refine (y2.kept (h' := G) ?_ ?_).free
    · rw [F _ (by omega) (by omega), f4 _ (by omega) (by omega) (by omega), f3 _ (by omega) (by omega) (by omega)]
    · rw [F _ (by omega) (by omega), f4 _ (by omega) (by omega) (by omega), f3 _ (by omega) (by omega) (by omega)]
  · rw [E6]
    exact congrArg (fun f => some (q6, (Sum.inl (0, 5, Sum.inl f) : zE))) (n_fill_nI z_zero 1 5)
  · exact u2.kept (fun x h1 h2 => by rw [F x (by omega) (by omega), f4 x (by omega) (by omega) (by omega)])
  · obtain ⟨p0, ⟨eo, po, po2⟩, p16, p17, p18, p19, p20, pr⟩ := v3
    refine ⟨?_, ⟨eo, ?_, fun i hi => ?_⟩, ?_, ?_, ?_, ?_, ?_, fun i hi => ?_⟩
    · rw [F _ (by omega) (by omega), ad_0_n (by omega), ad_0_n (by omega), ad_0_n (by omega), ad_0_n (by omega), ad_0_n (by omega), ad_0_n (by omega), ad_0_n (by omega)]; exact p0
    · rw [F _ (by omega) (by omega), ad_0_n (by omega)]; exact po
    · rw [ad_0_n (by omega)]; exact po2 i hi
    · rw [F _ (by omega) (by omega), ad_0_n (by omega)]; exact p16
    · rw [F _ (by omega) (by omega), ad_0_n (by omega)]; exact p17
    · rw [F _ (by omega) (by omega), ad_0_n (by omega)]; exact p18
    · rw [F _ (by omega) (by omega), ad_0_n (by omega)]; exact p19
    · rw [F _ (by omega) (by omega), ad_0_n (by omega)]; exact p20
    · rw [F _ (by omega) (by omega), ad_0_n (by omega)]; exact pr i hi
end ZInitC
