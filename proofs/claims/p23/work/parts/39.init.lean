/-! ===== Needs(), Giving() ===== -/
section ZInitB
variable {Z : zZ} {h : zH} {r a : Nat} {ad : Nat → Nat} {σ : zSt} {Q : zO → zH → Prop}
theorem c_X3_init (H : h r = some (a, .inr (4, [.null, .null, .null, .null, .null, .int 0, .null]))) : z_J Z mX3_init (zR 1 16 6 240) 0 0 (fun o h' => o = .inl none ∧ z_needs h' r a 0 z_zero z_zero z_zero z_zero z_zero z_zero ∧ z_same r (r + 6) h h') 0 [.ref a] [] h := by
  refine iX3_init_0 rfl ?_
  refine iX3_init_1 (Nat.le_of_ble_eq_true rfl) (Nat.le_of_ble_eq_true rfl) ?_
  refine iX3_init_4 rfl ?_
  refine iX3_init_7 (r + 1) rfl (by decide) ⟨by decide, by decide⟩ (fun q1 => ?_)
  refine iX3_init_9 (r := r) (fs := [.null, .null, .null, .null, .null, .int 0, .null]) (by rw [z_u_n (by omega)]; exact H) rfl ?_
  refine iX3_init_12 rfl ?_
  refine iX3_init_15 (r + 2) rfl (by decide) ⟨by decide, by decide⟩ (fun q2 => ?_)
  refine iX3_init_17 (r := r) (fs := [.ref q1, .null, .null, .null, .null, .int 0, .null]) (by rw [z_u_n (by omega)]; exact z_u_s) rfl ?_
  refine iX3_init_20 rfl ?_
  refine iX3_init_23 (r + 3) rfl (by decide) ⟨by decide, by decide⟩ (fun q3 => ?_)
  refine iX3_init_25 (r := r) (fs := [.ref q1, .ref q2, .null, .null, .null, .int 0, .null]) (by rw [z_u_n (by omega)]; exact z_u_s) rfl ?_
  refine iX3_init_28 rfl ?_
  refine iX3_init_31 (r + 4) rfl (by decide) ⟨by decide, by decide⟩ (fun q4 => ?_)
  refine iX3_init_33 (r := r) (fs := [.ref q1, .ref q2, .ref q3, .null, .null, .int 0, .null]) (by rw [z_u_n (by omega)]; exact z_u_s) rfl ?_
  refine iX3_init_36 rfl ?_
  refine iX3_init_39 (r + 5) rfl (by decide) ⟨by decide, by decide⟩ (fun q5 => ?_)
  refine iX3_init_41 (r := r) (fs := [.ref q1, .ref q2, .ref q3, .ref q4, .null, .int 0, .null]) (by rw [z_u_n (by omega)]; exact z_u_s) rfl ?_
  refine iX3_init_44 rfl ?_
  refine iX3_init_47 (r + 6) rfl (by decide) ⟨by decide, by decide⟩ (fun q6 => ?_)
  refine iX3_init_49 (r := r) (fs := [.ref q1, .ref q2, .ref q3, .ref q4, .ref q5, .int 0, .null]) (by rw [z_u_n (by omega)]; exact z_u_s) rfl ?_
  refine iX3_init_52 (Nat.le_of_ble_eq_true rfl) (Nat.le_of_ble_eq_true rfl) ⟨rfl, ⟨⟨q1, q2, q3, q4, q5, q6, z_u_s, ?_, ?_, ?_, ?_, ?_, ?_⟩, by omega, fun k => by unfold z_zero; omega⟩, fun x hx => ?_⟩
  all_goals repeat rw [z_u_n (by omega)]
  all_goals exact z_u_s
def ad_g (a o q16 q17 q18 q19 q20 : Nat) (r : Nat → Nat) : Nat → Nat := fun x => if x = 14 then a else if x = 15 then o else if x = 16 then q16 else if x = 17 then q17 else if x = 18 then q18 else if x = 19 then q19 else if x = 20 then q20 else r (x - 100)
theorem c_X0_init (H : h 14 = some (a, .inr (1, [.null, .null, .null, .int 0, .null, .null, .null, .int 0, .int 0]))) : z_J Z mX0_init (zR 1 16 47 532) 0 0 (fun o h' => o = .inl none ∧ (∃ ad' : Nat → Nat, ad' 14 = a ∧ z_give0 h' ad' 0 z_zero z_zero (fun _ => z_zero) (0, 0, z_zero, fun _ => some 0, z_zero)) ∧ ∀ x, (x < 14 ∨ 141 ≤ x) → h' x = h x) 0 [.ref a] [] h := by
  refine iX0_init_0 rfl ?_
  refine iX0_init_1 (Nat.le_of_ble_eq_true rfl) (Nat.le_of_ble_eq_true rfl) ?_
  refine iX0_init_4 rfl ?_
  refine z_mna 15 100 (N := 41) (K := 10) dX0_init_9 rfl gw_mna9 (by decide) (by decide) ⟨by decide, by decide⟩ (fun q15 r => ?_)
  have e14 : ∀ {x : Nat}, (x < 100 ∨ 141 ≤ x) → x ≠ 15 → z_rows (z_u h 15 (q15, .inl (3, 41, .inr (.inr (.inr (.inr (fun i => if i < 41 then some (r i) else none))))))) 100 r (.inl (0, 10, .inl (fun _ => 0))) 41 x = h x := fun {x} hx h15 => by
    rw [z_rows_out (by omega), z_u_n h15]
  have e15 : z_rows (z_u h 15 (q15, .inl (3, 41, .inr (.inr (.inr (.inr (fun i => if i < 41 then some (r i) else none))))))) 100 r (.inl (0, 10, .inl (fun _ => 0))) 41 15 = some (q15, .inl (3, 41, .inr (.inr (.inr (.inr (fun i => if i < 41 then some (r i) else none)))))) := by
    rw [z_rows_out (by omega), z_u_s]
  have er : ∀ i, i < 41 → z_rows (z_u h 15 (q15, .inl (3, 41, .inr (.inr (.inr (.inr (fun i => if i < 41 then some (r i) else none))))))) 100 r (.inl (0, 10, .inl (fun _ => 0))) 41 (100 + i) = some (r i, .inl (0, 10, .inl (fun _ => 0))) := fun i hi => z_rows_in hi
  have H' := (e14 (x := 14) (by omega) (by omega)).trans H
  generalize z_rows (z_u h 15 _) 100 r _ 41 = h1 at e14 e15 er H' ⊢
  refine iX0_init_13 H' rfl ?_
  refine iX0_init_16 rfl ?_
  refine iX0_init_19 16 rfl (by decide) ⟨by decide, by decide⟩ (fun q16 => ?_)
  refine iX0_init_21 (r := 14) (fs := [.ref q15, .null, .null, .int 0, .null, .null, .null, .int 0, .int 0]) (by rw [z_u_n (by omega)]; exact z_u_s) rfl ?_
  refine iX0_init_24 rfl ?_
  refine iX0_init_27 17 rfl (by decide) ⟨by decide, by decide⟩ (fun q17 => ?_)
  refine iX0_init_29 (r := 14) (fs := [.ref q15, .ref q16, .null, .int 0, .null, .null, .null, .int 0, .int 0]) (by rw [z_u_n (by omega)]; exact z_u_s) rfl ?_
  refine iX0_init_32 rfl ?_
  refine iX0_init_35 18 rfl (by decide) ⟨by decide, by decide⟩ (fun q18 => ?_)
  refine iX0_init_37 (r := 14) (fs := [.ref q15, .ref q16, .ref q17, .int 0, .null, .null, .null, .int 0, .int 0]) (by rw [z_u_n (by omega)]; exact z_u_s) rfl ?_
  refine iX0_init_40 rfl ?_
  refine iX0_init_43 19 rfl (by decide) ⟨by decide, by decide⟩ (fun q19 => ?_)
  refine iX0_init_45 (r := 14) (fs := [.ref q15, .ref q16, .ref q17, .int 0, .ref q18, .null, .null, .int 0, .int 0]) (by rw [z_u_n (by omega)]; exact z_u_s) rfl ?_
  refine iX0_init_48 rfl ?_
  refine iX0_init_51 20 rfl (by decide) ⟨by decide, by decide⟩ (fun q20 => ?_)
  refine iX0_init_53 (r := 14) (fs := [.ref q15, .ref q16, .ref q17, .int 0, .ref q18, .ref q19, .null, .int 0, .int 0]) (by rw [z_u_n (by omega)]; exact z_u_s) rfl ?_
  refine iX0_init_56 (Nat.le_of_ble_eq_true rfl) (Nat.le_of_ble_eq_true rfl) ⟨rfl, ⟨ad_g a q15 q16 q17 q18 q19 q20 r, rfl, z_u_s, ⟨fun i => if i < 41 then some (r i) else none, ?_, fun i hi => ?_⟩, ?_, ?_, ?_, ?_, ?_, fun i hi => ?_⟩, fun x hx => ?_⟩
  rotate_left 1
  · show (if i < 41 then some (r i) else none) = _
    rw [if_pos hi]
    unfold ad_g
    rw [if_neg (by omega), if_neg (by omega), if_neg (by omega), if_neg (by omega), if_neg (by omega), if_neg (by omega), if_neg (by omega), Nat.add_sub_cancel_left]
  rotate_left 5
  · rw [z_u_n (by omega), z_u_n (by omega), z_u_n (by omega), z_u_n (by omega), z_u_n (by omega), z_u_n (by omega), z_u_n (by omega), z_u_n (by omega), z_u_n (by omega), z_u_n (by omega), z_u_n (by omega), er i hi]
    have : ad_g a q15 q16 q17 q18 q19 q20 r (100 + i) = r i := by
      unfold ad_g
      rw [if_neg (by omega), if_neg (by omega), if_neg (by omega), if_neg (by omega), if_neg (by omega), if_neg (by omega), if_neg (by omega), Nat.add_sub_cancel_left]
    rw [this]
    rfl
  · rw [z_u_n (by omega), z_u_n (by omega), z_u_n (by omega), z_u_n (by omega), z_u_n (by omega), z_u_n (by omega), z_u_n (by omega), z_u_n (by omega), z_u_n (by omega), z_u_n (by omega), z_u_n (by omega)]
    exact e14 (by omega) (by omega)
  · rw [z_u_n (by omega), z_u_n (by omega), z_u_n (by omega), z_u_n (by omega), z_u_n (by omega), z_u_n (by omega), z_u_n (by omega), z_u_n (by omega), z_u_n (by omega), z_u_n (by omega), z_u_n (by omega)]
    exact e15
  all_goals repeat rw [z_u_n (by omega)]
  all_goals exact z_u_s
end ZInitB
