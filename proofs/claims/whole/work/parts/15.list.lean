/-! ===== ArrayList ===== -/
def z_list (Z : zZ) (h : zH) (r a n : Nat) (g : Nat → Nat) : Prop := n ≤ 10 ∧ ∃ m : Int32,
  (n = 0 ∧ h r = some (a, .inr (0, [.int m, .ref Z.2.2.2, .int (nI 0)]))) ∨
  ∃ (ea : Nat) (e : Nat → Option Nat), h r = some (a, .inr (0, [.int m, .ref ea, .int (nI n)])) ∧ h (r + 1) = some (ea, .inl (5, 10, .inr (.inr (.inr (.inr e))))) ∧ ∀ k, k < n → e k = some (g k)
theorem z_list.kept {Z : zZ} {h h' : zH} {r a n : Nat} {g : Nat → Nat} (H : z_list Z h r a n g) (h0 : h' r = h r) (h1 : h' (r + 1) = h (r + 1)) : z_list Z h' r a n g := by
  obtain ⟨hn, m, ⟨hz, k0⟩ | ⟨ea, e, k0, k1, k2⟩⟩ := H
  · exact ⟨hn, m, Or.inl ⟨hz, by rw [h0]; exact k0⟩⟩
  · exact ⟨hn, m, Or.inr ⟨ea, e, by rw [h0]; exact k0, by rw [h1]; exact k1, k2⟩⟩
section ZList
variable {Z : zZ} {h : zH} {r a n i : Nat} {g : Nat → Nat} {Q : zO → zH → Prop}
theorem c_Jxa1e45_init_da8c8 : z_J Z mJxa1e45_init_da8c8 (zR 1 16 0 0) 0 0 (z_eq (.inl none) h) 0 [.ref a] [] h := by
  refine iJxa1e45_init_da8c8_0 rfl ?_
  refine iJxa1e45_init_da8c8_1 (Nat.le_of_ble_eq_true rfl) (Nat.le_of_ble_eq_true rfl) ?_
  exact iJxa1e45_init_da8c8_4 (Nat.le_of_ble_eq_true rfl) (Nat.le_of_ble_eq_true rfl) ⟨rfl, rfl⟩
theorem c_Jxc12de_init_da8c8 {m : Int32} {v w : Value} (H : h r = some (a, .inr (0, [.int m, v, w]))) : z_J Z mJxc12de_init_da8c8 (zR 2 36 0 0) 0 0 (z_eq (.inl none) (z_u h r (a, .inr (0, [.int (nI 0), v, w])))) 0 [.ref a] [] h := by
  refine iJxc12de_init_da8c8_0 rfl ?_
  refine iJxc12de_init_da8c8_1 (R' := zR 1 16 0 0) rfl rfl (z_rmo rfl) z_qn (c_Jxa1e45_init_da8c8) (z_qr ?_)
  refine iJxc12de_init_da8c8_4 rfl ?_
  refine iJxc12de_init_da8c8_6 H rfl ?_
  exact iJxc12de_init_da8c8_9 (Nat.le_of_ble_eq_true rfl) (Nat.le_of_ble_eq_true rfl) ⟨rfl, rfl⟩
theorem c_Jx4a65c_init_da8c8 (H : h r = some (a, .inr (0, [.int 0, .null, .int 0]))) : z_J Z mJx4a65c_init_da8c8 (zR 3 56 0 0) 0 0 (fun o h' => o = .inl none ∧ z_list Z h' r a 0 g ∧ z_same r r h h') 0 [.ref a] [] h := by
  refine iJx4a65c_init_da8c8_0 rfl ?_
  refine iJx4a65c_init_da8c8_1 (R' := zR 2 36 0 0) rfl rfl (z_rmo rfl) z_qn (c_Jxc12de_init_da8c8 H) (z_qr ?_)
  refine iJx4a65c_init_da8c8_4 rfl ?_
  refine iJx4a65c_init_da8c8_5  ?_
  refine iJx4a65c_init_da8c8_8 z_u_s rfl ?_
  exact iJx4a65c_init_da8c8_11 (Nat.le_of_ble_eq_true rfl) (Nat.le_of_ble_eq_true rfl) ⟨rfl, ⟨by omega, _, Or.inl ⟨rfl, z_u_s⟩⟩, (z_same.rf.u (Nat.le_refl _) (Nat.le_refl _)).u (Nat.le_refl _) (Nat.le_refl _)⟩
theorem c_Jx4a65c_size (H : z_list Z h r a n g) : z_J Z mJx4a65c_size_8abf5 (zR 0 0 0 0) 0 0 (z_eq (.inl (some (.int (nI n)))) h) 0 [.ref a] [] h := by
  obtain ⟨hn, m, ⟨rfl, k0⟩ | ⟨ea, e, k0, k1, k2⟩⟩ := H
  · refine iJx4a65c_size_8abf5_0 rfl ?_
    refine iJx4a65c_size_8abf5_1 k0 rfl ?_
    exact iJx4a65c_size_8abf5_4 (Nat.le_of_ble_eq_true rfl) (Nat.le_of_ble_eq_true rfl) ⟨rfl, rfl⟩
  · refine iJx4a65c_size_8abf5_0 rfl ?_
    refine iJx4a65c_size_8abf5_1 k0 rfl ?_
    exact iJx4a65c_size_8abf5_4 (Nat.le_of_ble_eq_true rfl) (Nat.le_of_ble_eq_true rfl) ⟨rfl, rfl⟩
theorem c_J3_checkIndex (hi : i < n) (hn : n ≤ 10) : z_J Z mJ3_checkIndex_8e157 (zR 0 0 0 0) 0 0 (z_eq (.inl (some (.int (nI i)))) h) 0 [.int (nI i), .int (nI n), .null] [] h := by
  refine iJ3_checkIndex_8e157_0 rfl ?_
  refine iJ3_checkIndex_8e157_1 (fun c => ?_) (fun c => ?_)
  · exact (n_nneg c).elim
  · refine iJ3_checkIndex_8e157_4 rfl ?_
    refine iJ3_checkIndex_8e157_6 (fun c => ?_) (fun c => ?_)
    · refine iJ3_checkIndex_8e157_16 rfl ?_
      exact iJ3_checkIndex_8e157_17 (Nat.le_of_ble_eq_true rfl) (Nat.le_of_ble_eq_true rfl) ⟨rfl, rfl⟩
    · have := n_nlt c; omega
theorem c_J15_checkIndex (hi : i < n) (hn : n ≤ 10) : z_J Z mJ15_checkIndex_7cf53 (zR 1 22 0 0) 0 0 (z_eq (.inl (some (.int (nI i)))) h) 0 [.int (nI i), .int (nI n)] [] h := by
  refine iJ15_checkIndex_7cf53_0 rfl ?_
  refine iJ15_checkIndex_7cf53_3 (R' := zR 0 0 0 0) rfl rfl (z_rmo rfl) (c_J3_checkIndex hi hn) (z_qr ?_) z_qx
  exact iJ15_checkIndex_7cf53_6 (Nat.le_of_ble_eq_true rfl) (Nat.le_of_ble_eq_true rfl) ⟨rfl, rfl⟩
theorem c_Jx4a65c_get (H : z_list Z h r a n g) (hi : i < n) : z_J Z mJx4a65c_get_915e3 (zR 2 43 0 0) 0 0 (z_eq (.inl (some (.ref (g i)))) h) 0 [.ref a, .int (nI i)] [] h := by
  obtain ⟨hn, m, ⟨rfl, k0⟩ | ⟨ea, e, k0, k1, k2⟩⟩ := id H
  · omega
  · have ce : z_J Z mJx4a65c_elementData_915e3 (zR 0 0 0 0) 0 0 (z_eq (.inl (some (.ref (g i)))) h) 0 [.ref a, .int (nI i)] [] h := by
      refine iJx4a65c_elementData_915e3_0 rfl ?_
      refine iJx4a65c_elementData_915e3_1 k0 rfl ?_
      refine iJx4a65c_elementData_915e3_4 rfl ?_
      refine iJx4a65c_elementData_915e3_5 k1 rfl (by omega) (by omega) ?_
      rw [k2 i hi]
      exact iJx4a65c_elementData_915e3_6 (Nat.le_of_ble_eq_true rfl) (Nat.le_of_ble_eq_true rfl) ⟨rfl, rfl⟩
    refine iJx4a65c_get_915e3_0 rfl ?_
    refine iJx4a65c_get_915e3_2 k0 rfl ?_
    refine iJx4a65c_get_915e3_5 (R' := zR 1 22 0 0) rfl rfl (z_rmo rfl) (c_J15_checkIndex hi hn) (z_qr ?_) z_qx
    refine iJx4a65c_get_915e3_8 rfl ?_
    refine iJx4a65c_get_915e3_11 (R' := zR 0 0 0 0) rfl rfl k0 (z_rmo rfl) (ce) (z_qr ?_) z_qx
    exact iJx4a65c_get_915e3_14 (Nat.le_of_ble_eq_true rfl) (Nat.le_of_ble_eq_true rfl) ⟨rfl, rfl⟩
theorem c_Jx4a65c_grow1 {m : Int32} (H : h r = some (a, .inr (0, [.int m, .ref Z.2.2.2, .int (nI 0)]))) : z_J Z mJx4a65c_grow_92f84 (zR 1 22 1 10) 0 0 (fun o h' => ∃ q, o = .inl (some (.ref q)) ∧ h' = z_u (z_u h (r + 1) (q, .inl (5, 10, .inr (.inr (.inr (.inr (fun _ => none))))))) r (a, .inr (0, [.int m, .ref q, .int (nI 0)]))) 0 [.ref a, .int (nI 1)] [] h := by
  refine iJx4a65c_grow_92f84_0 rfl ?_
  refine iJx4a65c_grow_92f84_1 H rfl ?_
  refine iJx4a65c_grow_92f84_4t ?_
  refine iJx4a65c_grow_92f84_5 rfl ?_
  refine iJx4a65c_grow_92f84_7 (fun c => ?_) (fun c => ?_)
  · exact absurd c (by decide)
  · refine iJx4a65c_grow_92f84_10 rfl ?_
    refine iJx4a65c_grow_92f84_11 H rfl ?_
    refine iJx4a65c_grow_92f84_14  ?_
    refine iJx4a65c_grow_92f84_17  ?_
    refine iJx4a65c_grow_92f84_45 rfl ?_
    refine iJx4a65c_grow_92f84_49 rfl ?_
    refine iJx4a65c_grow_92f84_52 (N := 10) (r + 1) (by decide) (by decide) (by decide) (fun q => ?_)
    refine iJx4a65c_grow_92f84_55 rfl ?_
    refine iJx4a65c_grow_92f84_56 (r := r) (by rw [z_u_n (by omega)]; exact H) rfl ?_
    exact iJx4a65c_grow_92f84_59 (Nat.le_refl _) (Nat.le_refl _) ⟨q, rfl, rfl⟩
theorem c_Jx4a65c_grow0 {m : Int32} (H : h r = some (a, .inr (0, [.int m, .ref Z.2.2.2, .int (nI 0)]))) : z_J Z mJx4a65c_grow_d5877 (zR 2 45 1 10) 0 0 (fun o h' => ∃ q, o = .inl (some (.ref q)) ∧ h' = z_u (z_u h (r + 1) (q, .inl (5, 10, .inr (.inr (.inr (.inr (fun _ => none))))))) r (a, .inr (0, [.int m, .ref q, .int (nI 0)]))) 0 [.ref a] [] h := by
  refine iJx4a65c_grow_d5877_0 rfl ?_
  refine iJx4a65c_grow_d5877_2 H rfl ?_
  refine iJx4a65c_grow_d5877_5 rfl ?_
  refine iJx4a65c_grow_d5877_7 (R' := (zR 1 22 1 10)) rfl rfl H (z_rmo rfl) (c_Jx4a65c_grow1 H) (fun v h' q => ?_) (fun E h' q => by obtain ⟨q, h1, -⟩ := q; cases h1)
  obtain ⟨q, h1, rfl⟩ := q
  cases h1
  exact iJx4a65c_grow_d5877_10 (Nat.le_refl _) (Nat.le_refl _) ⟨q, rfl, rfl⟩
theorem c_Jx4a65c_add3 {rv q ci : Nat} {vs : List Value} {qc : vw_C} {m : Int32} (hr : rv ≠ r) (hr1 : rv ≠ r + 1) (hv : h rv = some (q, .inr (ci, vs))) (hc : vwCl[ci]? = some qc) (hca : (qc.1, "java/lang/Object") ∈ z_casts) (hn : n < 10)
    (H : (n = 0 ∧ h r = some (a, .inr (0, [.int m, .ref Z.2.2.2, .int (nI 0)]))) ∨ ∃ (ea : Nat) (e : Nat → Option Nat), h r = some (a, .inr (0, [.int m, .ref ea, .int (nI n)])) ∧ h (r + 1) = some (ea, .inl (5, 10, .inr (.inr (.inr (.inr e))))) ∧ ∀ k, k < n → e k = some (g k)) :
    ∃ t : Nat, (∃ v w : Value, h r = some (a, .inr (0, [v, .ref t, w]))) ∧ z_J Z mJx4a65c_add_72be8 (zR 3 65 1 10) 0 0 (fun o h' => o = .inl none ∧ z_list Z h' r a (n + 1) (nu g n q) ∧ z_same r (r + 1) h h') 0 [.ref a, .ref q, .ref t, .int (nI n)] [] h := by
  rcases H with ⟨rfl, k0⟩ | ⟨ea, e, k0, k1, k2⟩
  · refine ⟨_, ⟨_, _, k0⟩, ?_⟩
    refine iJx4a65c_add_72be8_0 rfl ?_
    refine iJx4a65c_add_72be8_2t ?_
    refine iJx4a65c_add_72be8_3 (fun c => ?_) (fun c => ?_)
    · exact absurd rfl c
    · refine iJx4a65c_add_72be8_6 rfl ?_
      refine iJx4a65c_add_72be8_7 (R' := (zR 2 45 1 10)) rfl rfl k0 (z_rmo rfl) (c_Jx4a65c_grow0 k0) (fun v h' q => ?_) (fun E h' q => by obtain ⟨q, h1, -⟩ := q; cases h1)
      obtain ⟨ea, h1, rfl⟩ := q
      cases h1
      refine iJx4a65c_add_72be8_10 rfl ?_
      refine iJx4a65c_add_72be8_11 rfl ?_
      refine iJx4a65c_add_72be8_14 (j := 0) (N := 10) (r := r + 1) (rv := rv) (by rw [z_u_n (by omega), z_u_s]) rfl (by omega) (by omega) (by rw [z_u_n hr, z_u_n hr1]; exact hv) hc hca ?_
      refine iJx4a65c_add_72be8_15 rfl ?_
      refine iJx4a65c_add_72be8_19 (r := r) (by rw [z_u_n (by omega), z_u_s]) rfl ?_
      refine iJx4a65c_add_72be8_22 (Nat.le_refl _) (Nat.le_refl _) ⟨rfl, ⟨by omega, m, Or.inr ⟨ea, va_up (fun _ => none) 0 (some q), z_u_s, ?_, ?_⟩⟩, ?_⟩
      · rw [z_u_n (by omega), z_u_s]
      · intro k hk
        rw [show k = 0 by omega, nu_s]
        rfl
      · exact (((z_same.rf.u (by omega) (by omega)).u (by omega) (by omega)).u (by omega) (by omega)).u (by omega) (by omega)
  · refine ⟨ea, ⟨_, _, k0⟩, ?_⟩
    refine iJx4a65c_add_72be8_0 rfl ?_
    refine iJx4a65c_add_72be8_2 k1 (by decide) ?_
    refine iJx4a65c_add_72be8_3 (fun c => ?_) (fun c => ?_)
    · refine iJx4a65c_add_72be8_11 rfl ?_
      refine iJx4a65c_add_72be8_14 (j := n) (N := 10) (rv := rv) k1 rfl (by omega) (by omega) hv hc hca ?_
      refine iJx4a65c_add_72be8_15 rfl ?_
      refine iJx4a65c_add_72be8_19 (r := r) (by rw [z_u_n (by omega)]; exact k0) rfl ?_
      refine iJx4a65c_add_72be8_22 (Nat.zero_le _) (Nat.zero_le _) ⟨rfl, ⟨by omega, m, Or.inr ⟨ea, va_up e n (some q), ?_, ?_, ?_⟩⟩, ?_⟩
      · rw [z_u_s, ← nI_add]; rfl
      · rw [z_u_n (by omega), z_u_s]
      · intro k hk
        show va_up e n (some q) k = _
        unfold va_up nu
        split
        · rfl
        · exact k2 k (by omega)
      · exact (z_same.rf.u (by omega) (by omega)).u (by omega) (by omega)
    · have := n_eq c
      omega
theorem c_Jx4a65c_add {rv q ci : Nat} {vs : List Value} {qc : vw_C} (hr : rv ≠ r) (hr1 : rv ≠ r + 1) (hv : h rv = some (q, .inr (ci, vs))) (hc : vwCl[ci]? = some qc) (hca : (qc.1, "java/lang/Object") ∈ z_casts) (hn : n < 10) (H : z_list Z h r a n g) :
    z_J Z mJx4a65c_add_9ea2d (zR 4 88 1 10) 0 0 (fun o h' => o = .inl (some (.int (nI 1))) ∧ z_list Z h' r a (n + 1) (nu g n q) ∧ z_same r (r + 1) h h') 0 [.ref a, .ref q] [] h := by
  obtain ⟨hn1, m, H⟩ := H
  have key : ∀ (m' : Int32), z_u h r (a, .inr (0, [.int m', .ref 0, .int 0])) = z_u h r (a, .inr (0, [.int m', .ref 0, .int 0])) := fun _ => rfl
  have main : ∀ (t : Nat), h r = some (a, .inr (0, [.int m, .ref t, .int (nI n)])) → ((n = 0 ∧ t = Z.2.2.2) ∨ ∃ (e : Nat → Option Nat), h (r + 1) = some (t, .inl (5, 10, .inr (.inr (.inr (.inr e))))) ∧ ∀ k, k < n → e k = some (g k)) →
      z_J Z mJx4a65c_add_9ea2d (zR 4 88 1 10) 0 0 (fun o h' => o = .inl (some (.int (nI 1))) ∧ z_list Z h' r a (n + 1) (nu g n q) ∧ z_same r (r + 1) h h') 0 [.ref a, .ref q] [] h := by
    intro t k0 hor
    refine iJx4a65c_add_9ea2d_0 rfl ?_
    refine iJx4a65c_add_9ea2d_2 k0 rfl ?_
    refine iJx4a65c_add_9ea2d_5 rfl ?_
    refine iJx4a65c_add_9ea2d_7 k0 rfl ?_
    refine iJx4a65c_add_9ea2d_10 rfl ?_
    generalize hg : z_u h r _ = g1
    have m0 : g1 r = some (a, .inr (0, [.int (m + nI 1), .ref t, .int (nI n)])) := by rw [← hg]; exact z_u_s
    have m1 : g1 (r + 1) = h (r + 1) := by rw [← hg, z_u_n (by omega)]
    have mv : g1 rv = some (q, .inr (ci, vs)) := by rw [← hg, z_u_n hr]; exact hv
    refine iJx4a65c_add_9ea2d_13 m0 rfl ?_
    refine iJx4a65c_add_9ea2d_16 rfl ?_
    refine iJx4a65c_add_9ea2d_17 m0 rfl ?_
    obtain ⟨t', ⟨v, w, e1⟩, hJ⟩ := c_Jx4a65c_add3 (Z := Z) (a := a) (g := g) (m := m + nI 1) (n := n) hr hr1 mv hc hca hn (by
      rcases hor with ⟨hz, ht⟩ | ⟨e, x1, x2⟩
      · exact Or.inl ⟨hz, by rw [m0, hz, ht]⟩
      · exact Or.inr ⟨t, e, m0, m1.trans x1, x2⟩)
    have et : t' = t := by
      rw [m0] at e1
      cases e1
      rfl
    subst et
    refine iJx4a65c_add_9ea2d_20 (R' := (zR 3 65 1 10)) rfl rfl m0 (z_rmo rfl) hJ (fun v h' q => ?_) (fun E h' q => by cases q.1)
    obtain ⟨h1, h2, h3⟩ := q
    cases h1
    refine iJx4a65c_add_9ea2d_23 rfl ?_
    exact iJx4a65c_add_9ea2d_24 rfl (Nat.le_refl _) (Nat.le_refl _) ⟨rfl, h2, fun q hq => by rw [h3 q hq, ← hg, z_u_n (by omega)]⟩
  rcases H with ⟨rfl, k0⟩ | ⟨ea, e, k0, k1, k2⟩
  · exact main _ k0 (Or.inl ⟨rfl, rfl⟩)
  · exact main _ k0 (Or.inr ⟨e, k1, k2⟩)
end ZList
