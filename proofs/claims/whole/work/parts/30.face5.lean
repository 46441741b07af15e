/-! ===== addMachine ===== -/
def z_off (J x : Nat) : Prop := x ≠ 300 + J ∧ x ≠ 310 + J ∧ (x < 400 + 20 * J ∨ 420 + 20 * J ≤ x)
def nuo (f : Nat → Option Nat) (n : Nat) (b : Option Nat) : Nat → Option Nat := fun i => if i = n then b else f i
theorem nuo_s {f : Nat → Option Nat} {k : Nat} {x : Option Nat} : nuo f k x k = x := if_pos rfl
theorem nuo_n {f : Nat → Option Nat} {k j : Nat} {x : Option Nat} (h : j ≠ k) : nuo f k x j = f j := if_neg h
section ZMachInit
variable {Z : zZ} {h : zH} {ad : Nat → Nat} {σ : zSt} {Q : zO → zH → Prop}
def z_newM (h0 h' : zH) (J a C : Nat) (hv : Value) : Prop := ∃ (b : Nat) (f : Nat → Option Nat) (e : Nat → Nat), h' (300 + J) = some (a, .inr (3, [.int (nI J), hv, .ref b, .int (nI C), .int 0])) ∧ h' (310 + J) = some (b, .inl (4, 5, .inr (.inr (.inr (.inr f))))) ∧ (∀ p, p < 5 → f p = some (e p) ∧ z_hist h' (400 + 4 * (J * 5 + p)) (e p) 0 z_zero z_zero z_zero) ∧ ∀ x, z_off J x → h' x = h0 x
theorem l_X2_init {g0 : zH} {J a b C : Nat} {hv : Value} {x1 : Value} (hJ : J < 8) (hq : ∀ g, z_newM g0 g J a C hv → Q (.inl none) g) :
    ∀ n p0 (g : zH) (f : Nat → Option Nat) (e : Nat → Nat), p0 + n = 5 → (∀ x, z_off J x → g x = g0 x) → g (300 + J) = some (a, .inr (3, [.int (nI J), hv, .ref b, .int (nI C), .int 0])) → g (310 + J) = some (b, .inl (4, 5, .inr (.inr (.inr (.inr f))))) → (∀ p, p < p0 → f p = some (e p) ∧ z_hist g (400 + 4 * (J * 5 + p)) (e p) 0 z_zero z_zero z_zero) →
      z_J Z mX2_init (zR 2 36 21 175) (1 + 4 * p0) (5 + 34 * p0) Q 30 [.ref a, .int (nI J), .int (nI C), x1, .int (nI p0)] [] g := by
  intro n
  induction n with
  | zero =>
    intro p0 g f e hp hs h0 h1 hp0
    obtain rfl : p0 = 5 := by omega
    refine iX2_init_30 rfl ?_
    refine iX2_init_33 (fun cc => ?_) (fun cc => ?_)
    · exact iX2_init_56 (Nat.le_of_ble_eq_true rfl) (Nat.le_of_ble_eq_true rfl) (hq g ⟨b, f, e, h0, h1, hp0, hs⟩)
    · exact absurd (Int32.le_refl _) cc
  | succ n ih =>
    intro p0 g f e hp hs h0 h1 hp0
    refine iX2_init_30 rfl ?_
    refine iX2_init_33 (fun cc => ?_) (fun cc => ?_)
    · have := n_le cc; omega
    · refine iX2_init_36 rfl ?_
      refine iX2_init_37 h0 rfl ?_
      refine iX2_init_40 rfl ?_
      refine iX2_init_42 (400 + 4 * (J * 5 + p0)) ⟨by show 1 + 4 * p0 + 1 ≤ 21; omega, by show 5 + 34 * p0 + 4 ≤ 175; omega⟩ (fun q => ?_)
      refine iX2_init_45 rfl ?_
      refine iX2_init_46 (R' := zR 1 16 3 30) rfl rfl ⟨by decide, by decide, by show 1 + 4 * p0 + 1 + 3 ≤ 21; omega, by show 5 + 34 * p0 + 4 + 30 ≤ 175; omega⟩ (fun E h' q => by cases q.1) (c_X1_init (r := 400 + 4 * (J * 5 + p0)) z_u_s) (fun v h' w => ?_)
      obtain ⟨w1, w2, w3⟩ := w
      cases w1
      have hk : ∀ x, (x < 400 + 4 * (J * 5 + p0) ∨ 403 + 4 * (J * 5 + p0) < x) → h' x = g x := fun x hx => by rw [w3 _ (by omega), z_u_n (by omega)]
      obtain ⟨y1, y2, y3, y0, -⟩ := id w2.1
      refine iX2_init_49 (r := 310 + J) (by rw [hk _ (by omega)]; exact h1) rfl (by omega) (by omega) y0 ?_
      refine iX2_init_50 rfl ?_
      show z_J Z mX2_init _ _ _ Q 30 [.ref a, .int (nI J), .int (nI C), x1, .int (nI p0 + nI 1)] [] _
      rw [nI_add]
      refine z_J.widen (1 + 4 * (p0 + 1)) (5 + 34 * (p0 + 1)) (by show 1 + 4 * p0 + 1 + 3 ≤ _; omega) (by show 5 + 34 * p0 + 4 + 30 ≤ _; omega) ?_
      refine ih (p0 + 1) _ (va_up f p0 (some q)) (nu e p0 q) (by omega) (fun x hx => ?_) ?_ z_u_s (fun p hp9 => ?_)
      · obtain ⟨o1, o2, o3⟩ := hx
        rw [z_u_n o2, hk _ (by omega)]
        exact hs x ⟨o1, o2, o3⟩
      · rw [z_u_n (by omega), hk _ (by omega)]
        exact h0
      · by_cases e9 : p = p0
        · subst e9
          refine ⟨by rw [nu_s]; exact if_pos rfl, ?_⟩
          rw [nu_s]
          exact w2.kept (fun x _ _ => z_u_n (by omega))
        · obtain ⟨o1, o2⟩ := hp0 p (by omega)
          refine ⟨by rw [nu_n e9]; exact (if_neg e9).trans o1, ?_⟩
          rw [nu_n e9]
          exact o2.kept (fun x _ _ => by rw [z_u_n (by omega), hk _ (by omega)])
theorem c_X2_init {J a C : Nat} {o : Option Nat} (hJ : J < 8) (H : h (300 + J) = some (a, .inr (3, [.int 0, .null, .null, .int 0, .int 0]))) : z_J Z mX2_init (zR 2 36 21 175) 0 0 (fun r h' => r = .inl none ∧ z_newM h h' J a C (m_hv ad o)) 0 [.ref a, .int (nI J), .int (nI C), m_hv ad o] [] h := by
  cases o with
  | none =>
    show z_J Z mX2_init _ _ _ _ _ [.ref a, .int (nI J), .int (nI C), .null] [] h
    refine iX2_init_0 rfl ?_
    refine iX2_init_1 (Nat.le_of_ble_eq_true rfl) (Nat.le_of_ble_eq_true rfl) ?_
    refine iX2_init_4 rfl ?_
    refine iX2_init_6 (310 + J) rfl (by decide) ⟨by decide, by decide⟩ (fun q => ?_)
    refine iX2_init_9 (r := 300 + J) (fs := [.int 0, .null, .null, .int 0, .int 0]) (by rw [z_u_n (by omega)]; exact H) rfl ?_
    refine iX2_init_12 rfl ?_
    refine iX2_init_14 z_u_s rfl ?_
    refine iX2_init_17 rfl ?_
    refine iX2_init_19 z_u_s rfl ?_
    refine iX2_init_22 rfl ?_
    refine iX2_init_24N z_u_s rfl ?_
    refine iX2_init_27 rfl ?_
    refine z_J.widen (1 + 4 * 0) (5 + 34 * 0) (by decide) (by decide) ?_
    refine l_X2_init (g0 := h) hJ (fun g hg => ⟨rfl, hg⟩) 5 0 _ (fun _ => none) z_zero rfl (fun x hx => ?_) z_u_s ?_ (fun p hp => by omega)
    · obtain ⟨o1, o2, o3⟩ := hx
      rw [z_u_n o1, z_u_n o1, z_u_n o1, z_u_n o1, z_u_n o2]
    · rw [z_u_n (by omega), z_u_n (by omega), z_u_n (by omega), z_u_n (by omega)]
      exact z_u_s
  | some i =>
    show z_J Z mX2_init _ _ _ _ _ [.ref a, .int (nI J), .int (nI C), .ref (ad (300 + i))] [] h
    refine iX2_init_0 rfl ?_
    refine iX2_init_1 (Nat.le_of_ble_eq_true rfl) (Nat.le_of_ble_eq_true rfl) ?_
    refine iX2_init_4 rfl ?_
    refine iX2_init_6 (310 + J) rfl (by decide) ⟨by decide, by decide⟩ (fun q => ?_)
    refine iX2_init_9 (r := 300 + J) (fs := [.int 0, .null, .null, .int 0, .int 0]) (by rw [z_u_n (by omega)]; exact H) rfl ?_
    refine iX2_init_12 rfl ?_
    refine iX2_init_14 z_u_s rfl ?_
    refine iX2_init_17 rfl ?_
    refine iX2_init_19 z_u_s rfl ?_
    refine iX2_init_22 rfl ?_
    refine iX2_init_24 z_u_s rfl ?_
    refine iX2_init_27 rfl ?_
    refine z_J.widen (1 + 4 * 0) (5 + 34 * 0) (by decide) (by decide) ?_
    refine l_X2_init (g0 := h) hJ (fun g hg => ⟨rfl, hg⟩) 5 0 _ (fun _ => none) z_zero rfl (fun x hx => ?_) z_u_s ?_ (fun p hp => by omega)
    · obtain ⟨o1, o2, o3⟩ := hx
      rw [z_u_n o1, z_u_n o1, z_u_n o1, z_u_n o1, z_u_n o2]
    · rw [z_u_n (by omega), z_u_n (by omega), z_u_n (by omega), z_u_n (by omega)]
      exact z_u_s
end ZMachInit
