/-! ===== Arrays.fill ===== -/
theorem z_u_u {h : zH} {r : Nat} {x y : Nat × zE} : z_u (z_u h r x) r y = z_u h r y := by
  funext q
  unfold z_u
  split <;> rfl
theorem z_u_id {h : zH} {r : Nat} {x : Nat × zE} (H : h r = some x) : z_u h r x = h := by
  funext q
  unfold z_u
  split
  · rename_i e; rw [e, H]
  · rfl
def n_fill {α : Type} (f : Nat → α) (x : α) (i : Nat) : Nat → α := fun j => if j < i then x else f j
theorem n_fill_up (f : Nat → Int32) (x : Int32) (i : Nat) : upd (n_fill f x i) i x = n_fill f x (i + 1) := by
  funext j
  unfold upd n_fill
  by_cases h : j = i
  · rw [if_pos h, if_pos (by omega)]
  · rw [if_neg h]
    by_cases h2 : j < i
    · rw [if_pos h2, if_pos (by omega)]
    · rw [if_neg h2, if_neg (by omega)]
theorem n_fill_0 {α : Type} (f : Nat → α) (x : α) : n_fill f x 0 = f := rfl
theorem n_fill_nI (f : Nat → Nat) (x i : Nat) : n_fill (fun k => nI (f k)) (nI x) i = fun k => nI (n_fill f x i k) := by
  funext j
  unfold n_fill
  split <;> rfl
section ZFill
variable {Z : zZ} {h : zH} {r a N : Nat} {f : Nat → Int32} {x : Int32} {Q : zO → zH → Prop}
theorem l_J7_fill (H : h r = some (a, .inl (0, N, .inl f))) (hN : N < 1000) (hq : Q (.inl none) (z_u h r (a, .inl (0, N, .inl (n_fill f x N))))) : ∀ n i, i + n = N → z_J Z mJ7_fill_53178 (zR 0 0 0 0) 0 0 Q 5 [.ref a, .int x, .int (nI i), .int (nI N)] [] (z_u h r (a, .inl (0, N, .inl (n_fill f x i)))) := by
  intro n
  induction n with
  | zero =>
    intro i hi
    obtain rfl : i = N := by omega
    refine iJ7_fill_53178_5 rfl ?_
    refine iJ7_fill_53178_7 (fun c => ?_) (fun c => ?_)
    · exact iJ7_fill_53178_20 (Nat.le_of_ble_eq_true rfl) (Nat.le_of_ble_eq_true rfl) hq
    · exact absurd (Int32.le_refl _) c
  | succ n ih =>
    intro i hi
    refine iJ7_fill_53178_5 rfl ?_
    refine iJ7_fill_53178_7 (fun c => ?_) (fun c => ?_)
    · have := n_le c; omega
    · refine iJ7_fill_53178_10 rfl ?_
      refine iJ7_fill_53178_13 z_u_s rfl (by omega) (by omega) ?_
      refine iJ7_fill_53178_14 rfl ?_
      rw [z_u_u, n_fill_up]
      show z_J Z mJ7_fill_53178 (zR 0 0 0 0) 0 0 Q 5 [.ref a, .int x, .int (nI i + nI 1), .int (nI N)] [] _
      rw [nI_add]
      exact ih (i + 1) (by omega)
theorem c_J7_fill (H : h r = some (a, .inl (0, N, .inl f))) (hN : N < 1000) : z_J Z mJ7_fill_53178 (zR 0 0 0 0) 0 0 (z_eq (.inl none) (z_u h r (a, .inl (0, N, .inl (n_fill f x N))))) 0 [.ref a, .int x] [] h := by
  refine iJ7_fill_53178_0 rfl ?_
  refine iJ7_fill_53178_3 H (by decide) ?_
  refine iJ7_fill_53178_4 rfl ?_
  have k := l_J7_fill (Z := Z) (x := x) H hN (Q := z_eq (.inl none) (z_u h r (a, .inl (0, N, .inl (n_fill f x N))))) ⟨rfl, rfl⟩ N 0 (by omega)
  rw [n_fill_0, z_u_id H] at k
  exact k
end ZFill
/-! ===== Needs ===== -/
abbrev z_arr (a N : Nat) (f : Nat → Nat) : Option (Nat × zE) := some (a, .inl (0, N, .inl (fun k => nI (f k))))
def z_needs (h : zH) (r a c : Nat) (NM NP NV ND NG GR : Nat → Nat) : Prop :=
  (∃ a1 a2 a3 a4 a5 a6, h r = some (a, .inr (4, [.ref a1, .ref a2, .ref a3, .ref a4, .ref a5, .int (nI c), .ref a6])) ∧ h (r + 1) = z_arr a1 40 NM ∧ h (r + 2) = z_arr a2 40 NP ∧ h (r + 3) = z_arr a3 40 NV ∧ h (r + 4) = z_arr a4 40 ND ∧ h (r + 5) = z_arr a5 40 NG ∧ h (r + 6) = z_arr a6 40 GR) ∧
  c ≤ 40 ∧ ∀ k, NM k < 1000 ∧ NP k < 1000 ∧ NV k < 1000 ∧ ND k < 1000 ∧ NG k < 1024 ∧ GR k < 1000
def n_sum (f : Nat → Nat) : Nat → Nat
  | 0 => 0
  | k + 1 => n_sum f k + f k
theorem n_sum_le {f : Nat → Nat} {b : Nat} (h : ∀ k, f k ≤ b) : ∀ c, n_sum f c ≤ c * b
  | 0 => Nat.zero_le _
  | c + 1 => by
    have h1 := n_sum_le h c
    have h2 := h c
    show n_sum f c + f c ≤ (c + 1) * b
    rw [Nat.succ_mul]
    omega
def n_or (f : Nat → Nat) : Nat → Nat
  | 0 => 0
  | k + 1 => n_or f k ||| f k
theorem n_or_lt {f : Nat → Nat} (h : ∀ k, f k < 2 ^ 10) : ∀ c, n_or f c < 2 ^ 10
  | 0 => by show 0 < 2 ^ 10; decide
  | c + 1 => Nat.or_lt_two_pow (n_or_lt h c) (h c)
theorem nI_or (a b : Nat) : nI a ||| nI b = nI (a ||| b) := by
  show Int32.ofNat a ||| Int32.ofNat b = Int32.ofNat (a ||| b)
  apply Int32.toBitVec_inj.mp
  show BitVec.ofNat 32 a ||| BitVec.ofNat 32 b = BitVec.ofNat 32 (a ||| b)
  rw [BitVec.ofNat_or]
section ZNeeds
variable {Z : zZ} {h : zH} {r a c m p v u : Nat} {NM NP NV ND NG GR : Nat → Nat} {Q : zO → zH → Prop}
theorem c_X3_clear (H : z_needs h r a c NM NP NV ND NG GR) : z_J Z mX3_clear (zR 1 23 0 0) 0 0 (fun o h' => o = .inl none ∧ z_needs h' r a 0 NM NP NV ND NG (n_fill GR 0 40) ∧ z_same r (r + 6) h h') 0 [.ref a] [] h := by
  obtain ⟨⟨a1, a2, a3, a4, a5, a6, k0, k1, k2, k3, k4, k5, k6⟩, hc, hB⟩ := H
  refine iX3_clear_0 rfl ?_
  refine iX3_clear_2 k0 rfl ?_
  refine iX3_clear_5 rfl ?_
  generalize hg : z_u h r _ = g1
  have m0 : g1 r = some (a, .inr (4, [.ref a1, .ref a2, .ref a3, .ref a4, .ref a5, .int (nI 0), .ref a6])) := by rw [← hg]; exact z_u_s
  have mm : ∀ q, q ≠ r → g1 q = h q := fun q hq => by rw [← hg, z_u_n hq]
  have m6 : g1 (r + 6) = z_arr a6 40 GR := (mm _ (by omega)).trans k6
  refine iX3_clear_6 m0 rfl ?_
  refine iX3_clear_9 rfl ?_
  refine iX3_clear_10 (R' := zR 0 0 0 0) rfl rfl (z_rmo rfl) (c_J7_fill m6 (by omega)) (z_qr ?_) z_qx
  refine iX3_clear_13 (Nat.zero_le _) (Nat.zero_le _) ⟨rfl, ⟨⟨a1, a2, a3, a4, a5, a6, ?_, ?_, ?_, ?_, ?_, ?_, ?_⟩, by omega, fun k => ?_⟩, ?_⟩
  · rw [z_u_n (by omega)]; exact m0
  · rw [z_u_n (by omega), mm _ (by omega)]; exact k1
  · rw [z_u_n (by omega), mm _ (by omega)]; exact k2
  · rw [z_u_n (by omega), mm _ (by omega)]; exact k3
  · rw [z_u_n (by omega), mm _ (by omega)]; exact k4
  · rw [z_u_n (by omega), mm _ (by omega)]; exact k5
  · rw [z_u_s]
    show some (a6, Sum.inl (0, 40, Sum.inl (n_fill (fun k => nI (GR k)) (nI 0) 40))) = _
    rw [n_fill_nI]
  · have := hB k
    unfold n_fill
    refine ⟨by omega, by omega, by omega, by omega, by omega, ?_⟩
    split <;> omega
  · rw [← hg]
    exact (z_same.rf.u (by omega) (by omega)).u (by omega) (by omega)
theorem n_max {x y : Nat} (hx : x < 2 ^ 31) (hy : y < 2 ^ 31) : (if nI x < nI y then nI y else nI x) = nI (max x y) := by
  by_cases hlt : x < y
  · rw [if_pos (nI_lt hlt hy), Nat.max_eq_right (Nat.le_of_lt hlt)]
  · rw [if_neg (nI_nlt (by omega) hx), Nat.max_eq_left (by omega)]
theorem n_min {x y : Nat} (hx : x < 2 ^ 31) (hy : y < 2 ^ 31) : (if nI y < nI x then nI y else nI x) = nI (min x y) := by
  by_cases hlt : y < x
  · rw [if_pos (nI_lt hlt hx), Nat.min_eq_right (Nat.le_of_lt hlt)]
  · rw [if_neg (nI_nlt (by omega) hy), Nat.min_eq_left (by omega)]
theorem n_pl (m p : Nat) : nI m * nI 5 + nI p = nI (m * 5 + p) := by rw [pk_mul, nI_add]
theorem c_X3_raise (H : z_needs h r a c NM NP NV ND NG GR) (hm : m < 8) (hp : p < 5) (hv : v < 1000) : z_J Z mX3_raise (zR 1 22 0 0) 0 0 (fun o h' => o = .inl none ∧ z_needs h' r a c NM NP NV ND NG (nu GR (m * 5 + p) (max (GR (m * 5 + p)) v)) ∧ z_same r (r + 6) h h') 0 [.ref a, .int (nI m), .int (nI p), .int (nI v)] [] h := by
  obtain ⟨⟨a1, a2, a3, a4, a5, a6, k0, k1, k2, k3, k4, k5, k6⟩, hc, hB⟩ := H
  have hb := hB (m * 5 + p)
  refine iX3_raise_0 rfl ?_
  show z_J Z mX3_raise (zR 1 22 0 0) 0 0 _ 9 [.ref a, .int (nI m), .int (nI p), .int (nI v), .int (nI m * nI 5 + nI p)] [.int (nI m * nI 5 + nI p)] h
  rw [n_pl]
  refine iX3_raise_9 (fun cc => ?_) (fun cc => ?_)
  · exact (n_nneg cc).elim
  · refine iX3_raise_12 rfl ?_
    refine iX3_raise_16 (fun cc => ?_) (fun cc => ?_)
    · have := n_le cc; omega
    · refine iX3_raise_19 rfl ?_
      refine iX3_raise_20 k0 rfl ?_
      refine iX3_raise_23 rfl ?_
      refine iX3_raise_26 k0 rfl ?_
      refine iX3_raise_29 rfl ?_
      refine iX3_raise_31 k6 rfl (by omega) (by omega) ?_
      refine iX3_raise_32 rfl ?_
      refine iX3_raise_33 rfl ?_
      rw [n_max (by omega) (by omega)]
      refine iX3_raise_36 k6 rfl (by omega) (by omega) ?_
      rw [n_upd]
      refine iX3_raise_37 (Nat.zero_le _) (Nat.zero_le _) ⟨rfl, ⟨⟨a1, a2, a3, a4, a5, a6, ?_, ?_, ?_, ?_, ?_, ?_, z_u_s⟩, hc, fun k => ?_⟩, z_same.rf.u (by omega) (by omega)⟩
      · rw [z_u_n (by omega)]; exact k0
      · rw [z_u_n (by omega)]; exact k1
      · rw [z_u_n (by omega)]; exact k2
      · rw [z_u_n (by omega)]; exact k3
      · rw [z_u_n (by omega)]; exact k4
      · rw [z_u_n (by omega)]; exact k5
      · have := hB k
        unfold nu
        refine ⟨by omega, by omega, by omega, by omega, by omega, ?_⟩
        split <;> omega
theorem c_X3_addIfRaised (H : z_needs h r a c NM NP NV ND NG GR) (hm : m < 8) (hp : p < 5) (hu : u < 1000) (hcp : c ≤ m * 5 + p) : z_J Z mX3_addIfRaised (zR 0 0 0 0) 0 0 (fun o h' => o = .inl none ∧ (if GR (m * 5 + p) = 0 then z_needs h' r a c NM NP NV ND NG GR else z_needs h' r a (c + 1) (nu NM c m) (nu NP c p) (nu NV c (GR (m * 5 + p))) (nu ND c u) NG GR) ∧ z_same r (r + 6) h h') 0 [.ref a, .int (nI m), .int (nI p), .int (nI u)] [] h := by
  have H0 := H
  obtain ⟨⟨a1, a2, a3, a4, a5, a6, k0, k1, k2, k3, k4, k5, k6⟩, hc, hB⟩ := H
  have hb := hB (m * 5 + p)
  refine iX3_addIfRaised_0 rfl ?_
  show z_J Z mX3_addIfRaised (zR 0 0 0 0) 0 0 _ 9 [.ref a, .int (nI m), .int (nI p), .int (nI u), .int (nI m * nI 5 + nI p)] [.int (nI m * nI 5 + nI p)] h
  rw [n_pl]
  refine iX3_addIfRaised_9 (fun cc => ?_) (fun cc => ?_)
  · exact (n_nneg cc).elim
  · refine iX3_addIfRaised_12 rfl ?_
    refine iX3_addIfRaised_16 (fun cc => ?_) (fun cc => ?_)
    · have := n_le cc; omega
    · refine iX3_addIfRaised_19 rfl ?_
      refine iX3_addIfRaised_20 k0 rfl ?_
      refine iX3_addIfRaised_23 rfl ?_
      refine iX3_addIfRaised_25 k6 rfl (by omega) (by omega) ?_
      refine iX3_addIfRaised_26 (fun cc => ?_) (fun cc => ?_)
      · exact iX3_addIfRaised_38 (Nat.le_of_ble_eq_true rfl) (Nat.le_of_ble_eq_true rfl) ⟨rfl, by rw [if_pos (n_e0 cc (by omega))]; exact H0, z_same.rf⟩
      · have hne := n_ne0 cc
        simp only [if_neg hne]
        refine iX3_addIfRaised_29 rfl ?_
        refine iX3_addIfRaised_30 k0 rfl ?_
        refine iX3_addIfRaised_33 rfl ?_
        refine iX3_addIfRaised_35 (fun cc => ?_) (fun cc => ?_)
        · refine iX3_addIfRaised_39 rfl ?_
          refine iX3_addIfRaised_40 k0 rfl ?_
          refine iX3_addIfRaised_43 rfl ?_
          refine iX3_addIfRaised_44 k0 rfl ?_
          refine iX3_addIfRaised_47 rfl ?_
          refine iX3_addIfRaised_48 k1 rfl (by omega) (by omega) ?_
          refine iX3_addIfRaised_49 rfl ?_
          rw [n_upd]
          generalize hg1 : z_u h (r + 1) _ = g1
          have f1 : ∀ q, q ≠ r + 1 → g1 q = h q := fun q hq => by rw [← hg1, z_u_n hq]
          have l0 := (f1 r (by omega)).trans k0
          have l1 : g1 (r + 1) = z_arr a1 40 (nu NM c m) := by rw [← hg1]; exact z_u_s
          have l2 := (f1 (r + 2) (by omega)).trans k2
          refine iX3_addIfRaised_50 l0 rfl ?_
          refine iX3_addIfRaised_53 rfl ?_
          refine iX3_addIfRaised_54 l0 rfl ?_
          refine iX3_addIfRaised_57 rfl ?_
          refine iX3_addIfRaised_58 l2 rfl (by omega) (by omega) ?_
          refine iX3_addIfRaised_59 rfl ?_
          rw [n_upd]
          generalize hg2 : z_u g1 (r + 2) _ = g2
          have f2 : ∀ q, q ≠ r + 1 → q ≠ r + 2 → g2 q = h q := fun q hq hq2 => by rw [← hg2, z_u_n hq2]; exact f1 q hq
          have m0 := (f2 r (by omega) (by omega)).trans k0
          have m1 : g2 (r + 1) = z_arr a1 40 (nu NM c m) := by rw [← hg2, z_u_n (by omega)]; exact l1
          have m2 : g2 (r + 2) = z_arr a2 40 (nu NP c p) := by rw [← hg2]; exact z_u_s
          have m3 := (f2 (r + 3) (by omega) (by omega)).trans k3
          have m6 := (f2 (r + 6) (by omega) (by omega)).trans k6
          refine iX3_addIfRaised_60 m0 rfl ?_
          refine iX3_addIfRaised_63 rfl ?_
          refine iX3_addIfRaised_64 m0 rfl ?_
          refine iX3_addIfRaised_67 rfl ?_
          refine iX3_addIfRaised_68 m0 rfl ?_
          refine iX3_addIfRaised_71 rfl ?_
          refine iX3_addIfRaised_73 m6 rfl (by omega) (by omega) ?_
          refine iX3_addIfRaised_74 m3 rfl (by omega) (by omega) ?_
          refine iX3_addIfRaised_75 rfl ?_
          rw [n_upd]
          generalize hg3 : z_u g2 (r + 3) _ = g3
          have f3 : ∀ q, q ≠ r + 1 → q ≠ r + 2 → q ≠ r + 3 → g3 q = h q := fun q hq hq2 hq3 => by rw [← hg3, z_u_n hq3]; exact f2 q hq hq2
          have n0 := (f3 r (by omega) (by omega) (by omega)).trans k0
          have n1 : g3 (r + 1) = z_arr a1 40 (nu NM c m) := by rw [← hg3, z_u_n (by omega)]; exact m1
          have n2 : g3 (r + 2) = z_arr a2 40 (nu NP c p) := by rw [← hg3, z_u_n (by omega)]; exact m2
          have n3 : g3 (r + 3) = z_arr a3 40 (nu NV c (GR (m * 5 + p))) := by rw [← hg3]; exact z_u_s
          have n4 := (f3 (r + 4) (by omega) (by omega) (by omega)).trans k4
          refine iX3_addIfRaised_76 n0 rfl ?_
          refine iX3_addIfRaised_79 rfl ?_
          refine iX3_addIfRaised_80 n0 rfl ?_
          refine iX3_addIfRaised_83 rfl ?_
          refine iX3_addIfRaised_84 n4 rfl (by omega) (by omega) ?_
          refine iX3_addIfRaised_85 rfl ?_
          rw [n_upd]
          generalize hg4 : z_u g3 (r + 4) _ = g4
          have f4 : ∀ q, q ≠ r + 4 → g4 q = g3 q := fun q hq => by rw [← hg4, z_u_n hq]
          have p4 : g4 (r + 4) = z_arr a4 40 (nu ND c u) := by rw [← hg4]; exact z_u_s
          have p0 := (f4 r (by omega)).trans n0
          refine iX3_addIfRaised_87 p0 rfl ?_
          refine iX3_addIfRaised_90 rfl ?_
          refine iX3_addIfRaised_92 p0 rfl ?_
          refine iX3_addIfRaised_95 (Nat.zero_le _) (Nat.zero_le _) ⟨rfl, ⟨⟨a1, a2, a3, a4, a5, a6, ?_, ?_, ?_, ?_, ?_, ?_, ?_⟩, by have := n_lt cc; omega, fun k => ?_⟩, ?_⟩
          · rw [z_u_s, ← nI_add]; rfl
          · rw [z_u_n (by omega), f4 _ (by omega)]; exact n1
          · rw [z_u_n (by omega), f4 _ (by omega)]; exact n2
          · rw [z_u_n (by omega), f4 _ (by omega)]; exact n3
          · rw [z_u_n (by omega)]; exact p4
          · rw [z_u_n (by omega), f4 _ (by omega), f3 _ (by omega) (by omega) (by omega)]; exact k5
          · rw [z_u_n (by omega), f4 _ (by omega), f3 _ (by omega) (by omega) (by omega)]; exact k6
          · have := hB k
            unfold nu
            refine ⟨?_, ?_, ?_, ?_, by omega, by omega⟩ <;> split <;> omega
          · intro q hq
            rw [z_u_n (by omega), f4 _ (by omega), f3 _ (by omega) (by omega) (by omega)]
        · have := n_nlt cc; omega
theorem l_X3_demandOfAll (H : z_needs h r a c NM NP NV ND NG GR) (hq : Q (.inl (some (.int (nI (n_sum ND c))))) h) : ∀ n k, k + n = c → z_J Z mX3_demandOfAll (zR 0 0 0 0) 0 0 Q 4 [.ref a, .int (nI (n_sum ND k)), .int (nI k)] [] h := by
  obtain ⟨⟨a1, a2, a3, a4, a5, a6, k0, k1, k2, k3, k4, k5, k6⟩, hc, hB⟩ := H
  intro n
  induction n with
  | zero =>
    intro k hk
    obtain rfl : k = c := by omega
    refine iX3_demandOfAll_4 rfl ?_
    refine iX3_demandOfAll_6 k0 rfl ?_
    refine iX3_demandOfAll_9 (fun cc => ?_) (fun cc => ?_)
    · refine iX3_demandOfAll_27 rfl ?_
      exact iX3_demandOfAll_28 (Nat.le_of_ble_eq_true rfl) (Nat.le_of_ble_eq_true rfl) hq
    · exact absurd (Int32.le_refl _) cc
  | succ n ih =>
    intro k hk
    refine iX3_demandOfAll_4 rfl ?_
    refine iX3_demandOfAll_6 k0 rfl ?_
    refine iX3_demandOfAll_9 (fun cc => ?_) (fun cc => ?_)
    · have := n_le cc; omega
    · refine iX3_demandOfAll_12 rfl ?_
      refine iX3_demandOfAll_14 k0 rfl ?_
      refine iX3_demandOfAll_17 rfl ?_
      refine iX3_demandOfAll_18 k4 rfl (by omega) (by omega) ?_
      refine iX3_demandOfAll_19 rfl ?_
      show z_J Z mX3_demandOfAll (zR 0 0 0 0) 0 0 Q 4 [.ref a, .int (nI (n_sum ND k) + nI (ND k)), .int (nI k + nI 1)] [] h
      rw [nI_add, nI_add]
      exact ih (k + 1) (by omega)
theorem c_X3_demandOfAll (H : z_needs h r a c NM NP NV ND NG GR) : z_J Z mX3_demandOfAll (zR 0 0 0 0) 0 0 (z_eq (.inl (some (.int (nI (n_sum ND c))))) h) 0 [.ref a] [] h := by
  refine iX3_demandOfAll_0 rfl ?_
  exact l_X3_demandOfAll H ⟨rfl, rfl⟩ c 0 (by omega)
theorem l_X3_demandOfProduct (H : z_needs h r a c NM NP NV ND NG GR) (hp : p < 5) (hq : Q (.inl (some (.int (nI (n_sum (fun k => if NP k = p then ND k else 0) c))))) h) : ∀ n k, k + n = c → z_J Z mX3_demandOfProduct (zR 0 0 0 0) 0 0 Q 4 [.ref a, .int (nI p), .int (nI (n_sum (fun k => if NP k = p then ND k else 0) k)), .int (nI k)] [] h := by
  obtain ⟨⟨a1, a2, a3, a4, a5, a6, k0, k1, k2, k3, k4, k5, k6⟩, hc, hB⟩ := H
  intro n
  induction n with
  | zero =>
    intro k hk
    obtain rfl : k = c := by omega
    refine iX3_demandOfProduct_4 rfl ?_
    refine iX3_demandOfProduct_6 k0 rfl ?_
    refine iX3_demandOfProduct_9 (fun cc => ?_) (fun cc => ?_)
    · refine iX3_demandOfProduct_41 rfl ?_
      exact iX3_demandOfProduct_42 (Nat.le_of_ble_eq_true rfl) (Nat.le_of_ble_eq_true rfl) hq
    · exact absurd (Int32.le_refl _) cc
  | succ n ih =>
    intro k hk
    have hb := hB k
    have e : n_sum (fun k => if NP k = p then ND k else 0) (k + 1) = n_sum (fun k => if NP k = p then ND k else 0) k + (if NP k = p then ND k else 0) := rfl
    have ih := ih (k + 1) (by omega)
    rw [e, ← nI_add, ← nI_add] at ih
    refine iX3_demandOfProduct_4 rfl ?_
    refine iX3_demandOfProduct_6 k0 rfl ?_
    refine iX3_demandOfProduct_9 (fun cc => ?_) (fun cc => ?_)
    · have := n_le cc; omega
    · refine iX3_demandOfProduct_12 rfl ?_
      refine iX3_demandOfProduct_14 k0 rfl ?_
      refine iX3_demandOfProduct_17 rfl ?_
      refine iX3_demandOfProduct_18 k2 rfl (by omega) (by omega) ?_
      refine iX3_demandOfProduct_19 rfl ?_
      refine iX3_demandOfProduct_20 (fun cc => ?_) (fun cc => ?_)
      · have cx := n_ne cc
        rw [if_neg cx] at ih
        refine iX3_demandOfProduct_32 rfl ?_
        refine iX3_demandOfProduct_33 rfl ?_
        exact ih
      · have cx := n_eq cc
        rw [if_pos cx] at ih
        refine iX3_demandOfProduct_23 rfl ?_
        refine iX3_demandOfProduct_24 k0 rfl ?_
        refine iX3_demandOfProduct_27 rfl ?_
        refine iX3_demandOfProduct_28 k4 rfl (by omega) (by omega) ?_
        refine iX3_demandOfProduct_29 rfl ?_
        refine iX3_demandOfProduct_33 rfl ?_
        exact ih
theorem c_X3_demandOfProduct (H : z_needs h r a c NM NP NV ND NG GR) (hp : p < 5) : z_J Z mX3_demandOfProduct (zR 0 0 0 0) 0 0 (z_eq (.inl (some (.int (nI (n_sum (fun k => if NP k = p then ND k else 0) c))))) h) 0 [.ref a, .int (nI p)] [] h := by
  refine iX3_demandOfProduct_0 rfl ?_
  exact l_X3_demandOfProduct H hp ⟨rfl, rfl⟩ c 0 (by omega)
theorem l_X3_demandOfSet {S : Nat} (H : z_needs h r a c NM NP NV ND NG GR) (hS : S < 2 ^ 31) (hc10 : c ≤ 10) (hq : Q (.inl (some (.int (nI (n_sum (fun k => if S.testBit k then ND k else 0) c))))) h) : ∀ n k, k + n = c → z_J Z mX3_demandOfSet (zR 0 0 0 0) 0 0 Q 4 [.ref a, .int (nI S), .int (nI (n_sum (fun k => if S.testBit k then ND k else 0) k)), .int (nI k)] [] h := by
  obtain ⟨⟨a1, a2, a3, a4, a5, a6, k0, k1, k2, k3, k4, k5, k6⟩, hc, hB⟩ := H
  intro n
  induction n with
  | zero =>
    intro k hk
    obtain rfl : k = c := by omega
    refine iX3_demandOfSet_4 rfl ?_
    refine iX3_demandOfSet_6 k0 rfl ?_
    refine iX3_demandOfSet_9 (fun cc => ?_) (fun cc => ?_)
    · refine iX3_demandOfSet_39 rfl ?_
      exact iX3_demandOfSet_40 (Nat.le_of_ble_eq_true rfl) (Nat.le_of_ble_eq_true rfl) hq
    · exact absurd (Int32.le_refl _) cc
  | succ n ih =>
    intro k hk
    have hb := hB k
    have e : n_sum (fun k => if S.testBit k then ND k else 0) (k + 1) = n_sum (fun k => if S.testBit k then ND k else 0) k + (if S.testBit k then ND k else 0) := rfl
    have ih := ih (k + 1) (by omega)
    rw [e, ← nI_add, ← nI_add, n_tb] at ih
    have hbit := n_bit (P := S) (p := k) hS (by omega)
    refine iX3_demandOfSet_4 rfl ?_
    refine iX3_demandOfSet_6 k0 rfl ?_
    refine iX3_demandOfSet_9 (fun cc => ?_) (fun cc => ?_)
    · have := n_le cc; omega
    · refine iX3_demandOfSet_12 rfl ?_
      refine iX3_demandOfSet_18 (fun cc => ?_) (fun cc => ?_)
      · have c := n_e0 (hbit.symm.trans cc) (by omega)
        rw [if_neg (by rw [decide_eq_false (by omega)]; decide)] at ih
        refine iX3_demandOfSet_30 rfl ?_
        refine iX3_demandOfSet_31 rfl ?_
        exact ih
      · have c : S / 2 ^ k % 2 ≠ 0 := fun q => cc (hbit.trans (by rw [q]; rfl))
        rw [if_pos (by rw [decide_eq_true (by omega)])] at ih
        refine iX3_demandOfSet_21 rfl ?_
        refine iX3_demandOfSet_22 k0 rfl ?_
        refine iX3_demandOfSet_25 rfl ?_
        refine iX3_demandOfSet_26 k4 rfl (by omega) (by omega) ?_
        refine iX3_demandOfSet_27 rfl ?_
        refine iX3_demandOfSet_31 rfl ?_
        exact ih
theorem c_X3_demandOfSet {S : Nat} (H : z_needs h r a c NM NP NV ND NG GR) (hS : S < 2 ^ 31) (hc10 : c ≤ 10) : z_J Z mX3_demandOfSet (zR 0 0 0 0) 0 0 (z_eq (.inl (some (.int (nI (n_sum (fun k => if S.testBit k then ND k else 0) c))))) h) 0 [.ref a, .int (nI S)] [] h := by
  refine iX3_demandOfSet_0 rfl ?_
  exact l_X3_demandOfSet H hS hc10 ⟨rfl, rfl⟩ c 0 (by omega)
theorem l_X3_giversOfSet {S : Nat} (H : z_needs h r a c NM NP NV ND NG GR) (hS : S < 2 ^ 31) (hc10 : c ≤ 10) (hq : Q (.inl (some (.int (nI (n_or (fun k => if S.testBit k then NG k else 0) c))))) h) : ∀ n k, k + n = c → z_J Z mX3_giversOfSet (zR 0 0 0 0) 0 0 Q 4 [.ref a, .int (nI S), .int (nI (n_or (fun k => if S.testBit k then NG k else 0) k)), .int (nI k)] [] h := by
  obtain ⟨⟨a1, a2, a3, a4, a5, a6, k0, k1, k2, k3, k4, k5, k6⟩, hc, hB⟩ := H
  intro n
  induction n with
  | zero =>
    intro k hk
    obtain rfl : k = c := by omega
    refine iX3_giversOfSet_4 rfl ?_
    refine iX3_giversOfSet_6 k0 rfl ?_
    refine iX3_giversOfSet_9 (fun cc => ?_) (fun cc => ?_)
    · refine iX3_giversOfSet_39 rfl ?_
      exact iX3_giversOfSet_40 (Nat.le_of_ble_eq_true rfl) (Nat.le_of_ble_eq_true rfl) hq
    · exact absurd (Int32.le_refl _) cc
  | succ n ih =>
    intro k hk
    have hb := hB k
    have e : n_or (fun k => if S.testBit k then NG k else 0) (k + 1) = n_or (fun k => if S.testBit k then NG k else 0) k ||| (if S.testBit k then NG k else 0) := rfl
    have ih := ih (k + 1) (by omega)
    rw [e, ← nI_or, ← nI_add, n_tb] at ih
    have hbit := n_bit (P := S) (p := k) hS (by omega)
    refine iX3_giversOfSet_4 rfl ?_
    refine iX3_giversOfSet_6 k0 rfl ?_
    refine iX3_giversOfSet_9 (fun cc => ?_) (fun cc => ?_)
    · have := n_le cc; omega
    · refine iX3_giversOfSet_12 rfl ?_
      refine iX3_giversOfSet_18 (fun cc => ?_) (fun cc => ?_)
      · have c := n_e0 (hbit.symm.trans cc) (by omega)
        rw [if_neg (by rw [decide_eq_false (by omega)]; decide)] at ih
        refine iX3_giversOfSet_30 rfl ?_
        refine iX3_giversOfSet_31 rfl ?_
        exact ih
      · have c : S / 2 ^ k % 2 ≠ 0 := fun q => cc (hbit.trans (by rw [q]; rfl))
        rw [if_pos (by rw [decide_eq_true (by omega)])] at ih
        refine iX3_giversOfSet_21 rfl ?_
        refine iX3_giversOfSet_22 k0 rfl ?_
        refine iX3_giversOfSet_25 rfl ?_
        refine iX3_giversOfSet_26 k5 rfl (by omega) (by omega) ?_
        refine iX3_giversOfSet_27 rfl ?_
        refine iX3_giversOfSet_31 rfl ?_
        exact ih
theorem c_X3_giversOfSet {S : Nat} (H : z_needs h r a c NM NP NV ND NG GR) (hS : S < 2 ^ 31) (hc10 : c ≤ 10) : z_J Z mX3_giversOfSet (zR 0 0 0 0) 0 0 (z_eq (.inl (some (.int (nI (n_or (fun k => if S.testBit k then NG k else 0) c))))) h) 0 [.ref a, .int (nI S)] [] h := by
  refine iX3_giversOfSet_0 rfl ?_
  exact l_X3_giversOfSet H hS hc10 ⟨rfl, rfl⟩ c 0 (by omega)
end ZNeeds
