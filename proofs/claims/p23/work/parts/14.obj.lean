/-! ===== bits ===== -/
theorem n_sh : ∀ n : Nat, n < 32 → ((nI n &&& 31).toBitVec.smod 32).toNat = n := by decide
theorem n_bit {P p : Nat} (hP : P < 2 ^ 31) (hp : p < 32) : (nI P >>> (nI p &&& 31)) &&& nI 1 = nI (P / 2 ^ p % 2) := by
  rw [pk_shrN hP _ p (n_sh p hp)]
  have h : P / 2 ^ p < 2 ^ 32 := Nat.lt_of_le_of_lt (Nat.div_le_self _ _) (by omega)
  exact pk_andN h 1 (by decide)
theorem n_tb (P p : Nat) : P.testBit p = decide (P / 2 ^ p % 2 = 1) := Nat.testBit_eq_decide_div_mod_eq
/-! ===== Right ===== -/
def z_right (h : zH) (r a P F L V U : Nat) : Prop := h r = some (a, .inr (5, [.int (nI P), .int (nI F), .int (nI L), .int (nI V), .int (nI U)]))
def r_can (P F L V p v d : Nat) : Bool := P.testBit p && decide (v ≤ V) && decide (F ≤ d) && decide (d ≤ L)
section ZRight
variable {Z : zZ} {h : zH} {r a P F L V U p v d : Nat} {Q : zO → zH → Prop}
theorem c_X4_init (H : h r = some (a, .inr (5, [.int 0, .int 0, .int 0, .int 0, .int 0]))) : z_J Z mX4_init (zR 1 16 0 0) 0 0 (fun o h' => o = .inl none ∧ z_right h' r a P F L V U ∧ z_same r r h h') 0 [.ref a, .int (nI P), .int (nI V), .int (nI U), .int (nI F), .int (nI L)] [] h := by
  refine iX4_init_0 rfl ?_
  refine iX4_init_1 (Nat.le_of_ble_eq_true rfl) (Nat.le_of_ble_eq_true rfl) ?_
  refine iX4_init_4 rfl ?_
  refine iX4_init_6 H rfl ?_
  refine iX4_init_9 rfl ?_
  refine iX4_init_11 z_u_s rfl ?_
  refine iX4_init_14 rfl ?_
  refine iX4_init_16 z_u_s rfl ?_
  refine iX4_init_19 rfl ?_
  refine iX4_init_22 z_u_s rfl ?_
  refine iX4_init_25 rfl ?_
  refine iX4_init_28 z_u_s rfl ?_
  refine iX4_init_31 (Nat.zero_le _) (Nat.zero_le _) ⟨rfl, ?_, ?_⟩
  · exact z_u_s
  · exact ((((z_same.rf.u (Nat.le_refl _) (Nat.le_refl _)).u (Nat.le_refl _) (Nat.le_refl _)).u (Nat.le_refl _) (Nat.le_refl _)).u (Nat.le_refl _) (Nat.le_refl _)).u (Nat.le_refl _) (Nat.le_refl _)
theorem c_X4_canGive (H : z_right h r a P F L V U) (hP : P < 1000) (hF : F < 1000) (hL : L < 1000) (hV : V < 1000) (hp : p < 32) (hv : v < 1000) (hd : d < 1000) : z_J Z mX4_canGive (zR 0 0 0 0) 0 0 (z_eq (.inl (some (.int (zb (r_can P F L V p v d))))) h) 0 [.ref a, .int (nI p), .int (nI v), .int (nI d)] [] h := by
  unfold z_right at H
  have hb := n_bit (P := P) (p := p) (by omega) hp
  refine iX4_canGive_0 rfl ?_
  refine iX4_canGive_1 H rfl ?_
  refine iX4_canGive_4 rfl ?_
  refine iX4_canGive_8 (fun c => ?_) (fun c => ?_)
  · refine iX4_canGive_39 rfl ?_
    exact iX4_canGive_40 rfl (Nat.le_of_ble_eq_true rfl) (Nat.le_of_ble_eq_true rfl) ⟨by
      have c1 := n_e0 (hb.symm.trans c) (by omega)
      unfold r_can
      rw [n_tb, decide_eq_false (by omega)]
      rfl, rfl⟩
  · have c1 : P / 2 ^ p % 2 ≠ 0 := fun q => c (hb.trans (by rw [q]; rfl))
    have ct : P.testBit p = true := by rw [n_tb, decide_eq_true (by omega)]
    refine iX4_canGive_11 rfl ?_
    refine iX4_canGive_13 H rfl ?_
    refine iX4_canGive_16 (fun c => ?_) (fun c => ?_)
    · refine iX4_canGive_39 rfl ?_
      exact iX4_canGive_40 rfl (Nat.le_of_ble_eq_true rfl) (Nat.le_of_ble_eq_true rfl) ⟨by
        have c2 := n_lt c
        unfold r_can
        rw [ct, decide_eq_false (by omega)]
        rfl, rfl⟩
    · have c2 := n_nlt c
      refine iX4_canGive_19 rfl ?_
      refine iX4_canGive_21 H rfl ?_
      refine iX4_canGive_24 (fun c => ?_) (fun c => ?_)
      · refine iX4_canGive_39 rfl ?_
        exact iX4_canGive_40 rfl (Nat.le_of_ble_eq_true rfl) (Nat.le_of_ble_eq_true rfl) ⟨by
          have c3 := n_lt c
          unfold r_can
          rw [ct, decide_eq_true c2, decide_eq_false (by omega)]
          rfl, rfl⟩
      · have c3 := n_nlt c
        refine iX4_canGive_27 rfl ?_
        refine iX4_canGive_29 H rfl ?_
        refine iX4_canGive_32 (fun c => ?_) (fun c => ?_)
        · refine iX4_canGive_39 rfl ?_
          exact iX4_canGive_40 rfl (Nat.le_of_ble_eq_true rfl) (Nat.le_of_ble_eq_true rfl) ⟨by
            have c4 := n_lt c
            unfold r_can
            rw [ct, decide_eq_true c2, decide_eq_true c3, decide_eq_false (by omega)]
            rfl, rfl⟩
        · refine iX4_canGive_35 rfl ?_
          exact iX4_canGive_40 rfl (Nat.le_of_ble_eq_true rfl) (Nat.le_of_ble_eq_true rfl) ⟨by
            have c4 := n_nlt c
            unfold r_can
            rw [ct, decide_eq_true c2, decide_eq_true c3, decide_eq_true (by omega)]
            rfl, rfl⟩
end ZRight
/-! ===== History(), Machine() ===== -/
def z_zero : Nat → Nat := fun _ => 0
section ZInit
variable {Z : zZ} {h : zH} {r a : Nat} {Q : zO → zH → Prop}
theorem c_X1_init (H : h r = some (a, .inr (2, [.null, .null, .null, .int 0]))) : z_J Z mX1_init (zR 1 16 3 30) 0 0 (fun o h' => o = .inl none ∧ z_hist h' r a 0 z_zero z_zero z_zero ∧ z_same r (r + 3) h h') 0 [.ref a] [] h := by
  refine iX1_init_0 rfl ?_
  refine iX1_init_1 (Nat.le_of_ble_eq_true rfl) (Nat.le_of_ble_eq_true rfl) ?_
  refine iX1_init_4 rfl ?_
  refine iX1_init_7 (r + 1) rfl (by decide) (by decide) (fun q7 => ?_)
  have k0 : (z_u h (r + 1) (q7, .inl (0, 10, .inl (fun _ => 0)))) r = some (a, .inr (2, [.null, .null, .null, .int 0])) := by rw [z_u_n (by omega)]; exact H
  refine iX1_init_9 k0 rfl ?_
  refine iX1_init_12 rfl ?_
  refine iX1_init_15 (r + 2) rfl (by decide) (by decide) (fun q15 => ?_)
  refine iX1_init_17 (fs := [.ref q7, .null, .null, .int 0]) (r := r) (by rw [z_u_n (by omega), z_u_s]; rfl) rfl ?_
  refine iX1_init_20 rfl ?_
  refine iX1_init_23 (r + 3) rfl (by decide) (by decide) (fun q23 => ?_)
  refine iX1_init_25 (fs := [.ref q7, .ref q15, .null, .int 0]) (r := r) (by rw [z_u_n (by omega), z_u_s]; rfl) rfl ?_
  refine iX1_init_28 (Nat.le_refl _) (Nat.le_refl _) ⟨rfl, ⟨⟨q7, q15, q23, ?_, ?_, ?_, ?_⟩, by omega, fun k => by unfold z_zero; omega⟩, ?_⟩
  · exact z_u_s
  · rw [z_u_n (by omega), z_u_n (by omega), z_u_n (by omega), z_u_n (by omega), z_u_n (by omega), z_u_s]; rfl
  · rw [z_u_n (by omega), z_u_n (by omega), z_u_n (by omega), z_u_s]; rfl
  · rw [z_u_n (by omega), z_u_s]; rfl
  · exact (((((z_same.rf.u (by omega) (by omega)).u (by omega) (by omega)).u (by omega) (by omega)).u (by omega) (by omega)).u (by omega) (by omega)).u (by omega) (by omega)
end ZInit
/-! ===== Machine.countsBy ===== -/
def m_hv (ad : Nat → Nat) (o : Option Nat) : Value := match o with
  | none => .null
  | some i => .ref (ad (300 + i))
def z_mach (h : zH) (ad : Nat → Nat) (j c : Nat) (o : Option Nat) (b : Bool) : Prop := h (300 + j) = some (ad (300 + j), .inr (3, [.int (nI j), m_hv ad o, .ref (ad (310 + j)), .int (nI c), .int (zb b)]))
def z_machs (h : zH) (ad : Nat → Nat) (nM : Nat) (MC : Nat → Nat) (MH : Nat → Option Nat) (MA : Nat → Bool) : Prop := ∀ j, j < nM → z_mach h ad j (MC j) (MH j) (MA j)
def m_wf (nM : Nat) (MH : Nat → Option Nat) : Prop := nM ≤ 8 ∧ ∀ j i, MH j = some i → i < j
def m_by (MH : Nat → Option Nat) (MA : Nat → Bool) : Nat → Nat → Nat
  | 0, j => j
  | f + 1, j => match MH j with
    | none => j
    | some i => if MA j = true then j else m_by MH MA f i
theorem m_by_le {nM : Nat} {MH : Nat → Option Nat} {MA : Nat → Bool} (hw : m_wf nM MH) : ∀ f j, m_by MH MA f j ≤ j := by
  intro f
  induction f with
  | zero => intro j; exact Nat.le_refl _
  | succ f ih =>
    intro j
    unfold m_by
    cases hj : MH j with
    | none => exact Nat.le_refl _
    | some i =>
      dsimp only
      split
      · exact Nat.le_refl _
      · exact Nat.le_trans (ih i) (Nat.le_of_lt (hw.2 j i hj))
section ZMach
variable {Z : zZ} {h : zH} {ad : Nat → Nat} {nM a0 : Nat} {MC : Nat → Nat} {MH : Nat → Option Nat} {MA : Nat → Bool} {Q : zO → zH → Prop}
theorem l_X2_countsBy (H : z_machs h ad nM MC MH MA) (hw : m_wf nM MH) : ∀ f j, j ≤ f → j < nM → Q (.inl (some (.int (nI (m_by MH MA f j))))) h → z_J Z mX2_countsBy (zR 0 0 0 0) 0 0 Q 2 [.ref a0, .ref (ad (300 + j))] [] h := by
  intro f
  induction f with
  | zero =>
    intro j hj hn hq
    have h0 := H j hn
    have hz : MH j = none := by
      cases q : MH j with
      | none => rfl
      | some i => have := hw.2 j i q; omega
    unfold z_mach at h0
    rw [hz] at h0
    refine iX2_countsBy_2 rfl ?_
    refine iX2_countsBy_3 h0 rfl ?_
    refine iX2_countsBy_6N ?_
    refine iX2_countsBy_24 rfl ?_
    refine iX2_countsBy_25 h0 rfl ?_
    exact iX2_countsBy_28 (Nat.le_of_ble_eq_true rfl) (Nat.le_of_ble_eq_true rfl) hq
  | succ f ih =>
    intro j hj hn hq
    have h0 := H j hn
    unfold z_mach at h0
    unfold m_by at hq
    cases hz : MH j with
    | none =>
      rw [hz] at h0 hq
      refine iX2_countsBy_2 rfl ?_
      refine iX2_countsBy_3 h0 rfl ?_
      refine iX2_countsBy_6N ?_
      refine iX2_countsBy_24 rfl ?_
      refine iX2_countsBy_25 h0 rfl ?_
      exact iX2_countsBy_28 (Nat.le_of_ble_eq_true rfl) (Nat.le_of_ble_eq_true rfl) hq
    | some i =>
      rw [hz] at h0 hq
      have hi := hw.2 j i hz
      dsimp only at hq
      refine iX2_countsBy_2 rfl ?_
      refine iX2_countsBy_3 h0 rfl ?_
      refine iX2_countsBy_6 ?_
      refine iX2_countsBy_9 rfl ?_
      refine iX2_countsBy_10 h0 rfl ?_
      refine iX2_countsBy_13 (fun c => ?_) (fun c => ?_)
      · rw [if_pos (zb_n0 c)] at hq
        refine iX2_countsBy_24 rfl ?_
        refine iX2_countsBy_25 h0 rfl ?_
        exact iX2_countsBy_28 (Nat.le_of_ble_eq_true rfl) (Nat.le_of_ble_eq_true rfl) hq
      · rw [if_neg (by rw [zb_0 c]; decide)] at hq
        refine iX2_countsBy_16 rfl ?_
        refine iX2_countsBy_17 h0 rfl ?_
        refine iX2_countsBy_20 rfl ?_
        exact ih i (by omega) (by omega) hq
theorem c_X2_countsBy {j : Nat} (H : z_machs h ad nM MC MH MA) (hw : m_wf nM MH) (hj : j < nM) : z_J Z mX2_countsBy (zR 0 0 0 0) 0 0 (z_eq (.inl (some (.int (nI (m_by MH MA 8 j))))) h) 0 [.ref (ad (300 + j))] [] h := by
  have := hw.1
  refine iX2_countsBy_0 rfl ?_
  exact l_X2_countsBy H hw 8 j (by omega) hj ⟨rfl, rfl⟩
end ZMach
