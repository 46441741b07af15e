/-! ===== numbers ===== -/
def zb (b : Bool) : Int32 := match b with
  | true => nI 1
  | false => nI 0
theorem n_dec {i : Int32} {k : Nat} (h : i + nI 1 = nI (k + 1)) : i = nI k := by
  have h1 : i + nI 1 - nI 1 = nI (k + 1) - nI 1 := by rw [h]
  rw [Int32.add_sub_cancel] at h1
  rw [h1]
  exact nI_pred k
theorem n_dec0 {i : Int32} (h : i + nI 1 = nI 0) : i = -1 := by
  have h1 : i + nI 1 - nI 1 = nI 0 - nI 1 := by rw [h]
  rw [Int32.add_sub_cancel] at h1
  rw [h1]
  decide
theorem n_m1 {n : Nat} (h : 0 < n) : nI n - nI 1 = nI (n - 1) := by
  obtain ⟨k, rfl⟩ : ∃ k, n = k + 1 := ⟨n - 1, by omega⟩
  exact nI_pred k
theorem n_lt {a b : Nat} (h : nI a < nI b) (ha : a < 2 ^ 31 := by omega) (hb : b < 2 ^ 31 := by omega) : a < b := (nI_ltI ha hb).mp h
theorem n_nlt {a b : Nat} (h : ¬ nI a < nI b) (ha : a < 2 ^ 31 := by omega) (hb : b < 2 ^ 31 := by omega) : b ≤ a := Nat.not_lt.mp fun q => h ((nI_ltI ha hb).mpr q)
theorem n_le {a b : Nat} (h : nI a ≤ nI b) (ha : a < 2 ^ 31 := by omega) (hb : b < 2 ^ 31 := by omega) : a ≤ b := (nI_leI ha hb).mp h
theorem n_nle {a b : Nat} (h : ¬ nI a ≤ nI b) (ha : a < 2 ^ 31 := by omega) (hb : b < 2 ^ 31 := by omega) : b < a := Nat.not_le.mp fun q => h ((nI_leI ha hb).mpr q)
theorem n_eq {a b : Nat} (h : nI a = nI b) (ha : a < 2 ^ 31 := by omega) (hb : b < 2 ^ 31 := by omega) : a = b := (nI_eq ha hb).mp h
theorem n_ne {a b : Nat} (h : ¬ nI a = nI b) (ha : a < 2 ^ 31 := by omega) (hb : b < 2 ^ 31 := by omega) : a ≠ b := fun q => h (by rw [q])
theorem n_e0 {a : Nat} (h : nI a = 0) (ha : a < 2 ^ 31 := by omega) : a = 0 := n_eq (b := 0) h ha
theorem n_ne0 {a : Nat} (h : ¬ nI a = 0) : a ≠ 0 := fun q => h (by rw [q]; rfl)
theorem n_0lt {a : Nat} (h : 0 < nI a) (ha : a < 2 ^ 31 := by omega) : 0 < a := n_lt (a := 0) h
theorem n_n0lt {a : Nat} (h : ¬ 0 < nI a) (ha : a < 2 ^ 31 := by omega) : a = 0 := Nat.le_zero.mp (n_nlt (a := 0) h)
theorem n_nneg {a : Nat} (h : nI a < 0) (ha : a < 2 ^ 31 := by omega) : False := absurd h (nI_pos ha)
theorem n_m1p (i : Int32) : i + -1 + nI 1 = i := by
  have h : (-1 : Int32) = -(nI 1) := by decide
  rw [h, Int32.add_assoc, Int32.add_left_neg, Int32.add_zero]
theorem zb_0 {b : Bool} (h : zb b = 0) : b = false := by
  cases b
  · rfl
  · exact absurd h (by decide)
theorem zb_n0 {b : Bool} (h : ¬ zb b = 0) : b = true := by
  cases b
  · exact absurd (by decide) h
  · rfl
theorem zb_nar (b : Bool) : narrow .boolean (.int (zb b)) = .int (zb b) := by cases b <;> rfl
def nu (f : Nat → Nat) (k x : Nat) : Nat → Nat := fun j => if j = k then x else f j
theorem nu_s {f : Nat → Nat} {k x : Nat} : nu f k x k = x := if_pos rfl
theorem nu_n {f : Nat → Nat} {k x j : Nat} (h : j ≠ k) : nu f k x j = f j := if_neg h
theorem n_upd (f : Nat → Nat) (k x : Nat) : upd (fun j => nI (f j)) k (nI x) = fun j => nI (nu f k x j) := by
  funext j
  unfold upd nu
  split <;> rfl
def z_same (lo hi : Nat) (h h' : zH) : Prop := ∀ q, (q < lo ∨ hi < q) → h' q = h q
theorem z_same.rf {lo hi : Nat} {h : zH} : z_same lo hi h h := fun _ _ => rfl
theorem z_same.u {lo hi r : Nat} {h h' : zH} {x : Nat × zE} (h1 : z_same lo hi h h') (hl : lo ≤ r) (hh : r ≤ hi) : z_same lo hi h (z_u h' r x) := fun q hq => by rw [z_u_n (by omega)]; exact h1 q hq
theorem z_same.trans {lo hi : Nat} {h h1 h2 : zH} (a : z_same lo hi h h1) (b : z_same lo hi h1 h2) : z_same lo hi h h2 := fun q hq => (b q hq).trans (a q hq)
theorem z_same.wide {lo hi lo' hi' : Nat} {h h1 : zH} (a : z_same lo hi h h1) (h2 : lo' ≤ lo) (h3 : hi ≤ hi') : z_same lo' hi' h h1 := fun q hq => a q (by omega)
/-! ===== History ===== -/
def z_hist (h : zH) (r a n : Nat) (V F E : Nat → Nat) : Prop :=
  (∃ av af ae, h r = some (a, .inr (2, [.ref av, .ref af, .ref ae, .int (nI n)])) ∧ h (r + 1) = some (av, .inl (0, 10, .inl (fun k => nI (V k)))) ∧ h (r + 2) = some (af, .inl (0, 10, .inl (fun k => nI (F k)))) ∧ h (r + 3) = some (ae, .inl (0, 10, .inl (fun k => nI (E k))))) ∧
  n ≤ 10 ∧ ∀ k, V k < 1000 ∧ F k < 1000 ∧ E k < 1000
def h_on (V F E : Nat → Nat) (d : Nat) : Nat → Nat
  | 0 => 0
  | k + 1 => if F k ≤ d then (if d < E k then V k else 0) else h_on V F E d k
def h_open (E : Nat → Nat) (n : Nat) : Bool := decide (0 < n) && decide (E (n - 1) = 721)
def h_last (F E : Nat → Nat) (n : Nat) : Int32 := if n = 0 then -1 else if E (n - 1) = 721 then nI (F (n - 1)) else nI (E (n - 1))
section ZHist
variable {Z : zZ} {h : zH} {r a n d : Nat} {V F E : Nat → Nat} {Q : zO → zH → Prop}
theorem c_X1_isFull (H : z_hist h r a n V F E) : z_J Z mX1_isFull (zR 0 0 0 0) 0 0 (z_eq (.inl (some (.int (zb (decide (10 ≤ n)))))) h) 0 [.ref a] [] h := by
  obtain ⟨⟨av, af, ae, h0, h1, h2, h3⟩, hn, hB⟩ := H
  refine iX1_isFull_0 rfl ?_
  refine iX1_isFull_1 h0 rfl ?_
  refine iX1_isFull_4 rfl ?_
  refine iX1_isFull_6 (fun c => ?_) (fun c => ?_)
  · refine iX1_isFull_13 rfl ?_
    exact iX1_isFull_14 rfl (Nat.zero_le _) (Nat.zero_le _) ⟨by have := n_lt c; rw [decide_eq_false (by omega)]; rfl, rfl⟩
  · refine iX1_isFull_9 rfl ?_
    exact iX1_isFull_14 rfl (Nat.zero_le _) (Nat.zero_le _) ⟨by have := n_nlt c; rw [decide_eq_true (by omega)]; rfl, rfl⟩
theorem c_X1_isOpen (H : z_hist h r a n V F E) : z_J Z mX1_isOpen (zR 0 0 0 0) 0 0 (z_eq (.inl (some (.int (zb (h_open E n))))) h) 0 [.ref a] [] h := by
  obtain ⟨⟨av, af, ae, h0, h1, h2, h3⟩, hn, hB⟩ := H
  refine iX1_isOpen_0 rfl ?_
  refine iX1_isOpen_1 h0 rfl ?_
  refine iX1_isOpen_4 (fun c => ?_) (fun c => ?_)
  · have hz : n = 0 := by
      rcases Nat.eq_zero_or_pos n with q | q
      · exact q
      · exact absurd c (nI_nle q (by omega))
    refine iX1_isOpen_28 rfl ?_
    exact iX1_isOpen_29 rfl (Nat.zero_le _) (Nat.zero_le _) ⟨by subst hz; rfl, rfl⟩
  · have hz : 0 < n := by
      rcases Nat.eq_zero_or_pos n with q | q
      · subst q; exact absurd (by decide) c
      · exact q
    have hE := hB (n - 1)
    refine iX1_isOpen_7 rfl ?_
    refine iX1_isOpen_8 h0 rfl ?_
    refine iX1_isOpen_11 rfl ?_
    refine iX1_isOpen_12 h0 rfl ?_
    refine iX1_isOpen_15 rfl ?_
    refine iX1_isOpen_17 h3 (n_m1 hz) (by omega) (by omega) ?_
    refine iX1_isOpen_18 rfl ?_
    refine iX1_isOpen_21 (fun c => ?_) (fun c => ?_)
    · refine iX1_isOpen_28 rfl ?_
      exact iX1_isOpen_29 rfl (Nat.zero_le _) (Nat.zero_le _) ⟨by have := n_ne c; unfold h_open; rw [decide_eq_false this, Bool.and_false]; rfl, rfl⟩
    · refine iX1_isOpen_24 rfl ?_
      exact iX1_isOpen_29 rfl (Nat.zero_le _) (Nat.zero_le _) ⟨by have := n_eq c; unfold h_open; rw [decide_eq_true this, decide_eq_true hz]; rfl, rfl⟩
theorem l_X1_versionOn (H : z_hist h r a n V F E) (hd : d < 1000) : ∀ (k : Nat) (i : Int32), i + nI 1 = nI k → k ≤ 10 → Q (.inl (some (.int (nI (h_on V F E d k))))) h → z_J Z mX1_versionOn (zR 0 0 0 0) 0 0 Q 7 [.ref a, .int (nI d), .int i] [] h := by
  obtain ⟨⟨av, af, ae, h0, h1, h2, h3⟩, hn, hB⟩ := H
  intro k
  induction k with
  | zero =>
    intro i hi _ hq
    rw [n_dec0 hi]
    refine iX1_versionOn_7 rfl ?_
    refine iX1_versionOn_8 (fun c8 => ?_) (fun c8 => absurd (by decide) c8)
    refine iX1_versionOn_48 rfl ?_
    exact iX1_versionOn_49 (Nat.zero_le _) (Nat.zero_le _) hq
  | succ k ih =>
    intro i hi hk hq
    have hi' := n_dec hi
    have hb := hB k
    refine iX1_versionOn_7 rfl ?_
    refine iX1_versionOn_8 (fun c8 => ?_) (fun c8 => ?_)
    · rw [hi'] at c8; exact (n_nneg c8).elim
    refine iX1_versionOn_11 rfl ?_
    refine iX1_versionOn_12 h0 rfl ?_
    refine iX1_versionOn_15 rfl ?_
    refine iX1_versionOn_16 h2 hi' (by omega) (by omega) ?_
    refine iX1_versionOn_17 rfl ?_
    refine iX1_versionOn_18 (fun c18 => ?_) (fun c18 => ?_)
    · have c := n_lt c18
      refine iX1_versionOn_42 rfl ?_
      refine ih _ ((n_m1p i).trans hi') (by omega) ?_
      have e : h_on V F E d (k + 1) = h_on V F E d k := by show (if _ then _ else _) = _; rw [if_neg (by omega)]
      rw [e] at hq
      exact hq
    · have c := n_nlt c18
      have e : h_on V F E d (k + 1) = if d < E k then V k else 0 := by show (if _ then _ else _) = _; rw [if_pos c]
      rw [e] at hq
      refine iX1_versionOn_21 rfl ?_
      refine iX1_versionOn_23 h0 rfl ?_
      refine iX1_versionOn_26 rfl ?_
      refine iX1_versionOn_27 h3 hi' (by omega) (by omega) ?_
      refine iX1_versionOn_28 (fun c28 => ?_) (fun c28 => ?_)
      · have c2 := n_le c28
        rw [if_neg (by omega)] at hq
        refine iX1_versionOn_40 rfl ?_
        exact iX1_versionOn_41 (Nat.zero_le _) (Nat.zero_le _) hq
      · have c2 := n_nle c28
        rw [if_pos (by omega)] at hq
        refine iX1_versionOn_31 rfl ?_
        refine iX1_versionOn_32 h0 rfl ?_
        refine iX1_versionOn_35 rfl ?_
        refine iX1_versionOn_36 h1 hi' (by omega) (by omega) ?_
        refine iX1_versionOn_37 rfl ?_
        exact iX1_versionOn_41 (Nat.zero_le _) (Nat.zero_le _) hq
theorem c_X1_versionOn (H : z_hist h r a n V F E) (hd : d < 1000) : z_J Z mX1_versionOn (zR 0 0 0 0) 0 0 (z_eq (.inl (some (.int (nI (h_on V F E d n))))) h) 0 [.ref a, .int (nI d)] [] h := by
  obtain ⟨av, af, ae, h0, -⟩ := H.1
  refine iX1_versionOn_0 rfl ?_
  refine iX1_versionOn_1 h0 rfl ?_
  refine iX1_versionOn_4 rfl ?_
  exact l_X1_versionOn H hd n _ (by show nI n - nI 1 + nI 1 = nI n; rw [Int32.sub_add_cancel]) H.2.1 ⟨rfl, rfl⟩
theorem c_X1_lastChange (H : z_hist h r a n V F E) : z_J Z mX1_lastChange (zR 1 20 0 0) 0 0 (z_eq (.inl (some (.int (h_last F E n)))) h) 0 [.ref a] [] h := by
  obtain ⟨⟨av, af, ae, h0, h1, h2, h3⟩, hn, hB⟩ := id H
  refine iX1_lastChange_0 rfl ?_
  refine iX1_lastChange_1 h0 rfl ?_
  refine iX1_lastChange_4 (fun c4 => ?_) (fun c4 => ?_)
  · have hz : 0 < n := Nat.pos_of_ne_zero (n_ne0 c4)
    have hb := hB (n - 1)
    refine iX1_lastChange_9 rfl ?_
    refine iX1_lastChange_10 (R' := zR 0 0 0 0) rfl rfl h0 (z_rmo rfl) (c_X1_isOpen H) (z_qr ?_) z_qx
    refine iX1_lastChange_13 (fun c => ?_) (fun c => ?_)
    · have c := zb_0 c
      simp only [h_open, decide_eq_true hz, Bool.true_and, decide_eq_false_iff_not] at c
      refine iX1_lastChange_30 rfl ?_
      refine iX1_lastChange_31 h0 rfl ?_
      refine iX1_lastChange_34 rfl ?_
      refine iX1_lastChange_35 h0 rfl ?_
      refine iX1_lastChange_38 rfl ?_
      refine iX1_lastChange_40 h3 (n_m1 hz) (by omega) (by omega) ?_
      exact iX1_lastChange_41 (Nat.zero_le _) (Nat.zero_le _) ⟨by unfold h_last; rw [if_neg (by omega), if_neg c], rfl⟩
    · have c := zb_n0 c
      simp only [h_open, decide_eq_true hz, Bool.true_and, decide_eq_true_eq] at c
      refine iX1_lastChange_16 rfl ?_
      refine iX1_lastChange_17 h0 rfl ?_
      refine iX1_lastChange_20 rfl ?_
      refine iX1_lastChange_21 h0 rfl ?_
      refine iX1_lastChange_24 rfl ?_
      refine iX1_lastChange_26 h2 (n_m1 hz) (by omega) (by omega) ?_
      refine iX1_lastChange_27 rfl ?_
      exact iX1_lastChange_41 (Nat.zero_le _) (Nat.zero_le _) ⟨by unfold h_last; rw [if_neg (by omega), if_pos c], rfl⟩
  · have hz := n_e0 (by simpa using c4)
    refine iX1_lastChange_7 rfl ?_
    exact iX1_lastChange_8 (Nat.zero_le _) (Nat.zero_le _) ⟨by unfold h_last; rw [if_pos hz], rfl⟩
theorem c_X1_begin {v : Nat} (H : z_hist h r a n V F E) (hn : n < 10) (hv : v < 1000) (hd : d < 1000) : z_J Z mX1_begin (zR 1 20 0 0) 0 0 (fun o h' => o = .inl none ∧ z_hist h' r a (n + 1) (nu V n v) (nu F n d) (nu E n 721) ∧ z_same r (r + 3) h h') 0 [.ref a, .int (nI v), .int (nI d)] [] h := by
  obtain ⟨⟨av, af, ae, h0, h1, h2, h3⟩, hn1, hB⟩ := id H
  refine iX1_begin_0 rfl ?_
  refine iX1_begin_1 (R' := zR 0 0 0 0) rfl rfl h0 (z_rmo rfl) (c_X1_isFull H) (z_qr ?_) z_qx
  refine iX1_begin_4 (fun c4 => ?_) (fun c4 => ?_)
  · refine iX1_begin_8 rfl ?_
    refine iX1_begin_9 h0 rfl ?_
    refine iX1_begin_12 rfl ?_
    refine iX1_begin_13 h0 rfl ?_
    refine iX1_begin_16 rfl ?_
    refine iX1_begin_17 h1 rfl hn (by omega) ?_
    rw [n_upd]
    generalize hg1 : z_u h (r + 1) (av, Sum.inl (0, 10, Sum.inl fun j => nI (nu V n v j))) = g1
    have k0 : g1 r = some (a, .inr (2, [.ref av, .ref af, .ref ae, .int (nI n)])) := by rw [← hg1, z_u_n (by omega)]; exact h0
    have k2 : g1 (r + 2) = some (af, .inl (0, 10, .inl (fun k => nI (F k)))) := by rw [← hg1, z_u_n (by omega)]; exact h2
    refine iX1_begin_18 rfl ?_
    refine iX1_begin_19 k0 rfl ?_
    refine iX1_begin_22 rfl ?_
    refine iX1_begin_23 k0 rfl ?_
    refine iX1_begin_26 rfl ?_
    refine iX1_begin_27 k2 rfl hn (by omega) ?_
    rw [n_upd]
    generalize hg2 : z_u g1 (r + 2) (af, Sum.inl (0, 10, Sum.inl fun j => nI (nu F n d j))) = g2
    have m0 : g2 r = some (a, .inr (2, [.ref av, .ref af, .ref ae, .int (nI n)])) := by rw [← hg2, z_u_n (by omega)]; exact k0
    have m3 : g2 (r + 3) = some (ae, .inl (0, 10, .inl (fun k => nI (E k)))) := by rw [← hg2, z_u_n (by omega), ← hg1, z_u_n (by omega)]; exact h3
    refine iX1_begin_28 rfl ?_
    refine iX1_begin_29 m0 rfl ?_
    refine iX1_begin_32 rfl ?_
    refine iX1_begin_33 m0 rfl ?_
    refine iX1_begin_36 rfl ?_
    refine iX1_begin_39 m3 rfl hn (by omega) ?_
    rw [n_upd E n 721]
    generalize hg3 : z_u g2 (r + 3) (ae, Sum.inl (0, 10, Sum.inl fun j => nI (nu E n 721 j))) = g3
    have q0 : g3 r = some (a, .inr (2, [.ref av, .ref af, .ref ae, .int (nI n)])) := by rw [← hg3, z_u_n (by omega)]; exact m0
    refine iX1_begin_40 rfl ?_
    refine iX1_begin_42 q0 rfl ?_
    refine iX1_begin_45 rfl ?_
    refine iX1_begin_47 q0 rfl ?_
    refine iX1_begin_50 (Nat.zero_le _) (Nat.zero_le _) ⟨rfl, ⟨⟨av, af, ae, ?_, ?_, ?_, ?_⟩, by omega, fun k => ?_⟩, ?_⟩
    · rw [z_u_s, ← nI_add]; rfl
    · rw [z_u_n (by omega), ← hg3, z_u_n (by omega), ← hg2, z_u_n (by omega), ← hg1, z_u_s]
    · rw [z_u_n (by omega), ← hg3, z_u_n (by omega), ← hg2, z_u_s]
    · rw [z_u_n (by omega), ← hg3, z_u_s]
    · have := hB k
      unfold nu
      refine ⟨?_, ?_, ?_⟩ <;> split <;> omega
    · rw [← hg3, ← hg2, ← hg1]
      exact (((z_same.rf.u (by omega) (by omega)).u (by omega) (by omega)).u (by omega) (by omega)).u (by omega) (by omega)
  · have := zb_n0 c4
    rw [decide_eq_true_eq] at this
    omega
theorem c_X1_end (H : z_hist h r a n V F E) (ho : h_open E n = true) (hd : d < 1000) : z_J Z mX1_end (zR 1 20 0 0) 0 0 (fun o h' => o = .inl (some (.int (nI (V (n - 1))))) ∧ z_hist h' r a n V F (nu E (n - 1) d) ∧ z_same r (r + 3) h h') 0 [.ref a, .int (nI d)] [] h := by
  obtain ⟨⟨av, af, ae, h0, h1, h2, h3⟩, hn1, hB⟩ := id H
  have hz : 0 < n := by
    unfold h_open at ho
    simp only [Bool.and_eq_true, decide_eq_true_eq] at ho
    exact ho.1
  have hb := hB (n - 1)
  refine iX1_end_0 rfl ?_
  refine iX1_end_1 (R' := zR 0 0 0 0) rfl rfl h0 (z_rmo rfl) (c_X1_isOpen H) (z_qr ?_) z_qx
  refine iX1_end_4 (fun c4 => ?_) (fun c4 => ?_)
  · refine iX1_end_9 rfl ?_
    refine iX1_end_10 h0 rfl ?_
    refine iX1_end_13 rfl ?_
    refine iX1_end_14 h0 rfl ?_
    refine iX1_end_17 rfl ?_
    refine iX1_end_20 h3 (n_m1 hz) (by omega) (by omega) ?_
    rw [n_upd]
    generalize hg1 : z_u h (r + 3) (ae, Sum.inl (0, 10, Sum.inl fun j => nI (nu E (n - 1) d j))) = g1
    have k0 : g1 r = some (a, .inr (2, [.ref av, .ref af, .ref ae, .int (nI n)])) := by rw [← hg1, z_u_n (by omega)]; exact h0
    have k1 : g1 (r + 1) = some (av, .inl (0, 10, .inl (fun k => nI (V k)))) := by rw [← hg1, z_u_n (by omega)]; exact h1
    refine iX1_end_21 rfl ?_
    refine iX1_end_22 k0 rfl ?_
    refine iX1_end_25 rfl ?_
    refine iX1_end_26 k0 rfl ?_
    refine iX1_end_29 rfl ?_
    refine iX1_end_31 k1 (n_m1 hz) (by omega) (by omega) ?_
    refine iX1_end_32 (Nat.zero_le _) (Nat.zero_le _) ⟨rfl, ⟨⟨av, af, ae, k0, k1, ?_, ?_⟩, hn1, fun k => ?_⟩, ?_⟩
    · rw [← hg1, z_u_n (by omega)]; exact h2
    · rw [← hg1, z_u_s]
    · have := hB k
      unfold nu
      refine ⟨by omega, by omega, ?_⟩
      split <;> omega
    · rw [← hg1]
      exact z_same.rf.u (by omega) (by omega)
  · rw [ho] at c4
    exact absurd c4 (by decide)
end ZHist
