/-! ===== p23's law: its numbers, its picture ===== -/
def l_low (y : Int32) (n : Nat) : Nat := y.toBitVec.toNat / 2 % n
theorem l_low_lt (y : Int32) {n : Nat} (h : 0 < n) : l_low y n < n := Nat.mod_lt _ h
theorem l_ush (y : Int32) : (y.toUInt32 >>> ((nI 1).toUInt32 &&& Int32.toUInt32 31)).toInt32 = nI (y.toBitVec.toNat / 2) := by
  have h := pk_ushr y (nI 1) 1 (by decide)
  have hlt : y.toBitVec.toNat < 2 ^ 32 := y.toBitVec.isLt
  apply Int32.toBitVec_inj.mp
  apply BitVec.eq_of_toNat_eq
  rw [h, pk_tn (by omega), Nat.pow_one]
/-- the arrays of the law: rights, spans, hosts, cores, cores of a unit, what was told, the counts -/
abbrev zLx : Type := (Nat → Nat) × (Nat → Nat) × (Nat → Option Nat) × (Nat → Nat) × (Nat → Nat) × (Nat → Nat) × (Nat → Nat)
/-- needs, demands, who can give -/
abbrev zLy : Type := (Nat → Nat) × (Nat → Nat) × (Nat → Nat)
abbrev x_R (x : zLx) : Nat → Nat := x.1
abbrev x_F (x : zLx) : Nat → Nat := x.2.1
abbrev x_H (x : zLx) : Nat → Option Nat := x.2.2.1
abbrev x_C (x : zLx) : Nat → Nat := x.2.2.2.1
abbrev x_U (x : zLx) : Nat → Nat := x.2.2.2.2.1
abbrev x_E (x : zLx) : Nat → Nat := x.2.2.2.2.2.1
abbrev x_G (x : zLx) : Nat → Nat := x.2.2.2.2.2.2
def z_lh (h : zH) (la : Nat → Nat) (x : zLx) (y : zLy) : Prop :=
  (h 700 = z_arr (la 700) 10 (x_R x) ∧ h 701 = z_arr (la 701) 10 (x_F x) ∧ h 702 = some (la 702, .inl (0, 4, .inl (fun j => n_o (x_H x j)))) ∧ h 703 = z_arr (la 703) 4 (x_C x) ∧ h 704 = z_arr (la 704) 5 (x_U x) ∧ h 705 = z_arr (la 705) 60 (x_E x)) ∧
  (h 706 = z_arr (la 706) 20 y.1 ∧ h 707 = z_arr (la 707) 20 y.2.1 ∧ h 708 = z_arr (la 708) 20 y.2.2) ∧ h 709 = z_arr (la 709) 5 (x_G x)
theorem z_lh.kept {h h' : zH} {la : Nat → Nat} {x : zLx} {y : zLy} (H : z_lh h la x y) (hk : ∀ r, 700 ≤ r → h' r = h r) : z_lh h' la x y := by
  obtain ⟨⟨a0, a1, a2, a3, a4, a5⟩, ⟨a6, a7, a8⟩, a9⟩ := H
  refine ⟨⟨?_, ?_, ?_, ?_, ?_, ?_⟩, ⟨?_, ?_, ?_⟩, ?_⟩
  all_goals rw [hk _ (by omega)]
  all_goals assumption
def z_lw (Z : zZ) (h : zH) (a1 : Nat) (la : Nat → Nat) (σ : zSt) (x : zLx) (y : zLy) : Prop := (∃ ad, ad 1 = a1 ∧ z_world Z h ad σ) ∧ z_lh h la x y
def l_cd (L : List Int32) (c : Nat) (v : Int32) : Int32 := if c = 0 then v else L.getD (c - 1) 0
def z_lr (Z : zZ) (a1 : Nat) (la : Nat → Nat) (L : List Int32) (c : Nat) (v : Int32) (σ : zSt) (x : zLx) (y : zLy) : zO → zH → Prop := fun o g => o = .inl (some (.int (l_cd L c v))) ∧ z_lw Z g a1 la σ x y
theorem z_o_inl {E : List String} {a : zAn} {v : Option Value} (h : (.inl v : zO) = z_o E a) : a.1 = 0 ∧ v = some (.int a.2.1) := by
  unfold z_o at h
  split at h
  · rename_i c; exact ⟨c, Sum.inl.inj h⟩
  · cases h
theorem z_o_inr {E : List String} {a : zAn} {e : String} (h : (.inr e : zO) = z_o E a) : a.1 ≠ 0 ∧ e = E.getD (a.1 - 1) "" := by
  unfold z_o at h
  split at h
  · cases h
  · rename_i c; exact ⟨c, Sum.inr.inj h⟩
section ZLow
variable {Z : zZ} {h : zH} {a1 : Nat} {la : Nat → Nat} {σ : zSt} {x : zLx} {y : zLy}
theorem z_lw.next {ad : Nat → Nat} {h' : zH} {σ' : zSt} (L : z_lh h la x y) (hs : z_same 1 599 h h') (H : ∃ ad', ad' 1 = ad 1 ∧ z_world Z h' ad' σ') : z_lw Z h' (ad 1) la σ' x y := ⟨H, L.kept (fun r hr => hs r (by omega))⟩
theorem z_lw.obj (W : z_lw Z h a1 la σ x y) : ∃ vs, h 1 = some (a1, .inr (6, vs)) := by
  obtain ⟨⟨ad, rfl, H⟩, -⟩ := W
  exact ⟨_, H.1.2.1⟩
theorem c_L_low {v : Int32} {m : Nat} (h0 : 0 < m) (hm : m < 2 ^ 31) : z_J Z mL_low (zR 0 0 0 0) 0 0 (z_eq (.inl (some (.int (nI (l_low v m))))) h) 0 [.int v, .int (nI m)] [] h := by
  have hlt : v.toBitVec.toNat < 2 ^ 32 := v.toBitVec.isLt
  refine iL_low_0 rfl ?_
  refine iL_low_2 ?_
  rw [l_ush]
  refine iL_low_3 rfl ?_
  refine iL_low_4 (fun q => by have := n_e0 q; omega) ?_
  rw [pk_rem (by omega) h0 hm]
  exact iL_low_5 (Nat.le_of_ble_eq_true rfl) (Nat.le_of_ble_eq_true rfl) ⟨rfl, rfl⟩
theorem c_L_cell {k : Nat} (hN : Z.2.1 < 2 ^ 31) (hk : k < 2 ^ 31) : z_J Z mL_cell (zR 0 0 0 0) 0 0 (fun o g => g = h ∧ ∃ v, o = .inl (some (.int v))) 0 [.ref Z.1, .int (nI k)] [] h := by
  refine iL_cell_0 rfl ?_
  refine iL_cell_2 ?_
  refine iL_cell_3 (fun cc => ?_) (fun cc => ?_)
  · refine iL_cell_12 ?_
    refine iL_cell_14 rfl ?_
    exact iL_cell_19 (Nat.le_of_ble_eq_true rfl) (Nat.le_of_ble_eq_true rfl) ⟨rfl, _, rfl⟩
  · have := n_nle cc
    refine iL_cell_6 rfl ?_
    refine iL_cell_8 rfl (by omega) hN ?_
    refine iL_cell_9 rfl ?_
    exact iL_cell_19 (Nat.le_of_ble_eq_true rfl) (Nat.le_of_ble_eq_true rfl) ⟨rfl, _, rfl⟩
theorem c_W_rights (W : z_lw Z h a1 la σ x y) : z_J Z mX5_rights (zR 1 20 0 0) 0 0 (z_lr Z a1 la [] 0 (nI (s_nR σ)) σ x y) 0 [.ref a1] [] h := by
  obtain ⟨⟨ad, rfl, H⟩, L⟩ := W
  exact (c_X5_rights H).mono (fun o g w => ⟨w.1, z_lw.next L w.2.1 w.2.2⟩)
theorem c_W_machines (W : z_lw Z h a1 la σ x y) : z_J Z mX5_machines (zR 1 20 0 0) 0 0 (z_lr Z a1 la [] 0 (nI (s_nM σ)) σ x y) 0 [.ref a1] [] h := by
  obtain ⟨⟨ad, rfl, H⟩, L⟩ := W
  exact (c_X5_machines H).mono (fun o g w => ⟨w.1, z_lw.next L w.2.1 w.2.2⟩)
theorem c_W_needs {d v : Int32} (W : z_lw Z h a1 la σ x y) (e : f_needs σ d = (0, v, σ)) : z_J Z mX5_needs (zR 8 124 1 6) 0 0 (z_lr Z a1 la [] 0 v σ x y) 0 [.ref a1, .int d] [] h := by
  obtain ⟨⟨ad, rfl, H⟩, L⟩ := W
  have hc := c_X5_needs (d := d) H
  rw [e] at hc
  exact hc.mono (fun o g w => ⟨w.1, z_lw.next L w.2.1 w.2.2⟩)
theorem c_W_demand {d k v : Int32} (W : z_lw Z h a1 la σ x y) (e : f_demand σ d k = (0, v, σ)) : z_J Z mX5_demand (zR 8 124 2 12) 0 0 (z_lr Z a1 la [] 0 v σ x y) 0 [.ref a1, .int d, .int k] [] h := by
  obtain ⟨⟨ad, rfl, H⟩, L⟩ := W
  have hc := c_X5_demand (d := d) (k := k) H
  rw [e] at hc
  exact hc.mono (fun o g w => ⟨w.1, z_lw.next L w.2.1 w.2.2⟩)
end ZLow
section ZRows2
variable {M : zM} {Z : zZ} {R : Room} {k n : Nat} {Q : zO → zH → Prop} {pc nx : Nat} {ls st : List Value} {h : zH}
theorem z_lgap {lsA : Array Slot} {n i : Nat} {x : Value} {ls : List Value} (hc : ∀ v ∈ ls, v.category = 1) (hi : ls.length ≤ i)
    (h : lv_has lsA n ((i, x) :: (z_lp 0 ls).filter (fun q => !(q.1 == i) && !(q.1 + 1 == i && q.2.category == 2)))) : z_L lsA n ls := by
  refine ⟨⟨h.1, h.2.1, fun q hq => ?_⟩, hc⟩
  obtain ⟨k, h1, h2⟩ := z_lp_mem.mp hq
  refine h.2.2 q (List.mem_cons_of_mem _ (List.mem_filter.mpr ⟨hq, ?_⟩))
  have h5 := hc q.2 (List.mem_of_getElem? h1)
  have h6 := (List.getElem?_eq_some_iff.mp h1).1
  simp [h5]
  omega
/-- a store behind all that is known of the locals -/
theorem z_astX {kk x : Nat} (hd : decode M.2.1 pc = .ok (.astore kk, 2)) (hn : pc + 2 = nx) (hk : kk < M.2.2.1) (hl : ls.length ≤ kk) (g : z_J Z M R k n Q nx ls st h) : z_J Z M R k n Q pc ls (.ref x :: st) h := by
  intro D cA p l e s m args below meth c A H locs ws lsA X O L
  obtain ⟨hx, hb, -⟩ := id X
  subst hn
  exact lv_astore hx hb hd L.1 hk rfl (fun lsB hlB => g D cA p l e s m args below meth c A H locs ws lsB X O (z_lgap L.2 hl hlB))
theorem z_astXn {kk : Fin 4} {x : Nat} (hd : decode M.2.1 pc = .ok (.astore_n kk, 1)) (hn : pc + 1 = nx) (hk : kk.val < M.2.2.1) (hl : ls.length ≤ kk.val) (g : z_J Z M R k n Q nx ls st h) : z_J Z M R k n Q pc ls (.ref x :: st) h := by
  intro D cA p l e s m args below meth c A H locs ws lsA X O L
  obtain ⟨hx, hb, -⟩ := id X
  subst hn
  exact lv_astore_n hx hb hd rfl L.1 hk rfl (fun lsB hlB => g D cA p l e s m args below meth c A H locs ws lsB X O (z_lgap L.2 hl hlB))
end ZRows2
