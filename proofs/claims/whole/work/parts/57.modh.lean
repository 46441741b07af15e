/-! ===== the model: RightsCounterModel() ===== -/
def am_l (l : List Nat) : Nat → Nat := fun x => l.getD (x - 600) 0
theorem z_newb (r : Nat) {M : zM} {Z : zZ} {R : Room} {k n : Nat} {Q : zO → zH → Prop} {pc nx : Nat} {ls st : List Value} {h : zH} {N : Nat} {i : Int32} (hd : decode M.2.1 pc = .ok (.newarray .int, 2)) (hn : pc + 2 = nx) (hi : i = nI N) (hN : N < 100000) (hR : k + 1 ≤ R.cells ∧ n + N ≤ R.slots)
    (g : ∀ q, z_J Z M R (k + 1) (n + N) Q nx ls (.ref q :: st) (z_u h r (q, .inl (0, N, .inl (fun _ => 0))))) : z_J Z M R k n Q pc ls (.int i :: st) h := by
  intro D cA p l e s m args below meth c A H locs ws lsA X O L
  obtain ⟨hx, hb, hr, hml, hown, hts, hlocks, htab, hnm, htr, hK, hA, hZ⟩ := id X
  obtain ⟨hC, hP, hD, hS⟩ := id O
  subst hn
  subst hi
  have hcl : (nI N).toNatClampNeg = N := nI_clamp (by omega)
  refine va_newa (D := D) (cl := vwCl) (atype := .int) (a0 := (N, .inl (fun _ => 0))) hx hb (hts _ gw122) rfl hK hP hD hS hA (fun _ => rfl) (nI_pos (by omega)) hcl (by show N * 4 ≤ 536870912; omega) hR.1 hR.2 hd (fun q c9 H1 hK1 hP1 hD1 hS1 => ?_)
  have e1 := (hK1.2 6 (c9, .int) rfl).2
  have e2 := (hK.2 0 _ (show (z_tys cA)[0]? = some (cA 0, .int) from rfl)).2
  have e3 : c9 = cA 0 := Option.some.inj (e1.symm.trans e2)
  subst e3
  exact g q D cA p l e s m args below meth c A H1 locs _ lsA X ⟨z_C_push (.inl (0, N, .inl (fun _ => 0))) hC hD1, hP1, hD1, hS1⟩ L
theorem cu_1 : upd (upd (upd (upd (upd (fun _ => 0) 0 (nI 1)) 1 (nI 1)) 2 (nI 1)) 3 (nI 1)) 4 (nI 1) = fun j => nI (n_fill z_zero 1 5 j) := by
  funext j
  unfold upd n_fill z_zero
  by_cases h : j < 5
  · rw [if_pos h]
    rcases (show j = 0 ∨ j = 1 ∨ j = 2 ∨ j = 3 ∨ j = 4 by omega) with rfl | rfl | rfl | rfl | rfl <;> rfl
  · rw [if_neg h, if_neg (by omega), if_neg (by omega), if_neg (by omega), if_neg (by omega), if_neg (by omega)]
    rfl
section ZModH
variable {Z : zZ} {h : zH} {a : Nat} {Q : zO → zH → Prop}
def zk (a : Nat) (h g : zH) (fs : List Value) (m : Nat) (A : Nat → Nat × zE) : Prop := g 600 = some (a, .inr (7, fs)) ∧ (∀ x, 601 ≤ x → x < m → g x = some (A x)) ∧ ∀ x, (x < 600 ∨ 619 < x) → g x = h x
theorem zk_step {M : zM} {R : Room} {k n : Nat} {pc : Nat} {ls st : List Value} {g : zH} {fs fs' : List Value} {m q : Nat} {e : zE} {A : Nat → Nat × zE} (K0 : zk a h g fs m A) (hm : 601 ≤ m) (hm2 : m ≤ 619) (G : ∀ g1, zk a h g1 fs' (m + 1) (fun x => if x = m then (q, e) else A x) → z_J Z M R k n Q pc ls st g1) : z_J Z M R k n Q pc ls st (z_u (z_u g m (q, e)) 600 (a, .inr (7, fs'))) := by
  refine G _ ⟨z_u_s, fun x h1 h2 => ?_, fun x hx => ?_⟩
  · rw [z_u_n (by omega)]
    show _ = some (if x = m then (q, e) else A x)
    by_cases c : x = m
    · subst c; rw [z_u_s, if_pos rfl]
    · rw [z_u_n c, if_neg c]; exact K0.2.1 x h1 (by omega)
  · rw [z_u_n (by omega), z_u_n (by omega)]; exact K0.2.2 x hx
theorem z_mi_0 : z_mi s_0 (fun _ => 0) (z_zero, z_zero, z_zero) := by
  refine ⟨s_0_ok, fun j hj => absurd hj (Nat.not_lt_zero j), fun j hj => rfl, fun q hq => rfl, fun q hq => ⟨Nat.zero_le _, rfl, fun i hi => absurd hi (Nat.not_lt_zero i)⟩, fun k => ⟨?_, ?_⟩⟩
  · show z_zero k < 1000; unfold z_zero; omega
  · show z_zero k < 1000; unfold z_zero; omega

theorem l_X6_init1 {g0 : zH} {A : Nat → Nat × zE} (K0 : zk a h g0 [.int 0, .int 0, .null, .null, .null, .null, .null, .int 0, .null, .null, .null, .null, .null, .null, .null, .null, .int 0, .null, .null, .null, .null, .null, .null] 601 A) (G : ∀ (q601 q602 q603 q604 : Nat) (g : zH), zk a h g [.int 0, .int 0, .ref q601, .ref q602, .ref q603, .ref q604, .null, .int 0, .null, .null, .null, .null, .null, .null, .null, .null, .int 0, .null, .null, .null, .null, .null, .null] 605 (fun x => if x = 604 then (q604, .inl (0, 10, .inl (fun _ => 0))) else (fun x => if x = 603 then (q603, .inl (0, 10, .inl (fun _ => 0))) else (fun x => if x = 602 then (q602, .inl (0, 10, .inl (fun _ => 0))) else (fun x => if x = 601 then (q601, .inl (0, 10, .inl (fun _ => 0))) else A x) x) x) x) → z_J Z mX6_init (zR 1 16 19 2983) 4 40 Q 36 [.ref a] [] g) : z_J Z mX6_init (zR 1 16 19 2983) 0 0 Q 4 [.ref a] [] g0 := by
  refine iX6_init_4 rfl ?_
  refine iX6_init_7 601 rfl (by decide) ⟨Nat.le_of_ble_eq_true rfl, Nat.le_of_ble_eq_true rfl⟩ (fun q601 => ?_)
  refine iX6_init_9 ((z_u_n (by omega)).trans K0.1) rfl ?_
  refine zk_step K0 (by omega) (by omega) (fun g1 K1 => ?_)
  refine iX6_init_12 rfl ?_
  refine iX6_init_15 602 rfl (by decide) ⟨Nat.le_of_ble_eq_true rfl, Nat.le_of_ble_eq_true rfl⟩ (fun q602 => ?_)
  refine iX6_init_17 ((z_u_n (by omega)).trans K1.1) rfl ?_
  refine zk_step K1 (by omega) (by omega) (fun g2 K2 => ?_)
  refine iX6_init_20 rfl ?_
  refine iX6_init_23 603 rfl (by decide) ⟨Nat.le_of_ble_eq_true rfl, Nat.le_of_ble_eq_true rfl⟩ (fun q603 => ?_)
  refine iX6_init_25 ((z_u_n (by omega)).trans K2.1) rfl ?_
  refine zk_step K2 (by omega) (by omega) (fun g3 K3 => ?_)
  refine iX6_init_28 rfl ?_
  refine iX6_init_31 604 rfl (by decide) ⟨Nat.le_of_ble_eq_true rfl, Nat.le_of_ble_eq_true rfl⟩ (fun q604 => ?_)
  refine iX6_init_33 ((z_u_n (by omega)).trans K3.1) rfl ?_
  refine zk_step K3 (by omega) (by omega) (fun g4 K4 => ?_)
  exact G q601 q602 q603 q604 g4 K4
theorem l_X6_init2 {q601 q602 q603 q604 : Nat} {g0 : zH} {A : Nat → Nat × zE} (K0 : zk a h g0 [.int 0, .int 0, .ref q601, .ref q602, .ref q603, .ref q604, .null, .int 0, .null, .null, .null, .null, .null, .null, .null, .null, .int 0, .null, .null, .null, .null, .null, .null] 605 A) (G : ∀ (q605 q606 q607 q608 : Nat) (g : zH), zk a h g [.int 0, .int 0, .ref q601, .ref q602, .ref q603, .ref q604, .ref q605, .int 0, .ref q606, .ref q607, .ref q608, .null, .null, .null, .null, .null, .int 0, .null, .null, .null, .null, .null, .null] 609 (fun x => if x = 608 then (q608, .inl (1, 8, .inl (fun _ => 0))) else (fun x => if x = 607 then (q607, .inl (0, 8, .inl (fun _ => 0))) else (fun x => if x = 606 then (q606, .inl (0, 8, .inl (fun _ => 0))) else (fun x => if x = 605 then (q605, .inl (0, 10, .inl (fun _ => 0))) else A x) x) x) x) → z_J Z mX6_init (zR 1 16 19 2983) 8 74 Q 68 [.ref a] [] g) : z_J Z mX6_init (zR 1 16 19 2983) 4 40 Q 36 [.ref a] [] g0 := by
  refine iX6_init_36 rfl ?_
  refine iX6_init_39 605 rfl (by decide) ⟨Nat.le_of_ble_eq_true rfl, Nat.le_of_ble_eq_true rfl⟩ (fun q605 => ?_)
  refine iX6_init_41 ((z_u_n (by omega)).trans K0.1) rfl ?_
  refine zk_step K0 (by omega) (by omega) (fun g1 K1 => ?_)
  refine iX6_init_44 rfl ?_
  refine iX6_init_47 606 rfl (by decide) ⟨Nat.le_of_ble_eq_true rfl, Nat.le_of_ble_eq_true rfl⟩ (fun q606 => ?_)
  refine iX6_init_49 ((z_u_n (by omega)).trans K1.1) rfl ?_
  refine zk_step K1 (by omega) (by omega) (fun g2 K2 => ?_)
  refine iX6_init_52 rfl ?_
  refine iX6_init_55 607 rfl (by decide) ⟨Nat.le_of_ble_eq_true rfl, Nat.le_of_ble_eq_true rfl⟩ (fun q607 => ?_)
  refine iX6_init_57 ((z_u_n (by omega)).trans K2.1) rfl ?_
  refine zk_step K2 (by omega) (by omega) (fun g3 K3 => ?_)
  refine iX6_init_60 rfl ?_
  refine iX6_init_63 608 rfl (by decide) ⟨Nat.le_of_ble_eq_true rfl, Nat.le_of_ble_eq_true rfl⟩ (fun q608 => ?_)
  refine iX6_init_65 ((z_u_n (by omega)).trans K3.1) rfl ?_
  refine zk_step K3 (by omega) (by omega) (fun g4 K4 => ?_)
  exact G q605 q606 q607 q608 g4 K4
theorem l_X6_init3 {q601 q602 q603 q604 q605 q606 q607 q608 : Nat} {g0 : zH} {A : Nat → Nat × zE} (K0 : zk a h g0 [.int 0, .int 0, .ref q601, .ref q602, .ref q603, .ref q604, .ref q605, .int 0, .ref q606, .ref q607, .ref q608, .null, .null, .null, .null, .null, .int 0, .null, .null, .null, .null, .null, .null] 609 A) (G : ∀ (q609 q610 : Nat) (g : zH), zk a h g [.int 0, .int 0, .ref q601, .ref q602, .ref q603, .ref q604, .ref q605, .int 0, .ref q606, .ref q607, .ref q608, .ref q609, .ref q610, .null, .null, .null, .int 0, .null, .null, .null, .null, .null, .null] 611 (fun x => if x = 610 then (q610, .inl (0, 40, .inl (fun _ => 0))) else (fun x => if x = 609 then (q609, .inl (0, 5, .inl (fun j => nI (n_fill z_zero 1 5 j)))) else A x) x) → z_J Z mX6_init (zR 1 16 19 2983) 10 119 Q 103 [.ref a] [] g) : z_J Z mX6_init (zR 1 16 19 2983) 8 74 Q 68 [.ref a] [] g0 := by
  refine iX6_init_68 rfl ?_
  refine iX6_init_70 609 rfl (by decide) ⟨Nat.le_of_ble_eq_true rfl, Nat.le_of_ble_eq_true rfl⟩ (fun q609 => ?_)
  refine iX6_init_72 rfl ?_
  refine iX6_init_75 (j := 0) (N := 5) z_u_s rfl (by omega) (by omega) ?_
  rw [z_u_u]
  refine iX6_init_76 rfl ?_
  refine iX6_init_79 (j := 1) (N := 5) z_u_s rfl (by omega) (by omega) ?_
  rw [z_u_u]
  refine iX6_init_80 rfl ?_
  refine iX6_init_83 (j := 2) (N := 5) z_u_s rfl (by omega) (by omega) ?_
  rw [z_u_u]
  refine iX6_init_84 rfl ?_
  refine iX6_init_87 (j := 3) (N := 5) z_u_s rfl (by omega) (by omega) ?_
  rw [z_u_u]
  refine iX6_init_88 rfl ?_
  refine iX6_init_91 (j := 4) (N := 5) z_u_s rfl (by omega) (by omega) ?_
  rw [z_u_u]
  show z_J Z mX6_init _ _ _ _ 92 _ _ (z_u _ 609 (q609, .inl (0, 5, .inl (upd (upd (upd (upd (upd (fun _ => 0) 0 (nI 1)) 1 (nI 1)) 2 (nI 1)) 3 (nI 1)) 4 (nI 1)))))
  rw [cu_1]
  refine iX6_init_92 ((z_u_n (by omega)).trans K0.1) rfl ?_
  refine zk_step K0 (by omega) (by omega) (fun g1 K1 => ?_)
  refine iX6_init_95 rfl ?_
  refine iX6_init_98 610 rfl (by decide) ⟨Nat.le_of_ble_eq_true rfl, Nat.le_of_ble_eq_true rfl⟩ (fun q610 => ?_)
  refine iX6_init_100 ((z_u_n (by omega)).trans K1.1) rfl ?_
  refine zk_step K1 (by omega) (by omega) (fun g2 K2 => ?_)
  exact G q609 q610 g2 K2
theorem l_X6_init4 {q601 q602 q603 q604 q605 q606 q607 q608 q609 q610 : Nat} {g0 : zH} {A : Nat → Nat × zE} (K0 : zk a h g0 [.int 0, .int 0, .ref q601, .ref q602, .ref q603, .ref q604, .ref q605, .int 0, .ref q606, .ref q607, .ref q608, .ref q609, .ref q610, .null, .null, .null, .int 0, .null, .null, .null, .null, .null, .null] 611 A) (G : ∀ (q611 q612 q613 : Nat) (g : zH), zk a h g [.int 0, .int 0, .ref q601, .ref q602, .ref q603, .ref q604, .ref q605, .int 0, .ref q606, .ref q607, .ref q608, .ref q609, .ref q610, .ref q611, .ref q612, .ref q613, .int 0, .null, .null, .null, .null, .null, .null] 614 (fun x => if x = 613 then (q613, .inl (0, 800, .inl (fun _ => 0))) else (fun x => if x = 612 then (q612, .inl (0, 800, .inl (fun _ => 0))) else (fun x => if x = 611 then (q611, .inl (0, 40, .inl (fun _ => 0))) else A x) x) x) → z_J Z mX6_init (zR 1 16 19 2983) 13 1759 Q 129 [.ref a] [] g) : z_J Z mX6_init (zR 1 16 19 2983) 10 119 Q 103 [.ref a] [] g0 := by
  refine iX6_init_103 rfl ?_
  refine iX6_init_106 611 rfl (by decide) ⟨Nat.le_of_ble_eq_true rfl, Nat.le_of_ble_eq_true rfl⟩ (fun q611 => ?_)
  refine iX6_init_108 ((z_u_n (by omega)).trans K0.1) rfl ?_
  refine zk_step K0 (by omega) (by omega) (fun g1 K1 => ?_)
  refine iX6_init_111 rfl ?_
  refine iX6_init_115 612 rfl (by decide) ⟨Nat.le_of_ble_eq_true rfl, Nat.le_of_ble_eq_true rfl⟩ (fun q612 => ?_)
  refine iX6_init_117 ((z_u_n (by omega)).trans K1.1) rfl ?_
  refine zk_step K1 (by omega) (by omega) (fun g2 K2 => ?_)
  refine iX6_init_120 rfl ?_
  refine iX6_init_124 613 rfl (by decide) ⟨Nat.le_of_ble_eq_true rfl, Nat.le_of_ble_eq_true rfl⟩ (fun q613 => ?_)
  refine iX6_init_126 ((z_u_n (by omega)).trans K2.1) rfl ?_
  refine zk_step K2 (by omega) (by omega) (fun g3 K3 => ?_)
  exact G q611 q612 q613 g3 K3
theorem l_X6_init5 {q601 q602 q603 q604 q605 q606 q607 q608 q609 q610 q611 q612 q613 : Nat} {g0 : zH} {A : Nat → Nat × zE} (K0 : zk a h g0 [.int 0, .int 0, .ref q601, .ref q602, .ref q603, .ref q604, .ref q605, .int 0, .ref q606, .ref q607, .ref q608, .ref q609, .ref q610, .ref q611, .ref q612, .ref q613, .int 0, .null, .null, .null, .null, .null, .null] 614 A) (G : ∀ (q614 q615 q616 : Nat) (g : zH), zk a h g [.int 0, .int 0, .ref q601, .ref q602, .ref q603, .ref q604, .ref q605, .int 0, .ref q606, .ref q607, .ref q608, .ref q609, .ref q610, .ref q611, .ref q612, .ref q613, .int 0, .ref q614, .ref q615, .ref q616, .null, .null, .null] 617 (fun x => if x = 616 then (q616, .inl (0, 40, .inl (fun _ => 0))) else (fun x => if x = 615 then (q615, .inl (0, 40, .inl (fun _ => 0))) else (fun x => if x = 614 then (q614, .inl (0, 40, .inl (fun _ => 0))) else A x) x) x) → z_J Z mX6_init (zR 1 16 19 2983) 16 1879 Q 153 [.ref a] [] g) : z_J Z mX6_init (zR 1 16 19 2983) 13 1759 Q 129 [.ref a] [] g0 := by
  refine iX6_init_129 rfl ?_
  refine iX6_init_132 614 rfl (by decide) ⟨Nat.le_of_ble_eq_true rfl, Nat.le_of_ble_eq_true rfl⟩ (fun q614 => ?_)
  refine iX6_init_134 ((z_u_n (by omega)).trans K0.1) rfl ?_
  refine zk_step K0 (by omega) (by omega) (fun g1 K1 => ?_)
  refine iX6_init_137 rfl ?_
  refine iX6_init_140 615 rfl (by decide) ⟨Nat.le_of_ble_eq_true rfl, Nat.le_of_ble_eq_true rfl⟩ (fun q615 => ?_)
  refine iX6_init_142 ((z_u_n (by omega)).trans K1.1) rfl ?_
  refine zk_step K1 (by omega) (by omega) (fun g2 K2 => ?_)
  refine iX6_init_145 rfl ?_
  refine iX6_init_148 616 rfl (by decide) ⟨Nat.le_of_ble_eq_true rfl, Nat.le_of_ble_eq_true rfl⟩ (fun q616 => ?_)
  refine iX6_init_150 ((z_u_n (by omega)).trans K2.1) rfl ?_
  refine zk_step K2 (by omega) (by omega) (fun g3 K3 => ?_)
  exact G q614 q615 q616 g3 K3
theorem l_X6_init6 {q601 q602 q603 q604 q605 q606 q607 q608 q609 q610 q611 q612 q613 q614 q615 q616 : Nat} {g0 : zH} {A : Nat → Nat × zE} (K0 : zk a h g0 [.int 0, .int 0, .ref q601, .ref q602, .ref q603, .ref q604, .ref q605, .int 0, .ref q606, .ref q607, .ref q608, .ref q609, .ref q610, .ref q611, .ref q612, .ref q613, .int 0, .ref q614, .ref q615, .ref q616, .null, .null, .null] 617 A) (G : ∀ (q617 q618 q619 : Nat) (g : zH), zk a h g [.int 0, .int 0, .ref q601, .ref q602, .ref q603, .ref q604, .ref q605, .int 0, .ref q606, .ref q607, .ref q608, .ref q609, .ref q610, .ref q611, .ref q612, .ref q613, .int 0, .ref q614, .ref q615, .ref q616, .ref q617, .ref q618, .ref q619] 620 (fun x => if x = 619 then (q619, .inl (0, 1024, .inl (fun _ => 0))) else (fun x => if x = 618 then (q618, .inl (0, 40, .inl (fun _ => 0))) else (fun x => if x = 617 then (q617, .inl (0, 40, .inl (fun _ => 0))) else A x) x) x) → z_J Z mX6_init (zR 1 16 19 2983) 19 2983 Q 178 [.ref a] [] g) : z_J Z mX6_init (zR 1 16 19 2983) 16 1879 Q 153 [.ref a] [] g0 := by
  refine iX6_init_153 rfl ?_
  refine iX6_init_156 617 rfl (by decide) ⟨Nat.le_of_ble_eq_true rfl, Nat.le_of_ble_eq_true rfl⟩ (fun q617 => ?_)
  refine iX6_init_158 ((z_u_n (by omega)).trans K0.1) rfl ?_
  refine zk_step K0 (by omega) (by omega) (fun g1 K1 => ?_)
  refine iX6_init_161 rfl ?_
  refine iX6_init_164 618 rfl (by decide) ⟨Nat.le_of_ble_eq_true rfl, Nat.le_of_ble_eq_true rfl⟩ (fun q618 => ?_)
  refine iX6_init_166 ((z_u_n (by omega)).trans K1.1) rfl ?_
  refine zk_step K1 (by omega) (by omega) (fun g2 K2 => ?_)
  refine iX6_init_169 rfl ?_
  refine z_newb 619 dX6_init_173 rfl rfl (by decide) ⟨Nat.le_of_ble_eq_true rfl, Nat.le_of_ble_eq_true rfl⟩ (fun q619 => ?_)
  refine iX6_init_175 ((z_u_n (by omega)).trans K2.1) rfl ?_
  refine zk_step K2 (by omega) (by omega) (fun g3 K3 => ?_)
  exact G q617 q618 q619 g3 K3
theorem c_X6_init (H : h 600 = some (a, .inr (7, [.int 0, .int 0, .null, .null, .null, .null, .null, .int 0, .null, .null, .null, .null, .null, .null, .null, .null, .int 0, .null, .null, .null, .null, .null, .null]))) : z_J Z mX6_init (zR 1 16 19 2983) 0 0 (fun o h' => o = .inl none ∧ z_same 600 619 h h' ∧ ∃ am : Nat → Nat, am 600 = a ∧ z_mod h' am 0 s_0) 0 [.ref a] [] h := by
  have K0 : zk a h h _ 601 (fun _ => (0, .inl (0, 0, .inl (fun _ => 0)))) := ⟨H, fun x h1 h2 => by omega, fun _ _ => rfl⟩
  refine iX6_init_0 rfl ?_
  refine iX6_init_1 (Nat.le_of_ble_eq_true rfl) (Nat.le_of_ble_eq_true rfl) ?_
  refine l_X6_init1 K0 (fun q601 q602 q603 q604 g1 K1 => ?_)
  refine l_X6_init2 K1 (fun q605 q606 q607 q608 g2 K2 => ?_)
  refine l_X6_init3 K2 (fun q609 q610 g3 K3 => ?_)
  refine l_X6_init4 K3 (fun q611 q612 q613 g4 K4 => ?_)
  refine l_X6_init5 K4 (fun q614 q615 q616 g5 K5 => ?_)
  refine l_X6_init6 K5 (fun q617 q618 q619 g6 K6 => ?_)
  refine iX6_init_178 (Nat.le_of_ble_eq_true rfl) (Nat.le_of_ble_eq_true rfl) ⟨rfl, fun x hx => K6.2.2 x (by omega), am_l [a, q601, q602, q603, q604, q605, q606, q607, q608, q609, q610, q611, q612, q613, q614, q615, q616, q617, q618, q619], rfl, fun _ => 0, (z_zero, z_zero, z_zero), (0, z_zero, z_zero, z_zero, z_zero, z_zero, z_zero), ⟨K6.1, ⟨K6.2.1 601 (by omega) (by omega), K6.2.1 602 (by omega) (by omega), K6.2.1 603 (by omega) (by omega), K6.2.1 604 (by omega) (by omega), K6.2.1 605 (by omega) (by omega)⟩, ⟨K6.2.1 606 (by omega) (by omega), K6.2.1 607 (by omega) (by omega), K6.2.1 608 (by omega) (by omega), K6.2.1 609 (by omega) (by omega)⟩, ⟨K6.2.1 610 (by omega) (by omega), K6.2.1 611 (by omega) (by omega), K6.2.1 612 (by omega) (by omega), K6.2.1 613 (by omega) (by omega)⟩, ⟨K6.2.1 614 (by omega) (by omega), K6.2.1 615 (by omega) (by omega), K6.2.1 616 (by omega) (by omega), K6.2.1 617 (by omega) (by omega), K6.2.1 618 (by omega) (by omega)⟩, K6.2.1 619 (by omega) (by omega)⟩, z_mi_0, Nat.zero_le _⟩
end ZModH
